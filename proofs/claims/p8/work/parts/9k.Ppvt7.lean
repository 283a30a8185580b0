/-! The model: compose, normal. (Written by wip/p2/py/pvt7.py.) -/
section EzMn
variable {d : Nat} {h : cz_H} {τ : Nat → Nat} {Q : cz_F → Prop} {l : List Int} {L : List (Int × Int)} {F : rz_W} {E : Int → Prop}
theorem rd_mcomp {a z : Int} (e : eD τ h F) (p : pQ h F E) (ar : ez_rg a) (zr : ez_rg z) (k : ∀ v, cpR F E a z v → Q (.inl (some (ez_v (.inl v))), h)) : ez_W (d + 2) cm_240 0 [(0, .inr (.inr (some (770)))), (1, .inl (a)), (2, .inl (z))] [] h Q := by
  have hB := e.1
  have t770 := e.2.1
  have pkd : pkn h = qz_I h 770 28 := rfl
  have hp1 := p.1
  obtain ⟨ar0, ar1⟩ := id ar
  obtain ⟨zr0, zr1⟩ := id zr
  refine ez_go (n := 3) (pc' := 3) (L' := [(0, .inr (.inr (some (770)))), (1, .inl (a)), (2, .inl (z))]) (st' := [.inl (z), .inl (a), .inr (.inr (some (770)))]) rfl ?_
  refine ez_cv hB t770 rfl rfl rfl tq_75 rfl rfl rfl (rd_hangulPair hB t770 ar zr (fun hh => ez_K1 ?_) (fun hh => ez_K1 ?_))
  · skip
    have hh2 := hh; unfold hz_pair hz at hh2
    refine ez_if rfl rfl ⟨by decide, by decide⟩ (fun (c1 : (1 : Int) = (0)) => absurd c1 (by decide)) (fun _ => ?_)
    refine ez_go (n := 2) (pc' := 11) (L' := [(0, .inr (.inr (some (770)))), (1, .inl (a)), (2, .inl (z))]) (st' := [.inl (a), .inr (.inr (some (770)))]) rfl ?_
    refine ez_cv hB t770 rfl rfl rfl tq_75 rfl rfl rfl (rd_hangul ar (fun h3 => ez_K1 ?_) (fun h3 => ez_K1 ?_))
    · skip
      unfold hz at h3
      refine ez_if rfl rfl ⟨by decide, by decide⟩ (fun (c2 : (1 : Int) = (0)) => absurd c2 (by decide)) (fun _ => ?_)
      refine ez_go (n := 6) (pc' := 48) (L' := [(0, .inr (.inr (some (770)))), (1, .inl (a)), (2, .inl (z))]) (st' := [.inl (((a) + (z)) - (4519))]) rfl ?_
      have ev : ((a) + (z)) - (4519) = hzv a z := by unfold hzv; split <;> omega
      rw [ev]
      exact ez_retI rfl rfl (k _ (Or.inl ⟨hh, rfl⟩))
    · skip
      unfold hz at h3
      refine ez_if rfl rfl ⟨by decide, by decide⟩ (fun _ => ?_) (fun (c3 : ¬((0 : Int) = (0))) => absurd c3 (by decide))
      refine ez_ldcV (44032) rfl rfl rfl ?_
      refine ez_go (n := 12) (pc' := 48) (L' := [(0, .inr (.inr (some (770)))), (1, .inl (a)), (2, .inl (z))]) (st' := [.inl ((44032) + ((((((a) - (4352)) * (21)) + (z)) - (4449)) * (28)))]) rfl ?_
      have ev : (44032) + ((((((a) - (4352)) * (21)) + (z)) - (4449)) * (28)) = hzv a z := by unfold hzv; split <;> omega
      rw [ev]
      exact ez_retI rfl rfl (k _ (Or.inl ⟨hh, rfl⟩))
  · skip
    refine ez_if rfl rfl ⟨by decide, by decide⟩ (fun _ => ?_) (fun (c4 : ¬((0 : Int) = (0))) => absurd c4 (by decide))
    refine ez_go (n := 2) (pc' := 51) (L' := [(3, .inl (0)), (0, .inr (.inr (some (770)))), (1, .inl (a)), (2, .inl (z))]) (st' := []) rfl ?_
    refine ez_less [(3, .inl (0)), (0, .inr (.inr (some (770)))), (1, .inl (a)), (2, .inl (z))] rfl ⟨rfl, rfl, rfl, rfl, trivial⟩ ?_
    refine rd_composite_l e p.P ar zr (fun i hi hf => ?_) (fun hno => ?_) _ 0 rfl (by omega) (by omega) (fun i hi => by omega)
    · obtain ⟨a2, b2, w⟩ := (p.2.1 i hi).2
      have w1 := w.1
      rw [hf] at w1
      cases w1
      exact k _ (Or.inr (Or.inl ⟨hh, w⟩))
    · refine k _ (Or.inr (Or.inr ⟨hh, fun ⟨x, hx⟩ => ?_, rfl⟩))
      obtain ⟨i, hi, e9⟩ := p.2.2 x a z hx
      exact hno i hi (by rw [e9]; exact hx.1)

theorem rd_mc_s {n k c : Int} (hB : ez_B τ h) (t770 : τ 770 = 75) (n1 : n ≤ 2000) (kx : ∀ s, ((s = -1 ∧ ∀ j : Nat, (j : Int) < n → qz_I h 798 j ≠ 0) ∨ (0 ≤ s ∧ s < n ∧ qz_I h 798 s.toNat = 0 ∧ ∀ j : Nat, s < (j : Int) → (j : Int) < n → qz_I h 798 j ≠ 0)) → ez_W (d + 3) cm_239 45 [(4, .inl (s)), (3, .inl (c)), (2, .inl (k)), (1, .inl (n)), (0, .inr (.inr (some (770))))] [] h Q) : ∀ (m : Nat) (s : Int), (s + 1).toNat ≤ m → -1 ≤ s → s < n → (∀ j : Nat, s < (j : Int) → (j : Int) < n → qz_I h 798 j ≠ 0) → ez_W (d + 3) cm_239 24 [(4, .inl (s)), (3, .inl (c)), (2, .inl (k)), (1, .inl (n)), (0, .inr (.inr (some (770))))] [] h Q := by
  intro m
  induction m with
  | zero =>
    intro s hm s0 s1 hj
    refine ez_go (n := 1) (pc' := 26) (L' := [(4, .inl (s)), (3, .inl (c)), (2, .inl (k)), (1, .inl (n)), (0, .inr (.inr (some (770))))]) (st' := [.inl (s)]) rfl ?_
    refine ez_if rfl rfl ⟨by first | omega | exact (sz_i32 _).1, by first | omega | exact (sz_i32 _).2⟩ (fun (c1 : (s) < (0)) => ?_) (fun (c1 : ¬((s) < (0))) => ?_)
    · skip
      refine ez_less [(4, .inl (s)), (3, .inl (c)), (2, .inl (k)), (1, .inl (n)), (0, .inr (.inr (some (770))))] rfl ⟨rfl, rfl, rfl, rfl, rfl, trivial⟩ ?_
      exact kx s (by first | exact Or.inl ⟨by omega, fun j j1 => hj j (by omega) j1⟩ | exact Or.inr ⟨by omega, by omega, by omega, hj⟩)
    · exfalso; omega
  | succ m ih =>
    intro s hm s0 s1 hj
    refine ez_go (n := 1) (pc' := 26) (L' := [(4, .inl (s)), (3, .inl (c)), (2, .inl (k)), (1, .inl (n)), (0, .inr (.inr (some (770))))]) (st' := [.inl (s)]) rfl ?_
    refine ez_if rfl rfl ⟨by first | omega | exact (sz_i32 _).1, by first | omega | exact (sz_i32 _).2⟩ (fun (c1 : (s) < (0)) => ?_) (fun (c1 : ¬((s) < (0))) => ?_)
    · skip
      refine ez_less [(4, .inl (s)), (3, .inl (c)), (2, .inl (k)), (1, .inl (n)), (0, .inr (.inr (some (770))))] rfl ⟨rfl, rfl, rfl, rfl, rfl, trivial⟩ ?_
      exact kx s (by first | exact Or.inl ⟨by omega, fun j j1 => hj j (by omega) j1⟩ | exact Or.inr ⟨by omega, by omega, by omega, hj⟩)
    · skip
      refine ez_go (n := 1) (pc' := 30) (L' := [(4, .inl (s)), (3, .inl (c)), (2, .inl (k)), (1, .inl (n)), (0, .inr (.inr (some (770))))]) (st' := [.inr (.inr (some (770)))]) rfl ?_
      refine ez_gC (p := 798) (tg := 85) hB t770 rfl rfl tq_75 rfl rfl (fun (t798 : _ = 85) => ?_)
      refine ez_go (n := 1) (pc' := 35) (L' := [(4, .inl (s)), (3, .inl (c)), (2, .inl (k)), (1, .inl (n)), (0, .inr (.inr (some (770))))]) (st' := [.inl (s), .inr (.inr (some (798)))]) rfl ?_
      have n3 : 2000 ≤ qz_N h 798 ∧ qz_N h 798 ≤ 2000 := ez_len hB t798 tq_85 rfl
      refine ez_aI hB t798 rfl tq_85 rfl rfl (by omega) (by omega) (fun (b2 : -2147483648 ≤ qz_I h 798 (s).toNat) (b2' : qz_I h 798 (s).toNat ≤ 2147483647) => ?_)
      refine ez_if rfl rfl ⟨by first | omega | exact (sz_i32 _).1, by first | omega | exact (sz_i32 _).2⟩ (fun (c4 : (qz_I h 798 (s).toNat) = (0)) => ?_) (fun (c4 : ¬((qz_I h 798 (s).toNat) = (0))) => ?_)
      · skip
        refine ez_less [(4, .inl (s)), (3, .inl (c)), (2, .inl (k)), (1, .inl (n)), (0, .inr (.inr (some (770))))] rfl ⟨rfl, rfl, rfl, rfl, rfl, trivial⟩ ?_
        exact kx s (by first | exact Or.inl ⟨by omega, fun j j1 => hj j (by omega) j1⟩ | exact Or.inr ⟨by omega, by omega, by omega, hj⟩)
      · skip
        refine ez_go (n := 2) (pc' := 24) (L' := [(4, .inl (s + (-1))), (3, .inl (c)), (2, .inl (k)), (1, .inl (n)), (0, .inr (.inr (some (770))))]) (st' := []) rfl ?_
        refine ez_less [(4, .inl (s + (-1))), (3, .inl (c)), (2, .inl (k)), (1, .inl (n)), (0, .inr (.inr (some (770))))] rfl ⟨rfl, rfl, rfl, rfl, rfl, trivial⟩ ?_
        refine ih _ (by omega) (by omega) (by omega) (fun j j1 j2 => ?_)
        by_cases e : (j : Int) = s
        · rw [show j = s.toNat by omega]; omega
        · exact hj j (by omega) j2

theorem rd_mc_b {n k c s : Int} (hB : ez_B τ h) (t770 : τ 770 = 75) (n0 : 0 ≤ n) (n1 : n ≤ 2000) (k0 : 0 ≤ k) (k1 : k < 2000) (s0 : -1 ≤ s) (kx : ∀ j b, ((b = 0 ∧ 0 ≤ s ∧ ∀ i : Nat, s < (i : Int) → (i : Int) < n → qz_I h 798 i < qz_I h 798 k.toNat) ∨ (b = 1 ∧ (s < 0 ∨ ∃ i : Nat, s < (i : Int) ∧ (i : Int) < n ∧ qz_I h 798 k.toNat ≤ qz_I h 798 i))) → ez_W (d + 3) cm_239 103 [(6, .inl (j)), (5, .inl (b)), (4, .inl (s)), (3, .inl (c)), (2, .inl (k)), (1, .inl (n)), (0, .inr (.inr (some (770))))] [] h Q) : ∀ (m : Nat) (j b : Int), (n - j).toNat ≤ m → s < j → j ≤ n ∨ j = s + 1 → ((b = 0 ∧ 0 ≤ s ∧ ∀ i : Nat, s < (i : Int) → (i : Int) < j → qz_I h 798 i < qz_I h 798 k.toNat) ∨ (b = 1 ∧ (s < 0 ∨ ∃ i : Nat, s < (i : Int) ∧ (i : Int) < n ∧ qz_I h 798 k.toNat ≤ qz_I h 798 i))) → ez_W (d + 3) cm_239 63 [(6, .inl (j)), (5, .inl (b)), (4, .inl (s)), (3, .inl (c)), (2, .inl (k)), (1, .inl (n)), (0, .inr (.inr (some (770))))] [] h Q := by
  intro m
  induction m with
  | zero =>
    intro j b hm j0 j1 hb
    have br : ez_rg b := by rcases hb with w | w <;> (rw [w.1]; exact ⟨by decide, by decide⟩)
    refine ez_go (n := 2) (pc' := 66) (L' := [(6, .inl (j)), (5, .inl (b)), (4, .inl (s)), (3, .inl (c)), (2, .inl (k)), (1, .inl (n)), (0, .inr (.inr (some (770))))]) (st' := [.inl (n), .inl (j)]) rfl ?_
    refine ez_icmp rfl rfl ⟨by first | exact br.1 | (clear hb; omega) | exact (sz_i32 _).1, by first | exact br.2 | (clear hb; omega) | exact (sz_i32 _).2⟩ ⟨by first | exact br.1 | (clear hb; omega) | exact (sz_i32 _).1, by first | exact br.2 | (clear hb; omega) | exact (sz_i32 _).2⟩ (fun (c1 : (n) ≤ (j)) => ?_) (fun (c1 : ¬((n) ≤ (j))) => ?_)
    · skip
      refine ez_less [(6, .inl (j)), (5, .inl (b)), (4, .inl (s)), (3, .inl (c)), (2, .inl (k)), (1, .inl (n)), (0, .inr (.inr (some (770))))] rfl ⟨rfl, rfl, rfl, rfl, rfl, rfl, rfl, trivial⟩ ?_
      refine kx j b ?_
      rcases hb with ⟨w1, w2, w3⟩ | w
      · exact Or.inl ⟨w1, w2, fun i i1 i2 => w3 i i1 (by omega)⟩
      · exact Or.inr w
    · exfalso; omega
  | succ m ih =>
    intro j b hm j0 j1 hb
    have br : ez_rg b := by rcases hb with w | w <;> (rw [w.1]; exact ⟨by decide, by decide⟩)
    refine ez_go (n := 2) (pc' := 66) (L' := [(6, .inl (j)), (5, .inl (b)), (4, .inl (s)), (3, .inl (c)), (2, .inl (k)), (1, .inl (n)), (0, .inr (.inr (some (770))))]) (st' := [.inl (n), .inl (j)]) rfl ?_
    refine ez_icmp rfl rfl ⟨by first | exact br.1 | (clear hb; omega) | exact (sz_i32 _).1, by first | exact br.2 | (clear hb; omega) | exact (sz_i32 _).2⟩ ⟨by first | exact br.1 | (clear hb; omega) | exact (sz_i32 _).1, by first | exact br.2 | (clear hb; omega) | exact (sz_i32 _).2⟩ (fun (c1 : (n) ≤ (j)) => ?_) (fun (c1 : ¬((n) ≤ (j))) => ?_)
    · skip
      refine ez_less [(6, .inl (j)), (5, .inl (b)), (4, .inl (s)), (3, .inl (c)), (2, .inl (k)), (1, .inl (n)), (0, .inr (.inr (some (770))))] rfl ⟨rfl, rfl, rfl, rfl, rfl, rfl, rfl, trivial⟩ ?_
      refine kx j b ?_
      rcases hb with ⟨w1, w2, w3⟩ | w
      · exact Or.inl ⟨w1, w2, fun i i1 i2 => w3 i i1 (by omega)⟩
      · exact Or.inr w
    · skip
      refine ez_go (n := 1) (pc' := 71) (L' := [(6, .inl (j)), (5, .inl (b)), (4, .inl (s)), (3, .inl (c)), (2, .inl (k)), (1, .inl (n)), (0, .inr (.inr (some (770))))]) (st' := [.inl (b)]) rfl ?_
      refine ez_if rfl rfl ⟨by first | exact br.1 | (clear hb; omega) | exact (sz_i32 _).1, by first | exact br.2 | (clear hb; omega) | exact (sz_i32 _).2⟩ (fun (c2 : (b) ≠ (0)) => ?_) (fun (c2 : ¬((b) ≠ (0))) => ?_)
      · skip
        refine ez_less [(6, .inl (j)), (5, .inl (b)), (4, .inl (s)), (3, .inl (c)), (2, .inl (k)), (1, .inl (n)), (0, .inr (.inr (some (770))))] rfl ⟨rfl, rfl, rfl, rfl, rfl, rfl, rfl, trivial⟩ ?_
        refine kx j b ?_
        rcases hb with ⟨w1, w2, w3⟩ | w
        · exact Or.inl ⟨w1, w2, fun i i1 i2 => w3 i i1 (by omega)⟩
        · exact Or.inr w
      · skip
        refine ez_go (n := 1) (pc' := 75) (L' := [(6, .inl (j)), (5, .inl (b)), (4, .inl (s)), (3, .inl (c)), (2, .inl (k)), (1, .inl (n)), (0, .inr (.inr (some (770))))]) (st' := [.inr (.inr (some (770)))]) rfl ?_
        refine ez_gC (p := 798) (tg := 85) hB t770 rfl rfl tq_75 rfl rfl (fun (t798 : _ = 85) => ?_)
        refine ez_go (n := 1) (pc' := 80) (L' := [(6, .inl (j)), (5, .inl (b)), (4, .inl (s)), (3, .inl (c)), (2, .inl (k)), (1, .inl (n)), (0, .inr (.inr (some (770))))]) (st' := [.inl (j), .inr (.inr (some (798)))]) rfl ?_
        have n4 : 2000 ≤ qz_N h 798 ∧ qz_N h 798 ≤ 2000 := ez_len hB t798 tq_85 rfl
        refine ez_aI hB t798 rfl tq_85 rfl rfl (by omega) (by omega) (fun (b3 : -2147483648 ≤ qz_I h 798 (j).toNat) (b3' : qz_I h 798 (j).toNat ≤ 2147483647) => ?_)
        refine ez_go (n := 1) (pc' := 82) (L' := [(6, .inl (j)), (5, .inl (b)), (4, .inl (s)), (3, .inl (c)), (2, .inl (k)), (1, .inl (n)), (0, .inr (.inr (some (770))))]) (st' := [.inr (.inr (some (770))), .inl (qz_I h 798 (j).toNat)]) rfl ?_
        refine ez_gC (p := 798) (tg := 85) hB t770 rfl rfl tq_75 rfl rfl (fun (t798 : _ = 85) => ?_)
        refine ez_go (n := 1) (pc' := 86) (L' := [(6, .inl (j)), (5, .inl (b)), (4, .inl (s)), (3, .inl (c)), (2, .inl (k)), (1, .inl (n)), (0, .inr (.inr (some (770))))]) (st' := [.inl (k), .inr (.inr (some (798))), .inl (qz_I h 798 (j).toNat)]) rfl ?_
        have n6 : 2000 ≤ qz_N h 798 ∧ qz_N h 798 ≤ 2000 := ez_len hB t798 tq_85 rfl
        refine ez_aI hB t798 rfl tq_85 rfl rfl (by omega) (by omega) (fun (b5 : -2147483648 ≤ qz_I h 798 (k).toNat) (b5' : qz_I h 798 (k).toNat ≤ 2147483647) => ?_)
        refine ez_icmp rfl rfl ⟨by first | exact br.1 | (clear hb; omega) | exact (sz_i32 _).1, by first | exact br.2 | (clear hb; omega) | exact (sz_i32 _).2⟩ ⟨by first | exact br.1 | (clear hb; omega) | exact (sz_i32 _).1, by first | exact br.2 | (clear hb; omega) | exact (sz_i32 _).2⟩ (fun (c7 : (qz_I h 798 (j).toNat) < (qz_I h 798 (k).toNat)) => ?_) (fun (c7 : ¬((qz_I h 798 (j).toNat) < (qz_I h 798 (k).toNat))) => ?_)
        · skip
          refine ez_go (n := 4) (pc' := 63) (L' := [(6, .inl (j + 1)), (5, .inl (0)), (4, .inl (s)), (3, .inl (c)), (2, .inl (k)), (1, .inl (n)), (0, .inr (.inr (some (770))))]) (st' := []) rfl ?_
          refine ez_less [(6, .inl (j + 1)), (5, .inl (0)), (4, .inl (s)), (3, .inl (c)), (2, .inl (k)), (1, .inl (n)), (0, .inr (.inr (some (770))))] rfl ⟨rfl, rfl, rfl, rfl, rfl, rfl, rfl, trivial⟩ ?_
          refine ih _ _ (by clear hb; omega) (by clear hb; omega) (by clear hb; omega) (Or.inl ⟨rfl, by rcases hb with w | w <;> omega, fun i i1 i2 => ?_⟩)
          by_cases e : (i : Int) = j
          · rw [show i = j.toNat by omega]; clear hb; omega
          · rcases hb with ⟨w1, w2, w3⟩ | ⟨w1, w2⟩
            · exact w3 i i1 (by omega)
            · exfalso; clear w2; omega
        · skip
          refine ez_go (n := 5) (pc' := 63) (L' := [(6, .inl (j + 1)), (5, .inl (1)), (4, .inl (s)), (3, .inl (c)), (2, .inl (k)), (1, .inl (n)), (0, .inr (.inr (some (770))))]) (st' := []) rfl ?_
          refine ez_less [(6, .inl (j + 1)), (5, .inl (1)), (4, .inl (s)), (3, .inl (c)), (2, .inl (k)), (1, .inl (n)), (0, .inr (.inr (some (770))))] rfl ⟨rfl, rfl, rfl, rfl, rfl, rfl, rfl, trivial⟩ ?_
          exact ih _ _ (by clear hb; omega) (by clear hb; omega) (by clear hb; omega) (Or.inr ⟨rfl, Or.inr ⟨j.toNat, by clear hb; omega, by clear hb; omega, by clear hb; omega⟩⟩)

/-- what composing may write -/
def ocp (τ : Nat → Nat) (q : Nat) : Bool := Nat.beq q 770 || (Nat.beq (τ q) 83 || Nat.beq (τ q) 85)
theorem sz_rg9 {r i : Nat} (hB : ez_B τ h) (tr : τ r = 85) (_i0 : 0 ≤ i) (i1 : i < 2000) : ez_rg (qz_I h r i) := by
  have nn : 2000 ≤ qz_N h r ∧ qz_N h r ≤ 2000 := ez_len hB tr tq_85 rfl
  exact ez_aB hB tr tq_85 rfl rfl (by decide) (i := (i : Int)) (by omega) (by omega)
theorem orz_nk {g : cz_H} (hB : ez_B τ h) (hX : jz_X τ) (ho : orz τ h g) : nk τ h τ g := by
  have t770 : τ 770 = 75 := hX 770 (by decide)
  have ts := ez_tsk hB t770
  have i7 := ho.s t770
  have e : sk g = sk h := by unfold sk qz_P; rw [i7]
  have eN : qz_N g (sk h) = qz_N h (sk h) := by unfold qz_N; rw [ho.2.1 (sk h) (by rw [ts]; decide) (by rw [ts]; decide)]
  exact ⟨fun q _ => ⟨rfl, fun _ _ q3 q4 _ => ho.2.1 q q3 q4⟩, fun q h1 h2 => absurd h1 h2, fun j _ _ _ => i7 j, by rw [e, eN]; exact Int.le_refl _, by rw [e, eN, ho.2.2.1, ho.2.2.2]; omega, by rw [ho.2.2.1]; exact Nat.le_refl _, by rw [ho.2.2.2]; exact Nat.le_refl _⟩
theorem rd_mcps_l {Ls : List vz} {b : Int} (hI : mI τ h Ls b) (hw : uz_wf (vF Ls)) (e : eD τ h (vF Ls)) (pq9 : pQ h (vF Ls) (vE Ls)) (hl : qz_I h 770 30 = (L.length : Int)) (hL : kok (vF Ls) L) (kx : ∀ g K, ez_B τ g → ez_fr (ocp τ) h g → (∀ j, j ≠ 30 → qz_I g 770 j = qz_I h 770 j) → kcR (vF Ls) (vE Ls) L [] K → kok (vF Ls) K → tm g (K.map Prod.fst) → Q (.inl none, g)) : ∀ (m : Nat) (k n : Int) (K : List (Int × Int)) (g : cz_H), m = ((L.length : Int) - k).toNat → 0 ≤ k → k ≤ (L.length : Int) → n ≤ k → orz τ h g → (K.length : Int) = n → kok (vF Ls) K → prm g K → (∀ (j : Nat) z, k ≤ (j : Int) → L[j]? = some z → qz_I g 796 j = z.1 ∧ qz_I g 798 j = z.2) → (∀ R, kcR (vF Ls) (vE Ls) (L.drop k.toNat) K R → kcR (vF Ls) (vE Ls) L [] R) → ez_W (d + 3) cm_239 4 [(2, .inl (k)), (1, .inl (n)), (0, .inr (.inr (some (770))))] [] g Q := by
  have t770 : τ 770 = 75 := hI.2.1 770 (by decide)
  have b30 : 0 ≤ qz_I h 770 30 ∧ qz_I h 770 30 ≤ 2000 := ez_fB (cl := 11) (k := 30) hI.1 t770 tq_75 rfl rfl (by decide)
  intro m
  induction m with
  | zero =>
    intro k n K g hm k0 k1 nk9 ho hn hK hp hq hac
    have hBg := ho.1
    have s30 := ho.s t770 30
    have eg : eD τ g (vF Ls) := (orz_nk hI.1 hI.2.1 ho).eDx e hI.2.1 hBg
    have pg : pQ g (vF Ls) (vE Ls) := (orz_nk hI.1 hI.2.1 ho).pQx pq9 hI.1 hI.2.1
    refine ez_go (n := 2) (pc' := 6) (L' := [(2, .inl (k)), (1, .inl (n)), (0, .inr (.inr (some (770))))]) (st' := [.inr (.inr (some (770))), .inl (k)]) rfl ?_
    refine ez_gI hBg t770 rfl rfl tq_75 rfl rfl (fun (b1 : 0 ≤ qz_I g 770 30) (b1' : qz_I g 770 30 ≤ 2000) => ?_)
    refine ez_icmp rfl rfl ⟨by first | omega | exact (sz_i32 _).1, by first | omega | exact (sz_i32 _).2⟩ ⟨by first | omega | exact (sz_i32 _).1, by first | omega | exact (sz_i32 _).2⟩ (fun (c2 : (qz_I g 770 30) ≤ (k)) => ?_) (fun (c2 : ¬((qz_I g 770 30) ≤ (k))) => ?_)
    · skip
      refine ez_go (n := 2) (pc' := 186) (L' := [(2, .inl (k)), (1, .inl (n)), (0, .inr (.inr (some (770))))]) (st' := [.inl (n), .inr (.inr (some (770)))]) rfl ?_
      refine ez_pf hBg t770 rfl rfl tq_75 rfl rfl rfl rfl (ez_vdI rfl rfl (by omega) (by omega)) (fun hB3 w4 => ?_)
      refine ez_ret0 rfl rfl (kx _ K hB3 ⟨ho.2.2.1, ho.2.2.2, fun q q1 => ?_⟩ (fun j hj => (ez_put_I (fun w => hj w.2)).trans (ho.s t770 j)) (hac K (by rw [List.drop_of_length_le (by omega)]; rfl)) hK ⟨?_, fun j v hv => ?_⟩)
      · have q1 : q ≠ 770 ∧ τ q ≠ 83 ∧ τ q ≠ 85 := by refine ⟨fun e => ?_, fun e => ?_, fun e => ?_⟩ <;> (unfold ocp at q1; rw [e] at q1; simp at q1)
        rw [qz_put_at _ _ _ _ q1.1]; exact ho.2.1 q q1.2.1 q1.2.2
      · rw [w4, List.length_map, hn]; exact rz_rd ⟨by omega, by omega⟩
      · rw [List.getElem?_map] at hv
        obtain ⟨z, z1, z2⟩ := Option.map_eq_some_iff.mp hv
        rw [ez_put_I (fun w => absurd w.1 (by decide)), ← z2]; exact (hp j z z1).1
    · exfalso; omega
  | succ m ih =>
    intro k n K g hm k0 k1 nk9 ho hn hK hp hq hac
    have hBg := ho.1
    have s30 := ho.s t770 30
    have eg : eD τ g (vF Ls) := (orz_nk hI.1 hI.2.1 ho).eDx e hI.2.1 hBg
    have pg : pQ g (vF Ls) (vE Ls) := (orz_nk hI.1 hI.2.1 ho).pQx pq9 hI.1 hI.2.1
    by_cases kL : k < (L.length : Int)
    · have l9 : k.toNat < L.length := by omega
      obtain ⟨c, hc9⟩ : ∃ c, c = L[k.toNat] := ⟨_, rfl⟩
      have hc : L[k.toNat]? = some c := by rw [hc9]; exact List.getElem?_eq_getElem l9
      have ec := hq _ _ (by omega) hc
      have cb := (hL c (List.mem_of_getElem? hc)).1
      have ce := (hL c (List.mem_of_getElem? hc)).2
      have cr : ez_rg c.2 := by rw [← ec.2]; exact sz_rg9 hBg (hI.2.1 798 (by decide)) (by omega) (by omega)
      obtain ⟨cr1, cr2⟩ := id cr
      have dr : L.drop k.toNat = c :: L.drop (k + 1).toNat := by rw [List.drop_eq_getElem_cons l9, ← hc9, show (k + 1).toNat = k.toNat + 1 by omega]
      refine ez_go (n := 2) (pc' := 6) (L' := [(2, .inl (k)), (1, .inl (n)), (0, .inr (.inr (some (770))))]) (st' := [.inr (.inr (some (770))), .inl (k)]) rfl ?_
      refine ez_gI hBg t770 rfl rfl tq_75 rfl rfl (fun (b1 : 0 ≤ qz_I g 770 30) (b1' : qz_I g 770 30 ≤ 2000) => ?_)
      refine ez_icmp rfl rfl ⟨by first | omega | exact (sz_i32 _).1, by first | omega | exact (sz_i32 _).2⟩ ⟨by first | omega | exact (sz_i32 _).1, by first | omega | exact (sz_i32 _).2⟩ (fun (c2 : (qz_I g 770 30) ≤ (k)) => ?_) (fun (c2 : ¬((qz_I g 770 30) ≤ (k))) => ?_)
      · exfalso; omega
      · skip
        refine ez_go (n := 1) (pc' := 13) (L' := [(2, .inl (k)), (1, .inl (n)), (0, .inr (.inr (some (770))))]) (st' := [.inr (.inr (some (770)))]) rfl ?_
        refine ez_gC (p := 796) (tg := 83) hBg t770 rfl rfl tq_75 rfl rfl (fun (t796 : _ = 83) => ?_)
        refine ez_go (n := 1) (pc' := 17) (L' := [(2, .inl (k)), (1, .inl (n)), (0, .inr (.inr (some (770))))]) (st' := [.inl (k), .inr (.inr (some (796)))]) rfl ?_
        have n4 : 2000 ≤ qz_N g 796 ∧ qz_N g 796 ≤ 2000 := ez_len hBg t796 tq_83 rfl
        refine ez_aI hBg t796 rfl tq_83 rfl rfl (by omega) (by omega) (fun (b3 : -2147483648 ≤ qz_I g 796 (k).toNat) (b3' : qz_I g 796 (k).toNat ≤ 2147483647) => ?_)
        rw [show qz_I g 796 (k).toNat = c.1 from ec.1]
        refine ez_go (n := 5) (pc' := 24) (L' := [(4, .inl ((n) - (1))), (3, .inl (c.1)), (2, .inl (k)), (1, .inl (n)), (0, .inr (.inr (some (770))))]) (st' := []) rfl ?_
        refine ez_less [(4, .inl ((n) - (1))), (3, .inl (c.1)), (2, .inl (k)), (1, .inl (n)), (0, .inr (.inr (some (770))))] rfl ⟨rfl, rfl, rfl, rfl, rfl, trivial⟩ ?_
        refine rd_mc_s hBg t770 (by omega) (fun s hs => ?_) _ (n - 1) (Nat.le_refl _) (by omega) (by omega) (fun j j1 j2 => by omega)
        have sb : -1 ≤ s ∧ s < n ∨ s = -1 := by omega
        refine ez_go (n := 1) (pc' := 47) (L' := [(4, .inl (s)), (3, .inl (c.1)), (2, .inl (k)), (1, .inl (n)), (0, .inr (.inr (some (770))))]) (st' := [.inl (s)]) rfl ?_
        refine ez_if rfl rfl ⟨by first | omega | exact (sz_i32 _).1, by first | omega | exact (sz_i32 _).2⟩ (fun (c5 : (0) ≤ (s)) => ?_) (fun (c5 : ¬((0) ≤ (s))) => ?_)
        · skip
          refine ez_go (n := 6) (pc' := 63) (L' := [(6, .inl ((s) + (1))), (5, .inl (0)), (4, .inl (s)), (3, .inl (c.1)), (2, .inl (k)), (1, .inl (n)), (0, .inr (.inr (some (770))))]) (st' := []) rfl ?_
          refine ez_less [(6, .inl ((s) + (1))), (5, .inl (0)), (4, .inl (s)), (3, .inl (c.1)), (2, .inl (k)), (1, .inl (n)), (0, .inr (.inr (some (770))))] rfl ⟨rfl, rfl, rfl, rfl, rfl, rfl, rfl, trivial⟩ ?_
          refine rd_mc_b hBg t770 (by omega) (by omega) (by omega) (by omega) (by omega) (fun j b hb => ?_) _ (s + 1) 0 (Nat.le_refl _) (by omega) (Or.inr rfl) (Or.inl ⟨rfl, by omega, fun i i1 i2 => by omega⟩)
          rw [ec.2] at hb
          have br : ez_rg b := by rcases hb with w | w <;> (rw [w.1]; exact ⟨by decide, by decide⟩)
          rcases hb with ⟨rfl, hb1, hb2⟩ | ⟨rfl, hb1⟩
          · skip
            have sl9 : s.toNat < K.length := by omega
            obtain ⟨x, hx2⟩ : ∃ x, K[s.toNat]? = some x := ⟨_, List.getElem?_eq_getElem sl9⟩
            have ex := hp _ _ hx2
            have xb := (hK x (List.mem_of_getElem? hx2)).1
            have hlt : lst K c.2 s.toNat x := by
              rcases hs with ⟨w0, w⟩ | ⟨w0, w1, w2, w3⟩
              · omega
              · refine ⟨hx2, by rw [← ex.2]; exact w2, fun j y hj hy => ?_⟩
                have ej := (hp j y hy).2
                have lj := (List.getElem?_eq_some_iff.mp hy).1
                have q1 := w3 j (by omega) (by omega)
                have q2 := hb2 j (by omega) (by omega)
                rw [ej] at q1 q2
                exact ⟨q1, q2⟩
            refine ez_go (n := 1) (pc' := 105) (L' := [(6, .inl (j)), (5, .inl (0)), (4, .inl (s)), (3, .inl (c.1)), (2, .inl (k)), (1, .inl (n)), (0, .inr (.inr (some (770))))]) (st' := [.inl (0)]) rfl ?_
            refine ez_if rfl rfl ⟨by decide, by decide⟩ (fun _ => ?_) (fun (c6 : ¬((0 : Int) = (0))) => absurd c6 (by decide))
            refine ez_go (n := 2) (pc' := 114) (L' := [(6, .inl (j)), (5, .inl (0)), (4, .inl (s)), (3, .inl (c.1)), (2, .inl (k)), (1, .inl (n)), (0, .inr (.inr (some (770))))]) (st' := [.inr (.inr (some (770))), .inr (.inr (some (770)))]) rfl ?_
            refine ez_gC (p := 796) (tg := 83) hBg t770 rfl rfl tq_75 rfl rfl (fun (t796 : _ = 83) => ?_)
            refine ez_go (n := 1) (pc' := 119) (L' := [(6, .inl (j)), (5, .inl (0)), (4, .inl (s)), (3, .inl (c.1)), (2, .inl (k)), (1, .inl (n)), (0, .inr (.inr (some (770))))]) (st' := [.inl (s), .inr (.inr (some (796))), .inr (.inr (some (770)))]) rfl ?_
            have n8 : 2000 ≤ qz_N g 796 ∧ qz_N g 796 ≤ 2000 := ez_len hBg t796 tq_83 rfl
            refine ez_aI hBg t796 rfl tq_83 rfl rfl (by omega) (by omega) (fun (b7 : -2147483648 ≤ qz_I g 796 (s).toNat) (b7' : qz_I g 796 (s).toNat ≤ 2147483647) => ?_)
            refine ez_go (n := 1) (pc' := 121) (L' := [(6, .inl (j)), (5, .inl (0)), (4, .inl (s)), (3, .inl (c.1)), (2, .inl (k)), (1, .inl (n)), (0, .inr (.inr (some (770))))]) (st' := [.inl (c.1), .inl (qz_I g 796 (s).toNat), .inr (.inr (some (770)))]) rfl ?_
            rw [show qz_I g 796 (s).toNat = x.1 from ex.1]
            refine ez_cv hBg t770 rfl rfl rfl tq_75 rfl rfl rfl (rd_mcomp (F := vF Ls) (E := vE Ls) eg pg ⟨by omega, by omega⟩ ⟨by omega, by omega⟩ (fun v hv => ez_K1 ?_))
            have vb := cpR_bd hw hv
            refine ez_go (n := 2) (pc' := 128) (L' := [(6, .inl (v)), (5, .inl (0)), (4, .inl (s)), (3, .inl (c.1)), (2, .inl (k)), (1, .inl (n)), (0, .inr (.inr (some (770))))]) (st' := [.inl (v)]) rfl ?_
            refine ez_if rfl rfl ⟨by first | omega | exact (sz_i32 _).1, by first | omega | exact (sz_i32 _).2⟩ (fun (c9 : (v) < (0)) => ?_) (fun (c9 : ¬((v) < (0))) => ?_)
            · skip
              have hk : kst (vF Ls) (vE Ls) K c (K ++ [c]) := Or.inr ⟨fun s2 x2 hl => by obtain ⟨e2, e3⟩ := lst_u hl hlt; rw [e3, show (-1 : Int) = v by omega]; exact hv, rfl⟩
              refine ez_go (n := 1) (pc' := 157) (L' := [(6, .inl (v)), (5, .inl (0)), (4, .inl (s)), (3, .inl (c.1)), (2, .inl (k)), (1, .inl (n)), (0, .inr (.inr (some (770))))]) (st' := [.inr (.inr (some (770)))]) rfl ?_
              refine ez_gC (p := 796) (tg := 83) hBg t770 rfl rfl tq_75 rfl rfl (fun (t796 : _ = 83) => ?_)
              refine ez_go (n := 2) (pc' := 162) (L' := [(6, .inl (v)), (5, .inl (0)), (4, .inl (s)), (3, .inl (c.1)), (2, .inl (k)), (1, .inl (n)), (0, .inr (.inr (some (770))))]) (st' := [.inl (c.1), .inl (n), .inr (.inr (some (796)))]) rfl ?_
              have n12 : 2000 ≤ qz_N g 796 ∧ qz_N g 796 ≤ 2000 := ez_len hBg t796 tq_83 rfl
              refine ez_as hBg t796 rfl tq_83 rfl rfl (by omega) (by omega) (ez_vdI rfl rfl (by omega) (by omega)) (fun hB10 w11 => ?_)
              refine ez_go (n := 1) (pc' := 164) (L' := [(6, .inl (v)), (5, .inl (0)), (4, .inl (s)), (3, .inl (c.1)), (2, .inl (k)), (1, .inl (n)), (0, .inr (.inr (some (770))))]) (st' := [.inr (.inr (some (770)))]) rfl ?_
              refine ez_gC (p := 798) (tg := 85) hB10 t770 rfl rfl tq_75 rfl rfl (fun (t798 : _ = 85) => ?_)
              refine ez_go (n := 2) (pc' := 169) (L' := [(6, .inl (v)), (5, .inl (0)), (4, .inl (s)), (3, .inl (c.1)), (2, .inl (k)), (1, .inl (n)), (0, .inr (.inr (some (770))))]) (st' := [.inr (.inr (some (770))), .inl (n), .inr (.inr (some (798)))]) rfl ?_
              refine ez_gC (p := 798) (tg := 85) hB10 t770 rfl rfl tq_75 rfl rfl (fun (t798 : _ = 85) => ?_)
              refine ez_go (n := 1) (pc' := 173) (L' := [(6, .inl (v)), (5, .inl (0)), (4, .inl (s)), (3, .inl (c.1)), (2, .inl (k)), (1, .inl (n)), (0, .inr (.inr (some (770))))]) (st' := [.inl (k), .inr (.inr (some (798))), .inl (n), .inr (.inr (some (798)))]) rfl ?_
              have n14 : 2000 ≤ qz_N (dz_put g 796 (n).toNat (ez_v (.inl (c.1)))) 798 ∧ qz_N (dz_put g 796 (n).toNat (ez_v (.inl (c.1)))) 798 ≤ 2000 := ez_len hB10 t798 tq_85 rfl
              refine ez_aI hB10 t798 rfl tq_85 rfl rfl (by omega) (by omega) (fun (b13 : -2147483648 ≤ qz_I (dz_put g 796 (n).toNat (ez_v (.inl (c.1)))) 798 (k).toNat) (b13' : qz_I (dz_put g 796 (n).toNat (ez_v (.inl (c.1)))) 798 (k).toNat ≤ 2147483647) => ?_)
              have n17 : 2000 ≤ qz_N (dz_put g 796 (n).toNat (ez_v (.inl (c.1)))) 798 ∧ qz_N (dz_put g 796 (n).toNat (ez_v (.inl (c.1)))) 798 ≤ 2000 := ez_len hB10 t798 tq_85 rfl
              refine ez_as hB10 t798 rfl tq_85 rfl rfl (by omega) (by omega) (ez_vdI rfl rfl (by omega) (by omega)) (fun hB15 w16 => ?_)
              refine ez_go (n := 3) (pc' := 4) (L' := [(2, .inl (k + 1)), (1, .inl (n + 1)), (6, .inl (v)), (5, .inl (0)), (4, .inl (s)), (3, .inl (c.1)), (0, .inr (.inr (some (770))))]) (st' := []) rfl ?_
              refine ez_less [(2, .inl (k + 1)), (1, .inl (n + 1)), (0, .inr (.inr (some (770))))] rfl ⟨rfl, rfl, rfl, trivial⟩ ?_
              have o9 : orz τ h (dz_put (dz_put g 796 (n).toNat (ez_v (.inl (c.1)))) 798 (n).toNat (ez_v (.inl (qz_I (dz_put g 796 (n).toNat (ez_v (.inl (c.1)))) 798 (k).toNat)))) := (ho.put hB10 (Or.inl t796)).put hB15 (Or.inr t798)
              have e0 : qz_I (dz_put (dz_put g 796 (n).toNat (ez_v (.inl (c.1)))) 798 (n).toNat (ez_v (.inl (qz_I (dz_put g 796 (n).toNat (ez_v (.inl (c.1)))) 798 (k).toNat)))) 796 (n).toNat = c.1 := by rw [ez_put_I (fun w => absurd w.1 (by decide)), w11]; exact rz_rd ⟨by omega, by omega⟩
              have e1 : qz_I (dz_put (dz_put g 796 (n).toNat (ez_v (.inl (c.1)))) 798 (n).toNat (ez_v (.inl (qz_I (dz_put g 796 (n).toNat (ez_v (.inl (c.1)))) 798 (k).toNat)))) 798 (n).toNat = c.2 := by rw [w16, ez_put_I (fun w => absurd w.1 (by decide)), show qz_I g 798 (k).toNat = c.2 from ec.2]; exact rz_rd cr
              have e2 : ∀ j, j ≠ (n).toNat → qz_I (dz_put (dz_put g 796 (n).toNat (ez_v (.inl (c.1)))) 798 (n).toNat (ez_v (.inl (qz_I (dz_put g 796 (n).toNat (ez_v (.inl (c.1)))) 798 (k).toNat)))) 796 j = qz_I g 796 j ∧ qz_I (dz_put (dz_put g 796 (n).toNat (ez_v (.inl (c.1)))) 798 (n).toNat (ez_v (.inl (qz_I (dz_put g 796 (n).toNat (ez_v (.inl (c.1)))) 798 (k).toNat)))) 798 j = qz_I g 798 j := fun j hj => ⟨by rw [ez_put_I (fun w => absurd w.1 (by decide)), ez_put_I (fun w => hj w.2)], by rw [ez_put_I (fun w => hj w.2), ez_put_I (fun w => absurd w.1 (by decide))]⟩
              generalize (dz_put (dz_put g 796 (n).toNat (ez_v (.inl (c.1)))) 798 (n).toNat (ez_v (.inl (qz_I (dz_put g 796 (n).toNat (ez_v (.inl (c.1)))) 798 (k).toNat)))) = g9 at *
              have p9 : prm g9 (K ++ [c]) := fun j z hz => by
                by_cases ej : j = n.toNat
                · rw [ej, List.getElem?_append_right (by omega), show n.toNat - K.length = 0 by omega] at hz; cases hz; rw [ej]; exact ⟨e0, e1⟩
                · have hj9 := (List.getElem?_eq_some_iff.mp hz).1
                  rw [List.length_append, List.length_singleton] at hj9
                  rw [List.getElem?_append_left (by omega)] at hz; rw [(e2 j ej).1, (e2 j ej).2]; exact hp j z hz
              have n9 : (K ++ [c]).length = K.length + 1 := by rw [List.length_append, List.length_singleton]
              have q9 : ∀ (j : Nat) z, k + 1 ≤ (j : Int) → L[j]? = some z → qz_I g9 796 j = z.1 ∧ qz_I g9 798 j = z.2 := fun j z hj hz => by rw [(e2 j (by omega)).1, (e2 j (by omega)).2]; exact hq j z (by omega) hz
              refine ih _ _ (K ++ [c]) g9 (by omega) (by omega) (by omega) (by omega) o9 (by rw [n9]; omega) (kst_ok hw hk hK (hL c (List.mem_of_getElem? hc))) p9 q9 (fun R hR => hac R ?_)
              rw [dr]; exact ⟨_, hk, hR⟩
            · skip
              have v1 : 0 ≤ v ∧ v ≤ 1114111 := vb.resolve_left (by omega)
              have hk : kst (vF Ls) (vE Ls) K c (K.set s.toNat (v, (vF Ls v).1)) := Or.inl ⟨_, x, v, hlt, hv, by omega, rfl⟩
              refine ez_go (n := 1) (pc' := 132) (L' := [(6, .inl (v)), (5, .inl (0)), (4, .inl (s)), (3, .inl (c.1)), (2, .inl (k)), (1, .inl (n)), (0, .inr (.inr (some (770))))]) (st' := [.inr (.inr (some (770)))]) rfl ?_
              refine ez_gC (p := 796) (tg := 83) hBg t770 rfl rfl tq_75 rfl rfl (fun (t796 : _ = 83) => ?_)
              refine ez_go (n := 2) (pc' := 139) (L' := [(6, .inl (v)), (5, .inl (0)), (4, .inl (s)), (3, .inl (c.1)), (2, .inl (k)), (1, .inl (n)), (0, .inr (.inr (some (770))))]) (st' := [.inl (v), .inl (s), .inr (.inr (some (796)))]) rfl ?_
              have n20 : 2000 ≤ qz_N g 796 ∧ qz_N g 796 ≤ 2000 := ez_len hBg t796 tq_83 rfl
              refine ez_as hBg t796 rfl tq_83 rfl rfl (by omega) (by omega) (ez_vdI rfl rfl (by omega) (by omega)) (fun hB18 w19 => ?_)
              refine ez_go (n := 1) (pc' := 141) (L' := [(6, .inl (v)), (5, .inl (0)), (4, .inl (s)), (3, .inl (c.1)), (2, .inl (k)), (1, .inl (n)), (0, .inr (.inr (some (770))))]) (st' := [.inr (.inr (some (770)))]) rfl ?_
              refine ez_gC (p := 798) (tg := 85) hB18 t770 rfl rfl tq_75 rfl rfl (fun (t798 : _ = 85) => ?_)
              refine ez_go (n := 3) (pc' := 149) (L' := [(6, .inl (v)), (5, .inl (0)), (4, .inl (s)), (3, .inl (c.1)), (2, .inl (k)), (1, .inl (n)), (0, .inr (.inr (some (770))))]) (st' := [.inl (v), .inr (.inr (some (770))), .inl (s), .inr (.inr (some (798)))]) rfl ?_
              have ho1 : orz τ h (dz_put g 796 (s).toNat (ez_v (.inl (v)))) := ho.put hB18 (Or.inl t796)
              refine ez_cv hB18 t770 rfl rfl rfl tq_75 rfl rfl rfl (rd_mrank (ho1.mIx hI) ⟨by omega, by omega⟩ (fun rg => ez_K1 ?_))
              obtain ⟨rg0, rg1⟩ := id rg
              have n23 : 2000 ≤ qz_N (dz_put g 796 (s).toNat (ez_v (.inl (v)))) 798 ∧ qz_N (dz_put g 796 (s).toNat (ez_v (.inl (v)))) 798 ≤ 2000 := ez_len hB18 t798 tq_85 rfl
              refine ez_as hB18 t798 rfl tq_85 rfl rfl (by omega) (by omega) (ez_vdI rfl rfl (by omega) (by omega)) (fun hB21 w22 => ?_)
              refine ez_go (n := 3) (pc' := 4) (L' := [(2, .inl (k + 1)), (6, .inl (v)), (5, .inl (0)), (4, .inl (s)), (3, .inl (c.1)), (1, .inl (n)), (0, .inr (.inr (some (770))))]) (st' := []) rfl ?_
              refine ez_less [(2, .inl (k + 1)), (1, .inl (n)), (0, .inr (.inr (some (770))))] rfl ⟨rfl, rfl, rfl, trivial⟩ ?_
              have o9 : orz τ h (dz_put (dz_put g 796 (s).toNat (ez_v (.inl (v)))) 798 (s).toNat (ez_v (.inl ((vF Ls v).1)))) := (ho.put hB18 (Or.inl t796)).put hB21 (Or.inr t798)
              have e0 : qz_I (dz_put (dz_put g 796 (s).toNat (ez_v (.inl (v)))) 798 (s).toNat (ez_v (.inl ((vF Ls v).1)))) 796 (s).toNat = v := by rw [ez_put_I (fun w => absurd w.1 (by decide)), w19]; exact rz_rd ⟨by omega, by omega⟩
              have e1 : qz_I (dz_put (dz_put g 796 (s).toNat (ez_v (.inl (v)))) 798 (s).toNat (ez_v (.inl ((vF Ls v).1)))) 798 (s).toNat = (vF Ls v).1 := by rw [w22]; exact rz_rd rg
              have e2 : ∀ j, j ≠ (s).toNat → qz_I (dz_put (dz_put g 796 (s).toNat (ez_v (.inl (v)))) 798 (s).toNat (ez_v (.inl ((vF Ls v).1)))) 796 j = qz_I g 796 j ∧ qz_I (dz_put (dz_put g 796 (s).toNat (ez_v (.inl (v)))) 798 (s).toNat (ez_v (.inl ((vF Ls v).1)))) 798 j = qz_I g 798 j := fun j hj => ⟨by rw [ez_put_I (fun w => absurd w.1 (by decide)), ez_put_I (fun w => hj w.2)], by rw [ez_put_I (fun w => hj w.2), ez_put_I (fun w => absurd w.1 (by decide))]⟩
              generalize (dz_put (dz_put g 796 (s).toNat (ez_v (.inl (v)))) 798 (s).toNat (ez_v (.inl ((vF Ls v).1)))) = g9 at *
              have p9 : prm g9 (K.set s.toNat (v, (vF Ls v).1)) := fun j z hz => by
                by_cases ej : j = s.toNat
                · rw [ej, List.getElem?_set_self sl9] at hz; cases hz; rw [ej]; exact ⟨e0, e1⟩
                · rw [List.getElem?_set_ne (fun w => ej w.symm)] at hz; rw [(e2 j ej).1, (e2 j ej).2]; exact hp j z hz
              have n9 : (K.set s.toNat (v, (vF Ls v).1)).length = K.length := List.length_set
              have q9 : ∀ (j : Nat) z, k + 1 ≤ (j : Int) → L[j]? = some z → qz_I g9 796 j = z.1 ∧ qz_I g9 798 j = z.2 := fun j z hj hz => by rw [(e2 j (by omega)).1, (e2 j (by omega)).2]; exact hq j z (by omega) hz
              refine ih _ _ (K.set s.toNat (v, (vF Ls v).1)) g9 (by omega) (by omega) (by omega) (by omega) o9 (by rw [n9]; omega) (kst_ok hw hk hK (hL c (List.mem_of_getElem? hc))) p9 q9 (fun R hR => hac R ?_)
              rw [dr]; exact ⟨_, hk, hR⟩
          · skip
            have hk : kst (vF Ls) (vE Ls) K c (K ++ [c]) := Or.inr ⟨fun s2 x2 hl => ?_, rfl⟩
            rotate_left
            · have hx2 := (hp _ _ hl.1).2
              have l2 := (List.getElem?_eq_some_iff.mp hl.1).1
              have es : s = (s2 : Int) := by
                rcases hs with ⟨w0, w⟩ | ⟨w0, w1, w2, w3⟩
                · exact absurd (by rw [hx2]; exact hl.2.1) (w s2 (by omega))
                · by_cases a : s < (s2 : Int)
                  · exact absurd (by rw [hx2]; exact hl.2.1) (w3 s2 a (by omega))
                  · by_cases b2 : (s2 : Int) < s
                    · have l3 : s.toNat < K.length := by omega
                      have q := hl.2.2 s.toNat _ (by omega) (List.getElem?_eq_getElem l3)
                      rw [← (hp _ _ (List.getElem?_eq_getElem l3)).2] at q
                      exact absurd w2 q.1
                    · omega
              exfalso
              rcases hb1 with w | ⟨i, i1, i2, i3⟩
              · omega
              · have l3 : i < K.length := by omega
                have q := hl.2.2 i _ (by omega) (List.getElem?_eq_getElem l3)
                rw [← (hp _ _ (List.getElem?_eq_getElem l3)).2] at q
                omega
            refine ez_go (n := 1) (pc' := 105) (L' := [(6, .inl (j)), (5, .inl (1)), (4, .inl (s)), (3, .inl (c.1)), (2, .inl (k)), (1, .inl (n)), (0, .inr (.inr (some (770))))]) (st' := [.inl (1)]) rfl ?_
            refine ez_if rfl rfl ⟨by decide, by decide⟩ (fun (c24 : (1 : Int) = (0)) => absurd c24 (by decide)) (fun _ => ?_)
            refine ez_go (n := 4) (pc' := 128) (L' := [(6, .inl (-1)), (5, .inl (1)), (4, .inl (s)), (3, .inl (c.1)), (2, .inl (k)), (1, .inl (n)), (0, .inr (.inr (some (770))))]) (st' := [.inl (-1)]) rfl ?_
            refine ez_if rfl rfl ⟨by decide, by decide⟩ (fun _ => ?_) (fun (c25 : ¬((-1 : Int) < (0))) => absurd c25 (by decide))
            refine ez_go (n := 1) (pc' := 157) (L' := [(6, .inl (-1)), (5, .inl (1)), (4, .inl (s)), (3, .inl (c.1)), (2, .inl (k)), (1, .inl (n)), (0, .inr (.inr (some (770))))]) (st' := [.inr (.inr (some (770)))]) rfl ?_
            refine ez_gC (p := 796) (tg := 83) hBg t770 rfl rfl tq_75 rfl rfl (fun (t796 : _ = 83) => ?_)
            refine ez_go (n := 2) (pc' := 162) (L' := [(6, .inl (-1)), (5, .inl (1)), (4, .inl (s)), (3, .inl (c.1)), (2, .inl (k)), (1, .inl (n)), (0, .inr (.inr (some (770))))]) (st' := [.inl (c.1), .inl (n), .inr (.inr (some (796)))]) rfl ?_
            have n28 : 2000 ≤ qz_N g 796 ∧ qz_N g 796 ≤ 2000 := ez_len hBg t796 tq_83 rfl
            refine ez_as hBg t796 rfl tq_83 rfl rfl (by omega) (by omega) (ez_vdI rfl rfl (by omega) (by omega)) (fun hB26 w27 => ?_)
            refine ez_go (n := 1) (pc' := 164) (L' := [(6, .inl (-1)), (5, .inl (1)), (4, .inl (s)), (3, .inl (c.1)), (2, .inl (k)), (1, .inl (n)), (0, .inr (.inr (some (770))))]) (st' := [.inr (.inr (some (770)))]) rfl ?_
            refine ez_gC (p := 798) (tg := 85) hB26 t770 rfl rfl tq_75 rfl rfl (fun (t798 : _ = 85) => ?_)
            refine ez_go (n := 2) (pc' := 169) (L' := [(6, .inl (-1)), (5, .inl (1)), (4, .inl (s)), (3, .inl (c.1)), (2, .inl (k)), (1, .inl (n)), (0, .inr (.inr (some (770))))]) (st' := [.inr (.inr (some (770))), .inl (n), .inr (.inr (some (798)))]) rfl ?_
            refine ez_gC (p := 798) (tg := 85) hB26 t770 rfl rfl tq_75 rfl rfl (fun (t798 : _ = 85) => ?_)
            refine ez_go (n := 1) (pc' := 173) (L' := [(6, .inl (-1)), (5, .inl (1)), (4, .inl (s)), (3, .inl (c.1)), (2, .inl (k)), (1, .inl (n)), (0, .inr (.inr (some (770))))]) (st' := [.inl (k), .inr (.inr (some (798))), .inl (n), .inr (.inr (some (798)))]) rfl ?_
            have n30 : 2000 ≤ qz_N (dz_put g 796 (n).toNat (ez_v (.inl (c.1)))) 798 ∧ qz_N (dz_put g 796 (n).toNat (ez_v (.inl (c.1)))) 798 ≤ 2000 := ez_len hB26 t798 tq_85 rfl
            refine ez_aI hB26 t798 rfl tq_85 rfl rfl (by omega) (by omega) (fun (b29 : -2147483648 ≤ qz_I (dz_put g 796 (n).toNat (ez_v (.inl (c.1)))) 798 (k).toNat) (b29' : qz_I (dz_put g 796 (n).toNat (ez_v (.inl (c.1)))) 798 (k).toNat ≤ 2147483647) => ?_)
            have n33 : 2000 ≤ qz_N (dz_put g 796 (n).toNat (ez_v (.inl (c.1)))) 798 ∧ qz_N (dz_put g 796 (n).toNat (ez_v (.inl (c.1)))) 798 ≤ 2000 := ez_len hB26 t798 tq_85 rfl
            refine ez_as hB26 t798 rfl tq_85 rfl rfl (by omega) (by omega) (ez_vdI rfl rfl (by omega) (by omega)) (fun hB31 w32 => ?_)
            refine ez_go (n := 3) (pc' := 4) (L' := [(2, .inl (k + 1)), (1, .inl (n + 1)), (6, .inl (-1)), (5, .inl (1)), (4, .inl (s)), (3, .inl (c.1)), (0, .inr (.inr (some (770))))]) (st' := []) rfl ?_
            refine ez_less [(2, .inl (k + 1)), (1, .inl (n + 1)), (0, .inr (.inr (some (770))))] rfl ⟨rfl, rfl, rfl, trivial⟩ ?_
            have o9 : orz τ h (dz_put (dz_put g 796 (n).toNat (ez_v (.inl (c.1)))) 798 (n).toNat (ez_v (.inl (qz_I (dz_put g 796 (n).toNat (ez_v (.inl (c.1)))) 798 (k).toNat)))) := (ho.put hB26 (Or.inl t796)).put hB31 (Or.inr t798)
            have e0 : qz_I (dz_put (dz_put g 796 (n).toNat (ez_v (.inl (c.1)))) 798 (n).toNat (ez_v (.inl (qz_I (dz_put g 796 (n).toNat (ez_v (.inl (c.1)))) 798 (k).toNat)))) 796 (n).toNat = c.1 := by rw [ez_put_I (fun w => absurd w.1 (by decide)), w27]; exact rz_rd ⟨by omega, by omega⟩
            have e1 : qz_I (dz_put (dz_put g 796 (n).toNat (ez_v (.inl (c.1)))) 798 (n).toNat (ez_v (.inl (qz_I (dz_put g 796 (n).toNat (ez_v (.inl (c.1)))) 798 (k).toNat)))) 798 (n).toNat = c.2 := by rw [w32, ez_put_I (fun w => absurd w.1 (by decide)), show qz_I g 798 (k).toNat = c.2 from ec.2]; exact rz_rd cr
            have e2 : ∀ j, j ≠ (n).toNat → qz_I (dz_put (dz_put g 796 (n).toNat (ez_v (.inl (c.1)))) 798 (n).toNat (ez_v (.inl (qz_I (dz_put g 796 (n).toNat (ez_v (.inl (c.1)))) 798 (k).toNat)))) 796 j = qz_I g 796 j ∧ qz_I (dz_put (dz_put g 796 (n).toNat (ez_v (.inl (c.1)))) 798 (n).toNat (ez_v (.inl (qz_I (dz_put g 796 (n).toNat (ez_v (.inl (c.1)))) 798 (k).toNat)))) 798 j = qz_I g 798 j := fun j hj => ⟨by rw [ez_put_I (fun w => absurd w.1 (by decide)), ez_put_I (fun w => hj w.2)], by rw [ez_put_I (fun w => hj w.2), ez_put_I (fun w => absurd w.1 (by decide))]⟩
            generalize (dz_put (dz_put g 796 (n).toNat (ez_v (.inl (c.1)))) 798 (n).toNat (ez_v (.inl (qz_I (dz_put g 796 (n).toNat (ez_v (.inl (c.1)))) 798 (k).toNat)))) = g9 at *
            have p9 : prm g9 (K ++ [c]) := fun j z hz => by
              by_cases ej : j = n.toNat
              · rw [ej, List.getElem?_append_right (by omega), show n.toNat - K.length = 0 by omega] at hz; cases hz; rw [ej]; exact ⟨e0, e1⟩
              · have hj9 := (List.getElem?_eq_some_iff.mp hz).1
                rw [List.length_append, List.length_singleton] at hj9
                rw [List.getElem?_append_left (by omega)] at hz; rw [(e2 j ej).1, (e2 j ej).2]; exact hp j z hz
            have n9 : (K ++ [c]).length = K.length + 1 := by rw [List.length_append, List.length_singleton]
            have q9 : ∀ (j : Nat) z, k + 1 ≤ (j : Int) → L[j]? = some z → qz_I g9 796 j = z.1 ∧ qz_I g9 798 j = z.2 := fun j z hj hz => by rw [(e2 j (by omega)).1, (e2 j (by omega)).2]; exact hq j z (by omega) hz
            refine ih _ _ (K ++ [c]) g9 (by omega) (by omega) (by omega) (by omega) o9 (by rw [n9]; omega) (kst_ok hw hk hK (hL c (List.mem_of_getElem? hc))) p9 q9 (fun R hR => hac R ?_)
            rw [dr]; exact ⟨_, hk, hR⟩
        · skip
          refine ez_go (n := 7) (pc' := 63) (L' := [(6, .inl ((s) + (1))), (5, .inl (1)), (4, .inl (s)), (3, .inl (c.1)), (2, .inl (k)), (1, .inl (n)), (0, .inr (.inr (some (770))))]) (st' := []) rfl ?_
          refine ez_less [(6, .inl ((s) + (1))), (5, .inl (1)), (4, .inl (s)), (3, .inl (c.1)), (2, .inl (k)), (1, .inl (n)), (0, .inr (.inr (some (770))))] rfl ⟨rfl, rfl, rfl, rfl, rfl, rfl, rfl, trivial⟩ ?_
          refine rd_mc_b hBg t770 (by omega) (by omega) (by omega) (by omega) (by omega) (fun j b hb => ?_) _ (s + 1) 1 (Nat.le_refl _) (by omega) (Or.inr rfl) (Or.inr ⟨rfl, Or.inl (by omega)⟩)
          rw [ec.2] at hb
          have br : ez_rg b := by rcases hb with w | w <;> (rw [w.1]; exact ⟨by decide, by decide⟩)
          rcases hb with ⟨rfl, hb1, hb2⟩ | ⟨rfl, hb1⟩
          · skip
            have sl9 : s.toNat < K.length := by omega
            obtain ⟨x, hx2⟩ : ∃ x, K[s.toNat]? = some x := ⟨_, List.getElem?_eq_getElem sl9⟩
            have ex := hp _ _ hx2
            have xb := (hK x (List.mem_of_getElem? hx2)).1
            have hlt : lst K c.2 s.toNat x := by
              rcases hs with ⟨w0, w⟩ | ⟨w0, w1, w2, w3⟩
              · omega
              · refine ⟨hx2, by rw [← ex.2]; exact w2, fun j y hj hy => ?_⟩
                have ej := (hp j y hy).2
                have lj := (List.getElem?_eq_some_iff.mp hy).1
                have q1 := w3 j (by omega) (by omega)
                have q2 := hb2 j (by omega) (by omega)
                rw [ej] at q1 q2
                exact ⟨q1, q2⟩
            refine ez_go (n := 1) (pc' := 105) (L' := [(6, .inl (j)), (5, .inl (0)), (4, .inl (s)), (3, .inl (c.1)), (2, .inl (k)), (1, .inl (n)), (0, .inr (.inr (some (770))))]) (st' := [.inl (0)]) rfl ?_
            refine ez_if rfl rfl ⟨by decide, by decide⟩ (fun _ => ?_) (fun (c34 : ¬((0 : Int) = (0))) => absurd c34 (by decide))
            refine ez_go (n := 2) (pc' := 114) (L' := [(6, .inl (j)), (5, .inl (0)), (4, .inl (s)), (3, .inl (c.1)), (2, .inl (k)), (1, .inl (n)), (0, .inr (.inr (some (770))))]) (st' := [.inr (.inr (some (770))), .inr (.inr (some (770)))]) rfl ?_
            refine ez_gC (p := 796) (tg := 83) hBg t770 rfl rfl tq_75 rfl rfl (fun (t796 : _ = 83) => ?_)
            refine ez_go (n := 1) (pc' := 119) (L' := [(6, .inl (j)), (5, .inl (0)), (4, .inl (s)), (3, .inl (c.1)), (2, .inl (k)), (1, .inl (n)), (0, .inr (.inr (some (770))))]) (st' := [.inl (s), .inr (.inr (some (796))), .inr (.inr (some (770)))]) rfl ?_
            have n36 : 2000 ≤ qz_N g 796 ∧ qz_N g 796 ≤ 2000 := ez_len hBg t796 tq_83 rfl
            refine ez_aI hBg t796 rfl tq_83 rfl rfl (by omega) (by omega) (fun (b35 : -2147483648 ≤ qz_I g 796 (s).toNat) (b35' : qz_I g 796 (s).toNat ≤ 2147483647) => ?_)
            refine ez_go (n := 1) (pc' := 121) (L' := [(6, .inl (j)), (5, .inl (0)), (4, .inl (s)), (3, .inl (c.1)), (2, .inl (k)), (1, .inl (n)), (0, .inr (.inr (some (770))))]) (st' := [.inl (c.1), .inl (qz_I g 796 (s).toNat), .inr (.inr (some (770)))]) rfl ?_
            rw [show qz_I g 796 (s).toNat = x.1 from ex.1]
            refine ez_cv hBg t770 rfl rfl rfl tq_75 rfl rfl rfl (rd_mcomp (F := vF Ls) (E := vE Ls) eg pg ⟨by omega, by omega⟩ ⟨by omega, by omega⟩ (fun v hv => ez_K1 ?_))
            have vb := cpR_bd hw hv
            refine ez_go (n := 2) (pc' := 128) (L' := [(6, .inl (v)), (5, .inl (0)), (4, .inl (s)), (3, .inl (c.1)), (2, .inl (k)), (1, .inl (n)), (0, .inr (.inr (some (770))))]) (st' := [.inl (v)]) rfl ?_
            refine ez_if rfl rfl ⟨by first | omega | exact (sz_i32 _).1, by first | omega | exact (sz_i32 _).2⟩ (fun (c37 : (v) < (0)) => ?_) (fun (c37 : ¬((v) < (0))) => ?_)
            · skip
              have hk : kst (vF Ls) (vE Ls) K c (K ++ [c]) := Or.inr ⟨fun s2 x2 hl => by obtain ⟨e2, e3⟩ := lst_u hl hlt; rw [e3, show (-1 : Int) = v by omega]; exact hv, rfl⟩
              refine ez_go (n := 1) (pc' := 157) (L' := [(6, .inl (v)), (5, .inl (0)), (4, .inl (s)), (3, .inl (c.1)), (2, .inl (k)), (1, .inl (n)), (0, .inr (.inr (some (770))))]) (st' := [.inr (.inr (some (770)))]) rfl ?_
              refine ez_gC (p := 796) (tg := 83) hBg t770 rfl rfl tq_75 rfl rfl (fun (t796 : _ = 83) => ?_)
              refine ez_go (n := 2) (pc' := 162) (L' := [(6, .inl (v)), (5, .inl (0)), (4, .inl (s)), (3, .inl (c.1)), (2, .inl (k)), (1, .inl (n)), (0, .inr (.inr (some (770))))]) (st' := [.inl (c.1), .inl (n), .inr (.inr (some (796)))]) rfl ?_
              have n40 : 2000 ≤ qz_N g 796 ∧ qz_N g 796 ≤ 2000 := ez_len hBg t796 tq_83 rfl
              refine ez_as hBg t796 rfl tq_83 rfl rfl (by omega) (by omega) (ez_vdI rfl rfl (by omega) (by omega)) (fun hB38 w39 => ?_)
              refine ez_go (n := 1) (pc' := 164) (L' := [(6, .inl (v)), (5, .inl (0)), (4, .inl (s)), (3, .inl (c.1)), (2, .inl (k)), (1, .inl (n)), (0, .inr (.inr (some (770))))]) (st' := [.inr (.inr (some (770)))]) rfl ?_
              refine ez_gC (p := 798) (tg := 85) hB38 t770 rfl rfl tq_75 rfl rfl (fun (t798 : _ = 85) => ?_)
              refine ez_go (n := 2) (pc' := 169) (L' := [(6, .inl (v)), (5, .inl (0)), (4, .inl (s)), (3, .inl (c.1)), (2, .inl (k)), (1, .inl (n)), (0, .inr (.inr (some (770))))]) (st' := [.inr (.inr (some (770))), .inl (n), .inr (.inr (some (798)))]) rfl ?_
              refine ez_gC (p := 798) (tg := 85) hB38 t770 rfl rfl tq_75 rfl rfl (fun (t798 : _ = 85) => ?_)
              refine ez_go (n := 1) (pc' := 173) (L' := [(6, .inl (v)), (5, .inl (0)), (4, .inl (s)), (3, .inl (c.1)), (2, .inl (k)), (1, .inl (n)), (0, .inr (.inr (some (770))))]) (st' := [.inl (k), .inr (.inr (some (798))), .inl (n), .inr (.inr (some (798)))]) rfl ?_
              have n42 : 2000 ≤ qz_N (dz_put g 796 (n).toNat (ez_v (.inl (c.1)))) 798 ∧ qz_N (dz_put g 796 (n).toNat (ez_v (.inl (c.1)))) 798 ≤ 2000 := ez_len hB38 t798 tq_85 rfl
              refine ez_aI hB38 t798 rfl tq_85 rfl rfl (by omega) (by omega) (fun (b41 : -2147483648 ≤ qz_I (dz_put g 796 (n).toNat (ez_v (.inl (c.1)))) 798 (k).toNat) (b41' : qz_I (dz_put g 796 (n).toNat (ez_v (.inl (c.1)))) 798 (k).toNat ≤ 2147483647) => ?_)
              have n45 : 2000 ≤ qz_N (dz_put g 796 (n).toNat (ez_v (.inl (c.1)))) 798 ∧ qz_N (dz_put g 796 (n).toNat (ez_v (.inl (c.1)))) 798 ≤ 2000 := ez_len hB38 t798 tq_85 rfl
              refine ez_as hB38 t798 rfl tq_85 rfl rfl (by omega) (by omega) (ez_vdI rfl rfl (by omega) (by omega)) (fun hB43 w44 => ?_)
              refine ez_go (n := 3) (pc' := 4) (L' := [(2, .inl (k + 1)), (1, .inl (n + 1)), (6, .inl (v)), (5, .inl (0)), (4, .inl (s)), (3, .inl (c.1)), (0, .inr (.inr (some (770))))]) (st' := []) rfl ?_
              refine ez_less [(2, .inl (k + 1)), (1, .inl (n + 1)), (0, .inr (.inr (some (770))))] rfl ⟨rfl, rfl, rfl, trivial⟩ ?_
              have o9 : orz τ h (dz_put (dz_put g 796 (n).toNat (ez_v (.inl (c.1)))) 798 (n).toNat (ez_v (.inl (qz_I (dz_put g 796 (n).toNat (ez_v (.inl (c.1)))) 798 (k).toNat)))) := (ho.put hB38 (Or.inl t796)).put hB43 (Or.inr t798)
              have e0 : qz_I (dz_put (dz_put g 796 (n).toNat (ez_v (.inl (c.1)))) 798 (n).toNat (ez_v (.inl (qz_I (dz_put g 796 (n).toNat (ez_v (.inl (c.1)))) 798 (k).toNat)))) 796 (n).toNat = c.1 := by rw [ez_put_I (fun w => absurd w.1 (by decide)), w39]; exact rz_rd ⟨by omega, by omega⟩
              have e1 : qz_I (dz_put (dz_put g 796 (n).toNat (ez_v (.inl (c.1)))) 798 (n).toNat (ez_v (.inl (qz_I (dz_put g 796 (n).toNat (ez_v (.inl (c.1)))) 798 (k).toNat)))) 798 (n).toNat = c.2 := by rw [w44, ez_put_I (fun w => absurd w.1 (by decide)), show qz_I g 798 (k).toNat = c.2 from ec.2]; exact rz_rd cr
              have e2 : ∀ j, j ≠ (n).toNat → qz_I (dz_put (dz_put g 796 (n).toNat (ez_v (.inl (c.1)))) 798 (n).toNat (ez_v (.inl (qz_I (dz_put g 796 (n).toNat (ez_v (.inl (c.1)))) 798 (k).toNat)))) 796 j = qz_I g 796 j ∧ qz_I (dz_put (dz_put g 796 (n).toNat (ez_v (.inl (c.1)))) 798 (n).toNat (ez_v (.inl (qz_I (dz_put g 796 (n).toNat (ez_v (.inl (c.1)))) 798 (k).toNat)))) 798 j = qz_I g 798 j := fun j hj => ⟨by rw [ez_put_I (fun w => absurd w.1 (by decide)), ez_put_I (fun w => hj w.2)], by rw [ez_put_I (fun w => hj w.2), ez_put_I (fun w => absurd w.1 (by decide))]⟩
              generalize (dz_put (dz_put g 796 (n).toNat (ez_v (.inl (c.1)))) 798 (n).toNat (ez_v (.inl (qz_I (dz_put g 796 (n).toNat (ez_v (.inl (c.1)))) 798 (k).toNat)))) = g9 at *
              have p9 : prm g9 (K ++ [c]) := fun j z hz => by
                by_cases ej : j = n.toNat
                · rw [ej, List.getElem?_append_right (by omega), show n.toNat - K.length = 0 by omega] at hz; cases hz; rw [ej]; exact ⟨e0, e1⟩
                · have hj9 := (List.getElem?_eq_some_iff.mp hz).1
                  rw [List.length_append, List.length_singleton] at hj9
                  rw [List.getElem?_append_left (by omega)] at hz; rw [(e2 j ej).1, (e2 j ej).2]; exact hp j z hz
              have n9 : (K ++ [c]).length = K.length + 1 := by rw [List.length_append, List.length_singleton]
              have q9 : ∀ (j : Nat) z, k + 1 ≤ (j : Int) → L[j]? = some z → qz_I g9 796 j = z.1 ∧ qz_I g9 798 j = z.2 := fun j z hj hz => by rw [(e2 j (by omega)).1, (e2 j (by omega)).2]; exact hq j z (by omega) hz
              refine ih _ _ (K ++ [c]) g9 (by omega) (by omega) (by omega) (by omega) o9 (by rw [n9]; omega) (kst_ok hw hk hK (hL c (List.mem_of_getElem? hc))) p9 q9 (fun R hR => hac R ?_)
              rw [dr]; exact ⟨_, hk, hR⟩
            · skip
              have v1 : 0 ≤ v ∧ v ≤ 1114111 := vb.resolve_left (by omega)
              have hk : kst (vF Ls) (vE Ls) K c (K.set s.toNat (v, (vF Ls v).1)) := Or.inl ⟨_, x, v, hlt, hv, by omega, rfl⟩
              refine ez_go (n := 1) (pc' := 132) (L' := [(6, .inl (v)), (5, .inl (0)), (4, .inl (s)), (3, .inl (c.1)), (2, .inl (k)), (1, .inl (n)), (0, .inr (.inr (some (770))))]) (st' := [.inr (.inr (some (770)))]) rfl ?_
              refine ez_gC (p := 796) (tg := 83) hBg t770 rfl rfl tq_75 rfl rfl (fun (t796 : _ = 83) => ?_)
              refine ez_go (n := 2) (pc' := 139) (L' := [(6, .inl (v)), (5, .inl (0)), (4, .inl (s)), (3, .inl (c.1)), (2, .inl (k)), (1, .inl (n)), (0, .inr (.inr (some (770))))]) (st' := [.inl (v), .inl (s), .inr (.inr (some (796)))]) rfl ?_
              have n48 : 2000 ≤ qz_N g 796 ∧ qz_N g 796 ≤ 2000 := ez_len hBg t796 tq_83 rfl
              refine ez_as hBg t796 rfl tq_83 rfl rfl (by omega) (by omega) (ez_vdI rfl rfl (by omega) (by omega)) (fun hB46 w47 => ?_)
              refine ez_go (n := 1) (pc' := 141) (L' := [(6, .inl (v)), (5, .inl (0)), (4, .inl (s)), (3, .inl (c.1)), (2, .inl (k)), (1, .inl (n)), (0, .inr (.inr (some (770))))]) (st' := [.inr (.inr (some (770)))]) rfl ?_
              refine ez_gC (p := 798) (tg := 85) hB46 t770 rfl rfl tq_75 rfl rfl (fun (t798 : _ = 85) => ?_)
              refine ez_go (n := 3) (pc' := 149) (L' := [(6, .inl (v)), (5, .inl (0)), (4, .inl (s)), (3, .inl (c.1)), (2, .inl (k)), (1, .inl (n)), (0, .inr (.inr (some (770))))]) (st' := [.inl (v), .inr (.inr (some (770))), .inl (s), .inr (.inr (some (798)))]) rfl ?_
              have ho1 : orz τ h (dz_put g 796 (s).toNat (ez_v (.inl (v)))) := ho.put hB46 (Or.inl t796)
              refine ez_cv hB46 t770 rfl rfl rfl tq_75 rfl rfl rfl (rd_mrank (ho1.mIx hI) ⟨by omega, by omega⟩ (fun rg => ez_K1 ?_))
              obtain ⟨rg0, rg1⟩ := id rg
              have n51 : 2000 ≤ qz_N (dz_put g 796 (s).toNat (ez_v (.inl (v)))) 798 ∧ qz_N (dz_put g 796 (s).toNat (ez_v (.inl (v)))) 798 ≤ 2000 := ez_len hB46 t798 tq_85 rfl
              refine ez_as hB46 t798 rfl tq_85 rfl rfl (by omega) (by omega) (ez_vdI rfl rfl (by omega) (by omega)) (fun hB49 w50 => ?_)
              refine ez_go (n := 3) (pc' := 4) (L' := [(2, .inl (k + 1)), (6, .inl (v)), (5, .inl (0)), (4, .inl (s)), (3, .inl (c.1)), (1, .inl (n)), (0, .inr (.inr (some (770))))]) (st' := []) rfl ?_
              refine ez_less [(2, .inl (k + 1)), (1, .inl (n)), (0, .inr (.inr (some (770))))] rfl ⟨rfl, rfl, rfl, trivial⟩ ?_
              have o9 : orz τ h (dz_put (dz_put g 796 (s).toNat (ez_v (.inl (v)))) 798 (s).toNat (ez_v (.inl ((vF Ls v).1)))) := (ho.put hB46 (Or.inl t796)).put hB49 (Or.inr t798)
              have e0 : qz_I (dz_put (dz_put g 796 (s).toNat (ez_v (.inl (v)))) 798 (s).toNat (ez_v (.inl ((vF Ls v).1)))) 796 (s).toNat = v := by rw [ez_put_I (fun w => absurd w.1 (by decide)), w47]; exact rz_rd ⟨by omega, by omega⟩
              have e1 : qz_I (dz_put (dz_put g 796 (s).toNat (ez_v (.inl (v)))) 798 (s).toNat (ez_v (.inl ((vF Ls v).1)))) 798 (s).toNat = (vF Ls v).1 := by rw [w50]; exact rz_rd rg
              have e2 : ∀ j, j ≠ (s).toNat → qz_I (dz_put (dz_put g 796 (s).toNat (ez_v (.inl (v)))) 798 (s).toNat (ez_v (.inl ((vF Ls v).1)))) 796 j = qz_I g 796 j ∧ qz_I (dz_put (dz_put g 796 (s).toNat (ez_v (.inl (v)))) 798 (s).toNat (ez_v (.inl ((vF Ls v).1)))) 798 j = qz_I g 798 j := fun j hj => ⟨by rw [ez_put_I (fun w => absurd w.1 (by decide)), ez_put_I (fun w => hj w.2)], by rw [ez_put_I (fun w => hj w.2), ez_put_I (fun w => absurd w.1 (by decide))]⟩
              generalize (dz_put (dz_put g 796 (s).toNat (ez_v (.inl (v)))) 798 (s).toNat (ez_v (.inl ((vF Ls v).1)))) = g9 at *
              have p9 : prm g9 (K.set s.toNat (v, (vF Ls v).1)) := fun j z hz => by
                by_cases ej : j = s.toNat
                · rw [ej, List.getElem?_set_self sl9] at hz; cases hz; rw [ej]; exact ⟨e0, e1⟩
                · rw [List.getElem?_set_ne (fun w => ej w.symm)] at hz; rw [(e2 j ej).1, (e2 j ej).2]; exact hp j z hz
              have n9 : (K.set s.toNat (v, (vF Ls v).1)).length = K.length := List.length_set
              have q9 : ∀ (j : Nat) z, k + 1 ≤ (j : Int) → L[j]? = some z → qz_I g9 796 j = z.1 ∧ qz_I g9 798 j = z.2 := fun j z hj hz => by rw [(e2 j (by omega)).1, (e2 j (by omega)).2]; exact hq j z (by omega) hz
              refine ih _ _ (K.set s.toNat (v, (vF Ls v).1)) g9 (by omega) (by omega) (by omega) (by omega) o9 (by rw [n9]; omega) (kst_ok hw hk hK (hL c (List.mem_of_getElem? hc))) p9 q9 (fun R hR => hac R ?_)
              rw [dr]; exact ⟨_, hk, hR⟩
          · skip
            have hk : kst (vF Ls) (vE Ls) K c (K ++ [c]) := Or.inr ⟨fun s2 x2 hl => ?_, rfl⟩
            rotate_left
            · have hx2 := (hp _ _ hl.1).2
              have l2 := (List.getElem?_eq_some_iff.mp hl.1).1
              have es : s = (s2 : Int) := by
                rcases hs with ⟨w0, w⟩ | ⟨w0, w1, w2, w3⟩
                · exact absurd (by rw [hx2]; exact hl.2.1) (w s2 (by omega))
                · by_cases a : s < (s2 : Int)
                  · exact absurd (by rw [hx2]; exact hl.2.1) (w3 s2 a (by omega))
                  · by_cases b2 : (s2 : Int) < s
                    · have l3 : s.toNat < K.length := by omega
                      have q := hl.2.2 s.toNat _ (by omega) (List.getElem?_eq_getElem l3)
                      rw [← (hp _ _ (List.getElem?_eq_getElem l3)).2] at q
                      exact absurd w2 q.1
                    · omega
              exfalso
              rcases hb1 with w | ⟨i, i1, i2, i3⟩
              · omega
              · have l3 : i < K.length := by omega
                have q := hl.2.2 i _ (by omega) (List.getElem?_eq_getElem l3)
                rw [← (hp _ _ (List.getElem?_eq_getElem l3)).2] at q
                omega
            refine ez_go (n := 1) (pc' := 105) (L' := [(6, .inl (j)), (5, .inl (1)), (4, .inl (s)), (3, .inl (c.1)), (2, .inl (k)), (1, .inl (n)), (0, .inr (.inr (some (770))))]) (st' := [.inl (1)]) rfl ?_
            refine ez_if rfl rfl ⟨by decide, by decide⟩ (fun (c52 : (1 : Int) = (0)) => absurd c52 (by decide)) (fun _ => ?_)
            refine ez_go (n := 4) (pc' := 128) (L' := [(6, .inl (-1)), (5, .inl (1)), (4, .inl (s)), (3, .inl (c.1)), (2, .inl (k)), (1, .inl (n)), (0, .inr (.inr (some (770))))]) (st' := [.inl (-1)]) rfl ?_
            refine ez_if rfl rfl ⟨by decide, by decide⟩ (fun _ => ?_) (fun (c53 : ¬((-1 : Int) < (0))) => absurd c53 (by decide))
            refine ez_go (n := 1) (pc' := 157) (L' := [(6, .inl (-1)), (5, .inl (1)), (4, .inl (s)), (3, .inl (c.1)), (2, .inl (k)), (1, .inl (n)), (0, .inr (.inr (some (770))))]) (st' := [.inr (.inr (some (770)))]) rfl ?_
            refine ez_gC (p := 796) (tg := 83) hBg t770 rfl rfl tq_75 rfl rfl (fun (t796 : _ = 83) => ?_)
            refine ez_go (n := 2) (pc' := 162) (L' := [(6, .inl (-1)), (5, .inl (1)), (4, .inl (s)), (3, .inl (c.1)), (2, .inl (k)), (1, .inl (n)), (0, .inr (.inr (some (770))))]) (st' := [.inl (c.1), .inl (n), .inr (.inr (some (796)))]) rfl ?_
            have n56 : 2000 ≤ qz_N g 796 ∧ qz_N g 796 ≤ 2000 := ez_len hBg t796 tq_83 rfl
            refine ez_as hBg t796 rfl tq_83 rfl rfl (by omega) (by omega) (ez_vdI rfl rfl (by omega) (by omega)) (fun hB54 w55 => ?_)
            refine ez_go (n := 1) (pc' := 164) (L' := [(6, .inl (-1)), (5, .inl (1)), (4, .inl (s)), (3, .inl (c.1)), (2, .inl (k)), (1, .inl (n)), (0, .inr (.inr (some (770))))]) (st' := [.inr (.inr (some (770)))]) rfl ?_
            refine ez_gC (p := 798) (tg := 85) hB54 t770 rfl rfl tq_75 rfl rfl (fun (t798 : _ = 85) => ?_)
            refine ez_go (n := 2) (pc' := 169) (L' := [(6, .inl (-1)), (5, .inl (1)), (4, .inl (s)), (3, .inl (c.1)), (2, .inl (k)), (1, .inl (n)), (0, .inr (.inr (some (770))))]) (st' := [.inr (.inr (some (770))), .inl (n), .inr (.inr (some (798)))]) rfl ?_
            refine ez_gC (p := 798) (tg := 85) hB54 t770 rfl rfl tq_75 rfl rfl (fun (t798 : _ = 85) => ?_)
            refine ez_go (n := 1) (pc' := 173) (L' := [(6, .inl (-1)), (5, .inl (1)), (4, .inl (s)), (3, .inl (c.1)), (2, .inl (k)), (1, .inl (n)), (0, .inr (.inr (some (770))))]) (st' := [.inl (k), .inr (.inr (some (798))), .inl (n), .inr (.inr (some (798)))]) rfl ?_
            have n58 : 2000 ≤ qz_N (dz_put g 796 (n).toNat (ez_v (.inl (c.1)))) 798 ∧ qz_N (dz_put g 796 (n).toNat (ez_v (.inl (c.1)))) 798 ≤ 2000 := ez_len hB54 t798 tq_85 rfl
            refine ez_aI hB54 t798 rfl tq_85 rfl rfl (by omega) (by omega) (fun (b57 : -2147483648 ≤ qz_I (dz_put g 796 (n).toNat (ez_v (.inl (c.1)))) 798 (k).toNat) (b57' : qz_I (dz_put g 796 (n).toNat (ez_v (.inl (c.1)))) 798 (k).toNat ≤ 2147483647) => ?_)
            have n61 : 2000 ≤ qz_N (dz_put g 796 (n).toNat (ez_v (.inl (c.1)))) 798 ∧ qz_N (dz_put g 796 (n).toNat (ez_v (.inl (c.1)))) 798 ≤ 2000 := ez_len hB54 t798 tq_85 rfl
            refine ez_as hB54 t798 rfl tq_85 rfl rfl (by omega) (by omega) (ez_vdI rfl rfl (by omega) (by omega)) (fun hB59 w60 => ?_)
            refine ez_go (n := 3) (pc' := 4) (L' := [(2, .inl (k + 1)), (1, .inl (n + 1)), (6, .inl (-1)), (5, .inl (1)), (4, .inl (s)), (3, .inl (c.1)), (0, .inr (.inr (some (770))))]) (st' := []) rfl ?_
            refine ez_less [(2, .inl (k + 1)), (1, .inl (n + 1)), (0, .inr (.inr (some (770))))] rfl ⟨rfl, rfl, rfl, trivial⟩ ?_
            have o9 : orz τ h (dz_put (dz_put g 796 (n).toNat (ez_v (.inl (c.1)))) 798 (n).toNat (ez_v (.inl (qz_I (dz_put g 796 (n).toNat (ez_v (.inl (c.1)))) 798 (k).toNat)))) := (ho.put hB54 (Or.inl t796)).put hB59 (Or.inr t798)
            have e0 : qz_I (dz_put (dz_put g 796 (n).toNat (ez_v (.inl (c.1)))) 798 (n).toNat (ez_v (.inl (qz_I (dz_put g 796 (n).toNat (ez_v (.inl (c.1)))) 798 (k).toNat)))) 796 (n).toNat = c.1 := by rw [ez_put_I (fun w => absurd w.1 (by decide)), w55]; exact rz_rd ⟨by omega, by omega⟩
            have e1 : qz_I (dz_put (dz_put g 796 (n).toNat (ez_v (.inl (c.1)))) 798 (n).toNat (ez_v (.inl (qz_I (dz_put g 796 (n).toNat (ez_v (.inl (c.1)))) 798 (k).toNat)))) 798 (n).toNat = c.2 := by rw [w60, ez_put_I (fun w => absurd w.1 (by decide)), show qz_I g 798 (k).toNat = c.2 from ec.2]; exact rz_rd cr
            have e2 : ∀ j, j ≠ (n).toNat → qz_I (dz_put (dz_put g 796 (n).toNat (ez_v (.inl (c.1)))) 798 (n).toNat (ez_v (.inl (qz_I (dz_put g 796 (n).toNat (ez_v (.inl (c.1)))) 798 (k).toNat)))) 796 j = qz_I g 796 j ∧ qz_I (dz_put (dz_put g 796 (n).toNat (ez_v (.inl (c.1)))) 798 (n).toNat (ez_v (.inl (qz_I (dz_put g 796 (n).toNat (ez_v (.inl (c.1)))) 798 (k).toNat)))) 798 j = qz_I g 798 j := fun j hj => ⟨by rw [ez_put_I (fun w => absurd w.1 (by decide)), ez_put_I (fun w => hj w.2)], by rw [ez_put_I (fun w => hj w.2), ez_put_I (fun w => absurd w.1 (by decide))]⟩
            generalize (dz_put (dz_put g 796 (n).toNat (ez_v (.inl (c.1)))) 798 (n).toNat (ez_v (.inl (qz_I (dz_put g 796 (n).toNat (ez_v (.inl (c.1)))) 798 (k).toNat)))) = g9 at *
            have p9 : prm g9 (K ++ [c]) := fun j z hz => by
              by_cases ej : j = n.toNat
              · rw [ej, List.getElem?_append_right (by omega), show n.toNat - K.length = 0 by omega] at hz; cases hz; rw [ej]; exact ⟨e0, e1⟩
              · have hj9 := (List.getElem?_eq_some_iff.mp hz).1
                rw [List.length_append, List.length_singleton] at hj9
                rw [List.getElem?_append_left (by omega)] at hz; rw [(e2 j ej).1, (e2 j ej).2]; exact hp j z hz
            have n9 : (K ++ [c]).length = K.length + 1 := by rw [List.length_append, List.length_singleton]
            have q9 : ∀ (j : Nat) z, k + 1 ≤ (j : Int) → L[j]? = some z → qz_I g9 796 j = z.1 ∧ qz_I g9 798 j = z.2 := fun j z hj hz => by rw [(e2 j (by omega)).1, (e2 j (by omega)).2]; exact hq j z (by omega) hz
            refine ih _ _ (K ++ [c]) g9 (by omega) (by omega) (by omega) (by omega) o9 (by rw [n9]; omega) (kst_ok hw hk hK (hL c (List.mem_of_getElem? hc))) p9 q9 (fun R hR => hac R ?_)
            rw [dr]; exact ⟨_, hk, hR⟩
    · skip
      refine ez_go (n := 2) (pc' := 6) (L' := [(2, .inl (k)), (1, .inl (n)), (0, .inr (.inr (some (770))))]) (st' := [.inr (.inr (some (770))), .inl (k)]) rfl ?_
      refine ez_gI hBg t770 rfl rfl tq_75 rfl rfl (fun (b1 : 0 ≤ qz_I g 770 30) (b1' : qz_I g 770 30 ≤ 2000) => ?_)
      refine ez_icmp rfl rfl ⟨by first | omega | exact (sz_i32 _).1, by first | omega | exact (sz_i32 _).2⟩ ⟨by first | omega | exact (sz_i32 _).1, by first | omega | exact (sz_i32 _).2⟩ (fun (c2 : (qz_I g 770 30) ≤ (k)) => ?_) (fun (c2 : ¬((qz_I g 770 30) ≤ (k))) => ?_)
      · skip
        refine ez_go (n := 2) (pc' := 186) (L' := [(2, .inl (k)), (1, .inl (n)), (0, .inr (.inr (some (770))))]) (st' := [.inl (n), .inr (.inr (some (770)))]) rfl ?_
        refine ez_pf hBg t770 rfl rfl tq_75 rfl rfl rfl rfl (ez_vdI rfl rfl (by omega) (by omega)) (fun hB3 w4 => ?_)
        refine ez_ret0 rfl rfl (kx _ K hB3 ⟨ho.2.2.1, ho.2.2.2, fun q q1 => ?_⟩ (fun j hj => (ez_put_I (fun w => hj w.2)).trans (ho.s t770 j)) (hac K (by rw [List.drop_of_length_le (by omega)]; rfl)) hK ⟨?_, fun j v hv => ?_⟩)
        · have q1 : q ≠ 770 ∧ τ q ≠ 83 ∧ τ q ≠ 85 := by refine ⟨fun e => ?_, fun e => ?_, fun e => ?_⟩ <;> (unfold ocp at q1; rw [e] at q1; simp at q1)
          rw [qz_put_at _ _ _ _ q1.1]; exact ho.2.1 q q1.2.1 q1.2.2
        · rw [w4, List.length_map, hn]; exact rz_rd ⟨by omega, by omega⟩
        · rw [List.getElem?_map] at hv
          obtain ⟨z, z1, z2⟩ := Option.map_eq_some_iff.mp hv
          rw [ez_put_I (fun w => absurd w.1 (by decide)), ← z2]; exact (hp j z z1).1
      · exfalso; omega
theorem rd_mcps {Ls : List vz} {b : Int} (hI : mI τ h Ls b) (hw : uz_wf (vF Ls)) (e : eD τ h (vF Ls)) (pq9 : pQ h (vF Ls) (vE Ls)) (hl : qz_I h 770 30 = (L.length : Int)) (hL : kok (vF Ls) L) (hp : prm h L) (kx : ∀ g K, ez_B τ g → ez_fr (ocp τ) h g → (∀ j, j ≠ 30 → qz_I g 770 j = qz_I h 770 j) → kcR (vF Ls) (vE Ls) L [] K → kok (vF Ls) K → tm g (K.map Prod.fst) → Q (.inl none, g)) : ez_W (d + 3) cm_239 0 [(0, .inr (.inr (some (770))))] [] h Q := by
  have t770 : τ 770 = 75 := hI.2.1 770 (by decide)
  have b30 : 0 ≤ qz_I h 770 30 ∧ qz_I h 770 30 ≤ 2000 := ez_fB (cl := 11) (k := 30) hI.1 t770 tq_75 rfl rfl (by decide)
  refine ez_go (n := 4) (pc' := 4) (L' := [(2, .inl (0)), (1, .inl (0)), (0, .inr (.inr (some (770))))]) (st' := []) rfl ?_
  refine ez_less [(2, .inl (0)), (1, .inl (0)), (0, .inr (.inr (some (770))))] rfl ⟨rfl, rfl, rfl, trivial⟩ ?_
  exact rd_mcps_l hI hw e pq9 hl hL kx _ 0 0 [] h rfl (by omega) (by omega) (by omega) ⟨hI.1, fun _ _ _ => rfl, rfl, rfl⟩ rfl (fun x hx => by cases hx) (fun j z hz => by cases hz) (fun j z _ hz => hp j z hz) (fun R hR => hR)

end EzMn
