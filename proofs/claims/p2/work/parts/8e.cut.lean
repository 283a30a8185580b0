/-! Spans: the cut. (Written by wip/p2/py/pv12.py.) -/
section EzCut
variable {d : Nat} {h : cz_H} {τ : Nat → Nat} {Q : cz_F → Prop}
theorem rd_cut_l {p idx n : Int} {q : Nat} (t202 : τ 202 = 48) (t203 : τ 203 = 49) (tq : τ q = 4) (i0 : 0 ≤ idx) (n1 : n < 513) (kx : ∀ g, ez_B τ g → ez_fr (ez_one 203) h g → (∀ k : Int, 0 ≤ k → qz_I g 203 k.toNat = if idx + 1 < k ∧ k ≤ n then qz_I h 203 (k - 1).toNat else qz_I h 203 k.toNat) → ez_W d cm_97 88 [(3, .inr (.inr (some (q)))), (2, .inl (idx)), (0, .inr (.inr (some (202)))), (1, .inl (p))] [] g Q) : ∀ (m : Nat) (i : Int) (g : cz_H), m = (i - (idx + 1)).toNat → idx + 1 ≤ i → i ≤ n → ez_B τ g → ez_fr (ez_one 203) h g → (∀ k : Int, 0 ≤ k → qz_I g 203 k.toNat = if i < k ∧ k ≤ n then qz_I h 203 (k - 1).toNat else qz_I h 203 k.toNat) → ez_W d cm_97 58 [(4, .inl (i)), (3, .inr (.inr (some (q)))), (2, .inl (idx)), (0, .inr (.inr (some (202)))), (1, .inl (p))] [] g Q := by
  intro m
  induction m with
  | zero =>
    intro i g hm a1 a2 hB hf hs
    refine ez_go (n := 4) (pc' := 63) (L' := [(4, .inl (i)), (3, .inr (.inr (some (q)))), (2, .inl (idx)), (0, .inr (.inr (some (202)))), (1, .inl (p))]) (st' := [.inl ((idx) + (1)), .inl (i)]) rfl ?_
    refine ez_icmp rfl rfl ⟨by omega, by omega⟩ ⟨by omega, by omega⟩ (fun (c1 : (i) ≤ ((idx) + (1))) => ?_) (fun (c1 : ¬((i) ≤ ((idx) + (1)))) => ?_)
    · skip
      refine ez_less [(3, .inr (.inr (some (q)))), (2, .inl (idx)), (0, .inr (.inr (some (202)))), (1, .inl (p))] rfl ⟨rfl, rfl, rfl, rfl, trivial⟩ ?_
      exact kx g hB hf (by rw [show idx + 1 = i by omega]; exact hs)
    · exfalso; omega
  | succ m ih =>
    intro i g hm a1 a2 hB hf hs
    refine ez_go (n := 4) (pc' := 63) (L' := [(4, .inl (i)), (3, .inr (.inr (some (q)))), (2, .inl (idx)), (0, .inr (.inr (some (202)))), (1, .inl (p))]) (st' := [.inl ((idx) + (1)), .inl (i)]) rfl ?_
    refine ez_icmp rfl rfl ⟨by omega, by omega⟩ ⟨by omega, by omega⟩ (fun (c1 : (i) ≤ ((idx) + (1))) => ?_) (fun (c1 : ¬((i) ≤ ((idx) + (1)))) => ?_)
    · exfalso; omega
    · skip
      refine ez_go (n := 1) (pc' := 67) (L' := [(4, .inl (i)), (3, .inr (.inr (some (q)))), (2, .inl (idx)), (0, .inr (.inr (some (202)))), (1, .inl (p))]) (st' := [.inr (.inr (some (202)))]) rfl ?_
      refine ez_gC (p := 203) (tg := 49) hB t202 rfl rfl tq_48 rfl rfl (fun (t203 : _ = 49) => ?_)
      refine ez_go (n := 2) (pc' := 73) (L' := [(4, .inl (i)), (3, .inr (.inr (some (q)))), (2, .inl (idx)), (0, .inr (.inr (some (202)))), (1, .inl (p))]) (st' := [.inr (.inr (some (202))), .inl (i), .inr (.inr (some (203)))]) rfl ?_
      refine ez_gC (p := 203) (tg := 49) hB t202 rfl rfl tq_48 rfl rfl (fun (t203 : _ = 49) => ?_)
      refine ez_go (n := 3) (pc' := 80) (L' := [(4, .inl (i)), (3, .inr (.inr (some (q)))), (2, .inl (idx)), (0, .inr (.inr (some (202)))), (1, .inl (p))]) (st' := [.inl ((i) - (1)), .inr (.inr (some (203))), .inl (i), .inr (.inr (some (203)))]) rfl ?_
      have n3 : 513 ≤ qz_N g 203 ∧ qz_N g 203 ≤ 513 := ez_len hB t203 tq_49 rfl
      have y4 : 1 ≤ qz_I g 203 ((i) - (1)).toNat ∧ qz_I g 203 ((i) - (1)).toNat ≤ 1000000 := ez_aB hB t203 tq_49 rfl rfl (by decide) (by omega) (by omega)
      have y4' : ((qz_P g 203 ((i) - (1)).toNat : Nat) : Int) + 1 = qz_I g 203 ((i) - (1)).toNat := by unfold qz_P; omega
      refine ez_aR hB t203 rfl tq_49 rfl rfl (by omega) (by omega) (by omega) (fun (t2 : _ = 4) => ?_)
      have n7 : 513 ≤ qz_N g 203 ∧ qz_N g 203 ≤ 513 := ez_len hB t203 tq_49 rfl
      refine ez_aa hB t203 t2 rfl tq_49 tq_4 rfl rfl rfl (by omega) (by omega) (ez_vdR rfl t2 (by omega) (by omega)) (fun hB5 w6 => ?_)
      refine ez_go (n := 2) (pc' := 58) (L' := [(4, .inl (i + (-1))), (3, .inr (.inr (some (q)))), (2, .inl (idx)), (0, .inr (.inr (some (202)))), (1, .inl (p))]) (st' := []) rfl ?_
      refine ez_less [(4, .inl (i + (-1))), (3, .inr (.inr (some (q)))), (2, .inl (idx)), (0, .inr (.inr (some (202)))), (1, .inl (p))] rfl ⟨rfl, rfl, rfl, rfl, rfl, trivial⟩ ?_
      refine ih _ _ (by omega) (by omega) (by omega) hB5 (hf.put rfl _ _) (fun k k0 => ?_)
      by_cases e : k = i
      · subst e
        rw [w6, if_pos (by omega)]
        have := hs (k - 1) (by omega)
        rw [if_neg (by omega)] at this
        omega
      · rw [ez_put_I (by omega), hs k k0]
        by_cases e2 : i < k ∧ k ≤ n
        · rw [if_pos e2, if_pos (by omega)]
        · rw [if_neg e2, if_neg (by omega)]
end EzCut
