/-! Spans: the cut. (Written by wip/p2/py/pv12.py.) -/
section EzCut
variable {d : Nat} {h : cz_H} {τ : Nat → Nat} {Q : cz_F → Prop}
theorem rd_cut_l {p idx n : Int} {q : Nat} (t202 : τ 202 = 48) (t203 : τ 203 = 49) (tq : τ q = 4) (i0 : 0 ≤ idx) (n1 : n < 513) (kx : ∀ g, ez_B τ g → ez_fr (ez_one 203) h g → (∀ k : Int, 0 ≤ k → qz_I g 203 k.toNat = if idx + 1 < k ∧ k ≤ n then qz_I h 203 (k - 1).toNat else qz_I h 203 k.toNat) → ez_W d cm_97 88 [(3, .inr (.inr (some (q)))), (2, .inl (idx)), (0, .inr (.inr (some (202)))), (1, .inl (p))] [] g Q) : ∀ (m : Nat) (i : Int) (g : cz_H), m = (i - (idx + 1)).toNat → idx + 1 ≤ i → i ≤ n → ez_B τ g → ez_fr (ez_one 203) h g → (∀ k : Int, 0 ≤ k → qz_I g 203 k.toNat = if i < k ∧ k ≤ n then qz_I h 203 (k - 1).toNat else qz_I h 203 k.toNat) → ez_W d cm_97 58 [(4, .inl (i)), (3, .inr (.inr (some (q)))), (2, .inl (idx)), (0, .inr (.inr (some (202)))), (1, .inl (p))] [] g Q := by
  intro m
  induction m with
  | zero =>
    intro i g hm a1 a2 hB hf hs
    refine ez_go (n := 4) (pc' := 63) (L' := [(4, .inl (i)), (3, .inr (.inr (some (q)))), (2, .inl (idx)), (0, .inr (.inr (some (202)))), (1, .inl (p))]) (st' := [.inl ((idx) + (1)), .inl (i)]) rfl ?_
    refine ez_icmp rfl rfl ⟨by omega, by omega⟩ ⟨by omega, by omega⟩ (fun (c1 : (i) ≤ ((idx) + (1))) => ?_) (fun (c1 : ¬((i) ≤ ((idx) + (1)))) => ?_)
    · skip
      refine ez_less [(3, .inr (.inr (some (q)))), (2, .inl (idx)), (0, .inr (.inr (some (202)))), (1, .inl (p))] rfl ⟨rfl, rfl, rfl, rfl, trivial⟩ ?_
      exact kx g hB hf (by rw [show idx + 1 = i by omega]; exact hs)
    · exfalso; omega
  | succ m ih =>
    intro i g hm a1 a2 hB hf hs
    refine ez_go (n := 4) (pc' := 63) (L' := [(4, .inl (i)), (3, .inr (.inr (some (q)))), (2, .inl (idx)), (0, .inr (.inr (some (202)))), (1, .inl (p))]) (st' := [.inl ((idx) + (1)), .inl (i)]) rfl ?_
    refine ez_icmp rfl rfl ⟨by omega, by omega⟩ ⟨by omega, by omega⟩ (fun (c1 : (i) ≤ ((idx) + (1))) => ?_) (fun (c1 : ¬((i) ≤ ((idx) + (1)))) => ?_)
    · exfalso; omega
    · skip
      refine ez_go (n := 1) (pc' := 67) (L' := [(4, .inl (i)), (3, .inr (.inr (some (q)))), (2, .inl (idx)), (0, .inr (.inr (some (202)))), (1, .inl (p))]) (st' := [.inr (.inr (some (202)))]) rfl ?_
      refine ez_gC (p := 203) (tg := 49) hB t202 rfl rfl tq_48 rfl rfl (fun (t203 : _ = 49) => ?_)
      refine ez_go (n := 2) (pc' := 73) (L' := [(4, .inl (i)), (3, .inr (.inr (some (q)))), (2, .inl (idx)), (0, .inr (.inr (some (202)))), (1, .inl (p))]) (st' := [.inr (.inr (some (202))), .inl (i), .inr (.inr (some (203)))]) rfl ?_
      refine ez_gC (p := 203) (tg := 49) hB t202 rfl rfl tq_48 rfl rfl (fun (t203 : _ = 49) => ?_)
      refine ez_go (n := 3) (pc' := 80) (L' := [(4, .inl (i)), (3, .inr (.inr (some (q)))), (2, .inl (idx)), (0, .inr (.inr (some (202)))), (1, .inl (p))]) (st' := [.inl ((i) - (1)), .inr (.inr (some (203))), .inl (i), .inr (.inr (some (203)))]) rfl ?_
      have n3 : 513 ≤ qz_N g 203 ∧ qz_N g 203 ≤ 513 := ez_len hB t203 tq_49 rfl
      have y4 : 1 ≤ qz_I g 203 ((i) - (1)).toNat ∧ qz_I g 203 ((i) - (1)).toNat ≤ 1000000 := ez_aB hB t203 tq_49 rfl rfl (by decide) (by omega) (by omega)
      have y4' : ((qz_P g 203 ((i) - (1)).toNat : Nat) : Int) + 1 = qz_I g 203 ((i) - (1)).toNat := by unfold qz_P; omega
      refine ez_aR hB t203 rfl tq_49 rfl rfl (by omega) (by omega) (by omega) (fun (t2 : _ = 4) => ?_)
      have n7 : 513 ≤ qz_N g 203 ∧ qz_N g 203 ≤ 513 := ez_len hB t203 tq_49 rfl
      refine ez_aa hB t203 t2 rfl tq_49 tq_4 rfl rfl rfl (by omega) (by omega) (ez_vdR rfl t2 (by omega) (by omega)) (fun hB5 w6 => ?_)
      refine ez_go (n := 2) (pc' := 58) (L' := [(4, .inl (i + (-1))), (3, .inr (.inr (some (q)))), (2, .inl (idx)), (0, .inr (.inr (some (202)))), (1, .inl (p))]) (st' := []) rfl ?_
      refine ez_less [(4, .inl (i + (-1))), (3, .inr (.inr (some (q)))), (2, .inl (idx)), (0, .inr (.inr (some (202)))), (1, .inl (p))] rfl ⟨rfl, rfl, rfl, rfl, rfl, trivial⟩ ?_
      refine ih _ _ (by omega) (by omega) (by omega) hB5 (hf.put rfl _ _) (fun k k0 => ?_)
      by_cases e : k = i
      · subst e
        rw [w6, if_pos (by omega)]
        have := hs (k - 1) (by omega)
        rw [if_neg (by omega)] at this
        omega
      · rw [ez_put_I (by omega), hs k k0]
        by_cases e2 : i < k ∧ k ≤ n
        · rw [if_pos e2, if_pos (by omega)]
        · rw [if_neg e2, if_neg (by omega)]
def sz_P3 (q z : Nat) : Bool := Nat.beq z 202 || (Nat.beq z 203 || Nat.beq z q)
theorem rd_cut_e {p idx n : Int} {q : Nat} (hB : ez_B τ h) (t202 : τ 202 = 48) (t203 : τ 203 = 49) (tq : τ q = 4) (hqb : q ≠ qz_P h 203 idx.toNat) (hq1 : (q : Int) + 1 ≤ 1000000) (hn : qz_I h 202 1 = n) (n0 : 0 ≤ n) (n1 : n < 513) (i0 : 0 ≤ idx) (i1 : idx + 1 < 513) (p0 : 0 ≤ p) (p1 : p ≤ 1114111) (k : ∀ g, ez_B τ g → ez_fr (sz_P3 q) h g → qz_I g 202 1 = n + 1 → (∀ j, j ≠ 1 → qz_I g 202 j = qz_I h 202 j) → (∀ k : Int, 0 ≤ k → qz_I g 203 k.toNat = if k = idx + 1 then (q : Int) + 1 else qz_I h 203 k.toNat) → qz_I g q 0 = p → (∀ j, 1 ≤ j → j ≤ 8 → qz_I g q j = qz_I h (qz_P h 203 idx.toNat) j) → Q (.inl (some (ez_v (.inl (idx + 1)))), g)) : ez_W (d + 1) cm_97 88 [(3, .inr (.inr (some (q)))), (2, .inl (idx)), (0, .inr (.inr (some (202)))), (1, .inl (p))] [] h Q := by
  refine ez_go (n := 2) (pc' := 90) (L' := [(3, .inr (.inr (some (q)))), (2, .inl (idx)), (0, .inr (.inr (some (202)))), (1, .inl (p))]) (st' := [.inr (.inr (some (202))), .inr (.inr (some (q)))]) rfl ?_
  refine ez_gC (p := 203) (tg := 49) hB t202 rfl rfl tq_48 rfl rfl (fun (t203 : _ = 49) => ?_)
  refine ez_go (n := 1) (pc' := 94) (L' := [(3, .inr (.inr (some (q)))), (2, .inl (idx)), (0, .inr (.inr (some (202)))), (1, .inl (p))]) (st' := [.inl (idx), .inr (.inr (some (203))), .inr (.inr (some (q)))]) rfl ?_
  have n2 : 513 ≤ qz_N h 203 ∧ qz_N h 203 ≤ 513 := ez_len hB t203 tq_49 rfl
  have y3 : 1 ≤ qz_I h 203 (idx).toNat ∧ qz_I h 203 (idx).toNat ≤ 1000000 := ez_aB hB t203 tq_49 rfl rfl (by decide) (by omega) (by omega)
  have y3' : ((qz_P h 203 (idx).toNat : Nat) : Int) + 1 = qz_I h 203 (idx).toNat := by unfold qz_P; omega
  refine ez_aR hB t203 rfl tq_49 rfl rfl (by omega) (by omega) (by omega) (fun (t1 : _ = 4) => ?_)
  refine ez_cv hB tq rfl rfl rfl tq_4 rfl rfl rfl (rd_copyFrom hB tq t1 hqb (fun g1 hB1 hf1 hz hcp => ez_K0 ?_))
  refine ez_go (n := 2) (pc' := 100) (L' := [(3, .inr (.inr (some (q)))), (2, .inl (idx)), (0, .inr (.inr (some (202)))), (1, .inl (p))]) (st' := [.inl (p), .inr (.inr (some (q)))]) rfl ?_
  refine ez_pf hB1 tq rfl rfl tq_4 rfl rfl rfl rfl (ez_vdI rfl rfl (by omega) (by omega)) (fun hB4 w5 => ?_)
  refine ez_go (n := 1) (pc' := 104) (L' := [(3, .inr (.inr (some (q)))), (2, .inl (idx)), (0, .inr (.inr (some (202)))), (1, .inl (p))]) (st' := [.inr (.inr (some (202)))]) rfl ?_
  refine ez_gC (p := 203) (tg := 49) hB4 t202 rfl rfl tq_48 rfl rfl (fun (t203 : _ = 49) => ?_)
  refine ez_go (n := 4) (pc' := 111) (L' := [(3, .inr (.inr (some (q)))), (2, .inl (idx)), (0, .inr (.inr (some (202)))), (1, .inl (p))]) (st' := [.inr (.inr (some (q))), .inl ((idx) + (1)), .inr (.inr (some (203)))]) rfl ?_
  have n8 : 513 ≤ qz_N (dz_put g1 q 0 (ez_v (.inl (p)))) 203 ∧ qz_N (dz_put g1 q 0 (ez_v (.inl (p)))) 203 ≤ 513 := ez_len hB4 t203 tq_49 rfl
  refine ez_aa hB4 t203 tq rfl tq_49 tq_4 rfl rfl rfl (by omega) (by omega) (ez_vdR rfl tq (by omega) (by omega)) (fun hB6 w7 => ?_)
  have q202 : ez_one q 202 = false := rz_ne t202 tq rfl
  have q203 : ez_one q 203 = false := rz_ne t203 tq rfl
  have n202 : (202 : Nat) ≠ q := fun e => by rw [← e, t202] at tq; cases tq
  have n203 : (203 : Nat) ≠ q := fun e => by rw [← e, t203] at tq; cases tq
  have hn2 : qz_I (dz_put (dz_put g1 q 0 (ez_v (.inl (p)))) 203 ((idx) + (1)).toNat (ez_v (.inr (.inr (some (q)))))) 202 1 = n := by rw [ez_put_I (by omega), ez_put_I (by omega), hf1.I q202]; exact hn
  refine ez_go (n := 2) (pc' := 114) (L' := [(3, .inr (.inr (some (q)))), (2, .inl (idx)), (0, .inr (.inr (some (202)))), (1, .inl (p))]) (st' := [.inr (.inr (some (202))), .inr (.inr (some (202)))]) rfl ?_
  refine ez_gI hB6 t202 rfl rfl tq_48 rfl rfl (fun (b9 : 1 ≤ qz_I (dz_put (dz_put g1 q 0 (ez_v (.inl (p)))) 203 ((idx) + (1)).toNat (ez_v (.inr (.inr (some (q)))))) 202 1) (b9' : qz_I (dz_put (dz_put g1 q 0 (ez_v (.inl (p)))) 203 ((idx) + (1)).toNat (ez_v (.inr (.inr (some (q)))))) 202 1 ≤ 513) => ?_)
  refine ez_go (n := 2) (pc' := 119) (L' := [(3, .inr (.inr (some (q)))), (2, .inl (idx)), (0, .inr (.inr (some (202)))), (1, .inl (p))]) (st' := [.inl ((qz_I (dz_put (dz_put g1 q 0 (ez_v (.inl (p)))) 203 ((idx) + (1)).toNat (ez_v (.inr (.inr (some (q)))))) 202 1) + (1)), .inr (.inr (some (202)))]) rfl ?_
  refine ez_pf hB6 t202 rfl rfl tq_48 rfl rfl rfl rfl (ez_vdI rfl rfl (by omega) (by omega)) (fun hB10 w11 => ?_)
  refine ez_go (n := 3) (pc' := 125) (L' := [(3, .inr (.inr (some (q)))), (2, .inl (idx)), (0, .inr (.inr (some (202)))), (1, .inl (p))]) (st' := [.inl ((idx) + (1))]) rfl ?_
  refine ez_retI rfl rfl (k _ hB10 ?_ ?_ ?_ ?_ ?_ ?_)
  · have f0 : ez_fr (sz_P3 q) h g1 := ⟨hf1.1, hf1.2.1, fun z hz => hf1.2.2 z (by unfold sz_P3 at hz; simp only [Bool.or_eq_false_iff] at hz; exact hz.2.2)⟩
    exact ((f0.put (show sz_P3 q q = true by unfold sz_P3; rw [Nat.beq_refl]; simp) _ _).put (show sz_P3 q 203 = true by unfold sz_P3; simp) _ _).put (show sz_P3 q 202 = true by unfold sz_P3; simp) _ _
  · rw [w11, hn2]; exact rz_rd ⟨by omega, by omega⟩
  · intro j hj
    rw [ez_put_I (by omega), ez_put_I (by omega), ez_put_I (by omega), hf1.I q202]
  · intro k k0
    rw [ez_put_I (by omega)]
    by_cases e : k = idx + 1
    · rw [if_pos e, e]; exact w7
    · rw [if_neg e, ez_put_I (by omega), ez_put_I (by omega), hf1.I q203]
  · rw [ez_put_I (by omega), ez_put_I (by omega), w5]; exact rz_rd ⟨by omega, by omega⟩
  · intro j j1 j8
    rw [ez_put_I (by omega), ez_put_I (by omega), ez_put_I (by omega)]; exact hcp j j1 j8

end EzCut
