/-! Spans: tellFact. (Written by wip/p2/py/pv14.py.) -/
def sz_P4 (τ : Nat → Nat) (z : Nat) : Bool := Nat.beq (τ z) 4
theorem sz_P4_S {τ : Nat → Nat} {h g : cz_H} (hf : ez_fr (sz_P4 τ) h g) : ez_fr (sz_PS τ) h g := by
  refine ⟨hf.1, hf.2.1, fun z hz => hf.2.2 z ?_⟩
  unfold sz_PS at hz
  simp only [Bool.or_eq_false_iff] at hz
  exact hz.2.2
theorem sz_P4_p {τ : Nat → Nat} {h g : cz_H} (hf : ez_fr (sz_P4 τ) h g) (t203 : τ 203 = 49) (k : Int) : sz_p g k = sz_p h k := by
  unfold sz_p qz_P
  rw [hf.I (show sz_P4 τ 203 = false by unfold sz_P4; rw [t203]; rfl)]
theorem sz_P4_n {τ : Nat → Nat} {h g : cz_H} (hf : ez_fr (sz_P4 τ) h g) (t202 : τ 202 = 48) (j : Nat) : qz_I g 202 j = qz_I h 202 j := hf.I (show sz_P4 τ 202 = false by unfold sz_P4; rw [t202]; rfl) j
section EzTf
variable {d : Nat} {h : cz_H} {τ : Nat → Nat} {Q : cz_F → Prop} {r : Nat}
theorem rd_tellFact_l {a b first last : Int} (t202 : τ 202 = 48) (t203 : τ 203 = 49) (tr : τ r = 3) (hr : (r : Int) + 1 ≤ 1000000) (hinj : sz_inj h) (a0 : 0 ≤ a) (b1 : b ≤ 513) (kx : ∀ g, ez_B τ g → ez_fr (sz_P4 τ) h g → (∀ (k : Int) (j : Nat), 0 ≤ k → k < 513 → qz_I g (sz_p h k) j = if j = 1 ∧ a ≤ k ∧ k < b then (r : Int) + 1 else qz_I h (sz_p h k) j) → Q (.inl none, g)) : ∀ (m : Nat) (i : Int) (g : cz_H), m = (b - i).toNat → a ≤ i → i ≤ b → ez_B τ g → ez_fr (sz_P4 τ) h g → (∀ (k : Int) (j : Nat), 0 ≤ k → k < 513 → qz_I g (sz_p h k) j = if j = 1 ∧ a ≤ k ∧ k < i then (r : Int) + 1 else qz_I h (sz_p h k) j) → ez_W d cm_105 20 [(6, .inl (i)), (5, .inl (b)), (4, .inl (a)), (0, .inr (.inr (some (202)))), (1, .inl (first)), (2, .inl (last)), (3, .inr (.inr (some (r))))] [] g Q := by
  intro m
  induction m with
  | zero =>
    intro i g hm a1 a2 hB hf hv
    refine ez_go (n := 2) (pc' := 24) (L' := [(6, .inl (i)), (5, .inl (b)), (4, .inl (a)), (0, .inr (.inr (some (202)))), (1, .inl (first)), (2, .inl (last)), (3, .inr (.inr (some (r))))]) (st' := [.inl (b), .inl (i)]) rfl ?_
    refine ez_icmp rfl rfl ⟨by omega, by omega⟩ ⟨by omega, by omega⟩ (fun (c1 : (b) ≤ (i)) => ?_) (fun (c1 : ¬((b) ≤ (i))) => ?_)
    · skip
      exact ez_ret0 rfl rfl (kx g hB hf (by rw [show b = i by omega]; exact hv))
    · exfalso; omega
  | succ m ih =>
    intro i g hm a1 a2 hB hf hv
    refine ez_go (n := 2) (pc' := 24) (L' := [(6, .inl (i)), (5, .inl (b)), (4, .inl (a)), (0, .inr (.inr (some (202)))), (1, .inl (first)), (2, .inl (last)), (3, .inr (.inr (some (r))))]) (st' := [.inl (b), .inl (i)]) rfl ?_
    refine ez_icmp rfl rfl ⟨by omega, by omega⟩ ⟨by omega, by omega⟩ (fun (c1 : (b) ≤ (i)) => ?_) (fun (c1 : ¬((b) ≤ (i))) => ?_)
    · exfalso; omega
    · skip
      refine ez_go (n := 1) (pc' := 28) (L' := [(6, .inl (i)), (5, .inl (b)), (4, .inl (a)), (0, .inr (.inr (some (202)))), (1, .inl (first)), (2, .inl (last)), (3, .inr (.inr (some (r))))]) (st' := [.inr (.inr (some (202)))]) rfl ?_
      refine ez_gC (p := 203) (tg := 49) hB t202 rfl rfl tq_48 rfl rfl (fun (t203 : _ = 49) => ?_)
      refine ez_go (n := 1) (pc' := 33) (L' := [(6, .inl (i)), (5, .inl (b)), (4, .inl (a)), (0, .inr (.inr (some (202)))), (1, .inl (first)), (2, .inl (last)), (3, .inr (.inr (some (r))))]) (st' := [.inl (i), .inr (.inr (some (203)))]) rfl ?_
      have n3 : 513 ≤ qz_N g 203 ∧ qz_N g 203 ≤ 513 := ez_len hB t203 tq_49 rfl
      have y4 : 1 ≤ qz_I g 203 (i).toNat ∧ qz_I g 203 (i).toNat ≤ 1000000 := ez_aB hB t203 tq_49 rfl rfl (by decide) (by omega) (by omega)
      have y4' : ((qz_P g 203 (i).toNat : Nat) : Int) + 1 = qz_I g 203 (i).toNat := by unfold qz_P; omega
      refine ez_aR hB t203 rfl tq_49 rfl rfl (by omega) (by omega) (by omega) (fun (t2 : _ = 4) => ?_)
      refine ez_go (n := 1) (pc' := 35) (L' := [(6, .inl (i)), (5, .inl (b)), (4, .inl (a)), (0, .inr (.inr (some (202)))), (1, .inl (first)), (2, .inl (last)), (3, .inr (.inr (some (r))))]) (st' := [.inr (.inr (some (r))), .inr (.inr (some (qz_P g 203 (i).toNat)))]) rfl ?_
      refine ez_pf hB t2 rfl rfl tq_4 rfl rfl rfl rfl (ez_vdR rfl tr (by omega) (by omega)) (fun hB5 w6 => ?_)
      refine ez_go (n := 2) (pc' := 20) (L' := [(6, .inl (i + 1)), (5, .inl (b)), (4, .inl (a)), (0, .inr (.inr (some (202)))), (1, .inl (first)), (2, .inl (last)), (3, .inr (.inr (some (r))))]) (st' := []) rfl ?_
      refine ez_less [(6, .inl (i + 1)), (5, .inl (b)), (4, .inl (a)), (0, .inr (.inr (some (202)))), (1, .inl (first)), (2, .inl (last)), (3, .inr (.inr (some (r))))] rfl ⟨rfl, rfl, rfl, rfl, rfl, rfl, rfl, trivial⟩ ?_
      have hz : qz_P g 203 (i).toNat = sz_p h i := sz_P4_p hf t203 i
      have tz : τ (qz_P g 203 (i).toNat) = 4 := t2
      refine ih _ _ (by omega) (by omega) (by omega) hB5 (hf.put (show sz_P4 τ (qz_P g 203 (i).toNat) = true by unfold sz_P4; rw [tz]; rfl) _ _) (fun k j k0 k1 => ?_)
      by_cases e : k = i ∧ j = 1
      · obtain ⟨e1, e2⟩ := e
        subst e1; subst e2
        rw [if_pos (by omega), ← hz]; exact w6
      · rw [ez_put_I (fun w => e ⟨hinj k i k0 k1 (by omega) (by omega) (by rw [← hz]; exact w.1), w.2⟩), hv k j k0 k1]
        by_cases e2 : j = 1 ∧ a ≤ k ∧ k < i
        · rw [if_pos e2, if_pos (by omega)]
        · rw [if_neg e2, if_neg (by omega)]
end EzTf
