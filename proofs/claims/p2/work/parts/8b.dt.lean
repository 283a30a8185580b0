/-! DATA of the class, functionally: spans. (Written by wip/p2/py/pv9.py.) -/
theorem ez_half {a : Int} (h0 : 0 ≤ a) (h1 : a ≤ 2147483647) : (((Int32.ofInt a).toUInt32 >>> ((Int32.ofInt 1).toUInt32 &&& Int32.toUInt32 31)).toInt32).toInt = a / 2 := by
  have e : (Int32.ofInt a).toInt = a := dz_toInt_i (by omega) h1
  have := dz_ushr1 (a := Int32.ofInt a) (b := Int32.ofInt 1) (by rw [e]; exact h0) rfl
  rw [this, e]
/-- where the span number i lies, where it begins -/
def sz_p (h : cz_H) (i : Int) : Nat := qz_P h 203 i.toNat
def sz_f (h : cz_H) (i : Int) : Int := qz_I h (sz_p h i) 0
/-- spans begin one behind the other, the first one with 0 -/
def sz_ok (h : cz_H) : Prop := sz_f h 0 = 0 ∧ ∀ i j : Int, 0 ≤ i → i < j → j < qz_I h 202 1 → sz_f h i < sz_f h j
section EzDt
variable {d : Nat} {h : cz_H} {τ : Nat → Nat} {Q : cz_F → Prop}
theorem rd_spanIndex_l {p : Int} (hB : ez_B τ h) (t202 : τ 202 = 48) (p0 : 0 ≤ p) (p1 : p ≤ 2147483647) (k : ∀ i, 0 ≤ i → i < qz_I h 202 1 → sz_f h i ≤ p → (i + 1 < qz_I h 202 1 → p < sz_f h (i + 1)) → Q (.inl (some (ez_v (.inl i))), h)) : ∀ (n : Nat) (low high : Int), (high - low).toNat ≤ n → 0 ≤ low → low ≤ high → high < qz_I h 202 1 → qz_I h 202 1 ≤ 513 → sz_f h low ≤ p → (high + 1 < qz_I h 202 1 → p < sz_f h (high + 1)) → ez_W d cm_102 9 [(3, .inl (high)), (2, .inl (low)), (0, .inr (.inr (some (202)))), (1, .inl (p))] [] h Q := by
  intro n
  induction n with
  | zero =>
    intro low high hn l0 l1 h1 n1 fl fh
    refine ez_go (n := 2) (pc' := 11) (L' := [(3, .inl (high)), (2, .inl (low)), (0, .inr (.inr (some (202)))), (1, .inl (p))]) (st' := [.inl (high), .inl (low)]) rfl ?_
    refine ez_icmp rfl rfl ⟨by omega, by omega⟩ ⟨by omega, by omega⟩ (fun (c1 : (high) ≤ (low)) => ?_) (fun (c1 : ¬((high) ≤ (low))) => ?_)
    · skip
      refine ez_go (n := 1) (pc' := 52) (L' := [(3, .inl (high)), (2, .inl (low)), (0, .inr (.inr (some (202)))), (1, .inl (p))]) (st' := [.inl (low)]) rfl ?_
      have e : low = high := by omega
      subst e
      exact ez_retI rfl rfl (k low l0 h1 fl fh)
    · exfalso; omega
  | succ n ih =>
    intro low high hn l0 l1 h1 n1 fl fh
    refine ez_go (n := 2) (pc' := 11) (L' := [(3, .inl (high)), (2, .inl (low)), (0, .inr (.inr (some (202)))), (1, .inl (p))]) (st' := [.inl (high), .inl (low)]) rfl ?_
    refine ez_icmp rfl rfl ⟨by omega, by omega⟩ ⟨by omega, by omega⟩ (fun (c1 : (high) ≤ (low)) => ?_) (fun (c1 : ¬((high) ≤ (low))) => ?_)
    · skip
      refine ez_go (n := 1) (pc' := 52) (L' := [(3, .inl (high)), (2, .inl (low)), (0, .inr (.inr (some (202)))), (1, .inl (p))]) (st' := [.inl (low)]) rfl ?_
      have e : low = high := by omega
      subst e
      exact ez_retI rfl rfl (k low l0 h1 fl fh)
    · skip
      refine ez_go (n := 8) (pc' := 23) (L' := [(4, .inl ((((Int32.ofInt (((low) + (high)) + (1))).toUInt32 >>> ((Int32.ofInt (1)).toUInt32 &&& Int32.toUInt32 31)).toInt32).toInt)), (3, .inl (high)), (2, .inl (low)), (0, .inr (.inr (some (202)))), (1, .inl (p))]) (st' := []) rfl ?_
      rw [ez_half (a := low + high + 1) (by omega) (by omega)]
      refine ez_go (n := 1) (pc' := 24) (L' := [(4, .inl ((low + high + 1) / 2)), (3, .inl (high)), (2, .inl (low)), (0, .inr (.inr (some (202)))), (1, .inl (p))]) (st' := [.inr (.inr (some (202)))]) rfl ?_
      refine ez_gC (p := 203) (tg := 49) hB t202 rfl rfl tq_48 rfl rfl (fun (t203 : _ = 49) => ?_)
      refine ez_go (n := 1) (pc' := 29) (L' := [(4, .inl ((low + high + 1) / 2)), (3, .inl (high)), (2, .inl (low)), (0, .inr (.inr (some (202)))), (1, .inl (p))]) (st' := [.inl ((low + high + 1) / 2), .inr (.inr (some (203)))]) rfl ?_
      have n3 : 513 ≤ qz_N h 203 ∧ qz_N h 203 ≤ 513 := ez_len hB t203 tq_49 rfl
      have y4 : 1 ≤ qz_I h 203 ((low + high + 1) / 2).toNat ∧ qz_I h 203 ((low + high + 1) / 2).toNat ≤ 1000000 := ez_aB hB t203 tq_49 rfl rfl (by decide) (by omega) (by omega)
      have y4' : ((qz_P h 203 ((low + high + 1) / 2).toNat : Nat) : Int) + 1 = qz_I h 203 ((low + high + 1) / 2).toNat := by unfold qz_P; omega
      refine ez_aR hB t203 rfl tq_49 rfl rfl (by omega) (by omega) (by omega) (fun (t2 : _ = 4) => ?_)
      refine ez_gI hB t2 rfl rfl tq_4 rfl rfl (fun (b5 : -2147483648 ≤ qz_I h (qz_P h 203 ((low + high + 1) / 2).toNat) 0) (b5' : qz_I h (qz_P h 203 ((low + high + 1) / 2).toNat) 0 ≤ 2147483647) => ?_)
      refine ez_go (n := 1) (pc' := 34) (L' := [(4, .inl ((low + high + 1) / 2)), (3, .inl (high)), (2, .inl (low)), (0, .inr (.inr (some (202)))), (1, .inl (p))]) (st' := [.inl (p), .inl (qz_I h (qz_P h 203 ((low + high + 1) / 2).toNat) 0)]) rfl ?_
      refine ez_icmp rfl rfl ⟨by omega, by omega⟩ ⟨by omega, by omega⟩ (fun (c6 : (p) < (qz_I h (qz_P h 203 ((low + high + 1) / 2).toNat) 0)) => ?_) (fun (c6 : ¬((p) < (qz_I h (qz_P h 203 ((low + high + 1) / 2).toNat) 0))) => ?_)
      · skip
        refine ez_go (n := 5) (pc' := 9) (L' := [(3, .inl (((low + high + 1) / 2) - (1))), (4, .inl ((low + high + 1) / 2)), (2, .inl (low)), (0, .inr (.inr (some (202)))), (1, .inl (p))]) (st' := []) rfl ?_
        refine ez_less [(3, .inl (((low + high + 1) / 2) - (1))), (2, .inl (low)), (0, .inr (.inr (some (202)))), (1, .inl (p))] rfl ⟨rfl, rfl, rfl, rfl, trivial⟩ ?_
        exact ih _ _ (by omega) (by omega) (by omega) (by omega) n1 fl (fun _ => by rw [show (low + high + 1) / 2 - 1 + 1 = (low + high + 1) / 2 by omega]; show p < qz_I h (qz_P h 203 ((low + high + 1) / 2).toNat) 0; omega)
      · skip
        refine ez_go (n := 4) (pc' := 9) (L' := [(2, .inl ((low + high + 1) / 2)), (4, .inl ((low + high + 1) / 2)), (3, .inl (high)), (0, .inr (.inr (some (202)))), (1, .inl (p))]) (st' := []) rfl ?_
        refine ez_less [(3, .inl (high)), (2, .inl ((low + high + 1) / 2)), (0, .inr (.inr (some (202)))), (1, .inl (p))] rfl ⟨rfl, rfl, rfl, rfl, trivial⟩ ?_
        exact ih _ _ (by omega) (by omega) (by omega) (by omega) n1 (by show qz_I h (qz_P h 203 ((low + high + 1) / 2).toNat) 0 ≤ p; omega) fh
theorem rd_spanIndex {p : Int} (hB : ez_B τ h) (t202 : τ 202 = 48) (hs : sz_ok h) (p0 : 0 ≤ p) (p1 : p ≤ 2147483647) (k : ∀ i, 0 ≤ i → i < qz_I h 202 1 → sz_f h i ≤ p → (i + 1 < qz_I h 202 1 → p < sz_f h (i + 1)) → Q (.inl (some (ez_v (.inl i))), h)) : ez_W d cm_102 0 [(0, .inr (.inr (some (202)))), (1, .inl (p))] [] h Q := by
  refine ez_go (n := 3) (pc' := 3) (L' := [(2, .inl (0)), (0, .inr (.inr (some (202)))), (1, .inl (p))]) (st' := [.inr (.inr (some (202)))]) rfl ?_
  refine ez_gI hB t202 rfl rfl tq_48 rfl rfl (fun (b1 : 1 ≤ qz_I h 202 1) (b1' : qz_I h 202 1 ≤ 513) => ?_)
  refine ez_go (n := 3) (pc' := 9) (L' := [(3, .inl ((qz_I h 202 1) - (1))), (2, .inl (0)), (0, .inr (.inr (some (202)))), (1, .inl (p))]) (st' := []) rfl ?_
  refine ez_less [(3, .inl ((qz_I h 202 1) - (1))), (2, .inl (0)), (0, .inr (.inr (some (202)))), (1, .inl (p))] rfl ⟨rfl, rfl, rfl, rfl, trivial⟩ ?_
  exact rd_spanIndex_l hB t202 p0 p1 k _ _ _ (Nat.le_refl _) (by omega) (by omega) (by omega) (by omega) (by rw [hs.1]; exact p0) (fun w => by omega)

end EzDt
