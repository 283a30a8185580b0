/-! Spans: cutBefore. (Written by wip/p2/py/pv13.py.) -/
/-- bounds of a field -/
theorem ez_fB {τ : Nat → Nat} {h : cz_H} {r t cl k : Nat} {ti : dz_I} {c : Nat} {lo hi : Int} {tg md : Nat} (hB : ez_B τ h) (hτ : τ r = t) (hti : tz_T t = some ti) (hk : (Nat.beq ti.1 0 && Nat.beq ti.2.1 cl) = true) (hD : dz_nth ti.2.2.2.2 k = some (c, lo, hi, tg, md)) (hc : c ≠ 2) : lo ≤ qz_I h r k ∧ qz_I h r k ≤ hi := by
  obtain ⟨vs, v, -, -, o3, o4, -⟩ := ez_fld hB hτ hti hk hD
  exact ez_slB o3 o4 hc
/-- all spans are different ones -/
def sz_inj (h : cz_H) : Prop := ∀ i j : Int, 0 ≤ i → i < 513 → 0 ≤ j → j < 513 → sz_p h i = sz_p h j → i = j
/-- the span in which a point lies -/
def sz_at (h : cz_H) (p i : Int) : Prop := 0 ≤ i ∧ i < qz_I h 202 1 ∧ sz_f h i ≤ p ∧ (i + 1 < qz_I h 202 1 → p < sz_f h (i + 1))
section EzCb
variable {d : Nat} {h : cz_H} {τ : Nat → Nat} {Q : cz_F → Prop}
theorem rd_cutBefore {p : Int} (hB : ez_B τ h) (t202 : τ 202 = 48) (hs : sz_ok h) (hinj : sz_inj h) (p0 : 0 ≤ p) (p1 : p ≤ 2147483647) (kA : 1114111 < p → Q (.inl (some (ez_v (.inl (qz_I h 202 1)))), h)) (kB : ∀ i, sz_at h p i → p ≤ 1114111 → (sz_f h i = p ∨ 513 ≤ qz_I h 202 1) → Q (.inl (some (ez_v (.inl i))), h)) (kC : ∀ g i q, sz_at h p i → p ≤ 1114111 → sz_f h i ≠ p → qz_I h 202 1 < 513 → q = sz_p h (qz_I h 202 1) → ez_B τ g → ez_fr (sz_P3 q) h g → qz_I g 202 1 = qz_I h 202 1 + 1 → (∀ j, j ≠ 1 → qz_I g 202 j = qz_I h 202 j) → (∀ k : Int, 0 ≤ k → qz_I g 203 k.toNat = if k = i + 1 then (q : Int) + 1 else if i + 1 < k ∧ k ≤ qz_I h 202 1 then qz_I h 203 (k - 1).toNat else qz_I h 203 k.toNat) → qz_I g q 0 = p → (∀ j, 1 ≤ j → j ≤ 8 → qz_I g q j = qz_I h (sz_p h i) j) → Q (.inl (some (ez_v (.inl (i + 1)))), g)) : ez_W (d + 1) cm_97 0 [(0, .inr (.inr (some (202)))), (1, .inl (p))] [] h Q := by
  have bn : 1 ≤ qz_I h 202 1 ∧ qz_I h 202 1 ≤ 513 := ez_fB (cl := 2) hB t202 tq_48 rfl rfl (by decide)
  refine ez_go (n := 1) (pc' := 1) (L' := [(0, .inr (.inr (some (202)))), (1, .inl (p))]) (st' := [.inl (p)]) rfl ?_
  refine ez_ldc (1114111) rfl rfl rfl ?_
  refine ez_icmp rfl rfl ⟨by omega, by omega⟩ ⟨by omega, by omega⟩ (fun (c1 : (p) ≤ (1114111)) => ?_) (fun (c1 : ¬((p) ≤ (1114111))) => ?_)
  · skip
    refine ez_go (n := 2) (pc' := 13) (L' := [(0, .inr (.inr (some (202)))), (1, .inl (p))]) (st' := [.inl (p), .inr (.inr (some (202)))]) rfl ?_
    refine ez_cv hB t202 rfl rfl rfl tq_48 rfl rfl rfl (rd_spanIndex hB t202 hs (by omega) (by omega) (fun idx x0 x1 x2 x3 => ez_K1 ?_))
    have hx2 : qz_I h (qz_P h 203 (idx).toNat) 0 ≤ p := x2
    refine ez_go (n := 2) (pc' := 18) (L' := [(2, .inl (idx)), (0, .inr (.inr (some (202)))), (1, .inl (p))]) (st' := [.inr (.inr (some (202)))]) rfl ?_
    refine ez_gC (p := 203) (tg := 49) hB t202 rfl rfl tq_48 rfl rfl (fun (t203 : _ = 49) => ?_)
    refine ez_go (n := 1) (pc' := 22) (L' := [(2, .inl (idx)), (0, .inr (.inr (some (202)))), (1, .inl (p))]) (st' := [.inl (idx), .inr (.inr (some (203)))]) rfl ?_
    have n3 : 513 ≤ qz_N h 203 ∧ qz_N h 203 ≤ 513 := ez_len hB t203 tq_49 rfl
    have y4 : 1 ≤ qz_I h 203 (idx).toNat ∧ qz_I h 203 (idx).toNat ≤ 1000000 := ez_aB hB t203 tq_49 rfl rfl (by decide) (by omega) (by omega)
    have y4' : ((qz_P h 203 (idx).toNat : Nat) : Int) + 1 = qz_I h 203 (idx).toNat := by unfold qz_P; omega
    refine ez_aR hB t203 rfl tq_49 rfl rfl (by omega) (by omega) (by omega) (fun (t2 : _ = 4) => ?_)
    refine ez_gI hB t2 rfl rfl tq_4 rfl rfl (fun (b5 : -2147483648 ≤ qz_I h (qz_P h 203 (idx).toNat) 0) (b5' : qz_I h (qz_P h 203 (idx).toNat) 0 ≤ 2147483647) => ?_)
    refine ez_go (n := 1) (pc' := 27) (L' := [(2, .inl (idx)), (0, .inr (.inr (some (202)))), (1, .inl (p))]) (st' := [.inl (p), .inl (qz_I h (qz_P h 203 (idx).toNat) 0)]) rfl ?_
    refine ez_icmp rfl rfl ⟨by omega, by omega⟩ ⟨by omega, by omega⟩ (fun (c6 : (qz_I h (qz_P h 203 (idx).toNat) 0) = (p)) => ?_) (fun (c6 : ¬((qz_I h (qz_P h 203 (idx).toNat) 0) = (p))) => ?_)
    · skip
      refine ez_go (n := 1) (pc' := 41) (L' := [(2, .inl (idx)), (0, .inr (.inr (some (202)))), (1, .inl (p))]) (st' := [.inl (idx)]) rfl ?_
      exact ez_retI rfl rfl (kB idx ⟨x0, x1, x2, x3⟩ (by omega) (by first | (left; show qz_I h (qz_P h 203 (idx).toNat) 0 = p; omega) | (right; omega)))
    · skip
      refine ez_go (n := 1) (pc' := 31) (L' := [(2, .inl (idx)), (0, .inr (.inr (some (202)))), (1, .inl (p))]) (st' := [.inr (.inr (some (202)))]) rfl ?_
      refine ez_gI hB t202 rfl rfl tq_48 rfl rfl (fun (b7 : 1 ≤ qz_I h 202 1) (b7' : qz_I h 202 1 ≤ 513) => ?_)
      refine ez_go (n := 1) (pc' := 37) (L' := [(2, .inl (idx)), (0, .inr (.inr (some (202)))), (1, .inl (p))]) (st' := [.inl (513), .inl (qz_I h 202 1)]) rfl ?_
      refine ez_icmp rfl rfl ⟨by omega, by omega⟩ ⟨by omega, by omega⟩ (fun (c8 : (qz_I h 202 1) < (513)) => ?_) (fun (c8 : ¬((qz_I h 202 1) < (513))) => ?_)
      · skip
        refine ez_go (n := 1) (pc' := 43) (L' := [(2, .inl (idx)), (0, .inr (.inr (some (202)))), (1, .inl (p))]) (st' := [.inr (.inr (some (202)))]) rfl ?_
        refine ez_gC (p := 203) (tg := 49) hB t202 rfl rfl tq_48 rfl rfl (fun (t203 : _ = 49) => ?_)
        refine ez_go (n := 1) (pc' := 47) (L' := [(2, .inl (idx)), (0, .inr (.inr (some (202)))), (1, .inl (p))]) (st' := [.inr (.inr (some (202))), .inr (.inr (some (203)))]) rfl ?_
        refine ez_gI hB t202 rfl rfl tq_48 rfl rfl (fun (b9 : 1 ≤ qz_I h 202 1) (b9' : qz_I h 202 1 ≤ 513) => ?_)
        have n11 : 513 ≤ qz_N h 203 ∧ qz_N h 203 ≤ 513 := ez_len hB t203 tq_49 rfl
        have y12 : 1 ≤ qz_I h 203 (qz_I h 202 1).toNat ∧ qz_I h 203 (qz_I h 202 1).toNat ≤ 1000000 := ez_aB hB t203 tq_49 rfl rfl (by decide) (by omega) (by omega)
        have y12' : ((qz_P h 203 (qz_I h 202 1).toNat : Nat) : Int) + 1 = qz_I h 203 (qz_I h 202 1).toNat := by unfold qz_P; omega
        refine ez_aR hB t203 rfl tq_49 rfl rfl (by omega) (by omega) (by omega) (fun (t10 : _ = 4) => ?_)
        refine ez_go (n := 2) (pc' := 53) (L' := [(3, .inr (.inr (some (qz_P h 203 (qz_I h 202 1).toNat)))), (2, .inl (idx)), (0, .inr (.inr (some (202)))), (1, .inl (p))]) (st' := [.inr (.inr (some (202)))]) rfl ?_
        refine ez_gI hB t202 rfl rfl tq_48 rfl rfl (fun (b13 : 1 ≤ qz_I h 202 1) (b13' : qz_I h 202 1 ≤ 513) => ?_)
        refine ez_go (n := 1) (pc' := 58) (L' := [(4, .inl (qz_I h 202 1)), (3, .inr (.inr (some (qz_P h 203 (qz_I h 202 1).toNat)))), (2, .inl (idx)), (0, .inr (.inr (some (202)))), (1, .inl (p))]) (st' := []) rfl ?_
        refine ez_less [(4, .inl (qz_I h 202 1)), (3, .inr (.inr (some (qz_P h 203 (qz_I h 202 1).toNat)))), (2, .inl (idx)), (0, .inr (.inr (some (202)))), (1, .inl (p))] rfl ⟨rfl, rfl, rfl, rfl, rfl, trivial⟩ ?_
        have hq1 : ((qz_P h 203 (qz_I h 202 1).toNat : Nat) : Int) + 1 ≤ 1000000 := by omega
        refine rd_cut_l (n := qz_I h 202 1) t202 t203 t10 x0 (by omega) (fun g hB1 hf1 hs1 => ?_) _ _ h rfl (by omega) (by omega) hB (ez_fr.refl _ h) (fun k k0 => by rw [if_neg (by omega)])
        have hpi : qz_P g 203 (idx).toNat = qz_P h 203 (idx).toNat := by unfold qz_P; rw [hs1 idx x0, if_neg (by omega)]
        have hn1 : qz_I g 202 1 = qz_I h 202 1 := hf1.I rfl _
        refine rd_cut_e (n := qz_I h 202 1) hB1 t202 t203 t10 (fun e => ?_) hq1 hn1 (by omega) (by omega) x0 (by omega) (by omega) (by omega) (fun g2 hB2 hf2 v1 v2 v3 v4 v5 => ?_)
        · rw [hpi] at e; have := hinj (qz_I h 202 1) idx (by omega) (by omega) x0 (by omega) e; omega
        · refine kC g2 idx _ ⟨x0, x1, x2, x3⟩ (by omega) (fun w => ?_) (by omega) rfl hB2 ?_ v1 (fun j hj => (v2 j hj).trans (hf1.I rfl _)) (fun k k0 => ?_) v4 (fun j j1 j8 => ?_)
          · have w : qz_I h (qz_P h 203 (idx).toNat) 0 = p := w; omega
          · refine ⟨hf2.1.trans hf1.1, hf2.2.1.trans hf1.2.1, fun z hz => (hf2.2.2 z hz).trans (hf1.2.2 z ?_)⟩
            unfold sz_P3 at hz; simp only [Bool.or_eq_false_iff] at hz; exact hz.2.1
          · rw [v3 k k0]; by_cases e : k = idx + 1; (· rw [if_pos e, if_pos e]; rfl); (· rw [if_neg e, if_neg e, hs1 k k0])
          · show qz_I g2 (qz_P h 203 (qz_I h 202 1).toNat) j = qz_I h (qz_P h 203 (idx).toNat) j; rw [v5 j j1 j8, hpi]; exact hf1.I (rz_ne t2 t203 rfl) j
      · skip
        refine ez_go (n := 1) (pc' := 41) (L' := [(2, .inl (idx)), (0, .inr (.inr (some (202)))), (1, .inl (p))]) (st' := [.inl (idx)]) rfl ?_
        exact ez_retI rfl rfl (kB idx ⟨x0, x1, x2, x3⟩ (by omega) (by first | (left; show qz_I h (qz_P h 203 (idx).toNat) 0 = p; omega) | (right; omega)))
  · skip
    refine ez_go (n := 1) (pc' := 7) (L' := [(0, .inr (.inr (some (202)))), (1, .inl (p))]) (st' := [.inr (.inr (some (202)))]) rfl ?_
    refine ez_gI hB t202 rfl rfl tq_48 rfl rfl (fun (b14 : 1 ≤ qz_I h 202 1) (b14' : qz_I h 202 1 ≤ 513) => ?_)
    exact ez_retI rfl rfl (kA (by omega))

end EzCb
