/-! The class: Texts. (Written by wip/p2/py/pvt1.py.) -/
def tx_P (r z : Nat) : Bool := Nat.beq z r || Nat.beq z (r + 1)
theorem tx_Pa (r : Nat) : tx_P r r = true := by unfold tx_P; rw [Nat.beq_refl]; rfl
theorem tx_Pb (r : Nat) : tx_P r (r + 1) = true := by unfold tx_P; rw [Nat.beq_refl, Bool.or_true]
theorem tx_Pn {r z : Nat} (h1 : z ≠ r) (h2 : z ≠ r + 1) : tx_P r z = false := by unfold tx_P; rw [dz_beq_ne h1, dz_beq_ne h2]; rfl
section EzTx
variable {d : Nat} {h : cz_H} {τ : Nat → Nat} {Q : cz_F → Prop} {r : Nat} {l : List Int}
theorem tx_add {g : cz_H} {p : Int} (a : tx h r l) (e1 : qz_I g r 1 = qz_I h r 1 + 1) (e2 : qz_I g (r + 1) (qz_I h r 1).toNat = p) (e3 : ∀ j, j ≠ (qz_I h r 1).toNat → qz_I g (r + 1) j = qz_I h (r + 1) j) : tx g r (l ++ [p]) := by
  have hl := a.1
  refine ⟨by rw [e1, hl, List.length_append]; rfl, fun j v hv => ?_⟩
  by_cases e : j < l.length
  · rw [List.getElem?_append_left e] at hv
    rw [e3 j (by omega)]; exact a.2 j v hv
  · rw [List.getElem?_append_right (by omega)] at hv
    have e0 : j - l.length = 0 := by
      by_cases w : j - l.length = 0
      · exact w
      · rw [List.getElem?_eq_none (by rw [List.length_singleton]; omega)] at hv; cases hv
    rw [e0] at hv
    cases hv
    rw [show j = (qz_I h r 1).toNat by omega]; exact e2
theorem rd_txa {p : Int} (hB : ez_B τ h) (tr : τ r = 1) (a : tx h r l) (pr : ez_rg p) (k1 : l.length < 2000 → ∀ g, ez_B τ g → ez_fr (tx_P r) h g → tx g r (l ++ [p]) → Q (.inl (some (ez_v (.inl 1))), g)) (k0 : 2000 ≤ l.length → Q (.inl (some (ez_v (.inl 0))), h)) : ez_W d cm_189 0 [(0, .inr (.inr (some (r)))), (1, .inl (p))] [] h Q := by
  obtain ⟨pr1, pr2⟩ := id pr
  refine ez_go (n := 1) (pc' := 1) (L' := [(0, .inr (.inr (some (r)))), (1, .inl (p))]) (st' := [.inr (.inr (some (r)))]) rfl ?_
  refine ez_gI hB tr rfl rfl tq_1 rfl rfl (fun (b1 : 0 ≤ qz_I h r 1) (b1' : qz_I h r 1 ≤ 2000) => ?_)
  refine ez_go (n := 1) (pc' := 7) (L' := [(0, .inr (.inr (some (r)))), (1, .inl (p))]) (st' := [.inl (2000), .inl (qz_I h r 1)]) rfl ?_
  refine ez_icmp rfl rfl ⟨by first | omega | exact (sz_i32 _).1, by first | omega | exact (sz_i32 _).2⟩ ⟨by first | omega | exact (sz_i32 _).1, by first | omega | exact (sz_i32 _).2⟩ (fun (c2 : (qz_I h r 1) < (2000)) => ?_) (fun (c2 : ¬((qz_I h r 1) < (2000))) => ?_)
  · skip
    refine ez_go (n := 1) (pc' := 13) (L' := [(0, .inr (.inr (some (r)))), (1, .inl (p))]) (st' := [.inr (.inr (some (r)))]) rfl ?_
    refine ez_g3 hB tr rfl rfl tq_1 rfl rfl (fun (t3 : _ = 2) => ?_)
    refine ez_go (n := 1) (pc' := 17) (L' := [(0, .inr (.inr (some (r)))), (1, .inl (p))]) (st' := [.inr (.inr (some (r))), .inr (.inr (some (r + 1)))]) rfl ?_
    refine ez_gI hB tr rfl rfl tq_1 rfl rfl (fun (b4 : 0 ≤ qz_I h r 1) (b4' : qz_I h r 1 ≤ 2000) => ?_)
    refine ez_go (n := 1) (pc' := 21) (L' := [(0, .inr (.inr (some (r)))), (1, .inl (p))]) (st' := [.inl (p), .inl (qz_I h r 1), .inr (.inr (some (r + 1)))]) rfl ?_
    have n7 : 2000 ≤ qz_N h (r + 1) ∧ qz_N h (r + 1) ≤ 2000 := ez_len hB t3 tq_2 rfl
    refine ez_as hB t3 rfl tq_2 rfl rfl (by omega) (by omega) (ez_vdI rfl rfl (by omega) (by omega)) (fun hB5 w6 => ?_)
    have ex : qz_I (dz_put h (r + 1) (qz_I h r 1).toNat (ez_v (.inl (p)))) r 1 = qz_I h r 1 := ez_put_I (fun w => by omega)
    refine ez_go (n := 2) (pc' := 24) (L' := [(0, .inr (.inr (some (r)))), (1, .inl (p))]) (st' := [.inr (.inr (some (r))), .inr (.inr (some (r)))]) rfl ?_
    refine ez_gI hB5 tr rfl rfl tq_1 rfl rfl (fun (b8 : 0 ≤ qz_I (dz_put h (r + 1) (qz_I h r 1).toNat (ez_v (.inl (p)))) r 1) (b8' : qz_I (dz_put h (r + 1) (qz_I h r 1).toNat (ez_v (.inl (p)))) r 1 ≤ 2000) => ?_)
    refine ez_go (n := 2) (pc' := 29) (L' := [(0, .inr (.inr (some (r)))), (1, .inl (p))]) (st' := [.inl ((qz_I (dz_put h (r + 1) (qz_I h r 1).toNat (ez_v (.inl (p)))) r 1) + (1)), .inr (.inr (some (r)))]) rfl ?_
    refine ez_pf hB5 tr rfl rfl tq_1 rfl rfl rfl rfl (ez_vdI rfl rfl (by omega) (by omega)) (fun hB9 w10 => ?_)
    refine ez_go (n := 1) (pc' := 33) (L' := [(0, .inr (.inr (some (r)))), (1, .inl (p))]) (st' := [.inl (1)]) rfl ?_
    have hn : r ≠ r + 1 := by omega
    refine ez_retZ rfl rfl (Or.inr rfl) (k1 (by have := a.1; omega) _ hB9 (((ez_fr.refl (tx_P r) h).put (tx_Pb r) _ _).put (tx_Pa r) _ _) (tx_add a ?_ ?_ (fun j hj => ?_)))
    · rw [w10, ez_put_I (fun w => by omega)]; exact ez_rg.v ⟨by omega, by omega⟩
    · rw [ez_put_I (fun w => by omega), w6]; exact ez_rg.v pr
    · rw [ez_put_I (fun w => by omega), ez_put_I (fun w => hj w.2)]
  · skip
    refine ez_go (n := 1) (pc' := 11) (L' := [(0, .inr (.inr (some (r)))), (1, .inl (p))]) (st' := [.inl (0)]) rfl ?_
    exact ez_retZ rfl rfl (Or.inl rfl) (k0 (by have := a.1; omega))

theorem rd_txa_s {p : Int} (hB : ez_B τ h) (tr : τ r = 88) (a : tx h r l) (pr : ez_rg p) (k1 : l.length < 2000 → ∀ g, ez_B τ g → ez_fr (tx_P r) h g → tx g r (l ++ [p]) → Q (.inl (some (ez_v (.inl 1))), g)) (k0 : 2000 ≤ l.length → Q (.inl (some (ez_v (.inl 0))), h)) : ez_W d cm_189 0 [(0, .inr (.inr (some (r)))), (1, .inl (p))] [] h Q := by
  obtain ⟨pr1, pr2⟩ := id pr
  refine ez_go (n := 1) (pc' := 1) (L' := [(0, .inr (.inr (some (r)))), (1, .inl (p))]) (st' := [.inr (.inr (some (r)))]) rfl ?_
  refine ez_gI hB tr rfl rfl tq_88 rfl rfl (fun (b1 : 0 ≤ qz_I h r 1) (b1' : qz_I h r 1 ≤ 2000) => ?_)
  refine ez_go (n := 1) (pc' := 7) (L' := [(0, .inr (.inr (some (r)))), (1, .inl (p))]) (st' := [.inl (2000), .inl (qz_I h r 1)]) rfl ?_
  refine ez_icmp rfl rfl ⟨by first | omega | exact (sz_i32 _).1, by first | omega | exact (sz_i32 _).2⟩ ⟨by first | omega | exact (sz_i32 _).1, by first | omega | exact (sz_i32 _).2⟩ (fun (c2 : (qz_I h r 1) < (2000)) => ?_) (fun (c2 : ¬((qz_I h r 1) < (2000))) => ?_)
  · skip
    refine ez_go (n := 1) (pc' := 13) (L' := [(0, .inr (.inr (some (r)))), (1, .inl (p))]) (st' := [.inr (.inr (some (r)))]) rfl ?_
    refine ez_g3 hB tr rfl rfl tq_88 rfl rfl (fun (t3 : _ = 89) => ?_)
    refine ez_go (n := 1) (pc' := 17) (L' := [(0, .inr (.inr (some (r)))), (1, .inl (p))]) (st' := [.inr (.inr (some (r))), .inr (.inr (some (r + 1)))]) rfl ?_
    refine ez_gI hB tr rfl rfl tq_88 rfl rfl (fun (b4 : 0 ≤ qz_I h r 1) (b4' : qz_I h r 1 ≤ 2000) => ?_)
    refine ez_go (n := 1) (pc' := 21) (L' := [(0, .inr (.inr (some (r)))), (1, .inl (p))]) (st' := [.inl (p), .inl (qz_I h r 1), .inr (.inr (some (r + 1)))]) rfl ?_
    have n7 : 2000 ≤ qz_N h (r + 1) ∧ qz_N h (r + 1) ≤ 2000 := ez_len hB t3 tq_89 rfl
    refine ez_as hB t3 rfl tq_89 rfl rfl (by omega) (by omega) (ez_vdI rfl rfl (by omega) (by omega)) (fun hB5 w6 => ?_)
    have ex : qz_I (dz_put h (r + 1) (qz_I h r 1).toNat (ez_v (.inl (p)))) r 1 = qz_I h r 1 := ez_put_I (fun w => by omega)
    refine ez_go (n := 2) (pc' := 24) (L' := [(0, .inr (.inr (some (r)))), (1, .inl (p))]) (st' := [.inr (.inr (some (r))), .inr (.inr (some (r)))]) rfl ?_
    refine ez_gI hB5 tr rfl rfl tq_88 rfl rfl (fun (b8 : 0 ≤ qz_I (dz_put h (r + 1) (qz_I h r 1).toNat (ez_v (.inl (p)))) r 1) (b8' : qz_I (dz_put h (r + 1) (qz_I h r 1).toNat (ez_v (.inl (p)))) r 1 ≤ 2000) => ?_)
    refine ez_go (n := 2) (pc' := 29) (L' := [(0, .inr (.inr (some (r)))), (1, .inl (p))]) (st' := [.inl ((qz_I (dz_put h (r + 1) (qz_I h r 1).toNat (ez_v (.inl (p)))) r 1) + (1)), .inr (.inr (some (r)))]) rfl ?_
    refine ez_pf hB5 tr rfl rfl tq_88 rfl rfl rfl rfl (ez_vdI rfl rfl (by omega) (by omega)) (fun hB9 w10 => ?_)
    refine ez_go (n := 1) (pc' := 33) (L' := [(0, .inr (.inr (some (r)))), (1, .inl (p))]) (st' := [.inl (1)]) rfl ?_
    have hn : r ≠ r + 1 := by omega
    refine ez_retZ rfl rfl (Or.inr rfl) (k1 (by have := a.1; omega) _ hB9 (((ez_fr.refl (tx_P r) h).put (tx_Pb r) _ _).put (tx_Pa r) _ _) (tx_add a ?_ ?_ (fun j hj => ?_)))
    · rw [w10, ez_put_I (fun w => by omega)]; exact ez_rg.v ⟨by omega, by omega⟩
    · rw [ez_put_I (fun w => by omega), w6]; exact ez_rg.v pr
    · rw [ez_put_I (fun w => by omega), ez_put_I (fun w => hj w.2)]
  · skip
    refine ez_go (n := 1) (pc' := 11) (L' := [(0, .inr (.inr (some (r)))), (1, .inl (p))]) (st' := [.inl (0)]) rfl ?_
    exact ez_retZ rfl rfl (Or.inl rfl) (k0 (by have := a.1; omega))

theorem tx_app {g : cz_H} {m : List Int} (a : tx h r l) (e1 : qz_I g r 1 = qz_I h r 1 + (m.length : Int)) (e2 : ∀ (j : Nat) v, m[j]? = some v → qz_I g (r + 1) (l.length + j) = v) (e3 : ∀ j, j < l.length → qz_I g (r + 1) j = qz_I h (r + 1) j) : tx g r (l ++ m) := by
  have hl := a.1
  refine ⟨by rw [e1, hl, List.length_append]; omega, fun j v hv => ?_⟩
  by_cases e : j < l.length
  · rw [List.getElem?_append_left e] at hv
    rw [e3 j e]; exact a.2 j v hv
  · rw [List.getElem?_append_right (by omega)] at hv
    have := e2 _ v hv
    rw [show l.length + (j - l.length) = j by omega] at this; exact this
theorem rd_appRow_l {w : Nat} {f n : Int} {m : List Int} (tr : τ r = 1) (tw : τ w = 5) (a : tx h r l) (hw : w ≠ r + 1) (hm : (m.length : Int) = n) (f0 : 0 ≤ f) (f1 : f + n ≤ qz_N h w) (f2 : f + n ≤ 100000) (hv2 : ∀ (j : Nat) v, m[j]? = some v → qz_I h w (f + (j : Int)).toNat = v) (hr : ∀ (j : Nat) v, m[j]? = some v → ez_rg v) (hroom : l.length + m.length ≤ 2000) (k1 : l.length + m.length ≤ 2000 → ∀ g, ez_B τ g → ez_fr (tx_P r) h g → tx g r (l ++ m) → Q (.inl (some (ez_v (.inl 1))), g)) : ∀ (c : Nat) (i : Int) (g : cz_H), c = (n - i).toNat → 0 ≤ i → i ≤ n → ez_B τ g → ez_fr (ez_one (r + 1)) h g → (∀ (j : Nat) v, (j : Int) < i → m[j]? = some v → qz_I g (r + 1) (l.length + j) = v) → (∀ j, j < l.length → qz_I g (r + 1) j = qz_I h (r + 1) j) → ez_W d cm_190 17 [(4, .inl (i)), (0, .inr (.inr (some (r)))), (1, .inr (.inr (some (w)))), (2, .inl (f)), (3, .inl (n))] [] g Q := by
  intro c
  induction c with
  | zero =>
    intro i g hc i0 i1 hBg hf e2 e3
    have hl := a.1
    have x1 : qz_I g r 1 = qz_I h r 1 := hf.I (dz_beq_ne (by omega)) 1
    have xw : ∀ j, qz_I g w j = qz_I h w j := fun j => hf.I (dz_beq_ne hw) j
    have xn : qz_N g w = qz_N h w := hf.N (dz_beq_ne hw)
    refine ez_go (n := 2) (pc' := 20) (L' := [(4, .inl (i)), (0, .inr (.inr (some (r)))), (1, .inr (.inr (some (w)))), (2, .inl (f)), (3, .inl (n))]) (st' := [.inl (n), .inl (i)]) rfl ?_
    refine ez_icmp rfl rfl ⟨by first | omega | exact (sz_i32 _).1, by first | omega | exact (sz_i32 _).2⟩ ⟨by first | omega | exact (sz_i32 _).1, by first | omega | exact (sz_i32 _).2⟩ (fun (c1 : (n) ≤ (i)) => ?_) (fun (c1 : ¬((n) ≤ (i))) => ?_)
    · skip
      refine ez_go (n := 2) (pc' := 49) (L' := [(4, .inl (i)), (0, .inr (.inr (some (r)))), (1, .inr (.inr (some (w)))), (2, .inl (f)), (3, .inl (n))]) (st' := [.inr (.inr (some (r))), .inr (.inr (some (r)))]) rfl ?_
      refine ez_gI hBg tr rfl rfl tq_1 rfl rfl (fun (b2 : 0 ≤ qz_I g r 1) (b2' : qz_I g r 1 ≤ 2000) => ?_)
      refine ez_go (n := 2) (pc' := 54) (L' := [(4, .inl (i)), (0, .inr (.inr (some (r)))), (1, .inr (.inr (some (w)))), (2, .inl (f)), (3, .inl (n))]) (st' := [.inl ((qz_I g r 1) + (n)), .inr (.inr (some (r)))]) rfl ?_
      refine ez_pf hBg tr rfl rfl tq_1 rfl rfl rfl rfl (ez_vdI rfl rfl (by omega) (by omega)) (fun hB3 w4 => ?_)
      refine ez_go (n := 1) (pc' := 58) (L' := [(4, .inl (i)), (0, .inr (.inr (some (r)))), (1, .inr (.inr (some (w)))), (2, .inl (f)), (3, .inl (n))]) (st' := [.inl (1)]) rfl ?_
      have ei : i = (m.length : Int) := by omega
      subst ei
      refine ez_retZ rfl rfl (Or.inr rfl) (k1 (by omega) _ hB3 ((ez_fr_mono hf (fun z hz => by unfold ez_one at hz; rw [Nat.eq_of_beq_eq_true hz]; exact tx_Pb r)).put (tx_Pa r) _ _) (tx_app a ?_ (fun j v hj => ?_) (fun j hj => ?_)))
      · rw [w4, x1, hm]; exact ez_rg.v ⟨by omega, by omega⟩
      · rw [ez_put_I (fun w => by omega)]; exact e2 j v (by have := (List.getElem?_eq_some_iff.mp hj).1; omega) hj
      · rw [ez_put_I (fun w => by omega)]; exact e3 j hj
    · exfalso; omega
  | succ c ih =>
    intro i g hc i0 i1 hBg hf e2 e3
    have hl := a.1
    have x1 : qz_I g r 1 = qz_I h r 1 := hf.I (dz_beq_ne (by omega)) 1
    have xw : ∀ j, qz_I g w j = qz_I h w j := fun j => hf.I (dz_beq_ne hw) j
    have xn : qz_N g w = qz_N h w := hf.N (dz_beq_ne hw)
    refine ez_go (n := 2) (pc' := 20) (L' := [(4, .inl (i)), (0, .inr (.inr (some (r)))), (1, .inr (.inr (some (w)))), (2, .inl (f)), (3, .inl (n))]) (st' := [.inl (n), .inl (i)]) rfl ?_
    refine ez_icmp rfl rfl ⟨by first | omega | exact (sz_i32 _).1, by first | omega | exact (sz_i32 _).2⟩ ⟨by first | omega | exact (sz_i32 _).1, by first | omega | exact (sz_i32 _).2⟩ (fun (c1 : (n) ≤ (i)) => ?_) (fun (c1 : ¬((n) ≤ (i))) => ?_)
    · exfalso; omega
    · skip
      refine ez_go (n := 1) (pc' := 24) (L' := [(4, .inl (i)), (0, .inr (.inr (some (r)))), (1, .inr (.inr (some (w)))), (2, .inl (f)), (3, .inl (n))]) (st' := [.inr (.inr (some (r)))]) rfl ?_
      refine ez_g3 hBg tr rfl rfl tq_1 rfl rfl (fun (t2 : _ = 2) => ?_)
      refine ez_go (n := 1) (pc' := 28) (L' := [(4, .inl (i)), (0, .inr (.inr (some (r)))), (1, .inr (.inr (some (w)))), (2, .inl (f)), (3, .inl (n))]) (st' := [.inr (.inr (some (r))), .inr (.inr (some (r + 1)))]) rfl ?_
      refine ez_gI hBg tr rfl rfl tq_1 rfl rfl (fun (b3 : 0 ≤ qz_I g r 1) (b3' : qz_I g r 1 ≤ 2000) => ?_)
      refine ez_go (n := 6) (pc' := 39) (L' := [(4, .inl (i)), (0, .inr (.inr (some (r)))), (1, .inr (.inr (some (w)))), (2, .inl (f)), (3, .inl (n))]) (st' := [.inl ((f) + (i)), .inr (.inr (some (w))), .inl ((qz_I g r 1) + (i)), .inr (.inr (some (r + 1)))]) rfl ?_
      have n5 : 0 ≤ qz_N g w ∧ qz_N g w ≤ 18 := ez_len hBg tw tq_5 rfl
      refine ez_aI hBg tw rfl tq_5 rfl rfl (by omega) (by omega) (fun (b4 : -2147483648 ≤ qz_I g w ((f) + (i)).toNat) (b4' : qz_I g w ((f) + (i)).toNat ≤ 2147483647) => ?_)
      have n8 : 2000 ≤ qz_N g (r + 1) ∧ qz_N g (r + 1) ≤ 2000 := ez_len hBg t2 tq_2 rfl
      refine ez_as hBg t2 rfl tq_2 rfl rfl (by omega) (by omega) (ez_vdI rfl rfl (by omega) (by omega)) (fun hB6 w7 => ?_)
      refine ez_go (n := 2) (pc' := 17) (L' := [(4, .inl (i + 1)), (0, .inr (.inr (some (r)))), (1, .inr (.inr (some (w)))), (2, .inl (f)), (3, .inl (n))]) (st' := []) rfl ?_
      refine ez_less [(4, .inl (i + 1)), (0, .inr (.inr (some (r)))), (1, .inr (.inr (some (w)))), (2, .inl (f)), (3, .inl (n))] rfl ⟨rfl, rfl, rfl, rfl, rfl, trivial⟩ ?_
      refine ih _ _ (by omega) (by omega) (by omega) hB6 (hf.put (show Nat.beq (r + 1) (r + 1) = true from Nat.beq_refl _) _ _) (fun j v hj hv => ?_) (fun j hj => ?_)
      · by_cases ej : (j : Int) = i
        · have q1 : (qz_I g r 1 + i).toNat = l.length + j := by omega
          rw [q1] at w7 ⊢
          rw [w7]
          have q2 := hv2 j v hv
          rw [show qz_I g w (f + i).toNat = v by rw [xw, ← ej]; exact hv2 j v hv]; exact ez_rg.v (hr j v hv)
        · rw [ez_put_I (fun w => by omega)]; exact e2 j v (by omega) hv
      · rw [ez_put_I (fun w => by omega)]; exact e3 j hj
theorem rd_appRow {w : Nat} {f n : Int} {m : List Int} (tr : τ r = 1) (tw : τ w = 5) (a : tx h r l) (hw : w ≠ r + 1) (hm : (m.length : Int) = n) (f0 : 0 ≤ f) (f1 : f + n ≤ qz_N h w) (f2 : f + n ≤ 100000) (hv2 : ∀ (j : Nat) v, m[j]? = some v → qz_I h w (f + (j : Int)).toNat = v) (hr : ∀ (j : Nat) v, m[j]? = some v → ez_rg v) (hB : ez_B τ h) (k1 : l.length + m.length ≤ 2000 → ∀ g, ez_B τ g → ez_fr (tx_P r) h g → tx g r (l ++ m) → Q (.inl (some (ez_v (.inl 1))), g)) (k0 : 2000 < l.length + m.length → Q (.inl (some (ez_v (.inl 0))), h)) : ez_W d cm_190 0 [(0, .inr (.inr (some (r)))), (1, .inr (.inr (some (w)))), (2, .inl (f)), (3, .inl (n))] [] h Q := by
  have al := a.1
  refine ez_go (n := 1) (pc' := 1) (L' := [(0, .inr (.inr (some (r)))), (1, .inr (.inr (some (w)))), (2, .inl (f)), (3, .inl (n))]) (st' := [.inr (.inr (some (r)))]) rfl ?_
  refine ez_gI hB tr rfl rfl tq_1 rfl rfl (fun (b1 : 0 ≤ qz_I h r 1) (b1' : qz_I h r 1 ≤ 2000) => ?_)
  refine ez_go (n := 3) (pc' := 9) (L' := [(0, .inr (.inr (some (r)))), (1, .inr (.inr (some (w)))), (2, .inl (f)), (3, .inl (n))]) (st' := [.inl (2000), .inl ((qz_I h r 1) + (n))]) rfl ?_
  refine ez_icmp rfl rfl ⟨by first | omega | exact (sz_i32 _).1, by first | omega | exact (sz_i32 _).2⟩ ⟨by first | omega | exact (sz_i32 _).1, by first | omega | exact (sz_i32 _).2⟩ (fun (c2 : ((qz_I h r 1) + (n)) ≤ (2000)) => ?_) (fun (c2 : ¬(((qz_I h r 1) + (n)) ≤ (2000))) => ?_)
  · skip
    refine ez_go (n := 2) (pc' := 17) (L' := [(4, .inl (0)), (0, .inr (.inr (some (r)))), (1, .inr (.inr (some (w)))), (2, .inl (f)), (3, .inl (n))]) (st' := []) rfl ?_
    refine ez_less [(4, .inl (0)), (0, .inr (.inr (some (r)))), (1, .inr (.inr (some (w)))), (2, .inl (f)), (3, .inl (n))] rfl ⟨rfl, rfl, rfl, rfl, rfl, trivial⟩ ?_
    exact rd_appRow_l (h := h) tr tw a hw hm f0 f1 f2 hv2 hr (by have := a.1; omega) k1 _ 0 h rfl (by omega) (by omega) hB (ez_fr.refl _ _) (fun j v hj => absurd hj (by omega)) (fun j hj => rfl)
  · skip
    refine ez_go (n := 1) (pc' := 13) (L' := [(0, .inr (.inr (some (r)))), (1, .inr (.inr (some (w)))), (2, .inl (f)), (3, .inl (n))]) (st' := [.inl (0)]) rfl ?_
    exact ez_retZ rfl rfl (Or.inl rfl) (k0 (by have := a.1; omega))

theorem rd_appRow_l_p {f n : Int} {m : List Int} (tr : τ r = 1) (tw : τ 724 = 56) (a : tx h r l) (hw : 724 ≠ r + 1) (hm : (m.length : Int) = n) (f0 : 0 ≤ f) (f1 : f + n ≤ qz_N h 724) (f2 : f + n ≤ 100000) (hv2 : ∀ (j : Nat) v, m[j]? = some v → qz_I h 724 (f + (j : Int)).toNat = v) (hr : ∀ (j : Nat) v, m[j]? = some v → ez_rg v) (hroom : l.length + m.length ≤ 2000) (k1 : l.length + m.length ≤ 2000 → ∀ g, ez_B τ g → ez_fr (tx_P r) h g → tx g r (l ++ m) → Q (.inl (some (ez_v (.inl 1))), g)) : ∀ (c : Nat) (i : Int) (g : cz_H), c = (n - i).toNat → 0 ≤ i → i ≤ n → ez_B τ g → ez_fr (ez_one (r + 1)) h g → (∀ (j : Nat) v, (j : Int) < i → m[j]? = some v → qz_I g (r + 1) (l.length + j) = v) → (∀ j, j < l.length → qz_I g (r + 1) j = qz_I h (r + 1) j) → ez_W d cm_190 17 [(4, .inl (i)), (0, .inr (.inr (some (r)))), (1, .inr (.inr (some (724)))), (2, .inl (f)), (3, .inl (n))] [] g Q := by
  intro c
  induction c with
  | zero =>
    intro i g hc i0 i1 hBg hf e2 e3
    have hl := a.1
    have x1 : qz_I g r 1 = qz_I h r 1 := hf.I (dz_beq_ne (by omega)) 1
    have xw : ∀ j, qz_I g 724 j = qz_I h 724 j := fun j => hf.I (dz_beq_ne hw) j
    have xn : qz_N g 724 = qz_N h 724 := hf.N (dz_beq_ne hw)
    refine ez_go (n := 2) (pc' := 20) (L' := [(4, .inl (i)), (0, .inr (.inr (some (r)))), (1, .inr (.inr (some (724)))), (2, .inl (f)), (3, .inl (n))]) (st' := [.inl (n), .inl (i)]) rfl ?_
    refine ez_icmp rfl rfl ⟨by first | omega | exact (sz_i32 _).1, by first | omega | exact (sz_i32 _).2⟩ ⟨by first | omega | exact (sz_i32 _).1, by first | omega | exact (sz_i32 _).2⟩ (fun (c1 : (n) ≤ (i)) => ?_) (fun (c1 : ¬((n) ≤ (i))) => ?_)
    · skip
      refine ez_go (n := 2) (pc' := 49) (L' := [(4, .inl (i)), (0, .inr (.inr (some (r)))), (1, .inr (.inr (some (724)))), (2, .inl (f)), (3, .inl (n))]) (st' := [.inr (.inr (some (r))), .inr (.inr (some (r)))]) rfl ?_
      refine ez_gI hBg tr rfl rfl tq_1 rfl rfl (fun (b2 : 0 ≤ qz_I g r 1) (b2' : qz_I g r 1 ≤ 2000) => ?_)
      refine ez_go (n := 2) (pc' := 54) (L' := [(4, .inl (i)), (0, .inr (.inr (some (r)))), (1, .inr (.inr (some (724)))), (2, .inl (f)), (3, .inl (n))]) (st' := [.inl ((qz_I g r 1) + (n)), .inr (.inr (some (r)))]) rfl ?_
      refine ez_pf hBg tr rfl rfl tq_1 rfl rfl rfl rfl (ez_vdI rfl rfl (by omega) (by omega)) (fun hB3 w4 => ?_)
      refine ez_go (n := 1) (pc' := 58) (L' := [(4, .inl (i)), (0, .inr (.inr (some (r)))), (1, .inr (.inr (some (724)))), (2, .inl (f)), (3, .inl (n))]) (st' := [.inl (1)]) rfl ?_
      have ei : i = (m.length : Int) := by omega
      subst ei
      refine ez_retZ rfl rfl (Or.inr rfl) (k1 (by omega) _ hB3 ((ez_fr_mono hf (fun z hz => by unfold ez_one at hz; rw [Nat.eq_of_beq_eq_true hz]; exact tx_Pb r)).put (tx_Pa r) _ _) (tx_app a ?_ (fun j v hj => ?_) (fun j hj => ?_)))
      · rw [w4, x1, hm]; exact ez_rg.v ⟨by omega, by omega⟩
      · rw [ez_put_I (fun w => by omega)]; exact e2 j v (by have := (List.getElem?_eq_some_iff.mp hj).1; omega) hj
      · rw [ez_put_I (fun w => by omega)]; exact e3 j hj
    · exfalso; omega
  | succ c ih =>
    intro i g hc i0 i1 hBg hf e2 e3
    have hl := a.1
    have x1 : qz_I g r 1 = qz_I h r 1 := hf.I (dz_beq_ne (by omega)) 1
    have xw : ∀ j, qz_I g 724 j = qz_I h 724 j := fun j => hf.I (dz_beq_ne hw) j
    have xn : qz_N g 724 = qz_N h 724 := hf.N (dz_beq_ne hw)
    refine ez_go (n := 2) (pc' := 20) (L' := [(4, .inl (i)), (0, .inr (.inr (some (r)))), (1, .inr (.inr (some (724)))), (2, .inl (f)), (3, .inl (n))]) (st' := [.inl (n), .inl (i)]) rfl ?_
    refine ez_icmp rfl rfl ⟨by first | omega | exact (sz_i32 _).1, by first | omega | exact (sz_i32 _).2⟩ ⟨by first | omega | exact (sz_i32 _).1, by first | omega | exact (sz_i32 _).2⟩ (fun (c1 : (n) ≤ (i)) => ?_) (fun (c1 : ¬((n) ≤ (i))) => ?_)
    · exfalso; omega
    · skip
      refine ez_go (n := 1) (pc' := 24) (L' := [(4, .inl (i)), (0, .inr (.inr (some (r)))), (1, .inr (.inr (some (724)))), (2, .inl (f)), (3, .inl (n))]) (st' := [.inr (.inr (some (r)))]) rfl ?_
      refine ez_g3 hBg tr rfl rfl tq_1 rfl rfl (fun (t2 : _ = 2) => ?_)
      refine ez_go (n := 1) (pc' := 28) (L' := [(4, .inl (i)), (0, .inr (.inr (some (r)))), (1, .inr (.inr (some (724)))), (2, .inl (f)), (3, .inl (n))]) (st' := [.inr (.inr (some (r))), .inr (.inr (some (r + 1)))]) rfl ?_
      refine ez_gI hBg tr rfl rfl tq_1 rfl rfl (fun (b3 : 0 ≤ qz_I g r 1) (b3' : qz_I g r 1 ≤ 2000) => ?_)
      refine ez_go (n := 6) (pc' := 39) (L' := [(4, .inl (i)), (0, .inr (.inr (some (r)))), (1, .inr (.inr (some (724)))), (2, .inl (f)), (3, .inl (n))]) (st' := [.inl ((f) + (i)), .inr (.inr (some (724))), .inl ((qz_I g r 1) + (i)), .inr (.inr (some (r + 1)))]) rfl ?_
      have n5 : 20480 ≤ qz_N g 724 ∧ qz_N g 724 ≤ 20480 := ez_len hBg tw tq_56 rfl
      refine ez_aI hBg tw rfl tq_56 rfl rfl (by omega) (by omega) (fun (b4 : -2147483648 ≤ qz_I g 724 ((f) + (i)).toNat) (b4' : qz_I g 724 ((f) + (i)).toNat ≤ 2147483647) => ?_)
      have n8 : 2000 ≤ qz_N g (r + 1) ∧ qz_N g (r + 1) ≤ 2000 := ez_len hBg t2 tq_2 rfl
      refine ez_as hBg t2 rfl tq_2 rfl rfl (by omega) (by omega) (ez_vdI rfl rfl (by omega) (by omega)) (fun hB6 w7 => ?_)
      refine ez_go (n := 2) (pc' := 17) (L' := [(4, .inl (i + 1)), (0, .inr (.inr (some (r)))), (1, .inr (.inr (some (724)))), (2, .inl (f)), (3, .inl (n))]) (st' := []) rfl ?_
      refine ez_less [(4, .inl (i + 1)), (0, .inr (.inr (some (r)))), (1, .inr (.inr (some (724)))), (2, .inl (f)), (3, .inl (n))] rfl ⟨rfl, rfl, rfl, rfl, rfl, trivial⟩ ?_
      refine ih _ _ (by omega) (by omega) (by omega) hB6 (hf.put (show Nat.beq (r + 1) (r + 1) = true from Nat.beq_refl _) _ _) (fun j v hj hv => ?_) (fun j hj => ?_)
      · by_cases ej : (j : Int) = i
        · have q1 : (qz_I g r 1 + i).toNat = l.length + j := by omega
          rw [q1] at w7 ⊢
          rw [w7]
          have q2 := hv2 j v hv
          rw [show qz_I g 724 (f + i).toNat = v by rw [xw, ← ej]; exact hv2 j v hv]; exact ez_rg.v (hr j v hv)
        · rw [ez_put_I (fun w => by omega)]; exact e2 j v (by omega) hv
      · rw [ez_put_I (fun w => by omega)]; exact e3 j hj
theorem rd_appRow_p {f n : Int} {m : List Int} (tr : τ r = 1) (tw : τ 724 = 56) (a : tx h r l) (hw : 724 ≠ r + 1) (hm : (m.length : Int) = n) (f0 : 0 ≤ f) (f1 : f + n ≤ qz_N h 724) (f2 : f + n ≤ 100000) (hv2 : ∀ (j : Nat) v, m[j]? = some v → qz_I h 724 (f + (j : Int)).toNat = v) (hr : ∀ (j : Nat) v, m[j]? = some v → ez_rg v) (hB : ez_B τ h) (k1 : l.length + m.length ≤ 2000 → ∀ g, ez_B τ g → ez_fr (tx_P r) h g → tx g r (l ++ m) → Q (.inl (some (ez_v (.inl 1))), g)) (k0 : 2000 < l.length + m.length → Q (.inl (some (ez_v (.inl 0))), h)) : ez_W d cm_190 0 [(0, .inr (.inr (some (r)))), (1, .inr (.inr (some (724)))), (2, .inl (f)), (3, .inl (n))] [] h Q := by
  have al := a.1
  refine ez_go (n := 1) (pc' := 1) (L' := [(0, .inr (.inr (some (r)))), (1, .inr (.inr (some (724)))), (2, .inl (f)), (3, .inl (n))]) (st' := [.inr (.inr (some (r)))]) rfl ?_
  refine ez_gI hB tr rfl rfl tq_1 rfl rfl (fun (b1 : 0 ≤ qz_I h r 1) (b1' : qz_I h r 1 ≤ 2000) => ?_)
  refine ez_go (n := 3) (pc' := 9) (L' := [(0, .inr (.inr (some (r)))), (1, .inr (.inr (some (724)))), (2, .inl (f)), (3, .inl (n))]) (st' := [.inl (2000), .inl ((qz_I h r 1) + (n))]) rfl ?_
  refine ez_icmp rfl rfl ⟨by first | omega | exact (sz_i32 _).1, by first | omega | exact (sz_i32 _).2⟩ ⟨by first | omega | exact (sz_i32 _).1, by first | omega | exact (sz_i32 _).2⟩ (fun (c2 : ((qz_I h r 1) + (n)) ≤ (2000)) => ?_) (fun (c2 : ¬(((qz_I h r 1) + (n)) ≤ (2000))) => ?_)
  · skip
    refine ez_go (n := 2) (pc' := 17) (L' := [(4, .inl (0)), (0, .inr (.inr (some (r)))), (1, .inr (.inr (some (724)))), (2, .inl (f)), (3, .inl (n))]) (st' := []) rfl ?_
    refine ez_less [(4, .inl (0)), (0, .inr (.inr (some (r)))), (1, .inr (.inr (some (724)))), (2, .inl (f)), (3, .inl (n))] rfl ⟨rfl, rfl, rfl, rfl, rfl, trivial⟩ ?_
    exact rd_appRow_l_p (h := h) tr tw a hw hm f0 f1 f2 hv2 hr (by have := a.1; omega) k1 _ 0 h rfl (by omega) (by omega) hB (ez_fr.refl _ _) (fun j v hj => absurd hj (by omega)) (fun j hj => rfl)
  · skip
    refine ez_go (n := 1) (pc' := 13) (L' := [(0, .inr (.inr (some (r)))), (1, .inr (.inr (some (724)))), (2, .inl (f)), (3, .inl (n))]) (st' := [.inl (0)]) rfl ?_
    exact ez_retZ rfl rfl (Or.inl rfl) (k0 (by have := a.1; omega))

theorem rd_takePart {q : Nat} {i j : Int} (hB : ez_B τ h) (tr : τ r = 88) (tq : τ q = 1) (a : tx h q l) (i0 : 0 ≤ i) (ij : i ≤ j) (jl : j ≤ (l.length : Int)) (k : ∀ g, ez_B τ g → ez_fr (tx_P r) h g → tx g r (pt l i j) → Q (.inl none, g)) : ez_W (d + 1) cm_192 0 [(0, .inr (.inr (some (r)))), (1, .inr (.inr (some (q)))), (2, .inl (i)), (3, .inl (j))] [] h Q := by
  have ll : (l.length : Int) ≤ 2000 := by have := a.1; have := tx_l1 hB tq; omega
  refine ez_go (n := 1) (pc' := 1) (L' := [(0, .inr (.inr (some (r)))), (1, .inr (.inr (some (q)))), (2, .inl (i)), (3, .inl (j))]) (st' := [.inr (.inr (some (q)))]) rfl ?_
  refine ez_g3 hB tq rfl rfl tq_1 rfl rfl (fun (t1 : _ = 2) => ?_)
  refine ez_go (n := 2) (pc' := 6) (L' := [(0, .inr (.inr (some (r)))), (1, .inr (.inr (some (q)))), (2, .inl (i)), (3, .inl (j))]) (st' := [.inr (.inr (some (r))), .inl (i), .inr (.inr (some (q + 1)))]) rfl ?_
  refine ez_g3 hB tr rfl rfl tq_88 rfl rfl (fun (t2 : _ = 89) => ?_)
  refine ez_go (n := 4) (pc' := 13) (L' := [(0, .inr (.inr (some (r)))), (1, .inr (.inr (some (q)))), (2, .inl (i)), (3, .inl (j))]) (st' := [.inl ((j) - (i)), .inl (0), .inr (.inr (some (r + 1))), .inl (i), .inr (.inr (some (q + 1)))]) rfl ?_
  have n3 : 2000 ≤ qz_N h (q + 1) ∧ qz_N h (q + 1) ≤ 2000 := ez_len hB t1 tq_2 rfl
  have n4 : 2000 ≤ qz_N h (r + 1) ∧ qz_N h (r + 1) ≤ 2000 := ez_len hB t2 tq_89 rfl
  refine ez_ac hB t1 t2 tq_2 tq_89 rfl rfl rfl rfl rfl rfl rfl (by omega) (by omega) (by omega) (by omega) (by omega) (fun g hBg fg ng ig => ?_)
  refine ez_go (n := 4) (pc' := 20) (L' := [(0, .inr (.inr (some (r)))), (1, .inr (.inr (some (q)))), (2, .inl (i)), (3, .inl (j))]) (st' := [.inl ((j) - (i)), .inr (.inr (some (r)))]) rfl ?_
  refine ez_pf hBg tr rfl rfl tq_88 rfl rfl rfl rfl (ez_vdI rfl rfl (by omega) (by omega)) (fun hB5 w6 => ?_)
  refine ez_ret0 rfl rfl (k _ hB5 ((ez_fr_mono fg (fun z hz => by unfold ez_one at hz; rw [Nat.eq_of_beq_eq_true hz]; exact tx_Pb r)).put (tx_Pa r) _ _) (tx_part a i0 ij jl ?_ (fun k hk => ?_)))
  · rw [w6]; exact ez_rg.v ⟨by omega, by omega⟩
  · rw [ez_put_I (fun w => by omega), ig, if_pos (by omega)]; try (congr 2 <;> omega)

theorem rd_takePart_s {q : Nat} {i j : Int} (hB : ez_B τ h) (tr : τ r = 88) (tq : τ q = 88) (a : tx h q l) (i0 : 0 ≤ i) (ij : i ≤ j) (jl : j ≤ (l.length : Int)) (k : ∀ g, ez_B τ g → ez_fr (tx_P r) h g → tx g r (pt l i j) → Q (.inl none, g)) : ez_W (d + 1) cm_192 0 [(0, .inr (.inr (some (r)))), (1, .inr (.inr (some (q)))), (2, .inl (i)), (3, .inl (j))] [] h Q := by
  have ll : (l.length : Int) ≤ 2000 := by have := a.1; have := tx_l88 hB tq; omega
  refine ez_go (n := 1) (pc' := 1) (L' := [(0, .inr (.inr (some (r)))), (1, .inr (.inr (some (q)))), (2, .inl (i)), (3, .inl (j))]) (st' := [.inr (.inr (some (q)))]) rfl ?_
  refine ez_g3 hB tq rfl rfl tq_88 rfl rfl (fun (t1 : _ = 89) => ?_)
  refine ez_go (n := 2) (pc' := 6) (L' := [(0, .inr (.inr (some (r)))), (1, .inr (.inr (some (q)))), (2, .inl (i)), (3, .inl (j))]) (st' := [.inr (.inr (some (r))), .inl (i), .inr (.inr (some (q + 1)))]) rfl ?_
  refine ez_g3 hB tr rfl rfl tq_88 rfl rfl (fun (t2 : _ = 89) => ?_)
  refine ez_go (n := 4) (pc' := 13) (L' := [(0, .inr (.inr (some (r)))), (1, .inr (.inr (some (q)))), (2, .inl (i)), (3, .inl (j))]) (st' := [.inl ((j) - (i)), .inl (0), .inr (.inr (some (r + 1))), .inl (i), .inr (.inr (some (q + 1)))]) rfl ?_
  have n3 : 2000 ≤ qz_N h (q + 1) ∧ qz_N h (q + 1) ≤ 2000 := ez_len hB t1 tq_89 rfl
  have n4 : 2000 ≤ qz_N h (r + 1) ∧ qz_N h (r + 1) ≤ 2000 := ez_len hB t2 tq_89 rfl
  refine ez_ac hB t1 t2 tq_89 tq_89 rfl rfl rfl rfl rfl rfl rfl (by omega) (by omega) (by omega) (by omega) (by omega) (fun g hBg fg ng ig => ?_)
  refine ez_go (n := 4) (pc' := 20) (L' := [(0, .inr (.inr (some (r)))), (1, .inr (.inr (some (q)))), (2, .inl (i)), (3, .inl (j))]) (st' := [.inl ((j) - (i)), .inr (.inr (some (r)))]) rfl ?_
  refine ez_pf hBg tr rfl rfl tq_88 rfl rfl rfl rfl (ez_vdI rfl rfl (by omega) (by omega)) (fun hB5 w6 => ?_)
  refine ez_ret0 rfl rfl (k _ hB5 ((ez_fr_mono fg (fun z hz => by unfold ez_one at hz; rw [Nat.eq_of_beq_eq_true hz]; exact tx_Pb r)).put (tx_Pa r) _ _) (tx_part a i0 ij jl ?_ (fun k hk => ?_)))
  · rw [w6]; exact ez_rg.v ⟨by omega, by omega⟩
  · rw [ez_put_I (fun w => by omega), ig, if_pos (by omega)]; try (congr 2 <;> omega)

end EzTx
