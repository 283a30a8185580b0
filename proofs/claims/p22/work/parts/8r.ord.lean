/-! The model: second, order. (Written by wip/p2/py/pv102.py.) -/
section EzSc
variable {d : Nat} {h : cz_H} {τ : Nat → Nat} {Q : cz_F → Prop} {Ls : List vz} {b : Int}
theorem rd_second_l {F : rz_W} {a : Int} (e : eD τ h F) (hp : pP h F) (ar : ez_rg a) (k1 : ∀ v : Int, (v = 0 ∨ v = 1) → Q (.inl (some (ez_v (.inl v))), h)) : ∀ (n : Nat) (k : Int), n = (pkn h - k).toNat → 0 ≤ k → k ≤ pkn h → ez_W d cm_299 2 [(2, .inl (k)), (0, .inr (.inr (some (770)))), (1, .inl (a))] [] h Q := by
  have hB := e.1
  have t770 := e.2.1
  have c500 := e.2.2.1.1
  have cnp := e.2.2.1.2.2.2
  have cnb := e.2.2.1.2.2.1
  have cnd := e.2.2.1.2.1
  have td := ez_tdb hB t770
  have tt := ez_tls hB t770
  have tp := ez_tpq hB t770
  have pkd : pkn h = qz_I h 770 28 := rfl
  have hp1 := hp.1
  obtain ⟨ar0, ar1⟩ := id ar
  intro n
  induction n with
  | zero =>
    intro k hn kk0 kk1
    refine ez_go (n := 2) (pc' := 4) (L' := [(2, .inl (k)), (0, .inr (.inr (some (770)))), (1, .inl (a))]) (st' := [.inr (.inr (some (770))), .inl (k)]) rfl ?_
    refine ez_gI hB t770 rfl rfl tq_75 rfl rfl (fun (b1 : 0 ≤ qz_I h 770 28) (b1' : qz_I h 770 28 ≤ 512) => ?_)
    refine ez_icmp rfl rfl ⟨by first | omega | exact (sz_i32 _).1, by first | omega | exact (sz_i32 _).2⟩ ⟨by first | omega | exact (sz_i32 _).1, by first | omega | exact (sz_i32 _).2⟩ (fun (c2 : (qz_I h 770 28) ≤ (k)) => ?_) (fun (c2 : ¬((qz_I h 770 28) ≤ (k))) => ?_)
    · skip
      refine ez_go (n := 1) (pc' := 46) (L' := [(2, .inl (k)), (0, .inr (.inr (some (770)))), (1, .inl (a))]) (st' := [.inl (0)]) rfl ?_
      exact ez_retZ rfl rfl (Or.inl rfl) (k1 0 (Or.inl rfl))
    · skip
      refine ez_go (n := 1) (pc' := 11) (L' := [(2, .inl (k)), (0, .inr (.inr (some (770)))), (1, .inl (a))]) (st' := [.inr (.inr (some (770)))]) rfl ?_
      refine ez_gR hB t770 rfl rfl tq_75 rfl rfl (fun (t3 : _ = 17) (t3' : 1 ≤ qz_I h 770 9) => ?_)
      rw [show qz_P h 770 9 = po h from rfl]
      refine ez_go (n := 1) (pc' := 15) (L' := [(2, .inl (k)), (0, .inr (.inr (some (770)))), (1, .inl (a))]) (st' := [.inr (.inr (some (770))), .inr (.inr (some ((po h))))]) rfl ?_
      refine ez_gR hB t770 rfl rfl tq_75 rfl rfl (fun (t4 : _ = 20) (t4' : 1 ≤ qz_I h 770 22) => ?_)
      rw [show qz_P h 770 22 = bw h from rfl]
      refine ez_go (n := 1) (pc' := 19) (L' := [(2, .inl (k)), (0, .inr (.inr (some (770)))), (1, .inl (a))]) (st' := [.inr (.inr (some (770))), .inr (.inr (some ((bw h)))), .inr (.inr (some ((po h))))]) rfl ?_
      refine ez_gR hB t770 rfl rfl tq_75 rfl rfl (fun (t5 : _ = 22) (t5' : 1 ≤ qz_I h 770 27) => ?_)
      rw [show qz_P h 770 27 = pq h from rfl]
      refine ez_go (n := 1) (pc' := 23) (L' := [(2, .inl (k)), (0, .inr (.inr (some (770)))), (1, .inl (a))]) (st' := [.inl (k), .inr (.inr (some ((pq h)))), .inr (.inr (some ((bw h)))), .inr (.inr (some ((po h))))]) rfl ?_
      have n7 : 0 ≤ qz_N h ((pq h)) ∧ qz_N h ((pq h)) ≤ 512 := ez_len hB tp tq_22 rfl
      refine ez_aI hB tp rfl tq_22 rfl rfl (by omega) (by omega) (fun (b6 : 0 ≤ qz_I h ((pq h)) (k).toNat) (b6' : qz_I h ((pq h)) (k).toNat ≤ 511) => ?_)
      obtain ⟨pi1, a1, z1, pi2⟩ := hp.2 k.toNat (by omega)
      generalize eu : qz_I h ((pq h)) (k).toNat = u at *
      obtain ⟨⟨ek1, tl⟩, ⟨l7, l8⟩, cp, vs, F1, ty, hlen, hr⟩ := e.at (k := u) (by omega) (by omega)
      have t56 := e.2.2.2.2.2.2 _ tl
      generalize el : qz_P h (bw h) (u).toNat = l at tl l7 l8 ty hlen hr t56
      have hlen1 : qz_I h (l + 2) (0 : Int).toNat = (vs.length : Int) := hlen.1
      have hlen2 : qz_I h (l + 1) (0 : Int).toNat + (vs.length : Int) ≤ pn h := hlen.2.1
      have hlen3 : 0 ≤ qz_I h (l + 1) (0 : Int).toNat := hlen.2.2
      rw [F1] at pi2; cases pi2
      have hl3 : qz_I h (l + 1) (0 : Int).toNat + 2 ≤ pn h := hlen2
      have n9 : 64 ≤ qz_N h ((bw h)) ∧ qz_N h ((bw h)) ≤ 4096 := ez_len hB td.2 tq_20 rfl
      have y10 : 1 ≤ qz_I h ((bw h)) (u).toNat := ek1
      have y11 : 0 ≤ qz_I h ((bw h)) (u).toNat ∧ qz_I h ((bw h)) (u).toNat ≤ 1000000 := ez_aB hB td.2 tq_20 rfl rfl (by decide) (by omega) (by omega)
      have y11' : ((qz_P h ((bw h)) (u).toNat : Nat) : Int) + 1 = qz_I h ((bw h)) (u).toNat := by unfold qz_P; omega
      refine ez_aR hB td.2 rfl tq_20 rfl rfl (by omega) (by omega) (by omega) (fun (t8 : _ = 13) => ?_)
      rw [el]
      refine ez_gR hB tl rfl rfl tq_13 rfl rfl (fun (t12 : _ = 15) (t12' : 1 ≤ qz_I h l 7) => ?_)
      rw [l7]
      refine ez_go (n := 1) (pc' := 29) (L' := [(2, .inl (k)), (0, .inr (.inr (some (770)))), (1, .inl (a))]) (st' := [.inl (0), .inr (.inr (some ((l + 1)))), .inr (.inr (some ((po h))))]) rfl ?_
      have n14 : 3 ≤ qz_N h ((l + 1)) ∧ qz_N h ((l + 1)) ≤ 3 := ez_len hB t56.1 tq_15 rfl
      refine ez_aI hB t56.1 rfl tq_15 rfl rfl (by omega) (by omega) (fun (b13 : 0 ≤ qz_I h ((l + 1)) (0 : Int).toNat) (b13' : qz_I h ((l + 1)) (0 : Int).toNat ≤ 38500) => ?_)
      refine ez_go (n := 2) (pc' := 32) (L' := [(2, .inl (k)), (0, .inr (.inr (some (770)))), (1, .inl (a))]) (st' := [.inl ((qz_I h ((l + 1)) (0 : Int).toNat) + (1)), .inr (.inr (some ((po h))))]) rfl ?_
      have n16 : 1024 ≤ qz_N h ((po h)) ∧ qz_N h ((po h)) ≤ 77100 := ez_len hB tt.2 tq_17 rfl
      refine ez_aI hB tt.2 rfl tq_17 rfl rfl (by omega) (by omega) (fun (b15 : -2147483648 ≤ qz_I h ((po h)) ((qz_I h ((l + 1)) (0 : Int).toNat) + (1)).toNat) (b15' : qz_I h ((po h)) ((qz_I h ((l + 1)) (0 : Int).toNat) + (1)).toNat ≤ 2147483647) => ?_)
      refine ez_go (n := 1) (pc' := 34) (L' := [(2, .inl (k)), (0, .inr (.inr (some (770)))), (1, .inl (a))]) (st' := [.inl (a), .inl (qz_I h ((po h)) ((qz_I h ((l + 1)) (0 : Int).toNat) + (1)).toNat)]) rfl ?_
      refine ez_icmp rfl rfl ⟨by first | omega | exact (sz_i32 _).1, by first | omega | exact (sz_i32 _).2⟩ ⟨by first | omega | exact (sz_i32 _).1, by first | omega | exact (sz_i32 _).2⟩ (fun (c17 : (qz_I h ((po h)) ((qz_I h ((l + 1)) (0 : Int).toNat) + (1)).toNat) ≠ (a)) => ?_) (fun (c17 : ¬((qz_I h ((po h)) ((qz_I h ((l + 1)) (0 : Int).toNat) + (1)).toNat) ≠ (a))) => ?_)
      · skip
        refine ez_go (n := 2) (pc' := 2) (L' := [(2, .inl (k + 1)), (0, .inr (.inr (some (770)))), (1, .inl (a))]) (st' := []) rfl ?_
        exfalso; omega
      · skip
        refine ez_go (n := 1) (pc' := 38) (L' := [(2, .inl (k)), (0, .inr (.inr (some (770)))), (1, .inl (a))]) (st' := [.inl (1)]) rfl ?_
        exact ez_retZ rfl rfl (Or.inr rfl) (k1 1 (Or.inr rfl))
  | succ n ih =>
    intro k hn kk0 kk1
    refine ez_go (n := 2) (pc' := 4) (L' := [(2, .inl (k)), (0, .inr (.inr (some (770)))), (1, .inl (a))]) (st' := [.inr (.inr (some (770))), .inl (k)]) rfl ?_
    refine ez_gI hB t770 rfl rfl tq_75 rfl rfl (fun (b1 : 0 ≤ qz_I h 770 28) (b1' : qz_I h 770 28 ≤ 512) => ?_)
    refine ez_icmp rfl rfl ⟨by first | omega | exact (sz_i32 _).1, by first | omega | exact (sz_i32 _).2⟩ ⟨by first | omega | exact (sz_i32 _).1, by first | omega | exact (sz_i32 _).2⟩ (fun (c2 : (qz_I h 770 28) ≤ (k)) => ?_) (fun (c2 : ¬((qz_I h 770 28) ≤ (k))) => ?_)
    · skip
      refine ez_go (n := 1) (pc' := 46) (L' := [(2, .inl (k)), (0, .inr (.inr (some (770)))), (1, .inl (a))]) (st' := [.inl (0)]) rfl ?_
      exact ez_retZ rfl rfl (Or.inl rfl) (k1 0 (Or.inl rfl))
    · skip
      refine ez_go (n := 1) (pc' := 11) (L' := [(2, .inl (k)), (0, .inr (.inr (some (770)))), (1, .inl (a))]) (st' := [.inr (.inr (some (770)))]) rfl ?_
      refine ez_gR hB t770 rfl rfl tq_75 rfl rfl (fun (t3 : _ = 17) (t3' : 1 ≤ qz_I h 770 9) => ?_)
      rw [show qz_P h 770 9 = po h from rfl]
      refine ez_go (n := 1) (pc' := 15) (L' := [(2, .inl (k)), (0, .inr (.inr (some (770)))), (1, .inl (a))]) (st' := [.inr (.inr (some (770))), .inr (.inr (some ((po h))))]) rfl ?_
      refine ez_gR hB t770 rfl rfl tq_75 rfl rfl (fun (t4 : _ = 20) (t4' : 1 ≤ qz_I h 770 22) => ?_)
      rw [show qz_P h 770 22 = bw h from rfl]
      refine ez_go (n := 1) (pc' := 19) (L' := [(2, .inl (k)), (0, .inr (.inr (some (770)))), (1, .inl (a))]) (st' := [.inr (.inr (some (770))), .inr (.inr (some ((bw h)))), .inr (.inr (some ((po h))))]) rfl ?_
      refine ez_gR hB t770 rfl rfl tq_75 rfl rfl (fun (t5 : _ = 22) (t5' : 1 ≤ qz_I h 770 27) => ?_)
      rw [show qz_P h 770 27 = pq h from rfl]
      refine ez_go (n := 1) (pc' := 23) (L' := [(2, .inl (k)), (0, .inr (.inr (some (770)))), (1, .inl (a))]) (st' := [.inl (k), .inr (.inr (some ((pq h)))), .inr (.inr (some ((bw h)))), .inr (.inr (some ((po h))))]) rfl ?_
      have n7 : 0 ≤ qz_N h ((pq h)) ∧ qz_N h ((pq h)) ≤ 512 := ez_len hB tp tq_22 rfl
      refine ez_aI hB tp rfl tq_22 rfl rfl (by omega) (by omega) (fun (b6 : 0 ≤ qz_I h ((pq h)) (k).toNat) (b6' : qz_I h ((pq h)) (k).toNat ≤ 511) => ?_)
      obtain ⟨pi1, a1, z1, pi2⟩ := hp.2 k.toNat (by omega)
      generalize eu : qz_I h ((pq h)) (k).toNat = u at *
      obtain ⟨⟨ek1, tl⟩, ⟨l7, l8⟩, cp, vs, F1, ty, hlen, hr⟩ := e.at (k := u) (by omega) (by omega)
      have t56 := e.2.2.2.2.2.2 _ tl
      generalize el : qz_P h (bw h) (u).toNat = l at tl l7 l8 ty hlen hr t56
      have hlen1 : qz_I h (l + 2) (0 : Int).toNat = (vs.length : Int) := hlen.1
      have hlen2 : qz_I h (l + 1) (0 : Int).toNat + (vs.length : Int) ≤ pn h := hlen.2.1
      have hlen3 : 0 ≤ qz_I h (l + 1) (0 : Int).toNat := hlen.2.2
      rw [F1] at pi2; cases pi2
      have hl3 : qz_I h (l + 1) (0 : Int).toNat + 2 ≤ pn h := hlen2
      have n9 : 64 ≤ qz_N h ((bw h)) ∧ qz_N h ((bw h)) ≤ 4096 := ez_len hB td.2 tq_20 rfl
      have y10 : 1 ≤ qz_I h ((bw h)) (u).toNat := ek1
      have y11 : 0 ≤ qz_I h ((bw h)) (u).toNat ∧ qz_I h ((bw h)) (u).toNat ≤ 1000000 := ez_aB hB td.2 tq_20 rfl rfl (by decide) (by omega) (by omega)
      have y11' : ((qz_P h ((bw h)) (u).toNat : Nat) : Int) + 1 = qz_I h ((bw h)) (u).toNat := by unfold qz_P; omega
      refine ez_aR hB td.2 rfl tq_20 rfl rfl (by omega) (by omega) (by omega) (fun (t8 : _ = 13) => ?_)
      rw [el]
      refine ez_gR hB tl rfl rfl tq_13 rfl rfl (fun (t12 : _ = 15) (t12' : 1 ≤ qz_I h l 7) => ?_)
      rw [l7]
      refine ez_go (n := 1) (pc' := 29) (L' := [(2, .inl (k)), (0, .inr (.inr (some (770)))), (1, .inl (a))]) (st' := [.inl (0), .inr (.inr (some ((l + 1)))), .inr (.inr (some ((po h))))]) rfl ?_
      have n14 : 3 ≤ qz_N h ((l + 1)) ∧ qz_N h ((l + 1)) ≤ 3 := ez_len hB t56.1 tq_15 rfl
      refine ez_aI hB t56.1 rfl tq_15 rfl rfl (by omega) (by omega) (fun (b13 : 0 ≤ qz_I h ((l + 1)) (0 : Int).toNat) (b13' : qz_I h ((l + 1)) (0 : Int).toNat ≤ 38500) => ?_)
      refine ez_go (n := 2) (pc' := 32) (L' := [(2, .inl (k)), (0, .inr (.inr (some (770)))), (1, .inl (a))]) (st' := [.inl ((qz_I h ((l + 1)) (0 : Int).toNat) + (1)), .inr (.inr (some ((po h))))]) rfl ?_
      have n16 : 1024 ≤ qz_N h ((po h)) ∧ qz_N h ((po h)) ≤ 77100 := ez_len hB tt.2 tq_17 rfl
      refine ez_aI hB tt.2 rfl tq_17 rfl rfl (by omega) (by omega) (fun (b15 : -2147483648 ≤ qz_I h ((po h)) ((qz_I h ((l + 1)) (0 : Int).toNat) + (1)).toNat) (b15' : qz_I h ((po h)) ((qz_I h ((l + 1)) (0 : Int).toNat) + (1)).toNat ≤ 2147483647) => ?_)
      refine ez_go (n := 1) (pc' := 34) (L' := [(2, .inl (k)), (0, .inr (.inr (some (770)))), (1, .inl (a))]) (st' := [.inl (a), .inl (qz_I h ((po h)) ((qz_I h ((l + 1)) (0 : Int).toNat) + (1)).toNat)]) rfl ?_
      refine ez_icmp rfl rfl ⟨by first | omega | exact (sz_i32 _).1, by first | omega | exact (sz_i32 _).2⟩ ⟨by first | omega | exact (sz_i32 _).1, by first | omega | exact (sz_i32 _).2⟩ (fun (c17 : (qz_I h ((po h)) ((qz_I h ((l + 1)) (0 : Int).toNat) + (1)).toNat) ≠ (a)) => ?_) (fun (c17 : ¬((qz_I h ((po h)) ((qz_I h ((l + 1)) (0 : Int).toNat) + (1)).toNat) ≠ (a))) => ?_)
      · skip
        refine ez_go (n := 2) (pc' := 2) (L' := [(2, .inl (k + 1)), (0, .inr (.inr (some (770)))), (1, .inl (a))]) (st' := []) rfl ?_
        refine ez_less [(2, .inl (k + 1)), (0, .inr (.inr (some (770)))), (1, .inl (a))] rfl ⟨rfl, rfl, rfl, trivial⟩ ?_
        exact ih (k + 1) (by omega) (by omega) (by omega)
      · skip
        refine ez_go (n := 1) (pc' := 38) (L' := [(2, .inl (k)), (0, .inr (.inr (some (770)))), (1, .inl (a))]) (st' := [.inl (1)]) rfl ?_
        exact ez_retZ rfl rfl (Or.inr rfl) (k1 1 (Or.inr rfl))

theorem rd_second {F : rz_W} {a : Int} (e : eD τ h F) (hp : pP h F) (ar : ez_rg a) (k1 : ∀ v : Int, (v = 0 ∨ v = 1) → Q (.inl (some (ez_v (.inl v))), h)) : ez_W d cm_299 0 [(0, .inr (.inr (some (770)))), (1, .inl (a))] [] h Q := by
  have t770 := e.2.1
  refine ez_go (n := 2) (pc' := 2) (L' := [(2, .inl (0)), (0, .inr (.inr (some (770)))), (1, .inl (a))]) (st' := []) rfl ?_
  refine ez_less [(2, .inl (0)), (0, .inr (.inr (some (770)))), (1, .inl (a))] rfl ⟨rfl, rfl, rfl, trivial⟩ ?_
  exact rd_second_l e hp ar k1 _ 0 rfl (by omega) hp.1.1

/-- two arrays alone are written -/
def orz (τ : Nat → Nat) (h g : cz_H) : Prop := ez_B τ g ∧ (∀ q, τ q ≠ 83 → τ q ≠ 85 → g.2.2 q = h.2.2 q) ∧ g.1 = h.1 ∧ g.2.1 = h.2.1
theorem orz.put {τ : Nat → Nat} {h g : cz_H} {r i : Nat} {v : cz_V} (a : orz τ h g) (hB : ez_B τ (dz_put g r i v)) (ht : τ r = 83 ∨ τ r = 85) : orz τ h (dz_put g r i v) := ⟨hB, fun q h1 h2 => by rw [qz_put_at _ _ _ _ (fun e => by rw [e] at h1 h2; omega)]; exact a.2.1 q h1 h2, a.2.2.1, a.2.2.2⟩
theorem orz.mIx {τ : Nat → Nat} {h g : cz_H} {Ls : List vz} {b : Int} (a : orz τ h g) (hI : mI τ h Ls b) : mI τ g Ls b := by
  have t770 : τ 770 = 75 := hI.2.1 770 (by decide)
  exact hI.gen a.1 (fun _ _ => rfl) (fun q q0 => by rw [q0]; decide) (fun q hq => a.2.1 q (by omega) (by omega)) (fun j _ _ => by unfold qz_I; rw [a.2.1 770 (by rw [t770]; decide) (by rw [t770]; decide)])
theorem orz.s {τ : Nat → Nat} {h g : cz_H} (a : orz τ h g) (t770 : τ 770 = 75) (j : Nat) : qz_I g 770 j = qz_I h 770 j := by unfold qz_I; rw [a.2.1 770 (by rw [t770]; decide) (by rw [t770]; decide)]
theorem rd_order_1 (hI : mI τ h Ls b) (t770 : τ 770 = 75) (kx : ∀ g, orz τ h g → ez_W (d + 2) cm_285 32 [(0, .inr (.inr (some (770))))] [] g Q) : ∀ (n : Nat) (k : Int) (g : cz_H), (qz_I h 770 30 - k).toNat ≤ n → 0 ≤ k → k ≤ 2000 → orz τ h g → ez_W (d + 2) cm_285 2 [(1, .inl (k)), (0, .inr (.inr (some (770))))] [] g Q := by
  intro n
  induction n with
  | zero =>
    intro k g hn k0 k2k ho
    have hBg := ho.1
    have s30 := ho.s t770 30
    have b30 : 0 ≤ qz_I g 770 30 ∧ qz_I g 770 30 ≤ 2000 := ez_fB (cl := 11) (k := 30) hBg t770 tq_75 rfl rfl (by decide)
    refine ez_go (n := 2) (pc' := 4) (L' := [(1, .inl (k)), (0, .inr (.inr (some (770))))]) (st' := [.inr (.inr (some (770))), .inl (k)]) rfl ?_
    refine ez_gI hBg t770 rfl rfl tq_75 rfl rfl (fun (b1 : 0 ≤ qz_I g 770 30) (b1' : qz_I g 770 30 ≤ 2000) => ?_)
    refine ez_icmp rfl rfl ⟨by first | omega | exact (sz_i32 _).1, by first | omega | exact (sz_i32 _).2⟩ ⟨by first | omega | exact (sz_i32 _).1, by first | omega | exact (sz_i32 _).2⟩ (fun (c2 : (qz_I g 770 30) ≤ (k)) => ?_) (fun (c2 : ¬((qz_I g 770 30) ≤ (k))) => ?_)
    · skip
      refine ez_less [(0, .inr (.inr (some (770))))] rfl ⟨rfl, trivial⟩ ?_
      exact kx g ho
    · skip
      refine ez_go (n := 1) (pc' := 11) (L' := [(1, .inl (k)), (0, .inr (.inr (some (770))))]) (st' := [.inr (.inr (some (770)))]) rfl ?_
      refine ez_gC (p := 798) (tg := 85) hBg t770 rfl rfl tq_75 rfl rfl (fun (t798 : _ = 85) => ?_)
      refine ez_go (n := 3) (pc' := 17) (L' := [(1, .inl (k)), (0, .inr (.inr (some (770))))]) (st' := [.inr (.inr (some (770))), .inr (.inr (some (770))), .inl (k), .inr (.inr (some (798)))]) rfl ?_
      refine ez_gC (p := 796) (tg := 83) hBg t770 rfl rfl tq_75 rfl rfl (fun (t796 : _ = 83) => ?_)
      refine ez_go (n := 1) (pc' := 21) (L' := [(1, .inl (k)), (0, .inr (.inr (some (770))))]) (st' := [.inl (k), .inr (.inr (some (796))), .inr (.inr (some (770))), .inl (k), .inr (.inr (some (798)))]) rfl ?_
      have n4 : 2000 ≤ qz_N g 796 ∧ qz_N g 796 ≤ 2000 := ez_len hBg t796 tq_83 rfl
      refine ez_aI hBg t796 rfl tq_83 rfl rfl (by omega) (by omega) (fun (b3 : -2147483648 ≤ qz_I g 796 (k).toNat) (b3' : qz_I g 796 (k).toNat ≤ 2147483647) => ?_)
      refine ez_cv hBg t770 rfl rfl rfl tq_75 rfl rfl rfl (rd_mrank (ho.mIx hI) ⟨by omega, by omega⟩ (fun rg => ez_K1 ?_))
      obtain ⟨rg0, rg1⟩ := id rg
      generalize (vF Ls (qz_I g 796 (k).toNat)).1 = rk at *
      have n7 : 2000 ≤ qz_N g 798 ∧ qz_N g 798 ≤ 2000 := ez_len hBg t798 tq_85 rfl
      refine ez_as hBg t798 rfl tq_85 rfl rfl (by omega) (by omega) (ez_vdI rfl rfl (by omega) (by omega)) (fun hB5 w6 => ?_)
      refine ez_go (n := 2) (pc' := 2) (L' := [(1, .inl (k + 1)), (0, .inr (.inr (some (770))))]) (st' := []) rfl ?_
      exfalso; omega
  | succ n ih =>
    intro k g hn k0 k2k ho
    have hBg := ho.1
    have s30 := ho.s t770 30
    have b30 : 0 ≤ qz_I g 770 30 ∧ qz_I g 770 30 ≤ 2000 := ez_fB (cl := 11) (k := 30) hBg t770 tq_75 rfl rfl (by decide)
    refine ez_go (n := 2) (pc' := 4) (L' := [(1, .inl (k)), (0, .inr (.inr (some (770))))]) (st' := [.inr (.inr (some (770))), .inl (k)]) rfl ?_
    refine ez_gI hBg t770 rfl rfl tq_75 rfl rfl (fun (b1 : 0 ≤ qz_I g 770 30) (b1' : qz_I g 770 30 ≤ 2000) => ?_)
    refine ez_icmp rfl rfl ⟨by first | omega | exact (sz_i32 _).1, by first | omega | exact (sz_i32 _).2⟩ ⟨by first | omega | exact (sz_i32 _).1, by first | omega | exact (sz_i32 _).2⟩ (fun (c2 : (qz_I g 770 30) ≤ (k)) => ?_) (fun (c2 : ¬((qz_I g 770 30) ≤ (k))) => ?_)
    · skip
      refine ez_less [(0, .inr (.inr (some (770))))] rfl ⟨rfl, trivial⟩ ?_
      exact kx g ho
    · skip
      refine ez_go (n := 1) (pc' := 11) (L' := [(1, .inl (k)), (0, .inr (.inr (some (770))))]) (st' := [.inr (.inr (some (770)))]) rfl ?_
      refine ez_gC (p := 798) (tg := 85) hBg t770 rfl rfl tq_75 rfl rfl (fun (t798 : _ = 85) => ?_)
      refine ez_go (n := 3) (pc' := 17) (L' := [(1, .inl (k)), (0, .inr (.inr (some (770))))]) (st' := [.inr (.inr (some (770))), .inr (.inr (some (770))), .inl (k), .inr (.inr (some (798)))]) rfl ?_
      refine ez_gC (p := 796) (tg := 83) hBg t770 rfl rfl tq_75 rfl rfl (fun (t796 : _ = 83) => ?_)
      refine ez_go (n := 1) (pc' := 21) (L' := [(1, .inl (k)), (0, .inr (.inr (some (770))))]) (st' := [.inl (k), .inr (.inr (some (796))), .inr (.inr (some (770))), .inl (k), .inr (.inr (some (798)))]) rfl ?_
      have n4 : 2000 ≤ qz_N g 796 ∧ qz_N g 796 ≤ 2000 := ez_len hBg t796 tq_83 rfl
      refine ez_aI hBg t796 rfl tq_83 rfl rfl (by omega) (by omega) (fun (b3 : -2147483648 ≤ qz_I g 796 (k).toNat) (b3' : qz_I g 796 (k).toNat ≤ 2147483647) => ?_)
      refine ez_cv hBg t770 rfl rfl rfl tq_75 rfl rfl rfl (rd_mrank (ho.mIx hI) ⟨by omega, by omega⟩ (fun rg => ez_K1 ?_))
      obtain ⟨rg0, rg1⟩ := id rg
      generalize (vF Ls (qz_I g 796 (k).toNat)).1 = rk at *
      have n7 : 2000 ≤ qz_N g 798 ∧ qz_N g 798 ≤ 2000 := ez_len hBg t798 tq_85 rfl
      refine ez_as hBg t798 rfl tq_85 rfl rfl (by omega) (by omega) (ez_vdI rfl rfl (by omega) (by omega)) (fun hB5 w6 => ?_)
      refine ez_go (n := 2) (pc' := 2) (L' := [(1, .inl (k + 1)), (0, .inr (.inr (some (770))))]) (st' := []) rfl ?_
      refine ez_less [(1, .inl (k + 1)), (0, .inr (.inr (some (770))))] rfl ⟨rfl, rfl, trivial⟩ ?_
      exact ih (k + 1) _ (by omega) (by omega) (by omega) (ho.put hB5 (Or.inr t798))

end EzSc
/-! Sorting by exchange comes to an end. -/
def phz (f : Nat → Int) : Nat → Int
  | 0 => 0
  | n + 1 => phz f n + (n : Int) * f n
theorem phz_congr {f g : Nat → Int} : ∀ n : Nat, (∀ i, i < n → f i = g i) → phz f n = phz g n
  | 0, _ => rfl
  | n + 1, h => by
    unfold phz
    rw [phz_congr n (fun i hi => h i (by omega)), h n (by omega)]
theorem phz_swap {f g : Nat → Int} {k : Nat} (h1 : g k = f (k + 1)) (h2 : g (k + 1) = f k) (h3 : ∀ i, i ≠ k → i ≠ k + 1 → g i = f i) : ∀ n : Nat, k + 1 < n → phz g n = phz f n + (f k - f (k + 1))
  | 0, h => by omega
  | n + 1, h => by
    by_cases e : k + 1 < n
    · unfold phz
      rw [phz_swap h1 h2 h3 n e, h3 n (by omega) (by omega)]; omega
    · have e : n = k + 1 := by omega
      subst e
      show phz g k + (k : Int) * g k + ((k + 1 : Nat) : Int) * g (k + 1) = phz f k + (k : Int) * f k + ((k + 1 : Nat) : Int) * f (k + 1) + (f k - f (k + 1))
      rw [phz_congr (f := g) (g := f) k (fun i hi => h3 i (by omega) (by omega)), h1, h2]
      have e1 : ((k + 1 : Nat) : Int) = (k : Int) + 1 := by omega
      rw [e1, Int.add_mul, Int.add_mul, Int.one_mul, Int.one_mul]
      omega
theorem phz_le {f : Nat → Int} {M : Int} (hM : 0 ≤ M) : ∀ n : Nat, (∀ i, i < n → f i ≤ M) → phz f n ≤ (n : Int) * ((n : Int) * M)
  | 0, _ => by show (0 : Int) ≤ _; simp
  | n + 1, h => by
    unfold phz
    have ih := phz_le hM n (fun i hi => h i (by omega))
    have h1 : (n : Int) * f n ≤ (n : Int) * M := Int.mul_le_mul_of_nonneg_left (h n (by omega)) (by omega)
    have h0 : 0 ≤ (n : Int) * M := Int.mul_nonneg (by omega) hM
    have e : ((n + 1 : Nat) : Int) * (((n + 1 : Nat) : Int) * M) = (n : Int) * ((n : Int) * M) + ((n : Int) * M + ((n : Int) * M + M)) := by
      have e1 : ((n + 1 : Nat) : Int) = (n : Int) + 1 := by omega
      rw [e1, Int.add_mul, Int.add_mul, Int.one_mul, Int.one_mul, Int.mul_add]
      omega
    rw [e]
    omega
/-! The model: order, II. (Written by wip/p2/py/pv103.py.) -/
section EzOr
variable {d : Nat} {h : cz_H} {τ : Nat → Nat} {Q : cz_F → Prop}
/-- how far the ranks are in order -/
def phr (h g : cz_H) : Int := phz (fun i => qz_I g 798 i) (qz_I h 770 30).toNat
theorem rd_order_2 {p0 : Int} (t770 : τ 770 = 75) (kx : ∀ g more, orz τ h g → (more = 0 ∨ more = 1) → (p0 ≤ phr h g ∧ (more = 1 → p0 < phr h g)) → ez_W (d + 2) cm_285 34 [(1, .inl (more)), (0, .inr (.inr (some (770))))] [] g Q) : ∀ (n : Nat) (k more : Int) (g : cz_H), (qz_I h 770 30 - k).toNat ≤ n → 1 ≤ k → k ≤ 2001 → orz τ h g → (more = 0 ∨ more = 1) → (p0 ≤ phr h g ∧ (more = 1 → p0 < phr h g)) → ez_W (d + 2) cm_285 42 [(2, .inl (k)), (1, .inl (more)), (0, .inr (.inr (some (770))))] [] g Q := by
  intro n
  induction n with
  | zero =>
    intro k more g hn k0 k2k ho hm1 hph
    have hBg := ho.1
    have s30 := ho.s t770 30
    have b30 : 0 ≤ qz_I g 770 30 ∧ qz_I g 770 30 ≤ 2000 := ez_fB (cl := 11) (k := 30) hBg t770 tq_75 rfl rfl (by decide)
    have mr : ez_rg more := by rcases hm1 with w | w <;> rw [w] <;> exact ⟨by decide, by decide⟩
    refine ez_go (n := 2) (pc' := 44) (L' := [(2, .inl (k)), (1, .inl (more)), (0, .inr (.inr (some (770))))]) (st' := [.inr (.inr (some (770))), .inl (k)]) rfl ?_
    refine ez_gI hBg t770 rfl rfl tq_75 rfl rfl (fun (b1 : 0 ≤ qz_I g 770 30) (b1' : qz_I g 770 30 ≤ 2000) => ?_)
    refine ez_icmp rfl rfl ⟨by first | exact mr.1 | (clear hm1; omega) | exact (sz_i32 _).1, by first | exact mr.2 | (clear hm1; omega) | exact (sz_i32 _).2⟩ ⟨by first | exact mr.1 | (clear hm1; omega) | exact (sz_i32 _).1, by first | exact mr.2 | (clear hm1; omega) | exact (sz_i32 _).2⟩ (fun (c2 : (qz_I g 770 30) ≤ (k)) => ?_) (fun (c2 : ¬((qz_I g 770 30) ≤ (k))) => ?_)
    · skip
      refine ez_go (n := 1) (pc' := 34) (L' := [(2, .inl (k)), (1, .inl (more)), (0, .inr (.inr (some (770))))]) (st' := []) rfl ?_
      refine ez_less [(1, .inl (more)), (0, .inr (.inr (some (770))))] rfl ⟨rfl, rfl, trivial⟩ ?_
      exact kx g more ho hm1 hph
    · skip
      refine ez_go (n := 1) (pc' := 51) (L' := [(2, .inl (k)), (1, .inl (more)), (0, .inr (.inr (some (770))))]) (st' := [.inr (.inr (some (770)))]) rfl ?_
      refine ez_gC (p := 798) (tg := 85) hBg t770 rfl rfl tq_75 rfl rfl (fun (t798 : _ = 85) => ?_)
      refine ez_go (n := 1) (pc' := 55) (L' := [(2, .inl (k)), (1, .inl (more)), (0, .inr (.inr (some (770))))]) (st' := [.inl (k), .inr (.inr (some (798)))]) rfl ?_
      have n4 : 2000 ≤ qz_N g 798 ∧ qz_N g 798 ≤ 2000 := ez_len hBg t798 tq_85 rfl
      refine ez_aI hBg t798 rfl tq_85 rfl rfl (by omega) (by omega) (fun (b3 : -2147483648 ≤ qz_I g 798 (k).toNat) (b3' : qz_I g 798 (k).toNat ≤ 2147483647) => ?_)
      refine ez_if rfl rfl ⟨by first | exact mr.1 | (clear hm1; omega) | exact (sz_i32 _).1, by first | exact mr.2 | (clear hm1; omega) | exact (sz_i32 _).2⟩ (fun (c5 : (qz_I g 798 (k).toNat) = (0)) => ?_) (fun (c5 : ¬((qz_I g 798 (k).toNat) = (0))) => ?_)
      · skip
        refine ez_go (n := 2) (pc' := 42) (L' := [(2, .inl (k + 1)), (1, .inl (more)), (0, .inr (.inr (some (770))))]) (st' := []) rfl ?_
        exfalso; omega
      · skip
        refine ez_go (n := 1) (pc' := 60) (L' := [(2, .inl (k)), (1, .inl (more)), (0, .inr (.inr (some (770))))]) (st' := [.inr (.inr (some (770)))]) rfl ?_
        refine ez_gC (p := 798) (tg := 85) hBg t770 rfl rfl tq_75 rfl rfl (fun (t798 : _ = 85) => ?_)
        refine ez_go (n := 3) (pc' := 66) (L' := [(2, .inl (k)), (1, .inl (more)), (0, .inr (.inr (some (770))))]) (st' := [.inl ((k) - (1)), .inr (.inr (some (798)))]) rfl ?_
        have n7 : 2000 ≤ qz_N g 798 ∧ qz_N g 798 ≤ 2000 := ez_len hBg t798 tq_85 rfl
        refine ez_aI hBg t798 rfl tq_85 rfl rfl (by omega) (by omega) (fun (b6 : -2147483648 ≤ qz_I g 798 ((k) - (1)).toNat) (b6' : qz_I g 798 ((k) - (1)).toNat ≤ 2147483647) => ?_)
        refine ez_go (n := 1) (pc' := 68) (L' := [(2, .inl (k)), (1, .inl (more)), (0, .inr (.inr (some (770))))]) (st' := [.inr (.inr (some (770))), .inl (qz_I g 798 ((k) - (1)).toNat)]) rfl ?_
        refine ez_gC (p := 798) (tg := 85) hBg t770 rfl rfl tq_75 rfl rfl (fun (t798 : _ = 85) => ?_)
        refine ez_go (n := 1) (pc' := 72) (L' := [(2, .inl (k)), (1, .inl (more)), (0, .inr (.inr (some (770))))]) (st' := [.inl (k), .inr (.inr (some (798))), .inl (qz_I g 798 ((k) - (1)).toNat)]) rfl ?_
        have n9 : 2000 ≤ qz_N g 798 ∧ qz_N g 798 ≤ 2000 := ez_len hBg t798 tq_85 rfl
        refine ez_aI hBg t798 rfl tq_85 rfl rfl (by omega) (by omega) (fun (b8 : -2147483648 ≤ qz_I g 798 (k).toNat) (b8' : qz_I g 798 (k).toNat ≤ 2147483647) => ?_)
        refine ez_icmp rfl rfl ⟨by first | exact mr.1 | (clear hm1; omega) | exact (sz_i32 _).1, by first | exact mr.2 | (clear hm1; omega) | exact (sz_i32 _).2⟩ ⟨by first | exact mr.1 | (clear hm1; omega) | exact (sz_i32 _).1, by first | exact mr.2 | (clear hm1; omega) | exact (sz_i32 _).2⟩ (fun (c10 : (qz_I g 798 (k).toNat) < (qz_I g 798 ((k) - (1)).toNat)) => ?_) (fun (c10 : ¬((qz_I g 798 (k).toNat) < (qz_I g 798 ((k) - (1)).toNat))) => ?_)
        · skip
          refine ez_go (n := 1) (pc' := 80) (L' := [(2, .inl (k)), (1, .inl (more)), (0, .inr (.inr (some (770))))]) (st' := [.inr (.inr (some (770)))]) rfl ?_
          refine ez_gC (p := 796) (tg := 83) hBg t770 rfl rfl tq_75 rfl rfl (fun (t796 : _ = 83) => ?_)
          refine ez_go (n := 1) (pc' := 84) (L' := [(2, .inl (k)), (1, .inl (more)), (0, .inr (.inr (some (770))))]) (st' := [.inl (k), .inr (.inr (some (796)))]) rfl ?_
          have n12 : 2000 ≤ qz_N g 796 ∧ qz_N g 796 ≤ 2000 := ez_len hBg t796 tq_83 rfl
          refine ez_aI hBg t796 rfl tq_83 rfl rfl (by omega) (by omega) (fun (b11 : -2147483648 ≤ qz_I g 796 (k).toNat) (b11' : qz_I g 796 (k).toNat ≤ 2147483647) => ?_)
          refine ez_go (n := 2) (pc' := 87) (L' := [(3, .inl (qz_I g 796 (k).toNat)), (2, .inl (k)), (1, .inl (more)), (0, .inr (.inr (some (770))))]) (st' := [.inr (.inr (some (770)))]) rfl ?_
          refine ez_gC (p := 796) (tg := 83) hBg t770 rfl rfl tq_75 rfl rfl (fun (t796 : _ = 83) => ?_)
          refine ez_go (n := 2) (pc' := 92) (L' := [(3, .inl (qz_I g 796 (k).toNat)), (2, .inl (k)), (1, .inl (more)), (0, .inr (.inr (some (770))))]) (st' := [.inr (.inr (some (770))), .inl (k), .inr (.inr (some (796)))]) rfl ?_
          refine ez_gC (p := 796) (tg := 83) hBg t770 rfl rfl tq_75 rfl rfl (fun (t796 : _ = 83) => ?_)
          refine ez_go (n := 3) (pc' := 98) (L' := [(3, .inl (qz_I g 796 (k).toNat)), (2, .inl (k)), (1, .inl (more)), (0, .inr (.inr (some (770))))]) (st' := [.inl ((k) - (1)), .inr (.inr (some (796))), .inl (k), .inr (.inr (some (796)))]) rfl ?_
          have n14 : 2000 ≤ qz_N g 796 ∧ qz_N g 796 ≤ 2000 := ez_len hBg t796 tq_83 rfl
          refine ez_aI hBg t796 rfl tq_83 rfl rfl (by omega) (by omega) (fun (b13 : -2147483648 ≤ qz_I g 796 ((k) - (1)).toNat) (b13' : qz_I g 796 ((k) - (1)).toNat ≤ 2147483647) => ?_)
          have n17 : 2000 ≤ qz_N g 796 ∧ qz_N g 796 ≤ 2000 := ez_len hBg t796 tq_83 rfl
          refine ez_as hBg t796 rfl tq_83 rfl rfl (by omega) (by omega) (ez_vdI rfl rfl (by omega) (by omega)) (fun hB15 w16 => ?_)
          have oa : orz τ h (dz_put g 796 (k).toNat (ez_v (.inl (qz_I g 796 ((k) - (1)).toNat)))) := ho.put hB15 (Or.inl t796)
          have ra : ∀ j, qz_I (dz_put g 796 (k).toNat (ez_v (.inl (qz_I g 796 ((k) - (1)).toNat)))) 798 j = qz_I g 798 j := fun j => ez_put_I (fun w => absurd w.1 (by decide))
          have hBma := hB15
          generalize (dz_put g 796 (k).toNat (ez_v (.inl (qz_I g 796 ((k) - (1)).toNat)))) = na at *
          refine ez_go (n := 1) (pc' := 101) (L' := [(3, .inl (qz_I g 796 (k).toNat)), (2, .inl (k)), (1, .inl (more)), (0, .inr (.inr (some (770))))]) (st' := [.inr (.inr (some (770)))]) rfl ?_
          refine ez_gC (p := 796) (tg := 83) hBma t770 rfl rfl tq_75 rfl rfl (fun (t796 : _ = 83) => ?_)
          refine ez_go (n := 4) (pc' := 108) (L' := [(3, .inl (qz_I g 796 (k).toNat)), (2, .inl (k)), (1, .inl (more)), (0, .inr (.inr (some (770))))]) (st' := [.inl (qz_I g 796 (k).toNat), .inl ((k) - (1)), .inr (.inr (some (796)))]) rfl ?_
          have n20 : 2000 ≤ qz_N na 796 ∧ qz_N na 796 ≤ 2000 := ez_len hBma t796 tq_83 rfl
          refine ez_as hBma t796 rfl tq_83 rfl rfl (by omega) (by omega) (ez_vdI rfl rfl (by omega) (by omega)) (fun hB18 w19 => ?_)
          have ob : orz τ h (dz_put na 796 ((k) - (1)).toNat (ez_v (.inl (qz_I g 796 (k).toNat)))) := oa.put hB18 (Or.inl t796)
          have rb : ∀ j, qz_I (dz_put na 796 ((k) - (1)).toNat (ez_v (.inl (qz_I g 796 (k).toNat)))) 798 j = qz_I na 798 j := fun j => ez_put_I (fun w => absurd w.1 (by decide))
          have hBmb := hB18
          generalize (dz_put na 796 ((k) - (1)).toNat (ez_v (.inl (qz_I g 796 (k).toNat)))) = nb at *
          refine ez_go (n := 1) (pc' := 110) (L' := [(3, .inl (qz_I g 796 (k).toNat)), (2, .inl (k)), (1, .inl (more)), (0, .inr (.inr (some (770))))]) (st' := [.inr (.inr (some (770)))]) rfl ?_
          refine ez_gC (p := 798) (tg := 85) hBmb t770 rfl rfl tq_75 rfl rfl (fun (t798 : _ = 85) => ?_)
          refine ez_go (n := 1) (pc' := 114) (L' := [(3, .inl (qz_I g 796 (k).toNat)), (2, .inl (k)), (1, .inl (more)), (0, .inr (.inr (some (770))))]) (st' := [.inl (k), .inr (.inr (some (798)))]) rfl ?_
          have n22 : 2000 ≤ qz_N nb 798 ∧ qz_N nb 798 ≤ 2000 := ez_len hBmb t798 tq_85 rfl
          refine ez_aI hBmb t798 rfl tq_85 rfl rfl (by omega) (by omega) (fun (b21 : -2147483648 ≤ qz_I nb 798 (k).toNat) (b21' : qz_I nb 798 (k).toNat ≤ 2147483647) => ?_)
          rw [show qz_I nb 798 (k).toNat = qz_I g 798 k.toNat by rw [rb, ra]]
          refine ez_go (n := 2) (pc' := 118) (L' := [(4, .inl (qz_I g 798 k.toNat)), (3, .inl (qz_I g 796 (k).toNat)), (2, .inl (k)), (1, .inl (more)), (0, .inr (.inr (some (770))))]) (st' := [.inr (.inr (some (770)))]) rfl ?_
          refine ez_gC (p := 798) (tg := 85) hBmb t770 rfl rfl tq_75 rfl rfl (fun (t798 : _ = 85) => ?_)
          refine ez_go (n := 2) (pc' := 123) (L' := [(4, .inl (qz_I g 798 k.toNat)), (3, .inl (qz_I g 796 (k).toNat)), (2, .inl (k)), (1, .inl (more)), (0, .inr (.inr (some (770))))]) (st' := [.inr (.inr (some (770))), .inl (k), .inr (.inr (some (798)))]) rfl ?_
          refine ez_gC (p := 798) (tg := 85) hBmb t770 rfl rfl tq_75 rfl rfl (fun (t798 : _ = 85) => ?_)
          refine ez_go (n := 3) (pc' := 129) (L' := [(4, .inl (qz_I g 798 k.toNat)), (3, .inl (qz_I g 796 (k).toNat)), (2, .inl (k)), (1, .inl (more)), (0, .inr (.inr (some (770))))]) (st' := [.inl ((k) - (1)), .inr (.inr (some (798))), .inl (k), .inr (.inr (some (798)))]) rfl ?_
          have n24 : 2000 ≤ qz_N nb 798 ∧ qz_N nb 798 ≤ 2000 := ez_len hBmb t798 tq_85 rfl
          refine ez_aI hBmb t798 rfl tq_85 rfl rfl (by omega) (by omega) (fun (b23 : -2147483648 ≤ qz_I nb 798 ((k) - (1)).toNat) (b23' : qz_I nb 798 ((k) - (1)).toNat ≤ 2147483647) => ?_)
          have n27 : 2000 ≤ qz_N nb 798 ∧ qz_N nb 798 ≤ 2000 := ez_len hBmb t798 tq_85 rfl
          refine ez_as hBmb t798 rfl tq_85 rfl rfl (by omega) (by omega) (ez_vdI rfl rfl (by omega) (by omega)) (fun hB25 w26 => ?_)
          have oc : orz τ h (dz_put nb 798 (k).toNat (ez_v (.inl (qz_I nb 798 ((k) - (1)).toNat)))) := ob.put hB25 (Or.inr t798)
          have vc : qz_I (dz_put nb 798 (k).toNat (ez_v (.inl (qz_I nb 798 ((k) - (1)).toNat)))) 798 (k).toNat = qz_I nb 798 (k - 1).toNat := w26.trans (rz_rd ⟨by omega, by omega⟩)
          have rc : ∀ j, j ≠ (k).toNat → qz_I (dz_put nb 798 (k).toNat (ez_v (.inl (qz_I nb 798 ((k) - (1)).toNat)))) 798 j = qz_I nb 798 j := fun j hj => ez_put_I (fun w => hj w.2)
          have hBmc := hB25
          generalize (dz_put nb 798 (k).toNat (ez_v (.inl (qz_I nb 798 ((k) - (1)).toNat)))) = nc at *
          refine ez_go (n := 1) (pc' := 132) (L' := [(4, .inl (qz_I g 798 k.toNat)), (3, .inl (qz_I g 796 (k).toNat)), (2, .inl (k)), (1, .inl (more)), (0, .inr (.inr (some (770))))]) (st' := [.inr (.inr (some (770)))]) rfl ?_
          refine ez_gC (p := 798) (tg := 85) hBmc t770 rfl rfl tq_75 rfl rfl (fun (t798 : _ = 85) => ?_)
          refine ez_go (n := 4) (pc' := 140) (L' := [(4, .inl (qz_I g 798 k.toNat)), (3, .inl (qz_I g 796 (k).toNat)), (2, .inl (k)), (1, .inl (more)), (0, .inr (.inr (some (770))))]) (st' := [.inl (qz_I g 798 k.toNat), .inl ((k) - (1)), .inr (.inr (some (798)))]) rfl ?_
          have n30 : 2000 ≤ qz_N nc 798 ∧ qz_N nc 798 ≤ 2000 := ez_len hBmc t798 tq_85 rfl
          refine ez_as hBmc t798 rfl tq_85 rfl rfl (by omega) (by omega) (ez_vdI rfl rfl (by omega) (by omega)) (fun hB28 w29 => ?_)
          have od : orz τ h (dz_put nc 798 ((k) - (1)).toNat (ez_v (.inl (qz_I g 798 k.toNat)))) := oc.put hB28 (Or.inr t798)
          have vd : qz_I (dz_put nc 798 ((k) - (1)).toNat (ez_v (.inl (qz_I g 798 k.toNat)))) 798 (k - 1).toNat = qz_I g 798 k.toNat := w29.trans (rz_rd ⟨by omega, by omega⟩)
          have rd : ∀ j, j ≠ (k - 1).toNat → qz_I (dz_put nc 798 ((k) - (1)).toNat (ez_v (.inl (qz_I g 798 k.toNat)))) 798 j = qz_I nc 798 j := fun j hj => ez_put_I (fun w => hj w.2)
          have hBmd := hB28
          generalize (dz_put nc 798 ((k) - (1)).toNat (ez_v (.inl (qz_I g 798 k.toNat)))) = nd at *
          refine ez_go (n := 4) (pc' := 42) (L' := [(2, .inl (k + 1)), (1, .inl (1)), (4, .inl (qz_I g 798 k.toNat)), (3, .inl (qz_I g 796 (k).toNat)), (0, .inr (.inr (some (770))))]) (st' := []) rfl ?_
          exfalso; omega
        · skip
          refine ez_go (n := 3) (pc' := 42) (L' := [(2, .inl (k + 1)), (1, .inl (more)), (0, .inr (.inr (some (770))))]) (st' := []) rfl ?_
          exfalso; omega
  | succ n ih =>
    intro k more g hn k0 k2k ho hm1 hph
    have hBg := ho.1
    have s30 := ho.s t770 30
    have b30 : 0 ≤ qz_I g 770 30 ∧ qz_I g 770 30 ≤ 2000 := ez_fB (cl := 11) (k := 30) hBg t770 tq_75 rfl rfl (by decide)
    have mr : ez_rg more := by rcases hm1 with w | w <;> rw [w] <;> exact ⟨by decide, by decide⟩
    refine ez_go (n := 2) (pc' := 44) (L' := [(2, .inl (k)), (1, .inl (more)), (0, .inr (.inr (some (770))))]) (st' := [.inr (.inr (some (770))), .inl (k)]) rfl ?_
    refine ez_gI hBg t770 rfl rfl tq_75 rfl rfl (fun (b1 : 0 ≤ qz_I g 770 30) (b1' : qz_I g 770 30 ≤ 2000) => ?_)
    refine ez_icmp rfl rfl ⟨by first | exact mr.1 | (clear hm1; omega) | exact (sz_i32 _).1, by first | exact mr.2 | (clear hm1; omega) | exact (sz_i32 _).2⟩ ⟨by first | exact mr.1 | (clear hm1; omega) | exact (sz_i32 _).1, by first | exact mr.2 | (clear hm1; omega) | exact (sz_i32 _).2⟩ (fun (c2 : (qz_I g 770 30) ≤ (k)) => ?_) (fun (c2 : ¬((qz_I g 770 30) ≤ (k))) => ?_)
    · skip
      refine ez_go (n := 1) (pc' := 34) (L' := [(2, .inl (k)), (1, .inl (more)), (0, .inr (.inr (some (770))))]) (st' := []) rfl ?_
      refine ez_less [(1, .inl (more)), (0, .inr (.inr (some (770))))] rfl ⟨rfl, rfl, trivial⟩ ?_
      exact kx g more ho hm1 hph
    · skip
      refine ez_go (n := 1) (pc' := 51) (L' := [(2, .inl (k)), (1, .inl (more)), (0, .inr (.inr (some (770))))]) (st' := [.inr (.inr (some (770)))]) rfl ?_
      refine ez_gC (p := 798) (tg := 85) hBg t770 rfl rfl tq_75 rfl rfl (fun (t798 : _ = 85) => ?_)
      refine ez_go (n := 1) (pc' := 55) (L' := [(2, .inl (k)), (1, .inl (more)), (0, .inr (.inr (some (770))))]) (st' := [.inl (k), .inr (.inr (some (798)))]) rfl ?_
      have n4 : 2000 ≤ qz_N g 798 ∧ qz_N g 798 ≤ 2000 := ez_len hBg t798 tq_85 rfl
      refine ez_aI hBg t798 rfl tq_85 rfl rfl (by omega) (by omega) (fun (b3 : -2147483648 ≤ qz_I g 798 (k).toNat) (b3' : qz_I g 798 (k).toNat ≤ 2147483647) => ?_)
      refine ez_if rfl rfl ⟨by first | exact mr.1 | (clear hm1; omega) | exact (sz_i32 _).1, by first | exact mr.2 | (clear hm1; omega) | exact (sz_i32 _).2⟩ (fun (c5 : (qz_I g 798 (k).toNat) = (0)) => ?_) (fun (c5 : ¬((qz_I g 798 (k).toNat) = (0))) => ?_)
      · skip
        refine ez_go (n := 2) (pc' := 42) (L' := [(2, .inl (k + 1)), (1, .inl (more)), (0, .inr (.inr (some (770))))]) (st' := []) rfl ?_
        refine ez_less [(2, .inl (k + 1)), (1, .inl (more)), (0, .inr (.inr (some (770))))] rfl ⟨rfl, rfl, rfl, trivial⟩ ?_
        exact ih (k + 1) more g (by clear hm1; omega) (by clear hm1; omega) (by clear hm1; omega) ho hm1 hph
      · skip
        refine ez_go (n := 1) (pc' := 60) (L' := [(2, .inl (k)), (1, .inl (more)), (0, .inr (.inr (some (770))))]) (st' := [.inr (.inr (some (770)))]) rfl ?_
        refine ez_gC (p := 798) (tg := 85) hBg t770 rfl rfl tq_75 rfl rfl (fun (t798 : _ = 85) => ?_)
        refine ez_go (n := 3) (pc' := 66) (L' := [(2, .inl (k)), (1, .inl (more)), (0, .inr (.inr (some (770))))]) (st' := [.inl ((k) - (1)), .inr (.inr (some (798)))]) rfl ?_
        have n7 : 2000 ≤ qz_N g 798 ∧ qz_N g 798 ≤ 2000 := ez_len hBg t798 tq_85 rfl
        refine ez_aI hBg t798 rfl tq_85 rfl rfl (by omega) (by omega) (fun (b6 : -2147483648 ≤ qz_I g 798 ((k) - (1)).toNat) (b6' : qz_I g 798 ((k) - (1)).toNat ≤ 2147483647) => ?_)
        refine ez_go (n := 1) (pc' := 68) (L' := [(2, .inl (k)), (1, .inl (more)), (0, .inr (.inr (some (770))))]) (st' := [.inr (.inr (some (770))), .inl (qz_I g 798 ((k) - (1)).toNat)]) rfl ?_
        refine ez_gC (p := 798) (tg := 85) hBg t770 rfl rfl tq_75 rfl rfl (fun (t798 : _ = 85) => ?_)
        refine ez_go (n := 1) (pc' := 72) (L' := [(2, .inl (k)), (1, .inl (more)), (0, .inr (.inr (some (770))))]) (st' := [.inl (k), .inr (.inr (some (798))), .inl (qz_I g 798 ((k) - (1)).toNat)]) rfl ?_
        have n9 : 2000 ≤ qz_N g 798 ∧ qz_N g 798 ≤ 2000 := ez_len hBg t798 tq_85 rfl
        refine ez_aI hBg t798 rfl tq_85 rfl rfl (by omega) (by omega) (fun (b8 : -2147483648 ≤ qz_I g 798 (k).toNat) (b8' : qz_I g 798 (k).toNat ≤ 2147483647) => ?_)
        refine ez_icmp rfl rfl ⟨by first | exact mr.1 | (clear hm1; omega) | exact (sz_i32 _).1, by first | exact mr.2 | (clear hm1; omega) | exact (sz_i32 _).2⟩ ⟨by first | exact mr.1 | (clear hm1; omega) | exact (sz_i32 _).1, by first | exact mr.2 | (clear hm1; omega) | exact (sz_i32 _).2⟩ (fun (c10 : (qz_I g 798 (k).toNat) < (qz_I g 798 ((k) - (1)).toNat)) => ?_) (fun (c10 : ¬((qz_I g 798 (k).toNat) < (qz_I g 798 ((k) - (1)).toNat))) => ?_)
        · skip
          refine ez_go (n := 1) (pc' := 80) (L' := [(2, .inl (k)), (1, .inl (more)), (0, .inr (.inr (some (770))))]) (st' := [.inr (.inr (some (770)))]) rfl ?_
          refine ez_gC (p := 796) (tg := 83) hBg t770 rfl rfl tq_75 rfl rfl (fun (t796 : _ = 83) => ?_)
          refine ez_go (n := 1) (pc' := 84) (L' := [(2, .inl (k)), (1, .inl (more)), (0, .inr (.inr (some (770))))]) (st' := [.inl (k), .inr (.inr (some (796)))]) rfl ?_
          have n12 : 2000 ≤ qz_N g 796 ∧ qz_N g 796 ≤ 2000 := ez_len hBg t796 tq_83 rfl
          refine ez_aI hBg t796 rfl tq_83 rfl rfl (by omega) (by omega) (fun (b11 : -2147483648 ≤ qz_I g 796 (k).toNat) (b11' : qz_I g 796 (k).toNat ≤ 2147483647) => ?_)
          refine ez_go (n := 2) (pc' := 87) (L' := [(3, .inl (qz_I g 796 (k).toNat)), (2, .inl (k)), (1, .inl (more)), (0, .inr (.inr (some (770))))]) (st' := [.inr (.inr (some (770)))]) rfl ?_
          refine ez_gC (p := 796) (tg := 83) hBg t770 rfl rfl tq_75 rfl rfl (fun (t796 : _ = 83) => ?_)
          refine ez_go (n := 2) (pc' := 92) (L' := [(3, .inl (qz_I g 796 (k).toNat)), (2, .inl (k)), (1, .inl (more)), (0, .inr (.inr (some (770))))]) (st' := [.inr (.inr (some (770))), .inl (k), .inr (.inr (some (796)))]) rfl ?_
          refine ez_gC (p := 796) (tg := 83) hBg t770 rfl rfl tq_75 rfl rfl (fun (t796 : _ = 83) => ?_)
          refine ez_go (n := 3) (pc' := 98) (L' := [(3, .inl (qz_I g 796 (k).toNat)), (2, .inl (k)), (1, .inl (more)), (0, .inr (.inr (some (770))))]) (st' := [.inl ((k) - (1)), .inr (.inr (some (796))), .inl (k), .inr (.inr (some (796)))]) rfl ?_
          have n14 : 2000 ≤ qz_N g 796 ∧ qz_N g 796 ≤ 2000 := ez_len hBg t796 tq_83 rfl
          refine ez_aI hBg t796 rfl tq_83 rfl rfl (by omega) (by omega) (fun (b13 : -2147483648 ≤ qz_I g 796 ((k) - (1)).toNat) (b13' : qz_I g 796 ((k) - (1)).toNat ≤ 2147483647) => ?_)
          have n17 : 2000 ≤ qz_N g 796 ∧ qz_N g 796 ≤ 2000 := ez_len hBg t796 tq_83 rfl
          refine ez_as hBg t796 rfl tq_83 rfl rfl (by omega) (by omega) (ez_vdI rfl rfl (by omega) (by omega)) (fun hB15 w16 => ?_)
          have oa : orz τ h (dz_put g 796 (k).toNat (ez_v (.inl (qz_I g 796 ((k) - (1)).toNat)))) := ho.put hB15 (Or.inl t796)
          have ra : ∀ j, qz_I (dz_put g 796 (k).toNat (ez_v (.inl (qz_I g 796 ((k) - (1)).toNat)))) 798 j = qz_I g 798 j := fun j => ez_put_I (fun w => absurd w.1 (by decide))
          have hBma := hB15
          generalize (dz_put g 796 (k).toNat (ez_v (.inl (qz_I g 796 ((k) - (1)).toNat)))) = na at *
          refine ez_go (n := 1) (pc' := 101) (L' := [(3, .inl (qz_I g 796 (k).toNat)), (2, .inl (k)), (1, .inl (more)), (0, .inr (.inr (some (770))))]) (st' := [.inr (.inr (some (770)))]) rfl ?_
          refine ez_gC (p := 796) (tg := 83) hBma t770 rfl rfl tq_75 rfl rfl (fun (t796 : _ = 83) => ?_)
          refine ez_go (n := 4) (pc' := 108) (L' := [(3, .inl (qz_I g 796 (k).toNat)), (2, .inl (k)), (1, .inl (more)), (0, .inr (.inr (some (770))))]) (st' := [.inl (qz_I g 796 (k).toNat), .inl ((k) - (1)), .inr (.inr (some (796)))]) rfl ?_
          have n20 : 2000 ≤ qz_N na 796 ∧ qz_N na 796 ≤ 2000 := ez_len hBma t796 tq_83 rfl
          refine ez_as hBma t796 rfl tq_83 rfl rfl (by omega) (by omega) (ez_vdI rfl rfl (by omega) (by omega)) (fun hB18 w19 => ?_)
          have ob : orz τ h (dz_put na 796 ((k) - (1)).toNat (ez_v (.inl (qz_I g 796 (k).toNat)))) := oa.put hB18 (Or.inl t796)
          have rb : ∀ j, qz_I (dz_put na 796 ((k) - (1)).toNat (ez_v (.inl (qz_I g 796 (k).toNat)))) 798 j = qz_I na 798 j := fun j => ez_put_I (fun w => absurd w.1 (by decide))
          have hBmb := hB18
          generalize (dz_put na 796 ((k) - (1)).toNat (ez_v (.inl (qz_I g 796 (k).toNat)))) = nb at *
          refine ez_go (n := 1) (pc' := 110) (L' := [(3, .inl (qz_I g 796 (k).toNat)), (2, .inl (k)), (1, .inl (more)), (0, .inr (.inr (some (770))))]) (st' := [.inr (.inr (some (770)))]) rfl ?_
          refine ez_gC (p := 798) (tg := 85) hBmb t770 rfl rfl tq_75 rfl rfl (fun (t798 : _ = 85) => ?_)
          refine ez_go (n := 1) (pc' := 114) (L' := [(3, .inl (qz_I g 796 (k).toNat)), (2, .inl (k)), (1, .inl (more)), (0, .inr (.inr (some (770))))]) (st' := [.inl (k), .inr (.inr (some (798)))]) rfl ?_
          have n22 : 2000 ≤ qz_N nb 798 ∧ qz_N nb 798 ≤ 2000 := ez_len hBmb t798 tq_85 rfl
          refine ez_aI hBmb t798 rfl tq_85 rfl rfl (by omega) (by omega) (fun (b21 : -2147483648 ≤ qz_I nb 798 (k).toNat) (b21' : qz_I nb 798 (k).toNat ≤ 2147483647) => ?_)
          rw [show qz_I nb 798 (k).toNat = qz_I g 798 k.toNat by rw [rb, ra]]
          refine ez_go (n := 2) (pc' := 118) (L' := [(4, .inl (qz_I g 798 k.toNat)), (3, .inl (qz_I g 796 (k).toNat)), (2, .inl (k)), (1, .inl (more)), (0, .inr (.inr (some (770))))]) (st' := [.inr (.inr (some (770)))]) rfl ?_
          refine ez_gC (p := 798) (tg := 85) hBmb t770 rfl rfl tq_75 rfl rfl (fun (t798 : _ = 85) => ?_)
          refine ez_go (n := 2) (pc' := 123) (L' := [(4, .inl (qz_I g 798 k.toNat)), (3, .inl (qz_I g 796 (k).toNat)), (2, .inl (k)), (1, .inl (more)), (0, .inr (.inr (some (770))))]) (st' := [.inr (.inr (some (770))), .inl (k), .inr (.inr (some (798)))]) rfl ?_
          refine ez_gC (p := 798) (tg := 85) hBmb t770 rfl rfl tq_75 rfl rfl (fun (t798 : _ = 85) => ?_)
          refine ez_go (n := 3) (pc' := 129) (L' := [(4, .inl (qz_I g 798 k.toNat)), (3, .inl (qz_I g 796 (k).toNat)), (2, .inl (k)), (1, .inl (more)), (0, .inr (.inr (some (770))))]) (st' := [.inl ((k) - (1)), .inr (.inr (some (798))), .inl (k), .inr (.inr (some (798)))]) rfl ?_
          have n24 : 2000 ≤ qz_N nb 798 ∧ qz_N nb 798 ≤ 2000 := ez_len hBmb t798 tq_85 rfl
          refine ez_aI hBmb t798 rfl tq_85 rfl rfl (by omega) (by omega) (fun (b23 : -2147483648 ≤ qz_I nb 798 ((k) - (1)).toNat) (b23' : qz_I nb 798 ((k) - (1)).toNat ≤ 2147483647) => ?_)
          have n27 : 2000 ≤ qz_N nb 798 ∧ qz_N nb 798 ≤ 2000 := ez_len hBmb t798 tq_85 rfl
          refine ez_as hBmb t798 rfl tq_85 rfl rfl (by omega) (by omega) (ez_vdI rfl rfl (by omega) (by omega)) (fun hB25 w26 => ?_)
          have oc : orz τ h (dz_put nb 798 (k).toNat (ez_v (.inl (qz_I nb 798 ((k) - (1)).toNat)))) := ob.put hB25 (Or.inr t798)
          have vc : qz_I (dz_put nb 798 (k).toNat (ez_v (.inl (qz_I nb 798 ((k) - (1)).toNat)))) 798 (k).toNat = qz_I nb 798 (k - 1).toNat := w26.trans (rz_rd ⟨by omega, by omega⟩)
          have rc : ∀ j, j ≠ (k).toNat → qz_I (dz_put nb 798 (k).toNat (ez_v (.inl (qz_I nb 798 ((k) - (1)).toNat)))) 798 j = qz_I nb 798 j := fun j hj => ez_put_I (fun w => hj w.2)
          have hBmc := hB25
          generalize (dz_put nb 798 (k).toNat (ez_v (.inl (qz_I nb 798 ((k) - (1)).toNat)))) = nc at *
          refine ez_go (n := 1) (pc' := 132) (L' := [(4, .inl (qz_I g 798 k.toNat)), (3, .inl (qz_I g 796 (k).toNat)), (2, .inl (k)), (1, .inl (more)), (0, .inr (.inr (some (770))))]) (st' := [.inr (.inr (some (770)))]) rfl ?_
          refine ez_gC (p := 798) (tg := 85) hBmc t770 rfl rfl tq_75 rfl rfl (fun (t798 : _ = 85) => ?_)
          refine ez_go (n := 4) (pc' := 140) (L' := [(4, .inl (qz_I g 798 k.toNat)), (3, .inl (qz_I g 796 (k).toNat)), (2, .inl (k)), (1, .inl (more)), (0, .inr (.inr (some (770))))]) (st' := [.inl (qz_I g 798 k.toNat), .inl ((k) - (1)), .inr (.inr (some (798)))]) rfl ?_
          have n30 : 2000 ≤ qz_N nc 798 ∧ qz_N nc 798 ≤ 2000 := ez_len hBmc t798 tq_85 rfl
          refine ez_as hBmc t798 rfl tq_85 rfl rfl (by omega) (by omega) (ez_vdI rfl rfl (by omega) (by omega)) (fun hB28 w29 => ?_)
          have od : orz τ h (dz_put nc 798 ((k) - (1)).toNat (ez_v (.inl (qz_I g 798 k.toNat)))) := oc.put hB28 (Or.inr t798)
          have vd : qz_I (dz_put nc 798 ((k) - (1)).toNat (ez_v (.inl (qz_I g 798 k.toNat)))) 798 (k - 1).toNat = qz_I g 798 k.toNat := w29.trans (rz_rd ⟨by omega, by omega⟩)
          have rd : ∀ j, j ≠ (k - 1).toNat → qz_I (dz_put nc 798 ((k) - (1)).toNat (ez_v (.inl (qz_I g 798 k.toNat)))) 798 j = qz_I nc 798 j := fun j hj => ez_put_I (fun w => hj w.2)
          have hBmd := hB28
          generalize (dz_put nc 798 ((k) - (1)).toNat (ez_v (.inl (qz_I g 798 k.toNat)))) = nd at *
          refine ez_go (n := 4) (pc' := 42) (L' := [(2, .inl (k + 1)), (1, .inl (1)), (4, .inl (qz_I g 798 k.toNat)), (3, .inl (qz_I g 796 (k).toNat)), (0, .inr (.inr (some (770))))]) (st' := []) rfl ?_
          refine ez_less [(2, .inl (k + 1)), (1, .inl (1)), (0, .inr (.inr (some (770))))] rfl ⟨rfl, rfl, rfl, trivial⟩ ?_
          have rk1 : ∀ j, qz_I nb 798 j = qz_I g 798 j := fun j => by rw [rb, ra]
          have sw : phr h nd = phr h g + (qz_I g 798 (k - 1).toNat - qz_I g 798 k.toNat) := by
            unfold phr
            have e1 : (k - 1).toNat + 1 = k.toNat := by omega
            have w9 := phz_swap (f := fun i => qz_I g 798 i) (g := fun i => qz_I nd 798 i) (k := (k - 1).toNat) ?_ ?_ ?_ (qz_I h 770 30).toNat (by omega)
            · simp only [e1] at w9; exact w9
            · show qz_I nd 798 (k - 1).toNat = qz_I g 798 ((k - 1).toNat + 1)
              rw [vd, e1]
            · show qz_I nd 798 ((k - 1).toNat + 1) = qz_I g 798 (k - 1).toNat
              rw [e1, rd k.toNat (by omega), vc, rk1]
            · intro i i1 i2
              show qz_I nd 798 i = qz_I g 798 i
              rw [rd i i1, rc i (by omega), rk1]
          exact ih (k + 1) 1 nd (by clear hm1; omega) (by clear hm1; omega) (by clear hm1; omega) od (Or.inr rfl) ⟨by omega, fun _ => by omega⟩
        · skip
          refine ez_go (n := 3) (pc' := 42) (L' := [(2, .inl (k + 1)), (1, .inl (more)), (0, .inr (.inr (some (770))))]) (st' := []) rfl ?_
          refine ez_less [(2, .inl (k + 1)), (1, .inl (more)), (0, .inr (.inr (some (770))))] rfl ⟨rfl, rfl, rfl, trivial⟩ ?_
          exact ih (k + 1) more g (by clear hm1; omega) (by clear hm1; omega) (by clear hm1; omega) ho hm1 hph

theorem rd_order_z {g : cz_H} (ho : orz τ h g) (kx : ∀ g, orz τ h g → Q (.inl none, g)) : ez_W (d + 2) cm_285 34 [(1, .inl (0)), (0, .inr (.inr (some (770))))] [] g Q := by
  refine ez_go (n := 1) (pc' := 35) (L' := [(1, .inl (0)), (0, .inr (.inr (some (770))))]) (st' := [.inl (0)]) rfl ?_
  refine ez_if rfl rfl ⟨by decide, by decide⟩ (fun _ => ?_) (fun (c1 : ¬((0 : Int) = (0))) => absurd c1 (by decide))
  exact ez_ret0 rfl rfl (kx g ho)

theorem rd_order_3 {B : Int} (t770 : τ 770 = 75) (hbd : ∀ g, orz τ h g → phr h g ≤ B) (kx : ∀ g, orz τ h g → Q (.inl none, g)) : ∀ (n : Nat) (g : cz_H) (more : Int), (B - phr h g).toNat ≤ n → orz τ h g → (more = 0 ∨ more = 1) → ez_W (d + 2) cm_285 34 [(1, .inl (more)), (0, .inr (.inr (some (770))))] [] g Q := by
  have kz : ∀ g, orz τ h g → ez_W (d + 2) cm_285 34 [(1, .inl (0)), (0, .inr (.inr (some (770))))] [] g Q := fun g ho => rd_order_z ho kx
  intro n
  induction n with
  | zero =>
    intro g more hn ho hm1
    have hBg := ho.1
    have s30 := ho.s t770 30
    have b30 : 0 ≤ qz_I g 770 30 ∧ qz_I g 770 30 ≤ 2000 := ez_fB (cl := 11) (k := 30) hBg t770 tq_75 rfl rfl (by decide)
    have mr : ez_rg more := by rcases hm1 with w | w <;> rw [w] <;> exact ⟨by decide, by decide⟩
    refine ez_go (n := 1) (pc' := 35) (L' := [(1, .inl (more)), (0, .inr (.inr (some (770))))]) (st' := [.inl (more)]) rfl ?_
    refine ez_if rfl rfl ⟨by first | exact mr.1 | (clear hm1; omega), by first | exact mr.2 | (clear hm1; omega)⟩ (fun (c1 : (more) = (0)) => ?_) (fun (c1 : ¬((more) = (0))) => ?_)
    · skip
      exact ez_ret0 rfl rfl (kx g ho)
    · skip
      refine ez_go (n := 4) (pc' := 42) (L' := [(2, .inl (1)), (1, .inl (0)), (0, .inr (.inr (some (770))))]) (st' := []) rfl ?_
      refine ez_less [(2, .inl (1)), (1, .inl (0)), (0, .inr (.inr (some (770))))] rfl ⟨rfl, rfl, rfl, trivial⟩ ?_
      refine rd_order_2 (p0 := phr h g) t770 (fun g2 more2 o2 hm2 hp2 => ?_) _ 1 0 g (Nat.le_refl _) (by clear hm1; omega) (by clear hm1; omega) ho (Or.inl rfl) ⟨Int.le_refl _, fun w => absurd w (by decide)⟩
      rcases hm2 with w | w
      · subst w; exact kz g2 o2
      · exfalso; have := hp2.2 w; have := hbd g2 o2; omega
  | succ n ih =>
    intro g more hn ho hm1
    have hBg := ho.1
    have s30 := ho.s t770 30
    have b30 : 0 ≤ qz_I g 770 30 ∧ qz_I g 770 30 ≤ 2000 := ez_fB (cl := 11) (k := 30) hBg t770 tq_75 rfl rfl (by decide)
    have mr : ez_rg more := by rcases hm1 with w | w <;> rw [w] <;> exact ⟨by decide, by decide⟩
    refine ez_go (n := 1) (pc' := 35) (L' := [(1, .inl (more)), (0, .inr (.inr (some (770))))]) (st' := [.inl (more)]) rfl ?_
    refine ez_if rfl rfl ⟨by first | exact mr.1 | (clear hm1; omega), by first | exact mr.2 | (clear hm1; omega)⟩ (fun (c1 : (more) = (0)) => ?_) (fun (c1 : ¬((more) = (0))) => ?_)
    · skip
      exact ez_ret0 rfl rfl (kx g ho)
    · skip
      refine ez_go (n := 4) (pc' := 42) (L' := [(2, .inl (1)), (1, .inl (0)), (0, .inr (.inr (some (770))))]) (st' := []) rfl ?_
      refine ez_less [(2, .inl (1)), (1, .inl (0)), (0, .inr (.inr (some (770))))] rfl ⟨rfl, rfl, rfl, trivial⟩ ?_
      refine rd_order_2 (p0 := phr h g) t770 (fun g2 more2 o2 hm2 hp2 => ?_) _ 1 0 g (Nat.le_refl _) (by clear hm1; omega) (by clear hm1; omega) ho (Or.inl rfl) ⟨Int.le_refl _, fun w => absurd w (by decide)⟩
      rcases hm2 with w | w
      · subst w; exact kz g2 o2
      · exact ih g2 more2 (by have := hp2.2 w; have := hbd g2 o2; omega) o2 (Or.inr w)

theorem rd_order {Ls : List vz} {b : Int} (hI : mI τ h Ls b) (kx : ∀ g, orz τ h g → Q (.inl none, g)) : ez_W (d + 2) cm_285 0 [(0, .inr (.inr (some (770))))] [] h Q := by
  have hB := hI.1
  have t770 : τ 770 = 75 := hI.2.1 770 (by decide)
  have tk : τ 798 = 85 := hI.2.1 798 (by decide)
  have b30 : 0 ≤ qz_I h 770 30 ∧ qz_I h 770 30 ≤ 2000 := ez_fB (cl := 11) (k := 30) hB t770 tq_75 rfl rfl (by decide)
  have hbd : ∀ g, orz τ h g → phr h g ≤ ((qz_I h 770 30).toNat : Int) * (((qz_I h 770 30).toNat : Int) * 2147483647) := fun g ho => phz_le (by decide) _ (fun i hi => by
    have nn : 2000 ≤ qz_N g 798 ∧ qz_N g 798 ≤ 2000 := ez_len ho.1 tk tq_85 rfl
    exact (ez_aB ho.1 tk tq_85 rfl rfl (by decide) (i := (i : Int)) (by omega) (by omega)).2)
  refine ez_go (n := 2) (pc' := 2) (L' := [(1, .inl (0)), (0, .inr (.inr (some (770))))]) (st' := []) rfl ?_
  refine ez_less [(1, .inl (0)), (0, .inr (.inr (some (770))))] rfl ⟨rfl, rfl, trivial⟩ ?_
  refine rd_order_1 hI t770 (fun g ho => ?_) _ 0 h (Nat.le_refl _) (by omega) (by omega) ⟨hB, fun _ _ _ => rfl, rfl, rfl⟩
  refine ez_go (n := 2) (pc' := 34) (L' := [(1, .inl (1)), (0, .inr (.inr (some (770))))]) (st' := []) rfl ?_
  refine ez_less [(1, .inl (1)), (0, .inr (.inr (some (770))))] rfl ⟨rfl, rfl, trivial⟩ ?_
  exact rd_order_3 t770 hbd kx _ g 1 (Nat.le_refl _) ho (Or.inr rfl)

end EzOr
