/-! The model: make, order, compose. (Written by wip/p2/py/pvt6.py.) -/
section EzMk
variable {d : Nat} {h : cz_H} {τ : Nat → Nat} {Q : cz_F → Prop} {l : List Int} {L : List (Int × Int)}
theorem tm_add {g : cz_H} {p : Int} (a : tm h l) (e1 : qz_I g 770 30 = qz_I h 770 30 + 1) (e2 : qz_I g 796 (qz_I h 770 30).toNat = p) (e3 : ∀ j, j ≠ (qz_I h 770 30).toNat → qz_I g 796 j = qz_I h 796 j) : tm g (l ++ [p]) := by
  have hl := a.1
  refine ⟨by rw [e1, hl, List.length_append]; rfl, fun j v hv => ?_⟩
  by_cases e : j < l.length
  · rw [List.getElem?_append_left e] at hv
    rw [e3 j (by omega)]; exact a.2 j v hv
  · rw [List.getElem?_append_right (by omega)] at hv
    have e0 : j - l.length = 0 := by
      by_cases w : j - l.length = 0
      · exact w
      · rw [List.getElem?_eq_none (by rw [List.length_singleton]; omega)] at hv; cases hv
    rw [e0] at hv
    cases hv
    rw [show j = (qz_I h 770 30).toNat by omega]; exact e2
theorem rd_make {p : Int} (hB : ez_B τ h) (t770 : τ 770 = 75) (a : tm h l) (pr : ez_rg p) (hr1 : h.1 + 1 ≤ 600192) (hr2 : h.2.1 + 6 ≤ 7302232) (k1 : l.length < 2000 → ∀ g, ez_B τ g → ez_fr (nz_PL 796) h g → (∀ j, j ≠ 30 → qz_I g 770 j = qz_I h 770 j) → tm g (l ++ [p]) → Q (.inl none, g)) (k0 : 2000 ≤ l.length → Q (.inr h.1, xc h 0)) : ez_W (d + 5) cm_278 0 [(0, .inr (.inr (some (770)))), (1, .inl (p))] [] h Q := by
  obtain ⟨pr1, pr2⟩ := id pr
  have al := a.1
  refine ez_go (n := 1) (pc' := 1) (L' := [(0, .inr (.inr (some (770)))), (1, .inl (p))]) (st' := [.inr (.inr (some (770)))]) rfl ?_
  refine ez_gI hB t770 rfl rfl tq_75 rfl rfl (fun (b1 : 0 ≤ qz_I h 770 30) (b1' : qz_I h 770 30 ≤ 2000) => ?_)
  refine ez_go (n := 1) (pc' := 7) (L' := [(0, .inr (.inr (some (770)))), (1, .inl (p))]) (st' := [.inl (2000), .inl (qz_I h 770 30)]) rfl ?_
  refine ez_icmp rfl rfl ⟨by first | omega | exact (sz_i32 _).1, by first | omega | exact (sz_i32 _).2⟩ ⟨by first | omega | exact (sz_i32 _).1, by first | omega | exact (sz_i32 _).2⟩ (fun (c2 : (qz_I h 770 30) ≠ (2000)) => ?_) (fun (c2 : ¬((qz_I h 770 30) ≠ (2000))) => ?_)
  · skip
    refine ez_go (n := 1) (pc' := 19) (L' := [(0, .inr (.inr (some (770)))), (1, .inl (p))]) (st' := [.inr (.inr (some (770)))]) rfl ?_
    refine ez_gC (p := 796) (tg := 83) hB t770 rfl rfl tq_75 rfl rfl (fun (t796 : _ = 83) => ?_)
    refine ez_go (n := 1) (pc' := 23) (L' := [(0, .inr (.inr (some (770)))), (1, .inl (p))]) (st' := [.inr (.inr (some (770))), .inr (.inr (some (796)))]) rfl ?_
    refine ez_gI hB t770 rfl rfl tq_75 rfl rfl (fun (b3 : 0 ≤ qz_I h 770 30) (b3' : qz_I h 770 30 ≤ 2000) => ?_)
    refine ez_go (n := 1) (pc' := 27) (L' := [(0, .inr (.inr (some (770)))), (1, .inl (p))]) (st' := [.inl (p), .inl (qz_I h 770 30), .inr (.inr (some (796)))]) rfl ?_
    have n6 : 2000 ≤ qz_N h 796 ∧ qz_N h 796 ≤ 2000 := ez_len hB t796 tq_83 rfl
    refine ez_as hB t796 rfl tq_83 rfl rfl (by omega) (by omega) (ez_vdI rfl rfl (by omega) (by omega)) (fun hB4 w5 => ?_)
    have ex : qz_I (dz_put h 796 (qz_I h 770 30).toNat (ez_v (.inl (p)))) 770 30 = qz_I h 770 30 := ez_put_I (fun w => absurd w.1 (by decide))
    refine ez_go (n := 2) (pc' := 30) (L' := [(0, .inr (.inr (some (770)))), (1, .inl (p))]) (st' := [.inr (.inr (some (770))), .inr (.inr (some (770)))]) rfl ?_
    refine ez_gI hB4 t770 rfl rfl tq_75 rfl rfl (fun (b7 : 0 ≤ qz_I (dz_put h 796 (qz_I h 770 30).toNat (ez_v (.inl (p)))) 770 30) (b7' : qz_I (dz_put h 796 (qz_I h 770 30).toNat (ez_v (.inl (p)))) 770 30 ≤ 2000) => ?_)
    refine ez_go (n := 2) (pc' := 35) (L' := [(0, .inr (.inr (some (770)))), (1, .inl (p))]) (st' := [.inl ((qz_I (dz_put h 796 (qz_I h 770 30).toNat (ez_v (.inl (p)))) 770 30) + (1)), .inr (.inr (some (770)))]) rfl ?_
    refine ez_pf hB4 t770 rfl rfl tq_75 rfl rfl rfl rfl (ez_vdI rfl rfl (by omega) (by omega)) (fun hB8 w9 => ?_)
    refine ez_ret0 rfl rfl (k1 (by omega) _ hB8 (((ez_fr.refl (nz_PL 796) h).put (show nz_PL 796 796 = true from rfl) _ _).put (show nz_PL 796 770 = true from rfl) _ _) (fun j hj => ?_) (tm_add a ?_ ?_ (fun j hj => ?_)))
    · rw [ez_put_I (fun w => hj w.2), ez_put_I (fun w => absurd w.1 (by decide))]
    · rw [w9, ez_put_I (fun w => absurd w.1 (by decide))]; exact rz_rd ⟨by omega, by omega⟩
    · rw [ez_put_I (fun w => absurd w.1 (by decide)), w5]; exact rz_rd ⟨pr1, pr2⟩
    · rw [ez_put_I (fun w => absurd w.1 (by decide)), ez_put_I (fun w => hj w.2)]
  · skip
    exact ez_th rfl rfl (by omega) (by omega) (by omega) rfl (k0 (by omega))

theorem rd_mord_1 {Ls : List vz} {b : Int} (hI : mI τ h Ls b) (t770 : τ 770 = 75) (a : tm h l) (pl : ptl l) (kx : ∀ g, orz τ h g → prm g (zl (vF Ls) l) → ez_W (d + 2) cm_285 32 [(0, .inr (.inr (some (770))))] [] g Q) : ∀ (n : Nat) (k : Int) (g : cz_H), (qz_I h 770 30 - k).toNat ≤ n → 0 ≤ k → k ≤ 2000 → orz τ h g → (∀ j, qz_I g 796 j = qz_I h 796 j) → (∀ (j : Nat) v, (j : Int) < k → l[j]? = some v → qz_I g 798 j = (vF Ls v).1) → ez_W (d + 2) cm_285 2 [(1, .inl (k)), (0, .inr (.inr (some (770))))] [] g Q := by
  have al := a.1
  intro n
  induction n with
  | zero =>
    intro k g hn k0 k2k ho h6 h8
    have hBg := ho.1
    have s30 := ho.s t770 30
    have b30 : 0 ≤ qz_I g 770 30 ∧ qz_I g 770 30 ≤ 2000 := ez_fB (cl := 11) (k := 30) hBg t770 tq_75 rfl rfl (by decide)
    refine ez_go (n := 2) (pc' := 4) (L' := [(1, .inl (k)), (0, .inr (.inr (some (770))))]) (st' := [.inr (.inr (some (770))), .inl (k)]) rfl ?_
    refine ez_gI hBg t770 rfl rfl tq_75 rfl rfl (fun (b1 : 0 ≤ qz_I g 770 30) (b1' : qz_I g 770 30 ≤ 2000) => ?_)
    refine ez_icmp rfl rfl ⟨by first | omega | exact (sz_i32 _).1, by first | omega | exact (sz_i32 _).2⟩ ⟨by first | omega | exact (sz_i32 _).1, by first | omega | exact (sz_i32 _).2⟩ (fun (c2 : (qz_I g 770 30) ≤ (k)) => ?_) (fun (c2 : ¬((qz_I g 770 30) ≤ (k))) => ?_)
    · skip
      refine ez_less [(0, .inr (.inr (some (770))))] rfl ⟨rfl, trivial⟩ ?_
      exact kx g ho (fun j z hz => by obtain ⟨z1, z2⟩ := zl_at hz; exact ⟨(h6 j).trans (a.2 j _ z1), by rw [z2]; exact h8 j _ (by have := (List.getElem?_eq_some_iff.mp z1).1; omega) z1⟩)
    · exfalso; omega
  | succ n ih =>
    intro k g hn k0 k2k ho h6 h8
    have hBg := ho.1
    have s30 := ho.s t770 30
    have b30 : 0 ≤ qz_I g 770 30 ∧ qz_I g 770 30 ≤ 2000 := ez_fB (cl := 11) (k := 30) hBg t770 tq_75 rfl rfl (by decide)
    refine ez_go (n := 2) (pc' := 4) (L' := [(1, .inl (k)), (0, .inr (.inr (some (770))))]) (st' := [.inr (.inr (some (770))), .inl (k)]) rfl ?_
    refine ez_gI hBg t770 rfl rfl tq_75 rfl rfl (fun (b1 : 0 ≤ qz_I g 770 30) (b1' : qz_I g 770 30 ≤ 2000) => ?_)
    refine ez_icmp rfl rfl ⟨by first | omega | exact (sz_i32 _).1, by first | omega | exact (sz_i32 _).2⟩ ⟨by first | omega | exact (sz_i32 _).1, by first | omega | exact (sz_i32 _).2⟩ (fun (c2 : (qz_I g 770 30) ≤ (k)) => ?_) (fun (c2 : ¬((qz_I g 770 30) ≤ (k))) => ?_)
    · skip
      refine ez_less [(0, .inr (.inr (some (770))))] rfl ⟨rfl, trivial⟩ ?_
      exact kx g ho (fun j z hz => by obtain ⟨z1, z2⟩ := zl_at hz; exact ⟨(h6 j).trans (a.2 j _ z1), by rw [z2]; exact h8 j _ (by have := (List.getElem?_eq_some_iff.mp z1).1; omega) z1⟩)
    · skip
      refine ez_go (n := 1) (pc' := 11) (L' := [(1, .inl (k)), (0, .inr (.inr (some (770))))]) (st' := [.inr (.inr (some (770)))]) rfl ?_
      refine ez_gC (p := 798) (tg := 85) hBg t770 rfl rfl tq_75 rfl rfl (fun (t798 : _ = 85) => ?_)
      refine ez_go (n := 3) (pc' := 17) (L' := [(1, .inl (k)), (0, .inr (.inr (some (770))))]) (st' := [.inr (.inr (some (770))), .inr (.inr (some (770))), .inl (k), .inr (.inr (some (798)))]) rfl ?_
      refine ez_gC (p := 796) (tg := 83) hBg t770 rfl rfl tq_75 rfl rfl (fun (t796 : _ = 83) => ?_)
      refine ez_go (n := 1) (pc' := 21) (L' := [(1, .inl (k)), (0, .inr (.inr (some (770))))]) (st' := [.inl (k), .inr (.inr (some (796))), .inr (.inr (some (770))), .inl (k), .inr (.inr (some (798)))]) rfl ?_
      have n4 : 2000 ≤ qz_N g 796 ∧ qz_N g 796 ≤ 2000 := ez_len hBg t796 tq_83 rfl
      refine ez_aI hBg t796 rfl tq_83 rfl rfl (by omega) (by omega) (fun (b3 : -2147483648 ≤ qz_I g 796 (k).toNat) (b3' : qz_I g 796 (k).toNat ≤ 2147483647) => ?_)
      have l9 : k.toNat < l.length := by omega
      have ev : qz_I g 796 (k).toNat = l[k.toNat] := (h6 _).trans (a.2 _ _ (List.getElem?_eq_getElem l9))
      rw [ev]
      have vb := ptl_at pl (List.getElem?_eq_getElem l9)
      refine ez_cv hBg t770 rfl rfl rfl tq_75 rfl rfl rfl (rd_mrank (ho.mIx hI) ⟨by omega, by omega⟩ (fun rg => ez_K1 ?_))
      obtain ⟨rg0, rg1⟩ := id rg
      have n7 : 2000 ≤ qz_N g 798 ∧ qz_N g 798 ≤ 2000 := ez_len hBg t798 tq_85 rfl
      refine ez_as hBg t798 rfl tq_85 rfl rfl (by omega) (by omega) (ez_vdI rfl rfl (by omega) (by omega)) (fun hB5 w6 => ?_)
      refine ez_go (n := 2) (pc' := 2) (L' := [(1, .inl (k + 1)), (0, .inr (.inr (some (770))))]) (st' := []) rfl ?_
      refine ez_less [(1, .inl (k + 1)), (0, .inr (.inr (some (770))))] rfl ⟨rfl, rfl, trivial⟩ ?_
      refine ih (k + 1) _ (by omega) (by omega) (by omega) (ho.put hB5 (Or.inr t798)) (fun j => (ez_put_I (fun w => absurd w.1 (by decide))).trans (h6 j)) (fun j v hj hv => ?_)
      by_cases ej : (j : Int) = k
      · have e9 : j = k.toNat := by omega
        subst e9
        rw [List.getElem?_eq_getElem l9] at hv
        cases hv
        rw [w6]; exact rz_rd rg
      · rw [ez_put_I (fun w => by omega)]; exact h8 j v (by omega) hv

theorem rd_mord_2 {p0 : Int} (t770 : τ 770 = 75) (hL : qz_I h 770 30 = (L.length : Int)) (nn : ∀ x ∈ L, 0 ≤ x.2) (kx : ∀ g more Lc, orz τ h g → (more = 0 ∨ more = 1) → (p0 ≤ phr h g ∧ (more = 1 → p0 < phr h g)) → prm g Lc → ods L Lc → (more = 0 → nfk Lc (L.length : Int)) → ez_W (d + 2) cm_285 34 [(1, .inl (more)), (0, .inr (.inr (some (770))))] [] g Q) : ∀ (n : Nat) (k more : Int) (g : cz_H) (Lc : List (Int × Int)), (qz_I h 770 30 - k).toNat ≤ n → 1 ≤ k → k ≤ 2001 → orz τ h g → (more = 0 ∨ more = 1) → (p0 ≤ phr h g ∧ (more = 1 → p0 < phr h g)) → prm g Lc → ods L Lc → (more = 0 → nfk Lc k) → ez_W (d + 2) cm_285 42 [(2, .inl (k)), (1, .inl (more)), (0, .inr (.inr (some (770))))] [] g Q := by
  intro n
  induction n with
  | zero =>
    intro k more g Lc hn k0 k2k ho hm1 hph hp hd hz
    have hBg := ho.1
    have s30 := ho.s t770 30
    have b30 : 0 ≤ qz_I g 770 30 ∧ qz_I g 770 30 ≤ 2000 := ez_fB (cl := 11) (k := 30) hBg t770 tq_75 rfl rfl (by decide)
    have mr : ez_rg more := by rcases hm1 with w | w <;> rw [w] <;> exact ⟨by decide, by decide⟩
    have ll := hd.1
    refine ez_go (n := 2) (pc' := 44) (L' := [(2, .inl (k)), (1, .inl (more)), (0, .inr (.inr (some (770))))]) (st' := [.inr (.inr (some (770))), .inl (k)]) rfl ?_
    refine ez_gI hBg t770 rfl rfl tq_75 rfl rfl (fun (b1 : 0 ≤ qz_I g 770 30) (b1' : qz_I g 770 30 ≤ 2000) => ?_)
    refine ez_icmp rfl rfl ⟨by first | exact mr.1 | (clear hm1; omega) | exact (sz_i32 _).1, by first | exact mr.2 | (clear hm1; omega) | exact (sz_i32 _).2⟩ ⟨by first | exact mr.1 | (clear hm1; omega) | exact (sz_i32 _).1, by first | exact mr.2 | (clear hm1; omega) | exact (sz_i32 _).2⟩ (fun (c2 : (qz_I g 770 30) ≤ (k)) => ?_) (fun (c2 : ¬((qz_I g 770 30) ≤ (k))) => ?_)
    · skip
      refine ez_go (n := 1) (pc' := 34) (L' := [(2, .inl (k)), (1, .inl (more)), (0, .inr (.inr (some (770))))]) (st' := []) rfl ?_
      refine ez_less [(1, .inl (more)), (0, .inr (.inr (some (770))))] rfl ⟨rfl, rfl, trivial⟩ ?_
      exact kx g more Lc ho hm1 hph hp hd (fun w j x y hj hx hy => hz w j x y (by have := (List.getElem?_eq_some_iff.mp hy).1; have := hd.1; clear hm1 hph; omega) hx hy)
    · skip
      refine ez_go (n := 1) (pc' := 51) (L' := [(2, .inl (k)), (1, .inl (more)), (0, .inr (.inr (some (770))))]) (st' := [.inr (.inr (some (770)))]) rfl ?_
      refine ez_gC (p := 798) (tg := 85) hBg t770 rfl rfl tq_75 rfl rfl (fun (t798 : _ = 85) => ?_)
      refine ez_go (n := 1) (pc' := 55) (L' := [(2, .inl (k)), (1, .inl (more)), (0, .inr (.inr (some (770))))]) (st' := [.inl (k), .inr (.inr (some (798)))]) rfl ?_
      have n4 : 2000 ≤ qz_N g 798 ∧ qz_N g 798 ≤ 2000 := ez_len hBg t798 tq_85 rfl
      refine ez_aI hBg t798 rfl tq_85 rfl rfl (by omega) (by omega) (fun (b3 : -2147483648 ≤ qz_I g 798 (k).toNat) (b3' : qz_I g 798 (k).toNat ≤ 2147483647) => ?_)
      refine ez_if rfl rfl ⟨by first | exact mr.1 | (clear hm1; omega) | exact (sz_i32 _).1, by first | exact mr.2 | (clear hm1; omega) | exact (sz_i32 _).2⟩ (fun (c5 : (qz_I g 798 (k).toNat) = (0)) => ?_) (fun (c5 : ¬((qz_I g 798 (k).toNat) = (0))) => ?_)
      · skip
        refine ez_go (n := 2) (pc' := 42) (L' := [(2, .inl (k + 1)), (1, .inl (more)), (0, .inr (.inr (some (770))))]) (st' := []) rfl ?_
        exfalso; clear hm1; omega
      · skip
        refine ez_go (n := 1) (pc' := 60) (L' := [(2, .inl (k)), (1, .inl (more)), (0, .inr (.inr (some (770))))]) (st' := [.inr (.inr (some (770)))]) rfl ?_
        refine ez_gC (p := 798) (tg := 85) hBg t770 rfl rfl tq_75 rfl rfl (fun (t798 : _ = 85) => ?_)
        refine ez_go (n := 3) (pc' := 66) (L' := [(2, .inl (k)), (1, .inl (more)), (0, .inr (.inr (some (770))))]) (st' := [.inl ((k) - (1)), .inr (.inr (some (798)))]) rfl ?_
        have n7 : 2000 ≤ qz_N g 798 ∧ qz_N g 798 ≤ 2000 := ez_len hBg t798 tq_85 rfl
        refine ez_aI hBg t798 rfl tq_85 rfl rfl (by omega) (by omega) (fun (b6 : -2147483648 ≤ qz_I g 798 ((k) - (1)).toNat) (b6' : qz_I g 798 ((k) - (1)).toNat ≤ 2147483647) => ?_)
        refine ez_go (n := 1) (pc' := 68) (L' := [(2, .inl (k)), (1, .inl (more)), (0, .inr (.inr (some (770))))]) (st' := [.inr (.inr (some (770))), .inl (qz_I g 798 ((k) - (1)).toNat)]) rfl ?_
        refine ez_gC (p := 798) (tg := 85) hBg t770 rfl rfl tq_75 rfl rfl (fun (t798 : _ = 85) => ?_)
        refine ez_go (n := 1) (pc' := 72) (L' := [(2, .inl (k)), (1, .inl (more)), (0, .inr (.inr (some (770))))]) (st' := [.inl (k), .inr (.inr (some (798))), .inl (qz_I g 798 ((k) - (1)).toNat)]) rfl ?_
        have n9 : 2000 ≤ qz_N g 798 ∧ qz_N g 798 ≤ 2000 := ez_len hBg t798 tq_85 rfl
        refine ez_aI hBg t798 rfl tq_85 rfl rfl (by omega) (by omega) (fun (b8 : -2147483648 ≤ qz_I g 798 (k).toNat) (b8' : qz_I g 798 (k).toNat ≤ 2147483647) => ?_)
        refine ez_icmp rfl rfl ⟨by first | exact mr.1 | (clear hm1; omega) | exact (sz_i32 _).1, by first | exact mr.2 | (clear hm1; omega) | exact (sz_i32 _).2⟩ ⟨by first | exact mr.1 | (clear hm1; omega) | exact (sz_i32 _).1, by first | exact mr.2 | (clear hm1; omega) | exact (sz_i32 _).2⟩ (fun (c10 : (qz_I g 798 (k).toNat) < (qz_I g 798 ((k) - (1)).toNat)) => ?_) (fun (c10 : ¬((qz_I g 798 (k).toNat) < (qz_I g 798 ((k) - (1)).toNat))) => ?_)
        · skip
          refine ez_go (n := 1) (pc' := 80) (L' := [(2, .inl (k)), (1, .inl (more)), (0, .inr (.inr (some (770))))]) (st' := [.inr (.inr (some (770)))]) rfl ?_
          refine ez_gC (p := 796) (tg := 83) hBg t770 rfl rfl tq_75 rfl rfl (fun (t796 : _ = 83) => ?_)
          refine ez_go (n := 1) (pc' := 84) (L' := [(2, .inl (k)), (1, .inl (more)), (0, .inr (.inr (some (770))))]) (st' := [.inl (k), .inr (.inr (some (796)))]) rfl ?_
          have n12 : 2000 ≤ qz_N g 796 ∧ qz_N g 796 ≤ 2000 := ez_len hBg t796 tq_83 rfl
          refine ez_aI hBg t796 rfl tq_83 rfl rfl (by omega) (by omega) (fun (b11 : -2147483648 ≤ qz_I g 796 (k).toNat) (b11' : qz_I g 796 (k).toNat ≤ 2147483647) => ?_)
          refine ez_go (n := 2) (pc' := 87) (L' := [(3, .inl (qz_I g 796 (k).toNat)), (2, .inl (k)), (1, .inl (more)), (0, .inr (.inr (some (770))))]) (st' := [.inr (.inr (some (770)))]) rfl ?_
          refine ez_gC (p := 796) (tg := 83) hBg t770 rfl rfl tq_75 rfl rfl (fun (t796 : _ = 83) => ?_)
          refine ez_go (n := 2) (pc' := 92) (L' := [(3, .inl (qz_I g 796 (k).toNat)), (2, .inl (k)), (1, .inl (more)), (0, .inr (.inr (some (770))))]) (st' := [.inr (.inr (some (770))), .inl (k), .inr (.inr (some (796)))]) rfl ?_
          refine ez_gC (p := 796) (tg := 83) hBg t770 rfl rfl tq_75 rfl rfl (fun (t796 : _ = 83) => ?_)
          refine ez_go (n := 3) (pc' := 98) (L' := [(3, .inl (qz_I g 796 (k).toNat)), (2, .inl (k)), (1, .inl (more)), (0, .inr (.inr (some (770))))]) (st' := [.inl ((k) - (1)), .inr (.inr (some (796))), .inl (k), .inr (.inr (some (796)))]) rfl ?_
          have n14 : 2000 ≤ qz_N g 796 ∧ qz_N g 796 ≤ 2000 := ez_len hBg t796 tq_83 rfl
          refine ez_aI hBg t796 rfl tq_83 rfl rfl (by omega) (by omega) (fun (b13 : -2147483648 ≤ qz_I g 796 ((k) - (1)).toNat) (b13' : qz_I g 796 ((k) - (1)).toNat ≤ 2147483647) => ?_)
          have n17 : 2000 ≤ qz_N g 796 ∧ qz_N g 796 ≤ 2000 := ez_len hBg t796 tq_83 rfl
          refine ez_as hBg t796 rfl tq_83 rfl rfl (by omega) (by omega) (ez_vdI rfl rfl (by omega) (by omega)) (fun hB15 w16 => ?_)
          have oa : orz τ h (dz_put g 796 (k).toNat (ez_v (.inl (qz_I g 796 ((k) - (1)).toNat)))) := ho.put hB15 (Or.inl t796)
          have va : qz_I (dz_put g 796 (k).toNat (ez_v (.inl (qz_I g 796 ((k) - (1)).toNat)))) 796 (k).toNat = qz_I g 796 (k - 1).toNat := w16.trans (rz_rd ⟨by clear hm1; omega, by clear hm1; omega⟩)
          have sa : ∀ j, j ≠ (k).toNat → qz_I (dz_put g 796 (k).toNat (ez_v (.inl (qz_I g 796 ((k) - (1)).toNat)))) 796 j = qz_I g 796 j := fun j hj => ez_put_I (fun w => hj w.2)
          have xa : ∀ j, qz_I (dz_put g 796 (k).toNat (ez_v (.inl (qz_I g 796 ((k) - (1)).toNat)))) 798 j = qz_I g 798 j := fun j => ez_put_I (fun w => absurd w.1 (by decide))
          have hBma := hB15
          generalize (dz_put g 796 (k).toNat (ez_v (.inl (qz_I g 796 ((k) - (1)).toNat)))) = na at *
          refine ez_go (n := 1) (pc' := 101) (L' := [(3, .inl (qz_I g 796 (k).toNat)), (2, .inl (k)), (1, .inl (more)), (0, .inr (.inr (some (770))))]) (st' := [.inr (.inr (some (770)))]) rfl ?_
          refine ez_gC (p := 796) (tg := 83) hBma t770 rfl rfl tq_75 rfl rfl (fun (t796 : _ = 83) => ?_)
          refine ez_go (n := 4) (pc' := 108) (L' := [(3, .inl (qz_I g 796 (k).toNat)), (2, .inl (k)), (1, .inl (more)), (0, .inr (.inr (some (770))))]) (st' := [.inl (qz_I g 796 (k).toNat), .inl ((k) - (1)), .inr (.inr (some (796)))]) rfl ?_
          have n20 : 2000 ≤ qz_N na 796 ∧ qz_N na 796 ≤ 2000 := ez_len hBma t796 tq_83 rfl
          refine ez_as hBma t796 rfl tq_83 rfl rfl (by omega) (by omega) (ez_vdI rfl rfl (by omega) (by omega)) (fun hB18 w19 => ?_)
          have ob : orz τ h (dz_put na 796 ((k) - (1)).toNat (ez_v (.inl (qz_I g 796 (k).toNat)))) := oa.put hB18 (Or.inl t796)
          have vb : qz_I (dz_put na 796 ((k) - (1)).toNat (ez_v (.inl (qz_I g 796 (k).toNat)))) 796 (k - 1).toNat = qz_I g 796 k.toNat := w19.trans (rz_rd ⟨by clear hm1; omega, by clear hm1; omega⟩)
          have sb : ∀ j, j ≠ (k - 1).toNat → qz_I (dz_put na 796 ((k) - (1)).toNat (ez_v (.inl (qz_I g 796 (k).toNat)))) 796 j = qz_I na 796 j := fun j hj => ez_put_I (fun w => hj w.2)
          have xb : ∀ j, qz_I (dz_put na 796 ((k) - (1)).toNat (ez_v (.inl (qz_I g 796 (k).toNat)))) 798 j = qz_I na 798 j := fun j => ez_put_I (fun w => absurd w.1 (by decide))
          have hBmb := hB18
          generalize (dz_put na 796 ((k) - (1)).toNat (ez_v (.inl (qz_I g 796 (k).toNat)))) = nb at *
          refine ez_go (n := 1) (pc' := 110) (L' := [(3, .inl (qz_I g 796 (k).toNat)), (2, .inl (k)), (1, .inl (more)), (0, .inr (.inr (some (770))))]) (st' := [.inr (.inr (some (770)))]) rfl ?_
          refine ez_gC (p := 798) (tg := 85) hBmb t770 rfl rfl tq_75 rfl rfl (fun (t798 : _ = 85) => ?_)
          refine ez_go (n := 1) (pc' := 114) (L' := [(3, .inl (qz_I g 796 (k).toNat)), (2, .inl (k)), (1, .inl (more)), (0, .inr (.inr (some (770))))]) (st' := [.inl (k), .inr (.inr (some (798)))]) rfl ?_
          have n22 : 2000 ≤ qz_N nb 798 ∧ qz_N nb 798 ≤ 2000 := ez_len hBmb t798 tq_85 rfl
          refine ez_aI hBmb t798 rfl tq_85 rfl rfl (by omega) (by omega) (fun (b21 : -2147483648 ≤ qz_I nb 798 (k).toNat) (b21' : qz_I nb 798 (k).toNat ≤ 2147483647) => ?_)
          rw [show qz_I nb 798 (k).toNat = qz_I g 798 k.toNat by rw [xb, xa]]
          refine ez_go (n := 2) (pc' := 118) (L' := [(4, .inl (qz_I g 798 k.toNat)), (3, .inl (qz_I g 796 (k).toNat)), (2, .inl (k)), (1, .inl (more)), (0, .inr (.inr (some (770))))]) (st' := [.inr (.inr (some (770)))]) rfl ?_
          refine ez_gC (p := 798) (tg := 85) hBmb t770 rfl rfl tq_75 rfl rfl (fun (t798 : _ = 85) => ?_)
          refine ez_go (n := 2) (pc' := 123) (L' := [(4, .inl (qz_I g 798 k.toNat)), (3, .inl (qz_I g 796 (k).toNat)), (2, .inl (k)), (1, .inl (more)), (0, .inr (.inr (some (770))))]) (st' := [.inr (.inr (some (770))), .inl (k), .inr (.inr (some (798)))]) rfl ?_
          refine ez_gC (p := 798) (tg := 85) hBmb t770 rfl rfl tq_75 rfl rfl (fun (t798 : _ = 85) => ?_)
          refine ez_go (n := 3) (pc' := 129) (L' := [(4, .inl (qz_I g 798 k.toNat)), (3, .inl (qz_I g 796 (k).toNat)), (2, .inl (k)), (1, .inl (more)), (0, .inr (.inr (some (770))))]) (st' := [.inl ((k) - (1)), .inr (.inr (some (798))), .inl (k), .inr (.inr (some (798)))]) rfl ?_
          have n24 : 2000 ≤ qz_N nb 798 ∧ qz_N nb 798 ≤ 2000 := ez_len hBmb t798 tq_85 rfl
          refine ez_aI hBmb t798 rfl tq_85 rfl rfl (by omega) (by omega) (fun (b23 : -2147483648 ≤ qz_I nb 798 ((k) - (1)).toNat) (b23' : qz_I nb 798 ((k) - (1)).toNat ≤ 2147483647) => ?_)
          have n27 : 2000 ≤ qz_N nb 798 ∧ qz_N nb 798 ≤ 2000 := ez_len hBmb t798 tq_85 rfl
          refine ez_as hBmb t798 rfl tq_85 rfl rfl (by omega) (by omega) (ez_vdI rfl rfl (by omega) (by omega)) (fun hB25 w26 => ?_)
          have oc : orz τ h (dz_put nb 798 (k).toNat (ez_v (.inl (qz_I nb 798 ((k) - (1)).toNat)))) := ob.put hB25 (Or.inr t798)
          have vc : qz_I (dz_put nb 798 (k).toNat (ez_v (.inl (qz_I nb 798 ((k) - (1)).toNat)))) 798 (k).toNat = qz_I nb 798 (k - 1).toNat := w26.trans (rz_rd ⟨by clear hm1; omega, by clear hm1; omega⟩)
          have sc : ∀ j, j ≠ (k).toNat → qz_I (dz_put nb 798 (k).toNat (ez_v (.inl (qz_I nb 798 ((k) - (1)).toNat)))) 798 j = qz_I nb 798 j := fun j hj => ez_put_I (fun w => hj w.2)
          have xc : ∀ j, qz_I (dz_put nb 798 (k).toNat (ez_v (.inl (qz_I nb 798 ((k) - (1)).toNat)))) 796 j = qz_I nb 796 j := fun j => ez_put_I (fun w => absurd w.1 (by decide))
          have hBmc := hB25
          generalize (dz_put nb 798 (k).toNat (ez_v (.inl (qz_I nb 798 ((k) - (1)).toNat)))) = nc at *
          refine ez_go (n := 1) (pc' := 132) (L' := [(4, .inl (qz_I g 798 k.toNat)), (3, .inl (qz_I g 796 (k).toNat)), (2, .inl (k)), (1, .inl (more)), (0, .inr (.inr (some (770))))]) (st' := [.inr (.inr (some (770)))]) rfl ?_
          refine ez_gC (p := 798) (tg := 85) hBmc t770 rfl rfl tq_75 rfl rfl (fun (t798 : _ = 85) => ?_)
          refine ez_go (n := 4) (pc' := 140) (L' := [(4, .inl (qz_I g 798 k.toNat)), (3, .inl (qz_I g 796 (k).toNat)), (2, .inl (k)), (1, .inl (more)), (0, .inr (.inr (some (770))))]) (st' := [.inl (qz_I g 798 k.toNat), .inl ((k) - (1)), .inr (.inr (some (798)))]) rfl ?_
          have n30 : 2000 ≤ qz_N nc 798 ∧ qz_N nc 798 ≤ 2000 := ez_len hBmc t798 tq_85 rfl
          refine ez_as hBmc t798 rfl tq_85 rfl rfl (by omega) (by omega) (ez_vdI rfl rfl (by omega) (by omega)) (fun hB28 w29 => ?_)
          have od : orz τ h (dz_put nc 798 ((k) - (1)).toNat (ez_v (.inl (qz_I g 798 k.toNat)))) := oc.put hB28 (Or.inr t798)
          have vd : qz_I (dz_put nc 798 ((k) - (1)).toNat (ez_v (.inl (qz_I g 798 k.toNat)))) 798 (k - 1).toNat = qz_I g 798 k.toNat := w29.trans (rz_rd ⟨by clear hm1; omega, by clear hm1; omega⟩)
          have sd : ∀ j, j ≠ (k - 1).toNat → qz_I (dz_put nc 798 ((k) - (1)).toNat (ez_v (.inl (qz_I g 798 k.toNat)))) 798 j = qz_I nc 798 j := fun j hj => ez_put_I (fun w => hj w.2)
          have xd : ∀ j, qz_I (dz_put nc 798 ((k) - (1)).toNat (ez_v (.inl (qz_I g 798 k.toNat)))) 796 j = qz_I nc 796 j := fun j => ez_put_I (fun w => absurd w.1 (by decide))
          have hBmd := hB28
          generalize (dz_put nc 798 ((k) - (1)).toNat (ez_v (.inl (qz_I g 798 k.toNat)))) = nd at *
          refine ez_go (n := 4) (pc' := 42) (L' := [(2, .inl (k + 1)), (1, .inl (1)), (4, .inl (qz_I g 798 k.toNat)), (3, .inl (qz_I g 796 (k).toNat)), (0, .inr (.inr (some (770))))]) (st' := []) rfl ?_
          exfalso; clear hm1; omega
        · skip
          refine ez_go (n := 3) (pc' := 42) (L' := [(2, .inl (k + 1)), (1, .inl (more)), (0, .inr (.inr (some (770))))]) (st' := []) rfl ?_
          exfalso; clear hm1; omega
  | succ n ih =>
    intro k more g Lc hn k0 k2k ho hm1 hph hp hd hz
    have hBg := ho.1
    have s30 := ho.s t770 30
    have b30 : 0 ≤ qz_I g 770 30 ∧ qz_I g 770 30 ≤ 2000 := ez_fB (cl := 11) (k := 30) hBg t770 tq_75 rfl rfl (by decide)
    have mr : ez_rg more := by rcases hm1 with w | w <;> rw [w] <;> exact ⟨by decide, by decide⟩
    have ll := hd.1
    refine ez_go (n := 2) (pc' := 44) (L' := [(2, .inl (k)), (1, .inl (more)), (0, .inr (.inr (some (770))))]) (st' := [.inr (.inr (some (770))), .inl (k)]) rfl ?_
    refine ez_gI hBg t770 rfl rfl tq_75 rfl rfl (fun (b1 : 0 ≤ qz_I g 770 30) (b1' : qz_I g 770 30 ≤ 2000) => ?_)
    refine ez_icmp rfl rfl ⟨by first | exact mr.1 | (clear hm1; omega) | exact (sz_i32 _).1, by first | exact mr.2 | (clear hm1; omega) | exact (sz_i32 _).2⟩ ⟨by first | exact mr.1 | (clear hm1; omega) | exact (sz_i32 _).1, by first | exact mr.2 | (clear hm1; omega) | exact (sz_i32 _).2⟩ (fun (c2 : (qz_I g 770 30) ≤ (k)) => ?_) (fun (c2 : ¬((qz_I g 770 30) ≤ (k))) => ?_)
    · skip
      refine ez_go (n := 1) (pc' := 34) (L' := [(2, .inl (k)), (1, .inl (more)), (0, .inr (.inr (some (770))))]) (st' := []) rfl ?_
      refine ez_less [(1, .inl (more)), (0, .inr (.inr (some (770))))] rfl ⟨rfl, rfl, trivial⟩ ?_
      exact kx g more Lc ho hm1 hph hp hd (fun w j x y hj hx hy => hz w j x y (by have := (List.getElem?_eq_some_iff.mp hy).1; have := hd.1; clear hm1 hph; omega) hx hy)
    · skip
      refine ez_go (n := 1) (pc' := 51) (L' := [(2, .inl (k)), (1, .inl (more)), (0, .inr (.inr (some (770))))]) (st' := [.inr (.inr (some (770)))]) rfl ?_
      refine ez_gC (p := 798) (tg := 85) hBg t770 rfl rfl tq_75 rfl rfl (fun (t798 : _ = 85) => ?_)
      refine ez_go (n := 1) (pc' := 55) (L' := [(2, .inl (k)), (1, .inl (more)), (0, .inr (.inr (some (770))))]) (st' := [.inl (k), .inr (.inr (some (798)))]) rfl ?_
      have n4 : 2000 ≤ qz_N g 798 ∧ qz_N g 798 ≤ 2000 := ez_len hBg t798 tq_85 rfl
      refine ez_aI hBg t798 rfl tq_85 rfl rfl (by omega) (by omega) (fun (b3 : -2147483648 ≤ qz_I g 798 (k).toNat) (b3' : qz_I g 798 (k).toNat ≤ 2147483647) => ?_)
      refine ez_if rfl rfl ⟨by first | exact mr.1 | (clear hm1; omega) | exact (sz_i32 _).1, by first | exact mr.2 | (clear hm1; omega) | exact (sz_i32 _).2⟩ (fun (c5 : (qz_I g 798 (k).toNat) = (0)) => ?_) (fun (c5 : ¬((qz_I g 798 (k).toNat) = (0))) => ?_)
      · skip
        refine ez_go (n := 2) (pc' := 42) (L' := [(2, .inl (k + 1)), (1, .inl (more)), (0, .inr (.inr (some (770))))]) (st' := []) rfl ?_
        refine ez_less [(2, .inl (k + 1)), (1, .inl (more)), (0, .inr (.inr (some (770))))] rfl ⟨rfl, rfl, rfl, trivial⟩ ?_
        refine ih (k + 1) more g Lc (by clear hm1; omega) (by clear hm1; omega) (by clear hm1; omega) ho hm1 hph hp hd (fun w j x y hj hx hy => ?_)
        by_cases ej : (j : Int) + 1 < k
        · exact hz w j x y ej hx hy
        · have ex := (hp j x hx).2
          have ey := (hp (j + 1) y hy).2
          rw [show j = (k - 1).toNat by clear hm1 hph; omega] at ex
          rw [show j + 1 = k.toNat by clear hm1 hph; omega] at ey
          clear hm1 hph
          omega
      · skip
        refine ez_go (n := 1) (pc' := 60) (L' := [(2, .inl (k)), (1, .inl (more)), (0, .inr (.inr (some (770))))]) (st' := [.inr (.inr (some (770)))]) rfl ?_
        refine ez_gC (p := 798) (tg := 85) hBg t770 rfl rfl tq_75 rfl rfl (fun (t798 : _ = 85) => ?_)
        refine ez_go (n := 3) (pc' := 66) (L' := [(2, .inl (k)), (1, .inl (more)), (0, .inr (.inr (some (770))))]) (st' := [.inl ((k) - (1)), .inr (.inr (some (798)))]) rfl ?_
        have n7 : 2000 ≤ qz_N g 798 ∧ qz_N g 798 ≤ 2000 := ez_len hBg t798 tq_85 rfl
        refine ez_aI hBg t798 rfl tq_85 rfl rfl (by omega) (by omega) (fun (b6 : -2147483648 ≤ qz_I g 798 ((k) - (1)).toNat) (b6' : qz_I g 798 ((k) - (1)).toNat ≤ 2147483647) => ?_)
        refine ez_go (n := 1) (pc' := 68) (L' := [(2, .inl (k)), (1, .inl (more)), (0, .inr (.inr (some (770))))]) (st' := [.inr (.inr (some (770))), .inl (qz_I g 798 ((k) - (1)).toNat)]) rfl ?_
        refine ez_gC (p := 798) (tg := 85) hBg t770 rfl rfl tq_75 rfl rfl (fun (t798 : _ = 85) => ?_)
        refine ez_go (n := 1) (pc' := 72) (L' := [(2, .inl (k)), (1, .inl (more)), (0, .inr (.inr (some (770))))]) (st' := [.inl (k), .inr (.inr (some (798))), .inl (qz_I g 798 ((k) - (1)).toNat)]) rfl ?_
        have n9 : 2000 ≤ qz_N g 798 ∧ qz_N g 798 ≤ 2000 := ez_len hBg t798 tq_85 rfl
        refine ez_aI hBg t798 rfl tq_85 rfl rfl (by omega) (by omega) (fun (b8 : -2147483648 ≤ qz_I g 798 (k).toNat) (b8' : qz_I g 798 (k).toNat ≤ 2147483647) => ?_)
        refine ez_icmp rfl rfl ⟨by first | exact mr.1 | (clear hm1; omega) | exact (sz_i32 _).1, by first | exact mr.2 | (clear hm1; omega) | exact (sz_i32 _).2⟩ ⟨by first | exact mr.1 | (clear hm1; omega) | exact (sz_i32 _).1, by first | exact mr.2 | (clear hm1; omega) | exact (sz_i32 _).2⟩ (fun (c10 : (qz_I g 798 (k).toNat) < (qz_I g 798 ((k) - (1)).toNat)) => ?_) (fun (c10 : ¬((qz_I g 798 (k).toNat) < (qz_I g 798 ((k) - (1)).toNat))) => ?_)
        · skip
          refine ez_go (n := 1) (pc' := 80) (L' := [(2, .inl (k)), (1, .inl (more)), (0, .inr (.inr (some (770))))]) (st' := [.inr (.inr (some (770)))]) rfl ?_
          refine ez_gC (p := 796) (tg := 83) hBg t770 rfl rfl tq_75 rfl rfl (fun (t796 : _ = 83) => ?_)
          refine ez_go (n := 1) (pc' := 84) (L' := [(2, .inl (k)), (1, .inl (more)), (0, .inr (.inr (some (770))))]) (st' := [.inl (k), .inr (.inr (some (796)))]) rfl ?_
          have n12 : 2000 ≤ qz_N g 796 ∧ qz_N g 796 ≤ 2000 := ez_len hBg t796 tq_83 rfl
          refine ez_aI hBg t796 rfl tq_83 rfl rfl (by omega) (by omega) (fun (b11 : -2147483648 ≤ qz_I g 796 (k).toNat) (b11' : qz_I g 796 (k).toNat ≤ 2147483647) => ?_)
          refine ez_go (n := 2) (pc' := 87) (L' := [(3, .inl (qz_I g 796 (k).toNat)), (2, .inl (k)), (1, .inl (more)), (0, .inr (.inr (some (770))))]) (st' := [.inr (.inr (some (770)))]) rfl ?_
          refine ez_gC (p := 796) (tg := 83) hBg t770 rfl rfl tq_75 rfl rfl (fun (t796 : _ = 83) => ?_)
          refine ez_go (n := 2) (pc' := 92) (L' := [(3, .inl (qz_I g 796 (k).toNat)), (2, .inl (k)), (1, .inl (more)), (0, .inr (.inr (some (770))))]) (st' := [.inr (.inr (some (770))), .inl (k), .inr (.inr (some (796)))]) rfl ?_
          refine ez_gC (p := 796) (tg := 83) hBg t770 rfl rfl tq_75 rfl rfl (fun (t796 : _ = 83) => ?_)
          refine ez_go (n := 3) (pc' := 98) (L' := [(3, .inl (qz_I g 796 (k).toNat)), (2, .inl (k)), (1, .inl (more)), (0, .inr (.inr (some (770))))]) (st' := [.inl ((k) - (1)), .inr (.inr (some (796))), .inl (k), .inr (.inr (some (796)))]) rfl ?_
          have n14 : 2000 ≤ qz_N g 796 ∧ qz_N g 796 ≤ 2000 := ez_len hBg t796 tq_83 rfl
          refine ez_aI hBg t796 rfl tq_83 rfl rfl (by omega) (by omega) (fun (b13 : -2147483648 ≤ qz_I g 796 ((k) - (1)).toNat) (b13' : qz_I g 796 ((k) - (1)).toNat ≤ 2147483647) => ?_)
          have n17 : 2000 ≤ qz_N g 796 ∧ qz_N g 796 ≤ 2000 := ez_len hBg t796 tq_83 rfl
          refine ez_as hBg t796 rfl tq_83 rfl rfl (by omega) (by omega) (ez_vdI rfl rfl (by omega) (by omega)) (fun hB15 w16 => ?_)
          have oa : orz τ h (dz_put g 796 (k).toNat (ez_v (.inl (qz_I g 796 ((k) - (1)).toNat)))) := ho.put hB15 (Or.inl t796)
          have va : qz_I (dz_put g 796 (k).toNat (ez_v (.inl (qz_I g 796 ((k) - (1)).toNat)))) 796 (k).toNat = qz_I g 796 (k - 1).toNat := w16.trans (rz_rd ⟨by clear hm1; omega, by clear hm1; omega⟩)
          have sa : ∀ j, j ≠ (k).toNat → qz_I (dz_put g 796 (k).toNat (ez_v (.inl (qz_I g 796 ((k) - (1)).toNat)))) 796 j = qz_I g 796 j := fun j hj => ez_put_I (fun w => hj w.2)
          have xa : ∀ j, qz_I (dz_put g 796 (k).toNat (ez_v (.inl (qz_I g 796 ((k) - (1)).toNat)))) 798 j = qz_I g 798 j := fun j => ez_put_I (fun w => absurd w.1 (by decide))
          have hBma := hB15
          generalize (dz_put g 796 (k).toNat (ez_v (.inl (qz_I g 796 ((k) - (1)).toNat)))) = na at *
          refine ez_go (n := 1) (pc' := 101) (L' := [(3, .inl (qz_I g 796 (k).toNat)), (2, .inl (k)), (1, .inl (more)), (0, .inr (.inr (some (770))))]) (st' := [.inr (.inr (some (770)))]) rfl ?_
          refine ez_gC (p := 796) (tg := 83) hBma t770 rfl rfl tq_75 rfl rfl (fun (t796 : _ = 83) => ?_)
          refine ez_go (n := 4) (pc' := 108) (L' := [(3, .inl (qz_I g 796 (k).toNat)), (2, .inl (k)), (1, .inl (more)), (0, .inr (.inr (some (770))))]) (st' := [.inl (qz_I g 796 (k).toNat), .inl ((k) - (1)), .inr (.inr (some (796)))]) rfl ?_
          have n20 : 2000 ≤ qz_N na 796 ∧ qz_N na 796 ≤ 2000 := ez_len hBma t796 tq_83 rfl
          refine ez_as hBma t796 rfl tq_83 rfl rfl (by omega) (by omega) (ez_vdI rfl rfl (by omega) (by omega)) (fun hB18 w19 => ?_)
          have ob : orz τ h (dz_put na 796 ((k) - (1)).toNat (ez_v (.inl (qz_I g 796 (k).toNat)))) := oa.put hB18 (Or.inl t796)
          have vb : qz_I (dz_put na 796 ((k) - (1)).toNat (ez_v (.inl (qz_I g 796 (k).toNat)))) 796 (k - 1).toNat = qz_I g 796 k.toNat := w19.trans (rz_rd ⟨by clear hm1; omega, by clear hm1; omega⟩)
          have sb : ∀ j, j ≠ (k - 1).toNat → qz_I (dz_put na 796 ((k) - (1)).toNat (ez_v (.inl (qz_I g 796 (k).toNat)))) 796 j = qz_I na 796 j := fun j hj => ez_put_I (fun w => hj w.2)
          have xb : ∀ j, qz_I (dz_put na 796 ((k) - (1)).toNat (ez_v (.inl (qz_I g 796 (k).toNat)))) 798 j = qz_I na 798 j := fun j => ez_put_I (fun w => absurd w.1 (by decide))
          have hBmb := hB18
          generalize (dz_put na 796 ((k) - (1)).toNat (ez_v (.inl (qz_I g 796 (k).toNat)))) = nb at *
          refine ez_go (n := 1) (pc' := 110) (L' := [(3, .inl (qz_I g 796 (k).toNat)), (2, .inl (k)), (1, .inl (more)), (0, .inr (.inr (some (770))))]) (st' := [.inr (.inr (some (770)))]) rfl ?_
          refine ez_gC (p := 798) (tg := 85) hBmb t770 rfl rfl tq_75 rfl rfl (fun (t798 : _ = 85) => ?_)
          refine ez_go (n := 1) (pc' := 114) (L' := [(3, .inl (qz_I g 796 (k).toNat)), (2, .inl (k)), (1, .inl (more)), (0, .inr (.inr (some (770))))]) (st' := [.inl (k), .inr (.inr (some (798)))]) rfl ?_
          have n22 : 2000 ≤ qz_N nb 798 ∧ qz_N nb 798 ≤ 2000 := ez_len hBmb t798 tq_85 rfl
          refine ez_aI hBmb t798 rfl tq_85 rfl rfl (by omega) (by omega) (fun (b21 : -2147483648 ≤ qz_I nb 798 (k).toNat) (b21' : qz_I nb 798 (k).toNat ≤ 2147483647) => ?_)
          rw [show qz_I nb 798 (k).toNat = qz_I g 798 k.toNat by rw [xb, xa]]
          refine ez_go (n := 2) (pc' := 118) (L' := [(4, .inl (qz_I g 798 k.toNat)), (3, .inl (qz_I g 796 (k).toNat)), (2, .inl (k)), (1, .inl (more)), (0, .inr (.inr (some (770))))]) (st' := [.inr (.inr (some (770)))]) rfl ?_
          refine ez_gC (p := 798) (tg := 85) hBmb t770 rfl rfl tq_75 rfl rfl (fun (t798 : _ = 85) => ?_)
          refine ez_go (n := 2) (pc' := 123) (L' := [(4, .inl (qz_I g 798 k.toNat)), (3, .inl (qz_I g 796 (k).toNat)), (2, .inl (k)), (1, .inl (more)), (0, .inr (.inr (some (770))))]) (st' := [.inr (.inr (some (770))), .inl (k), .inr (.inr (some (798)))]) rfl ?_
          refine ez_gC (p := 798) (tg := 85) hBmb t770 rfl rfl tq_75 rfl rfl (fun (t798 : _ = 85) => ?_)
          refine ez_go (n := 3) (pc' := 129) (L' := [(4, .inl (qz_I g 798 k.toNat)), (3, .inl (qz_I g 796 (k).toNat)), (2, .inl (k)), (1, .inl (more)), (0, .inr (.inr (some (770))))]) (st' := [.inl ((k) - (1)), .inr (.inr (some (798))), .inl (k), .inr (.inr (some (798)))]) rfl ?_
          have n24 : 2000 ≤ qz_N nb 798 ∧ qz_N nb 798 ≤ 2000 := ez_len hBmb t798 tq_85 rfl
          refine ez_aI hBmb t798 rfl tq_85 rfl rfl (by omega) (by omega) (fun (b23 : -2147483648 ≤ qz_I nb 798 ((k) - (1)).toNat) (b23' : qz_I nb 798 ((k) - (1)).toNat ≤ 2147483647) => ?_)
          have n27 : 2000 ≤ qz_N nb 798 ∧ qz_N nb 798 ≤ 2000 := ez_len hBmb t798 tq_85 rfl
          refine ez_as hBmb t798 rfl tq_85 rfl rfl (by omega) (by omega) (ez_vdI rfl rfl (by omega) (by omega)) (fun hB25 w26 => ?_)
          have oc : orz τ h (dz_put nb 798 (k).toNat (ez_v (.inl (qz_I nb 798 ((k) - (1)).toNat)))) := ob.put hB25 (Or.inr t798)
          have vc : qz_I (dz_put nb 798 (k).toNat (ez_v (.inl (qz_I nb 798 ((k) - (1)).toNat)))) 798 (k).toNat = qz_I nb 798 (k - 1).toNat := w26.trans (rz_rd ⟨by clear hm1; omega, by clear hm1; omega⟩)
          have sc : ∀ j, j ≠ (k).toNat → qz_I (dz_put nb 798 (k).toNat (ez_v (.inl (qz_I nb 798 ((k) - (1)).toNat)))) 798 j = qz_I nb 798 j := fun j hj => ez_put_I (fun w => hj w.2)
          have xc : ∀ j, qz_I (dz_put nb 798 (k).toNat (ez_v (.inl (qz_I nb 798 ((k) - (1)).toNat)))) 796 j = qz_I nb 796 j := fun j => ez_put_I (fun w => absurd w.1 (by decide))
          have hBmc := hB25
          generalize (dz_put nb 798 (k).toNat (ez_v (.inl (qz_I nb 798 ((k) - (1)).toNat)))) = nc at *
          refine ez_go (n := 1) (pc' := 132) (L' := [(4, .inl (qz_I g 798 k.toNat)), (3, .inl (qz_I g 796 (k).toNat)), (2, .inl (k)), (1, .inl (more)), (0, .inr (.inr (some (770))))]) (st' := [.inr (.inr (some (770)))]) rfl ?_
          refine ez_gC (p := 798) (tg := 85) hBmc t770 rfl rfl tq_75 rfl rfl (fun (t798 : _ = 85) => ?_)
          refine ez_go (n := 4) (pc' := 140) (L' := [(4, .inl (qz_I g 798 k.toNat)), (3, .inl (qz_I g 796 (k).toNat)), (2, .inl (k)), (1, .inl (more)), (0, .inr (.inr (some (770))))]) (st' := [.inl (qz_I g 798 k.toNat), .inl ((k) - (1)), .inr (.inr (some (798)))]) rfl ?_
          have n30 : 2000 ≤ qz_N nc 798 ∧ qz_N nc 798 ≤ 2000 := ez_len hBmc t798 tq_85 rfl
          refine ez_as hBmc t798 rfl tq_85 rfl rfl (by omega) (by omega) (ez_vdI rfl rfl (by omega) (by omega)) (fun hB28 w29 => ?_)
          have od : orz τ h (dz_put nc 798 ((k) - (1)).toNat (ez_v (.inl (qz_I g 798 k.toNat)))) := oc.put hB28 (Or.inr t798)
          have vd : qz_I (dz_put nc 798 ((k) - (1)).toNat (ez_v (.inl (qz_I g 798 k.toNat)))) 798 (k - 1).toNat = qz_I g 798 k.toNat := w29.trans (rz_rd ⟨by clear hm1; omega, by clear hm1; omega⟩)
          have sd : ∀ j, j ≠ (k - 1).toNat → qz_I (dz_put nc 798 ((k) - (1)).toNat (ez_v (.inl (qz_I g 798 k.toNat)))) 798 j = qz_I nc 798 j := fun j hj => ez_put_I (fun w => hj w.2)
          have xd : ∀ j, qz_I (dz_put nc 798 ((k) - (1)).toNat (ez_v (.inl (qz_I g 798 k.toNat)))) 796 j = qz_I nc 796 j := fun j => ez_put_I (fun w => absurd w.1 (by decide))
          have hBmd := hB28
          generalize (dz_put nc 798 ((k) - (1)).toNat (ez_v (.inl (qz_I g 798 k.toNat)))) = nd at *
          refine ez_go (n := 4) (pc' := 42) (L' := [(2, .inl (k + 1)), (1, .inl (1)), (4, .inl (qz_I g 798 k.toNat)), (3, .inl (qz_I g 796 (k).toNat)), (0, .inr (.inr (some (770))))]) (st' := []) rfl ?_
          refine ez_less [(2, .inl (k + 1)), (1, .inl (1)), (0, .inr (.inr (some (770))))] rfl ⟨rfl, rfl, rfl, trivial⟩ ?_
          have lx : (k - 1).toNat < Lc.length := by clear hm1; omega
          have ly : (k - 1).toNat + 1 < Lc.length := by clear hm1; omega
          obtain ⟨x, hx⟩ : ∃ x, Lc[(k - 1).toNat]? = some x := ⟨_, List.getElem?_eq_getElem lx⟩
          obtain ⟨y, hy⟩ : ∃ y, Lc[(k - 1).toNat + 1]? = some y := ⟨_, List.getElem?_eq_getElem ly⟩
          have ex := hp _ _ hx
          have ey := hp _ _ hy
          have e1 : (k - 1).toNat + 1 = k.toNat := by clear hm1; omega
          rw [e1] at ey
          have yn := nn y (hd.2.2 y (List.mem_of_getElem? hy))
          have q1 : y.2 < x.2 := by rw [← ey.2, ← ex.2]; assumption
          have q2 : 0 < y.2 := by clear hm1 hph; omega
          have P1 : ∀ j, qz_I nd 796 j = qz_I nb 796 j := fun j => by rw [xd, xc]
          have R1 : ∀ j, qz_I nb 798 j = qz_I g 798 j := fun j => by rw [xb, xa]
          have sw : phr h nd = phr h g + (qz_I g 798 (k - 1).toNat - qz_I g 798 k.toNat) := by
            unfold phr
            have w9 := phz_swap (f := fun i => qz_I g 798 i) (g := fun i => qz_I nd 798 i) (k := (k - 1).toNat) ?_ ?_ ?_ (qz_I h 770 30).toNat (by clear hm1; omega)
            · simp only [e1] at w9; exact w9
            · show qz_I nd 798 (k - 1).toNat = qz_I g 798 ((k - 1).toNat + 1)
              rw [vd, e1]
            · show qz_I nd 798 ((k - 1).toNat + 1) = qz_I g 798 (k - 1).toNat
              rw [e1, sd k.toNat (by clear hm1; omega), vc, R1]
            · intro i i1 i2
              show qz_I nd 798 i = qz_I g 798 i
              rw [sd i i1, sc i (by clear hm1; omega), R1]
          refine ih (k + 1) 1 nd (swp Lc (k - 1).toNat x y) (by clear hm1; omega) (by clear hm1; omega) (by clear hm1; omega) od (Or.inr rfl) ⟨by omega, fun _ => by omega⟩ (fun j z hz9 => ?_) (ods_sw hd q1 q2 hx hy) (fun w => absurd w (by decide))
          rcases swp_at hx hy hz9 with ⟨e2, e3⟩ | ⟨e2, e3⟩ | ⟨e2, e3, e4⟩
          · rw [e2, e3, P1, vb, vd]; exact ey
          · rw [e2, e3, e1, P1, sb k.toNat (by clear hm1; omega), va, sd k.toNat (by clear hm1; omega), vc, R1]; exact ex
          · have e3 : j ≠ k.toNat := by rw [← e1]; exact e3
            rw [P1, sb j e2, sa j e3, sd j e2, sc j e3, R1]; exact hp j z e4
        · skip
          refine ez_go (n := 3) (pc' := 42) (L' := [(2, .inl (k + 1)), (1, .inl (more)), (0, .inr (.inr (some (770))))]) (st' := []) rfl ?_
          refine ez_less [(2, .inl (k + 1)), (1, .inl (more)), (0, .inr (.inr (some (770))))] rfl ⟨rfl, rfl, rfl, trivial⟩ ?_
          refine ih (k + 1) more g Lc (by clear hm1; omega) (by clear hm1; omega) (by clear hm1; omega) ho hm1 hph hp hd (fun w j x y hj hx hy => ?_)
          by_cases ej : (j : Int) + 1 < k
          · exact hz w j x y ej hx hy
          · have ex := (hp j x hx).2
            have ey := (hp (j + 1) y hy).2
            rw [show j = (k - 1).toNat by clear hm1 hph; omega] at ex
            rw [show j + 1 = k.toNat by clear hm1 hph; omega] at ey
            clear hm1 hph
            omega

theorem rd_mord_z {g : cz_H} (ho : orz τ h g) (hp : prm g (os_srt L)) (kx : ∀ g, orz τ h g → prm g (os_srt L) → Q (.inl none, g)) : ez_W (d + 2) cm_285 34 [(1, .inl (0)), (0, .inr (.inr (some (770))))] [] g Q := by
  refine ez_go (n := 1) (pc' := 35) (L' := [(1, .inl (0)), (0, .inr (.inr (some (770))))]) (st' := [.inl (0)]) rfl ?_
  refine ez_if rfl rfl ⟨by decide, by decide⟩ (fun _ => ?_) (fun (c1 : ¬((0 : Int) = (0))) => absurd c1 (by decide))
  exact ez_ret0 rfl rfl (kx g ho hp)

theorem rd_mord_3 {B : Int} (t770 : τ 770 = 75) (hL : qz_I h 770 30 = (L.length : Int)) (nn : ∀ x ∈ L, 0 ≤ x.2) (hbd : ∀ g, orz τ h g → phr h g ≤ B) (kx : ∀ g, orz τ h g → prm g (os_srt L) → Q (.inl none, g)) : ∀ (n : Nat) (g : cz_H) (Lc : List (Int × Int)), (B - phr h g).toNat ≤ n → orz τ h g → prm g Lc → ods L Lc → ez_W (d + 2) cm_285 34 [(1, .inl (1)), (0, .inr (.inr (some (770))))] [] g Q := by
  intro n
  induction n with
  | zero =>
    intro g Lc hn ho hp hd
    refine ez_go (n := 1) (pc' := 35) (L' := [(1, .inl (1)), (0, .inr (.inr (some (770))))]) (st' := [.inl (1)]) rfl ?_
    refine ez_if rfl rfl ⟨by decide, by decide⟩ (fun (c1 : (1 : Int) = (0)) => absurd c1 (by decide)) (fun _ => ?_)
    refine ez_go (n := 4) (pc' := 42) (L' := [(2, .inl (1)), (1, .inl (0)), (0, .inr (.inr (some (770))))]) (st' := []) rfl ?_
    refine ez_less [(2, .inl (1)), (1, .inl (0)), (0, .inr (.inr (some (770))))] rfl ⟨rfl, rfl, rfl, trivial⟩ ?_
    refine rd_mord_2 (L := L) (p0 := phr h g) t770 hL nn (fun g2 more2 Lc2 o2 hm2 hp2 pr2 od2 nz2 => ?_) _ 1 0 g Lc (Nat.le_refl _) (by omega) (by omega) ho (Or.inl rfl) ⟨Int.le_refl _, fun w => absurd w (by decide)⟩ hp hd (fun _ j x y hj => by omega)
    rcases hm2 with w | w
    · subst w; rw [nfk_end od2 (nz2 rfl) (by have := od2.1; omega)] at pr2; exact rd_mord_z o2 pr2 kx
    · exfalso; have := hp2.2 w; have := hbd g2 o2; omega
  | succ n ih =>
    intro g Lc hn ho hp hd
    refine ez_go (n := 1) (pc' := 35) (L' := [(1, .inl (1)), (0, .inr (.inr (some (770))))]) (st' := [.inl (1)]) rfl ?_
    refine ez_if rfl rfl ⟨by decide, by decide⟩ (fun (c1 : (1 : Int) = (0)) => absurd c1 (by decide)) (fun _ => ?_)
    refine ez_go (n := 4) (pc' := 42) (L' := [(2, .inl (1)), (1, .inl (0)), (0, .inr (.inr (some (770))))]) (st' := []) rfl ?_
    refine ez_less [(2, .inl (1)), (1, .inl (0)), (0, .inr (.inr (some (770))))] rfl ⟨rfl, rfl, rfl, trivial⟩ ?_
    refine rd_mord_2 (L := L) (p0 := phr h g) t770 hL nn (fun g2 more2 Lc2 o2 hm2 hp2 pr2 od2 nz2 => ?_) _ 1 0 g Lc (Nat.le_refl _) (by omega) (by omega) ho (Or.inl rfl) ⟨Int.le_refl _, fun w => absurd w (by decide)⟩ hp hd (fun _ j x y hj => by omega)
    rcases hm2 with w | w
    · subst w; rw [nfk_end od2 (nz2 rfl) (by have := od2.1; omega)] at pr2; exact rd_mord_z o2 pr2 kx
    · subst w; exact ih g2 Lc2 (by have := hp2.2 rfl; have := hbd g2 o2; omega) o2 pr2 od2

theorem rd_mord {Ls : List vz} {b : Int} (hI : mI τ h Ls b) (hw : uz_wf (vF Ls)) (a : tm h l) (pl : ptl l) (kx : ∀ g, orz τ h g → prm g (os_srt (zl (vF Ls) l)) → Q (.inl none, g)) : ez_W (d + 2) cm_285 0 [(0, .inr (.inr (some (770))))] [] h Q := by
  have hB := hI.1
  have t770 : τ 770 = 75 := hI.2.1 770 (by decide)
  have tk : τ 798 = 85 := hI.2.1 798 (by decide)
  have b30 : 0 ≤ qz_I h 770 30 ∧ qz_I h 770 30 ≤ 2000 := ez_fB (cl := 11) (k := 30) hB t770 tq_75 rfl rfl (by decide)
  have hbd : ∀ g, orz τ h g → phr h g ≤ ((qz_I h 770 30).toNat : Int) * (((qz_I h 770 30).toNat : Int) * 2147483647) := fun g ho => phz_le (by decide) _ (fun i hi => by
    have nn : 2000 ≤ qz_N g 798 ∧ qz_N g 798 ≤ 2000 := ez_len ho.1 tk tq_85 rfl
    exact (ez_aB ho.1 tk tq_85 rfl rfl (by decide) (i := (i : Int)) (by omega) (by omega)).2)
  refine ez_go (n := 2) (pc' := 2) (L' := [(1, .inl (0)), (0, .inr (.inr (some (770))))]) (st' := []) rfl ?_
  refine ez_less [(1, .inl (0)), (0, .inr (.inr (some (770))))] rfl ⟨rfl, rfl, trivial⟩ ?_
  refine rd_mord_1 hI t770 a pl (fun g ho hp => ?_) _ 0 h (Nat.le_refl _) (by omega) (by omega) ⟨hB, fun _ _ _ => rfl, rfl, rfl⟩ (fun _ => rfl) (fun j v hj => by omega)
  refine ez_go (n := 2) (pc' := 34) (L' := [(1, .inl (1)), (0, .inr (.inr (some (770))))]) (st' := []) rfl ?_
  refine ez_less [(1, .inl (1)), (0, .inr (.inr (some (770))))] rfl ⟨rfl, rfl, trivial⟩ ?_
  exact rd_mord_3 (L := zl (vF Ls) l) t770 (by rw [zl_len]; exact a.1) (fun x hx => by rw [(zl_mem hx).2]; exact (hw _).1) hbd kx _ g _ (Nat.le_refl _) ho hp (ods_0 _)

end EzMk
