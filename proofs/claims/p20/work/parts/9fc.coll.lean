/-! COLLATION: the model: implicit, elements. (Written by wip/p2/py/pvk12.py.) -/
def P81 (z : Nat) : Bool := nz_PL 796 z || Nat.beq z 801
theorem P81_1 {q : Nat} (h : ez_one 801 q = true) : P81 q = true := by unfold ez_one at h; unfold P81; rw [h]; exact Bool.or_true _
theorem P81_2 {q : Nat} (h : nz_PL 796 q = true) : P81 q = true := by unfold P81; rw [h]; rfl
theorem P81_c (q : Nat) (h : P81 q = true) : q = 770 ∨ q = 796 ∨ q = 801 := by
  rcases Bool.or_eq_true_iff.mp h with h | h
  · unfold nz_PL at h
    rcases Bool.or_eq_true_iff.mp h with h | h
    · exact Or.inl (Nat.eq_of_beq_eq_true h)
    · exact Or.inr (Or.inl (Nat.eq_of_beq_eq_true h))
  · exact Or.inr (Or.inr (Nat.eq_of_beq_eq_true h))
section EzMi
variable {d : Nat} {h : cz_H} {τ : Nat → Nat} {Q : cz_F → Prop} {Ls : List vz} {b : Int} {Cs : List cEo} {row rem : List Int} {L : List eL} {K : Int → Int}
theorem rd_mimp {p : Int} (hI : mI τ h Ls b) (em : emt h L) (l1 : L.length + 2 ≤ 36000) (p0 : 0 ≤ p) (p1 : p ≤ 1114111) (rm : rmc h) (kx : ∀ g τ1, ez_B τ1 g → n23 τ h τ1 g → emt g (L ++ impE (UBd (yD Ls)) p) → Q (.inl none, g)) : ez_W (d + 1) cm_267 0 [(0, .inr (.inr (some (770)))), (1, .inl (p))] [] h Q := by
  have hB := hI.1
  have hX := hI.2.1
  have t770 : τ 770 = 75 := hX 770 (by decide)
  have r1 := rmc_rd hB hX rm
  refine ez_go (n := 3) (pc' := 3) (L' := [(0, .inr (.inr (some (770)))), (1, .inl (p))]) (st' := [.inl (5), .inl (p), .inr (.inr (some (770)))]) rfl ?_
  refine ez_cv hB t770 rfl rfl rfl tq_75 rfl rfl rfl (rd_mhq5 hI ⟨by omega, by omega⟩ (fun tr4 => ez_K1 ?_) (fun tr4 => ez_K1 ?_))
  · have hu : UBd (yD Ls) p = 64320 := by unfold UBd; exact if_pos tr4
    refine ez_if rfl rfl ⟨by decide, by decide⟩ (fun (c1 : (1 : Int) = (0)) => absurd c1 (by decide)) (fun _ => ?_)
    refine ez_ldcV (64320) rfl rfl rfl ?_
    refine ez_go (n := 6) (pc' := 23) (L' := [(2, .inl (64320)), (0, .inr (.inr (some (770)))), (1, .inl (p))]) (st' := [.inl (p), .inl (64320), .inl (0), .inr (.inr (some (770)))]) rfl ?_
    refine ez_ldcV (32768) rfl rfl rfl ?_
    refine ez_div rfl (by omega) (by omega) (by omega) (by omega) ?_
    refine ez_go (n := 3) (pc' := 31) (L' := [(2, .inl (64320)), (0, .inr (.inr (some (770)))), (1, .inl (p))]) (st' := [.inl (2), .inl (32), .inl ((64320) + ((p) / (32768))), .inl (0), .inr (.inr (some (770)))]) rfl ?_
    refine ez_cv hB t770 rfl rfl rfl tq_75 rfl rfl rfl (rd_mel hB t770 em (by omega) ⟨by omega, by omega⟩ ⟨by omega, by omega⟩ ⟨by omega, by omega⟩ ⟨by omega, by omega⟩ (by omega) (by omega) (fun g2 τ2 B2 n4 em2 => ez_K0 ?_))
    have n1 := n23.of4 hB hX n4 em2
    have X2 := n1.1.X hX
    have t2 : τ2 770 = 75 := X2 770 (by decide)
    have r2 := rmc_rd B2 X2 (n1.1.rm rm)
    refine ez_go (n := 3) (pc' := 37) (L' := [(2, .inl (64320)), (0, .inr (.inr (some (770)))), (1, .inl (p))]) (st' := [.inl (p), .inl (0), .inr (.inr (some (770)))]) rfl ?_
    refine ez_ldcV (32768) rfl rfl rfl ?_
    refine ez_rem rfl (by omega) (by omega) (by omega) (by omega) ?_
    refine ez_ldcV (32768) rfl rfl rfl ?_
    refine ez_go (n := 3) (pc' := 47) (L' := [(2, .inl (64320)), (0, .inr (.inr (some (770)))), (1, .inl (p))]) (st' := [.inl (0), .inl (0), .inl (((p) % (32768)) + (32768)), .inl (0), .inr (.inr (some (770)))]) rfl ?_
    refine ez_cv B2 t2 rfl rfl rfl tq_75 rfl rfl rfl (rd_mel B2 t2 em2 (by rw [List.length_append]; show L.length + 1 < 36000; omega) ⟨by omega, by omega⟩ ⟨by omega, by omega⟩ ⟨by omega, by omega⟩ ⟨by omega, by omega⟩ (by omega) (by omega) (fun g3 τ3 B3 n5 em3 => ez_K0 ?_))
    refine ez_ret0 rfl rfl (kx g3 τ3 B3 (n1.trans (n23.of4 B2 X2 n5 em3)) ?_)
    rw [List.append_assoc] at em3; unfold impE; rw [hu]; exact em3
  · have hu : UBd (yD Ls) p = 64448 := by unfold UBd; exact if_neg tr4
    refine ez_if rfl rfl ⟨by decide, by decide⟩ (fun _ => ?_) (fun (c2 : ¬((0 : Int) = (0))) => absurd c2 (by decide))
    refine ez_ldcV (64448) rfl rfl rfl ?_
    refine ez_go (n := 5) (pc' := 23) (L' := [(2, .inl (64448)), (0, .inr (.inr (some (770)))), (1, .inl (p))]) (st' := [.inl (p), .inl (64448), .inl (0), .inr (.inr (some (770)))]) rfl ?_
    refine ez_ldcV (32768) rfl rfl rfl ?_
    refine ez_div rfl (by omega) (by omega) (by omega) (by omega) ?_
    refine ez_go (n := 3) (pc' := 31) (L' := [(2, .inl (64448)), (0, .inr (.inr (some (770)))), (1, .inl (p))]) (st' := [.inl (2), .inl (32), .inl ((64448) + ((p) / (32768))), .inl (0), .inr (.inr (some (770)))]) rfl ?_
    refine ez_cv hB t770 rfl rfl rfl tq_75 rfl rfl rfl (rd_mel hB t770 em (by omega) ⟨by omega, by omega⟩ ⟨by omega, by omega⟩ ⟨by omega, by omega⟩ ⟨by omega, by omega⟩ (by omega) (by omega) (fun g2 τ2 B2 n4 em2 => ez_K0 ?_))
    have n1 := n23.of4 hB hX n4 em2
    have X2 := n1.1.X hX
    have t2 : τ2 770 = 75 := X2 770 (by decide)
    have r2 := rmc_rd B2 X2 (n1.1.rm rm)
    refine ez_go (n := 3) (pc' := 37) (L' := [(2, .inl (64448)), (0, .inr (.inr (some (770)))), (1, .inl (p))]) (st' := [.inl (p), .inl (0), .inr (.inr (some (770)))]) rfl ?_
    refine ez_ldcV (32768) rfl rfl rfl ?_
    refine ez_rem rfl (by omega) (by omega) (by omega) (by omega) ?_
    refine ez_ldcV (32768) rfl rfl rfl ?_
    refine ez_go (n := 3) (pc' := 47) (L' := [(2, .inl (64448)), (0, .inr (.inr (some (770)))), (1, .inl (p))]) (st' := [.inl (0), .inl (0), .inl (((p) % (32768)) + (32768)), .inl (0), .inr (.inr (some (770)))]) rfl ?_
    refine ez_cv B2 t2 rfl rfl rfl tq_75 rfl rfl rfl (rd_mel B2 t2 em2 (by rw [List.length_append]; show L.length + 1 < 36000; omega) ⟨by omega, by omega⟩ ⟨by omega, by omega⟩ ⟨by omega, by omega⟩ ⟨by omega, by omega⟩ (by omega) (by omega) (fun g3 τ3 B3 n5 em3 => ez_K0 ?_))
    refine ez_ret0 rfl rfl (kx g3 τ3 B3 (n1.trans (n23.of4 B2 X2 n5 em3)) ?_)
    rw [List.append_assoc] at em3; unfold impE; rw [hu]; exact em3

theorem rd_mls_k {t : Int} (hI : mI τ h Ls b) (hm : mC h Cs) (tmh : tm h rem) (pr : ptl rem) (r2 : rem.length ≤ 2000) (kx : ∀ g o n, ez_B τ g → ez_fr (ez_one 801) h g → bst τ g rem (lon (cLK Cs) rem) o n → ez_W (d + 8) cm_247 97 [(3, .inr (.inr (o))), (2, .inl (n)), (0, .inr (.inr (some (770)))), (1, .inl (t))] [] g Q) : ∀ (m : Nat) (k n : Int) (o : Option Nat) (g : cz_H), m = (4 - k).toNat → 1 ≤ k → k ≤ 4 → k ≤ (rem.length : Int) + 1 → ez_B τ g → ez_fr (ez_one 801) h g → str g (rem.take (k - 1).toNat) → bst τ g rem (lonU (cLK Cs) rem (k - 1).toNat) o n → ez_W (d + 8) cm_247 36 [(4, .inl (k)), (3, .inr (.inr (o))), (2, .inl (n)), (0, .inr (.inr (some (770)))), (1, .inl (t))] [] g Q := by
  have hX := hI.2.1
  have t770 : τ 770 = 75 := hX 770 (by decide)
  intro m
  induction m with
  | zero =>
    intro k n o g hm0 k1 k4 kr hBg hf sg bg
    have ag := nc.fr hI.1 hX hf (fun q hq => Or.inr (Or.inr (Nat.eq_of_beq_eq_true hq))) (fun j _ _ _ => hf.I rfl j) (Or.inl (hf.I rfl 36))
    have Ig := ag.mIx hI hBg
    have mg := ag.mCx hI hm
    have tmg : tm g rem := ⟨(hf.I rfl _).trans tmh.1, fun j v hv => (hf.I rfl j).trans (tmh.2 j v hv)⟩
    refine ez_go (n := 2) (pc' := 39) (L' := [(4, .inl (k)), (3, .inr (.inr (o))), (2, .inl (n)), (0, .inr (.inr (some (770)))), (1, .inl (t))]) (st' := [.inl (3), .inl (k)]) rfl ?_
    refine ez_icmp rfl rfl ⟨by first | omega | exact (sz_i32 _).1, by first | omega | exact (sz_i32 _).2⟩ ⟨by first | omega | exact (sz_i32 _).1, by first | omega | exact (sz_i32 _).2⟩ (fun (c1 : (3) < (k)) => ?_) (fun (c1 : ¬((3) < (k))) => ?_)
    · skip
      refine ez_less [(3, .inr (.inr (o))), (2, .inl (n)), (0, .inr (.inr (some (770)))), (1, .inl (t))] rfl ⟨rfl, rfl, rfl, rfl, trivial⟩ ?_
      have eL : lonU (cLK Cs) rem (k - 1).toNat = lon (cLK Cs) rem := by
        by_cases e : k = 4
        · rw [show (k - 1).toNat = 3 by omega]; rfl
        · exact lonU_z (by omega) (by omega)
      rw [eL] at bg
      exact kx g o n hBg hf bg
    · skip
      refine ez_go (n := 2) (pc' := 45) (L' := [(4, .inl (k)), (3, .inr (.inr (o))), (2, .inl (n)), (0, .inr (.inr (some (770)))), (1, .inl (t))]) (st' := [.inr (.inr (some (770))), .inl (k)]) rfl ?_
      refine ez_gI hBg t770 rfl rfl tq_75 rfl rfl (fun (b2 : 0 ≤ qz_I g 770 30) (b2' : qz_I g 770 30 ≤ 2000) => ?_)
      rw [show qz_I g 770 30 = (rem.length : Int) from tmg.1]
      refine ez_icmp rfl rfl ⟨by first | omega | exact (sz_i32 _).1, by first | omega | exact (sz_i32 _).2⟩ ⟨by first | omega | exact (sz_i32 _).1, by first | omega | exact (sz_i32 _).2⟩ (fun (c3 : ((rem.length : Int)) < (k)) => ?_) (fun (c3 : ¬(((rem.length : Int)) < (k))) => ?_)
      · skip
        refine ez_less [(3, .inr (.inr (o))), (2, .inl (n)), (0, .inr (.inr (some (770)))), (1, .inl (t))] rfl ⟨rfl, rfl, rfl, rfl, trivial⟩ ?_
        have eL : lonU (cLK Cs) rem (k - 1).toNat = lon (cLK Cs) rem := by
          by_cases e : k = 4
          · rw [show (k - 1).toNat = 3 by omega]; rfl
          · exact lonU_z (by omega) (by omega)
        rw [eL] at bg
        exact kx g o n hBg hf bg
      · skip
        refine ez_go (n := 1) (pc' := 52) (L' := [(4, .inl (k)), (3, .inr (.inr (o))), (2, .inl (n)), (0, .inr (.inr (some (770)))), (1, .inl (t))]) (st' := [.inr (.inr (some (770)))]) rfl ?_
        refine ez_gC (p := 801) (tg := 87) hBg t770 rfl rfl tq_75 rfl rfl (fun (t801 : _ = 87) => ?_)
        refine ez_go (n := 4) (pc' := 60) (L' := [(4, .inl (k)), (3, .inr (.inr (o))), (2, .inl (n)), (0, .inr (.inr (some (770)))), (1, .inl (t))]) (st' := [.inr (.inr (some (770))), .inl ((k) - (1)), .inr (.inr (some (801)))]) rfl ?_
        refine ez_gC (p := 796) (tg := 83) hBg t770 rfl rfl tq_75 rfl rfl (fun (t796 : _ = 83) => ?_)
        refine ez_go (n := 3) (pc' := 67) (L' := [(4, .inl (k)), (3, .inr (.inr (o))), (2, .inl (n)), (0, .inr (.inr (some (770)))), (1, .inl (t))]) (st' := [.inl ((k) - (1)), .inr (.inr (some (796))), .inl ((k) - (1)), .inr (.inr (some (801)))]) rfl ?_
        have n5 : 2000 ≤ qz_N g 796 ∧ qz_N g 796 ≤ 2000 := ez_len hBg t796 tq_83 rfl
        refine ez_aI hBg t796 rfl tq_83 rfl rfl (by omega) (by omega) (fun (b4 : -2147483648 ≤ qz_I g 796 ((k) - (1)).toNat) (b4' : qz_I g 796 ((k) - (1)).toNat ≤ 2147483647) => ?_)
        have l9 : (k - 1).toNat < rem.length := by omega
        have hx9 := uX_e (u := rem) (j := k - 1) l9
        have pb := ptl_at pr hx9
        rw [show qz_I g 796 ((k) - (1)).toNat = uX rem (k - 1) from tmg.2 _ _ hx9]
        have n8 : 4 ≤ qz_N g 801 ∧ qz_N g 801 ≤ 4 := ez_len hBg t801 tq_87 rfl
        refine ez_as hBg t801 rfl tq_87 rfl rfl (by omega) (by omega) (ez_vdI rfl rfl (by omega) (by omega)) (fun hB6 w7 => ?_)
        refine ez_go (n := 2) (pc' := 72) (L' := [(4, .inl (k)), (3, .inr (.inr (o))), (2, .inl (n)), (0, .inr (.inr (some (770)))), (1, .inl (t))]) (st' := [.inl (k), .inr (.inr (some (770)))]) rfl ?_
        have w9 : qz_I (dz_put g 801 ((k) - (1)).toNat (ez_v (.inl (uX rem (k - 1))))) 801 (k - 1).toNat = uX rem (k - 1) := w7.trans (rz_rd ⟨by omega, by omega⟩)
        have i9 : ∀ j, j ≠ (k - 1).toNat → qz_I (dz_put g 801 ((k) - (1)).toNat (ez_v (.inl (uX rem (k - 1))))) 801 j = qz_I g 801 j := fun j hj => ez_put_I (fun w => hj w.2)
        have f9 : ez_fr (ez_one 801) g (dz_put g 801 ((k) - (1)).toNat (ez_v (.inl (uX rem (k - 1))))) := (ez_fr.refl (ez_one 801) g).put rfl _ _
        have B9 := hB6
        generalize (dz_put g 801 ((k) - (1)).toNat (ez_v (.inl (uX rem (k - 1))))) = g1 at *
        have a9 := nc.fr hBg hX f9 (fun q hq => Or.inr (Or.inr (Nat.eq_of_beq_eq_true hq))) (fun j _ _ _ => f9.I rfl j) (Or.inl (f9.I rfl 36))
        have I9 := a9.mIx Ig B9
        have m9 := a9.mCx Ig mg
        have ek : (k - 1).toNat + 1 = k.toNat := by omega
        have s8 : str g1 (rem.take (k - 1).toNat) := fun j v hj => (i9 j (by have := (List.getElem?_eq_some_iff.mp hj).1; rw [List.length_take] at this; omega)).trans (sg j v hj)
        have s9 : str g1 (rem.take k.toNat) := by rw [← ek]; exact str_take s8 hx9 w9
        refine ez_cv hB6 t770 rfl rfl rfl tq_75 rfl rfl rfl (rd_mlf I9 m9 (fun v hv => pr v (List.mem_of_mem_take hv)) (by rw [List.length_take]; omega) (by rw [List.length_take]; omega) s9 (fun no => ez_KA ?_) (fun z e he tz mz => ez_KA ?_))
        · skip
          refine ez_go (n := 2) (pc' := 79) (L' := [(5, .inr (.inr none)), (4, .inl (k)), (3, .inr (.inr (o))), (2, .inl (n)), (0, .inr (.inr (some (770)))), (1, .inl (t))]) (st' := [.inr (.inr none)]) rfl ?_
          refine ez_nonn0 rfl ?_
          refine ez_go (n := 3) (pc' := 36) (L' := [(4, .inl (k + 1)), (5, .inr (.inr none)), (3, .inr (.inr (o))), (2, .inl (n)), (0, .inr (.inr (some (770)))), (1, .inl (t))]) (st' := []) rfl ?_
          exfalso; omega
        · skip
          refine ez_go (n := 2) (pc' := 79) (L' := [(5, .inr (.inr (some (z)))), (4, .inl (k)), (3, .inr (.inr (o))), (2, .inl (n)), (0, .inr (.inr (some (770)))), (1, .inl (t))]) (st' := [.inr (.inr (some (z)))]) rfl ?_
          refine ez_nonn1 rfl rfl ?_
          refine ez_go (n := 6) (pc' := 36) (L' := [(4, .inl (k + 1)), (2, .inl (k)), (3, .inr (.inr (some (z)))), (5, .inr (.inr (some (z)))), (0, .inr (.inr (some (770)))), (1, .inl (t))]) (st' := []) rfl ?_
          exfalso; omega
  | succ m ih =>
    intro k n o g hm0 k1 k4 kr hBg hf sg bg
    have ag := nc.fr hI.1 hX hf (fun q hq => Or.inr (Or.inr (Nat.eq_of_beq_eq_true hq))) (fun j _ _ _ => hf.I rfl j) (Or.inl (hf.I rfl 36))
    have Ig := ag.mIx hI hBg
    have mg := ag.mCx hI hm
    have tmg : tm g rem := ⟨(hf.I rfl _).trans tmh.1, fun j v hv => (hf.I rfl j).trans (tmh.2 j v hv)⟩
    refine ez_go (n := 2) (pc' := 39) (L' := [(4, .inl (k)), (3, .inr (.inr (o))), (2, .inl (n)), (0, .inr (.inr (some (770)))), (1, .inl (t))]) (st' := [.inl (3), .inl (k)]) rfl ?_
    refine ez_icmp rfl rfl ⟨by first | omega | exact (sz_i32 _).1, by first | omega | exact (sz_i32 _).2⟩ ⟨by first | omega | exact (sz_i32 _).1, by first | omega | exact (sz_i32 _).2⟩ (fun (c1 : (3) < (k)) => ?_) (fun (c1 : ¬((3) < (k))) => ?_)
    · skip
      refine ez_less [(3, .inr (.inr (o))), (2, .inl (n)), (0, .inr (.inr (some (770)))), (1, .inl (t))] rfl ⟨rfl, rfl, rfl, rfl, trivial⟩ ?_
      have eL : lonU (cLK Cs) rem (k - 1).toNat = lon (cLK Cs) rem := by
        by_cases e : k = 4
        · rw [show (k - 1).toNat = 3 by omega]; rfl
        · exact lonU_z (by omega) (by omega)
      rw [eL] at bg
      exact kx g o n hBg hf bg
    · skip
      refine ez_go (n := 2) (pc' := 45) (L' := [(4, .inl (k)), (3, .inr (.inr (o))), (2, .inl (n)), (0, .inr (.inr (some (770)))), (1, .inl (t))]) (st' := [.inr (.inr (some (770))), .inl (k)]) rfl ?_
      refine ez_gI hBg t770 rfl rfl tq_75 rfl rfl (fun (b2 : 0 ≤ qz_I g 770 30) (b2' : qz_I g 770 30 ≤ 2000) => ?_)
      rw [show qz_I g 770 30 = (rem.length : Int) from tmg.1]
      refine ez_icmp rfl rfl ⟨by first | omega | exact (sz_i32 _).1, by first | omega | exact (sz_i32 _).2⟩ ⟨by first | omega | exact (sz_i32 _).1, by first | omega | exact (sz_i32 _).2⟩ (fun (c3 : ((rem.length : Int)) < (k)) => ?_) (fun (c3 : ¬(((rem.length : Int)) < (k))) => ?_)
      · skip
        refine ez_less [(3, .inr (.inr (o))), (2, .inl (n)), (0, .inr (.inr (some (770)))), (1, .inl (t))] rfl ⟨rfl, rfl, rfl, rfl, trivial⟩ ?_
        have eL : lonU (cLK Cs) rem (k - 1).toNat = lon (cLK Cs) rem := by
          by_cases e : k = 4
          · rw [show (k - 1).toNat = 3 by omega]; rfl
          · exact lonU_z (by omega) (by omega)
        rw [eL] at bg
        exact kx g o n hBg hf bg
      · skip
        refine ez_go (n := 1) (pc' := 52) (L' := [(4, .inl (k)), (3, .inr (.inr (o))), (2, .inl (n)), (0, .inr (.inr (some (770)))), (1, .inl (t))]) (st' := [.inr (.inr (some (770)))]) rfl ?_
        refine ez_gC (p := 801) (tg := 87) hBg t770 rfl rfl tq_75 rfl rfl (fun (t801 : _ = 87) => ?_)
        refine ez_go (n := 4) (pc' := 60) (L' := [(4, .inl (k)), (3, .inr (.inr (o))), (2, .inl (n)), (0, .inr (.inr (some (770)))), (1, .inl (t))]) (st' := [.inr (.inr (some (770))), .inl ((k) - (1)), .inr (.inr (some (801)))]) rfl ?_
        refine ez_gC (p := 796) (tg := 83) hBg t770 rfl rfl tq_75 rfl rfl (fun (t796 : _ = 83) => ?_)
        refine ez_go (n := 3) (pc' := 67) (L' := [(4, .inl (k)), (3, .inr (.inr (o))), (2, .inl (n)), (0, .inr (.inr (some (770)))), (1, .inl (t))]) (st' := [.inl ((k) - (1)), .inr (.inr (some (796))), .inl ((k) - (1)), .inr (.inr (some (801)))]) rfl ?_
        have n5 : 2000 ≤ qz_N g 796 ∧ qz_N g 796 ≤ 2000 := ez_len hBg t796 tq_83 rfl
        refine ez_aI hBg t796 rfl tq_83 rfl rfl (by omega) (by omega) (fun (b4 : -2147483648 ≤ qz_I g 796 ((k) - (1)).toNat) (b4' : qz_I g 796 ((k) - (1)).toNat ≤ 2147483647) => ?_)
        have l9 : (k - 1).toNat < rem.length := by omega
        have hx9 := uX_e (u := rem) (j := k - 1) l9
        have pb := ptl_at pr hx9
        rw [show qz_I g 796 ((k) - (1)).toNat = uX rem (k - 1) from tmg.2 _ _ hx9]
        have n8 : 4 ≤ qz_N g 801 ∧ qz_N g 801 ≤ 4 := ez_len hBg t801 tq_87 rfl
        refine ez_as hBg t801 rfl tq_87 rfl rfl (by omega) (by omega) (ez_vdI rfl rfl (by omega) (by omega)) (fun hB6 w7 => ?_)
        refine ez_go (n := 2) (pc' := 72) (L' := [(4, .inl (k)), (3, .inr (.inr (o))), (2, .inl (n)), (0, .inr (.inr (some (770)))), (1, .inl (t))]) (st' := [.inl (k), .inr (.inr (some (770)))]) rfl ?_
        have w9 : qz_I (dz_put g 801 ((k) - (1)).toNat (ez_v (.inl (uX rem (k - 1))))) 801 (k - 1).toNat = uX rem (k - 1) := w7.trans (rz_rd ⟨by omega, by omega⟩)
        have i9 : ∀ j, j ≠ (k - 1).toNat → qz_I (dz_put g 801 ((k) - (1)).toNat (ez_v (.inl (uX rem (k - 1))))) 801 j = qz_I g 801 j := fun j hj => ez_put_I (fun w => hj w.2)
        have f9 : ez_fr (ez_one 801) g (dz_put g 801 ((k) - (1)).toNat (ez_v (.inl (uX rem (k - 1))))) := (ez_fr.refl (ez_one 801) g).put rfl _ _
        have B9 := hB6
        generalize (dz_put g 801 ((k) - (1)).toNat (ez_v (.inl (uX rem (k - 1))))) = g1 at *
        have a9 := nc.fr hBg hX f9 (fun q hq => Or.inr (Or.inr (Nat.eq_of_beq_eq_true hq))) (fun j _ _ _ => f9.I rfl j) (Or.inl (f9.I rfl 36))
        have I9 := a9.mIx Ig B9
        have m9 := a9.mCx Ig mg
        have ek : (k - 1).toNat + 1 = k.toNat := by omega
        have s8 : str g1 (rem.take (k - 1).toNat) := fun j v hj => (i9 j (by have := (List.getElem?_eq_some_iff.mp hj).1; rw [List.length_take] at this; omega)).trans (sg j v hj)
        have s9 : str g1 (rem.take k.toNat) := by rw [← ek]; exact str_take s8 hx9 w9
        refine ez_cv hB6 t770 rfl rfl rfl tq_75 rfl rfl rfl (rd_mlf I9 m9 (fun v hv => pr v (List.mem_of_mem_take hv)) (by rw [List.length_take]; omega) (by rw [List.length_take]; omega) s9 (fun no => ez_KA ?_) (fun z e he tz mz => ez_KA ?_))
        · skip
          refine ez_go (n := 2) (pc' := 79) (L' := [(5, .inr (.inr none)), (4, .inl (k)), (3, .inr (.inr (o))), (2, .inl (n)), (0, .inr (.inr (some (770)))), (1, .inl (t))]) (st' := [.inr (.inr none)]) rfl ?_
          refine ez_nonn0 rfl ?_
          refine ez_go (n := 3) (pc' := 36) (L' := [(4, .inl (k + 1)), (5, .inr (.inr none)), (3, .inr (.inr (o))), (2, .inl (n)), (0, .inr (.inr (some (770)))), (1, .inl (t))]) (st' := []) rfl ?_
          refine ez_less [(4, .inl (k + 1)), (3, .inr (.inr (o))), (2, .inl (n)), (0, .inr (.inr (some (770)))), (1, .inl (t))] rfl ⟨rfl, rfl, rfl, rfl, rfl, trivial⟩ ?_
          refine ih (k + 1) n o g1 (by omega) (by omega) (by omega) (by omega) B9 (hf.trans f9) (by rw [show (k + 1 - 1).toNat = k.toNat by omega]; exact s9) ?_
          rw [show (k + 1 - 1).toNat = (k - 1).toNat + 1 by omega, show lonU (cLK Cs) rem ((k - 1).toNat + 1) = lonU (cLK Cs) rem (k - 1).toNat from lon1_n (Or.inr (by rw [ek]; exact no))]
          exact bg.k a9 hBg hX
        · skip
          refine ez_go (n := 2) (pc' := 79) (L' := [(5, .inr (.inr (some (z)))), (4, .inl (k)), (3, .inr (.inr (o))), (2, .inl (n)), (0, .inr (.inr (some (770)))), (1, .inl (t))]) (st' := [.inr (.inr (some (z)))]) rfl ?_
          refine ez_nonn1 rfl rfl ?_
          refine ez_go (n := 6) (pc' := 36) (L' := [(4, .inl (k + 1)), (2, .inl (k)), (3, .inr (.inr (some (z)))), (5, .inr (.inr (some (z)))), (0, .inr (.inr (some (770)))), (1, .inl (t))]) (st' := []) rfl ?_
          refine ez_less [(4, .inl (k + 1)), (3, .inr (.inr (some (z)))), (2, .inl (k)), (0, .inr (.inr (some (770)))), (1, .inl (t))] rfl ⟨rfl, rfl, rfl, rfl, rfl, trivial⟩ ?_
          refine ih (k + 1) k (some z) g1 (by omega) (by omega) (by omega) (by omega) B9 (hf.trans f9) (by rw [show (k + 1 - 1).toNat = k.toNat by omega]; exact s9) ?_
          rw [show (k + 1 - 1).toNat = (k - 1).toNat + 1 by omega, show lonU (cLK Cs) rem ((k - 1).toNat + 1) = some ((k - 1).toNat + 1, e) from lon1_y (by omega) (by rw [ek]; exact he)]
          refine ⟨fun w => (by cases w), fun m e9 hr => ?_⟩
          cases hr
          exact ⟨by omega, z, rfl, tz, by rw [ek]; exact mz⟩

theorem rd_mls_c {t : Int} {z m9 : Nat} (hX : jz_X τ) (tmh : tm h rem) (pr : ptl rem) (r2 : rem.length ≤ 2000) (h3 : m9 ≤ 3) (hr : m9 ≤ rem.length) (tz : τ z = 13) (kx : ∀ g, ez_B τ g → ez_fr (ez_one 801) h g → str g (rem.take m9) → ez_W (d + 8) cm_247 149 [(3, .inr (.inr (some (z)))), (2, .inl ((m9 : Int))), (0, .inr (.inr (some (770)))), (1, .inl (t))] [] g Q) : ∀ (m : Nat) (k : Int) (g : cz_H), m = ((m9 : Int) - k).toNat → 0 ≤ k → k ≤ (m9 : Int) → ez_B τ g → ez_fr (ez_one 801) h g → str g (rem.take k.toNat) → ez_W (d + 8) cm_247 123 [(4, .inl (k)), (3, .inr (.inr (some (z)))), (2, .inl ((m9 : Int))), (0, .inr (.inr (some (770)))), (1, .inl (t))] [] g Q := by
  have t770 : τ 770 = 75 := hX 770 (by decide)
  intro m
  induction m with
  | zero =>
    intro k g hm0 k0 k1 hBg hf sg
    have tmg : tm g rem := ⟨(hf.I rfl _).trans tmh.1, fun j v hv => (hf.I rfl j).trans (tmh.2 j v hv)⟩
    refine ez_go (n := 2) (pc' := 126) (L' := [(4, .inl (k)), (3, .inr (.inr (some (z)))), (2, .inl ((m9 : Int))), (0, .inr (.inr (some (770)))), (1, .inl (t))]) (st' := [.inl ((m9 : Int)), .inl (k)]) rfl ?_
    refine ez_icmp rfl rfl ⟨by first | omega | exact (sz_i32 _).1, by first | omega | exact (sz_i32 _).2⟩ ⟨by first | omega | exact (sz_i32 _).1, by first | omega | exact (sz_i32 _).2⟩ (fun (c1 : ((m9 : Int)) ≤ (k)) => ?_) (fun (c1 : ¬(((m9 : Int)) ≤ (k))) => ?_)
    · skip
      refine ez_less [(3, .inr (.inr (some (z)))), (2, .inl ((m9 : Int))), (0, .inr (.inr (some (770)))), (1, .inl (t))] rfl ⟨rfl, rfl, rfl, rfl, trivial⟩ ?_
      rw [show k.toNat = m9 by omega] at sg
      exact kx g hBg hf sg
    · skip
      refine ez_go (n := 1) (pc' := 130) (L' := [(4, .inl (k)), (3, .inr (.inr (some (z)))), (2, .inl ((m9 : Int))), (0, .inr (.inr (some (770)))), (1, .inl (t))]) (st' := [.inr (.inr (some (770)))]) rfl ?_
      refine ez_gC (p := 801) (tg := 87) hBg t770 rfl rfl tq_75 rfl rfl (fun (t801 : _ = 87) => ?_)
      refine ez_go (n := 2) (pc' := 136) (L' := [(4, .inl (k)), (3, .inr (.inr (some (z)))), (2, .inl ((m9 : Int))), (0, .inr (.inr (some (770)))), (1, .inl (t))]) (st' := [.inr (.inr (some (770))), .inl (k), .inr (.inr (some (801)))]) rfl ?_
      refine ez_gC (p := 796) (tg := 83) hBg t770 rfl rfl tq_75 rfl rfl (fun (t796 : _ = 83) => ?_)
      refine ez_go (n := 1) (pc' := 141) (L' := [(4, .inl (k)), (3, .inr (.inr (some (z)))), (2, .inl ((m9 : Int))), (0, .inr (.inr (some (770)))), (1, .inl (t))]) (st' := [.inl (k), .inr (.inr (some (796))), .inl (k), .inr (.inr (some (801)))]) rfl ?_
      have n3 : 2000 ≤ qz_N g 796 ∧ qz_N g 796 ≤ 2000 := ez_len hBg t796 tq_83 rfl
      refine ez_aI hBg t796 rfl tq_83 rfl rfl (by omega) (by omega) (fun (b2 : -2147483648 ≤ qz_I g 796 (k).toNat) (b2' : qz_I g 796 (k).toNat ≤ 2147483647) => ?_)
      have l9 : (k).toNat < rem.length := by omega
      have hx9 := uX_e (u := rem) (j := k) l9
      have pb := ptl_at pr hx9
      rw [show qz_I g 796 (k).toNat = uX rem k from tmg.2 _ _ hx9]
      have n6 : 4 ≤ qz_N g 801 ∧ qz_N g 801 ≤ 4 := ez_len hBg t801 tq_87 rfl
      refine ez_as hBg t801 rfl tq_87 rfl rfl (by omega) (by omega) (ez_vdI rfl rfl (by omega) (by omega)) (fun hB4 w5 => ?_)
      refine ez_go (n := 2) (pc' := 123) (L' := [(4, .inl (k + 1)), (3, .inr (.inr (some (z)))), (2, .inl ((m9 : Int))), (0, .inr (.inr (some (770)))), (1, .inl (t))]) (st' := []) rfl ?_
      exfalso; omega
  | succ m ih =>
    intro k g hm0 k0 k1 hBg hf sg
    have tmg : tm g rem := ⟨(hf.I rfl _).trans tmh.1, fun j v hv => (hf.I rfl j).trans (tmh.2 j v hv)⟩
    refine ez_go (n := 2) (pc' := 126) (L' := [(4, .inl (k)), (3, .inr (.inr (some (z)))), (2, .inl ((m9 : Int))), (0, .inr (.inr (some (770)))), (1, .inl (t))]) (st' := [.inl ((m9 : Int)), .inl (k)]) rfl ?_
    refine ez_icmp rfl rfl ⟨by first | omega | exact (sz_i32 _).1, by first | omega | exact (sz_i32 _).2⟩ ⟨by first | omega | exact (sz_i32 _).1, by first | omega | exact (sz_i32 _).2⟩ (fun (c1 : ((m9 : Int)) ≤ (k)) => ?_) (fun (c1 : ¬(((m9 : Int)) ≤ (k))) => ?_)
    · skip
      refine ez_less [(3, .inr (.inr (some (z)))), (2, .inl ((m9 : Int))), (0, .inr (.inr (some (770)))), (1, .inl (t))] rfl ⟨rfl, rfl, rfl, rfl, trivial⟩ ?_
      rw [show k.toNat = m9 by omega] at sg
      exact kx g hBg hf sg
    · skip
      refine ez_go (n := 1) (pc' := 130) (L' := [(4, .inl (k)), (3, .inr (.inr (some (z)))), (2, .inl ((m9 : Int))), (0, .inr (.inr (some (770)))), (1, .inl (t))]) (st' := [.inr (.inr (some (770)))]) rfl ?_
      refine ez_gC (p := 801) (tg := 87) hBg t770 rfl rfl tq_75 rfl rfl (fun (t801 : _ = 87) => ?_)
      refine ez_go (n := 2) (pc' := 136) (L' := [(4, .inl (k)), (3, .inr (.inr (some (z)))), (2, .inl ((m9 : Int))), (0, .inr (.inr (some (770)))), (1, .inl (t))]) (st' := [.inr (.inr (some (770))), .inl (k), .inr (.inr (some (801)))]) rfl ?_
      refine ez_gC (p := 796) (tg := 83) hBg t770 rfl rfl tq_75 rfl rfl (fun (t796 : _ = 83) => ?_)
      refine ez_go (n := 1) (pc' := 141) (L' := [(4, .inl (k)), (3, .inr (.inr (some (z)))), (2, .inl ((m9 : Int))), (0, .inr (.inr (some (770)))), (1, .inl (t))]) (st' := [.inl (k), .inr (.inr (some (796))), .inl (k), .inr (.inr (some (801)))]) rfl ?_
      have n3 : 2000 ≤ qz_N g 796 ∧ qz_N g 796 ≤ 2000 := ez_len hBg t796 tq_83 rfl
      refine ez_aI hBg t796 rfl tq_83 rfl rfl (by omega) (by omega) (fun (b2 : -2147483648 ≤ qz_I g 796 (k).toNat) (b2' : qz_I g 796 (k).toNat ≤ 2147483647) => ?_)
      have l9 : (k).toNat < rem.length := by omega
      have hx9 := uX_e (u := rem) (j := k) l9
      have pb := ptl_at pr hx9
      rw [show qz_I g 796 (k).toNat = uX rem k from tmg.2 _ _ hx9]
      have n6 : 4 ≤ qz_N g 801 ∧ qz_N g 801 ≤ 4 := ez_len hBg t801 tq_87 rfl
      refine ez_as hBg t801 rfl tq_87 rfl rfl (by omega) (by omega) (ez_vdI rfl rfl (by omega) (by omega)) (fun hB4 w5 => ?_)
      refine ez_go (n := 2) (pc' := 123) (L' := [(4, .inl (k + 1)), (3, .inr (.inr (some (z)))), (2, .inl ((m9 : Int))), (0, .inr (.inr (some (770)))), (1, .inl (t))]) (st' := []) rfl ?_
      refine ez_less [(4, .inl (k + 1)), (3, .inr (.inr (some (z)))), (2, .inl ((m9 : Int))), (0, .inr (.inr (some (770)))), (1, .inl (t))] rfl ⟨rfl, rfl, rfl, rfl, rfl, trivial⟩ ?_
      have w9 : qz_I (dz_put g 801 (k).toNat (ez_v (.inl (uX rem k)))) 801 (k).toNat = uX rem k := w5.trans (rz_rd ⟨by omega, by omega⟩)
      have i9 : ∀ j, j ≠ (k).toNat → qz_I (dz_put g 801 (k).toNat (ez_v (.inl (uX rem k)))) 801 j = qz_I g 801 j := fun j hj => ez_put_I (fun w => hj w.2)
      refine ih (k + 1) _ (by omega) (by omega) (by omega) hB4 (hf.put rfl _ _) ?_
      rw [show (k + 1).toNat = k.toNat + 1 by omega]
      exact str_take (fun j v hj => (i9 j (by have := (List.getElem?_eq_some_iff.mp hj).1; rw [List.length_take] at this; omega)).trans (sg j v hj)) hx9 w9

theorem rd_mls_s {t : Int} {tot : List eL × List Int} (hI : mI τ h Ls b) (hm : mC h Cs) (hKv : ∀ x, (vF Ls x).1 = K x) (hK : ∀ x, (0 ≤ x ∧ x ≤ 1114111) → 0 ≤ K x ∧ K x ≤ 254) (kx : ∀ g z l9 es row, ez_B τ g → ez_fr P81 h g → (∀ j, j ≠ 30 → qz_I g 770 j = qz_I h 770 j) → tm g l9 → ptl l9 → l9.length ≤ 2000 → (es, l9) = tot → (τ z = 13 ∧ τ (z + 1) = 15 ∧ τ (z + 2) = 16) → mCl g z (some (row, es)) → ez_W (d + 8) cm_247 270 [(3, .inr (.inr (some (z)))), (0, .inr (.inr (some (770)))), (1, .inl (t))] [] g Q) : ∀ (xs ps row : List Int) (e : List eL) (mo a9 n : Int) (z : Nat) (g : cz_H), a9 = (ps.length : Int) → n = (row.length : Int) → row.length ≤ 3 → tm g (ps ++ xs) → (ps ++ xs).length ≤ 2000 → ptl (ps ++ xs) → ptl row → str g row → (τ z = 13 ∧ τ (z + 1) = 15 ∧ τ (z + 2) = 16) → mCl g z (some (row, e)) → tot = sca (cLK Cs) K xs row e mo ps → (0 ≤ mo ∧ mo ≤ 254) → ez_B τ g → ez_fr P81 h g → (∀ j, j ≠ 30 → qz_I g 770 j = qz_I h 770 j) → ez_W (d + 8) cm_247 161 [(5, .inl (a9)), (4, .inl (mo)), (3, .inr (.inr (some (z)))), (2, .inl (n)), (0, .inr (.inr (some (770)))), (1, .inl (t))] [] g Q := by
  have hX := hI.2.1
  have t770 : τ 770 = 75 := hX 770 (by decide)
  intro xs
  induction xs with
  | nil =>
    intro ps row e mo a9 n z g a9e nr l3 tmg lg pg pw sg tz mz ht mb hBg hf ig
    have ag := nc.fr hI.1 hX hf P81_c (fun j j1 _ _ => ig j j1) (Or.inl (ig 36 (by decide)))
    have Ig := ag.mIx hI hBg
    have mg := ag.mCx hI hm
    have lx : (ps ++ []).length = ps.length + 0 := by rw [List.length_append]; rfl
    refine ez_go (n := 2) (pc' := 164) (L' := [(5, .inl (a9)), (4, .inl (mo)), (3, .inr (.inr (some (z)))), (2, .inl (n)), (0, .inr (.inr (some (770)))), (1, .inl (t))]) (st' := [.inr (.inr (some (770))), .inl (a9)]) rfl ?_
    refine ez_gI hBg t770 rfl rfl tq_75 rfl rfl (fun (b1 : 0 ≤ qz_I g 770 30) (b1' : qz_I g 770 30 ≤ 2000) => ?_)
    rw [show qz_I g 770 30 = ((ps ++ []).length : Int) from tmg.1]
    refine ez_icmp rfl rfl ⟨by first | omega | exact (sz_i32 _).1, by first | omega | exact (sz_i32 _).2⟩ ⟨by first | omega | exact (sz_i32 _).1, by first | omega | exact (sz_i32 _).2⟩ (fun (c2 : (((ps ++ []).length : Int)) ≤ (a9)) => ?_) (fun (c2 : ¬((((ps ++ []).length : Int)) ≤ (a9))) => ?_)
    · skip
      refine ez_less [(3, .inr (.inr (some (z)))), (0, .inr (.inr (some (770)))), (1, .inl (t))] rfl ⟨rfl, rfl, rfl, trivial⟩ ?_
      rw [List.append_nil] at tmg pg lg
      exact kx g z ps e row hBg hf ig tmg pg lg (by rw [ht]; rfl) tz mz
    · exfalso; omega
  | cons x xs ih =>
    intro ps row e mo a9 n z g a9e nr l3 tmg lg pg pw sg tz mz ht mb hBg hf ig
    have ag := nc.fr hI.1 hX hf P81_c (fun j j1 _ _ => ig j j1) (Or.inl (ig 36 (by decide)))
    have Ig := ag.mIx hI hBg
    have mg := ag.mCx hI hm
    have lx : (ps ++ x :: xs).length = ps.length + (xs.length + 1) := by rw [List.length_append]; rfl
    have hx9 : (ps ++ x :: xs)[a9.toNat]? = some x := by rw [show a9.toNat = ps.length by omega, List.getElem?_append_right (Nat.le_refl _), Nat.sub_self]; rfl
    have pb := ptl_at pg hx9
    have kb := hK x pb
    refine ez_go (n := 2) (pc' := 164) (L' := [(5, .inl (a9)), (4, .inl (mo)), (3, .inr (.inr (some (z)))), (2, .inl (n)), (0, .inr (.inr (some (770)))), (1, .inl (t))]) (st' := [.inr (.inr (some (770))), .inl (a9)]) rfl ?_
    refine ez_gI hBg t770 rfl rfl tq_75 rfl rfl (fun (b1 : 0 ≤ qz_I g 770 30) (b1' : qz_I g 770 30 ≤ 2000) => ?_)
    rw [show qz_I g 770 30 = ((ps ++ x :: xs).length : Int) from tmg.1]
    refine ez_icmp rfl rfl ⟨by first | omega | exact (sz_i32 _).1, by first | omega | exact (sz_i32 _).2⟩ ⟨by first | omega | exact (sz_i32 _).1, by first | omega | exact (sz_i32 _).2⟩ (fun (c2 : (((ps ++ x :: xs).length : Int)) ≤ (a9)) => ?_) (fun (c2 : ¬((((ps ++ x :: xs).length : Int)) ≤ (a9))) => ?_)
    · exfalso; omega
    · skip
      refine ez_go (n := 2) (pc' := 172) (L' := [(5, .inl (a9)), (4, .inl (mo)), (3, .inr (.inr (some (z)))), (2, .inl (n)), (0, .inr (.inr (some (770)))), (1, .inl (t))]) (st' := [.inr (.inr (some (770))), .inr (.inr (some (770)))]) rfl ?_
      refine ez_gC (p := 796) (tg := 83) hBg t770 rfl rfl tq_75 rfl rfl (fun (t796 : _ = 83) => ?_)
      refine ez_go (n := 1) (pc' := 177) (L' := [(5, .inl (a9)), (4, .inl (mo)), (3, .inr (.inr (some (z)))), (2, .inl (n)), (0, .inr (.inr (some (770)))), (1, .inl (t))]) (st' := [.inl (a9), .inr (.inr (some (796))), .inr (.inr (some (770)))]) rfl ?_
      have n4 : 2000 ≤ qz_N g 796 ∧ qz_N g 796 ≤ 2000 := ez_len hBg t796 tq_83 rfl
      refine ez_aI hBg t796 rfl tq_83 rfl rfl (by omega) (by omega) (fun (b3 : -2147483648 ≤ qz_I g 796 (a9).toNat) (b3' : qz_I g 796 (a9).toNat ≤ 2147483647) => ?_)
      rw [show qz_I g 796 (a9).toNat = x from tmg.2 _ _ hx9]
      refine ez_cv hBg t770 rfl rfl rfl tq_75 rfl rfl rfl (rd_mrank Ig ⟨by omega, by omega⟩ (fun _ => ez_K1 ?_))
      rw [hKv]
      refine ez_if rfl rfl ⟨by first | omega | exact (sz_i32 _).1, by first | omega | exact (sz_i32 _).2⟩ (fun (c5 : (K x) ≤ (0)) => ?_) (fun (c5 : ¬((K x) ≤ (0))) => ?_)
      · skip
        refine ez_less [(3, .inr (.inr (some (z)))), (0, .inr (.inr (some (770)))), (1, .inl (t))] rfl ⟨rfl, rfl, rfl, trivial⟩ ?_
        exact kx g z (ps ++ x :: xs) e row hBg hf ig tmg pg lg (by rw [ht]; exact (sca_z (by omega)).symm) tz mz
      · skip
        refine ez_go (n := 2) (pc' := 186) (L' := [(5, .inl (a9)), (4, .inl (mo)), (3, .inr (.inr (some (z)))), (2, .inl (n)), (0, .inr (.inr (some (770)))), (1, .inl (t))]) (st' := [.inr (.inr (some (770))), .inr (.inr (some (770)))]) rfl ?_
        refine ez_gC (p := 796) (tg := 83) hBg t770 rfl rfl tq_75 rfl rfl (fun (t796 : _ = 83) => ?_)
        refine ez_go (n := 1) (pc' := 191) (L' := [(5, .inl (a9)), (4, .inl (mo)), (3, .inr (.inr (some (z)))), (2, .inl (n)), (0, .inr (.inr (some (770)))), (1, .inl (t))]) (st' := [.inl (a9), .inr (.inr (some (796))), .inr (.inr (some (770)))]) rfl ?_
        have n7 : 2000 ≤ qz_N g 796 ∧ qz_N g 796 ≤ 2000 := ez_len hBg t796 tq_83 rfl
        refine ez_aI hBg t796 rfl tq_83 rfl rfl (by omega) (by omega) (fun (b6 : -2147483648 ≤ qz_I g 796 (a9).toNat) (b6' : qz_I g 796 (a9).toNat ≤ 2147483647) => ?_)
        rw [show qz_I g 796 (a9).toNat = x from tmg.2 _ _ hx9]
        refine ez_cv hBg t770 rfl rfl rfl tq_75 rfl rfl rfl (rd_mrank Ig ⟨by omega, by omega⟩ (fun _ => ez_K1 ?_))
        rw [hKv]
        refine ez_go (n := 5) (pc' := 204) (L' := [(7, .inr (.inr none)), (6, .inl (K x)), (5, .inl (a9)), (4, .inl (mo)), (3, .inr (.inr (some (z)))), (2, .inl (n)), (0, .inr (.inr (some (770)))), (1, .inl (t))]) (st' := [.inl (mo), .inl (K x)]) rfl ?_
        refine ez_icmp rfl rfl ⟨by first | omega | exact (sz_i32 _).1, by first | omega | exact (sz_i32 _).2⟩ ⟨by first | omega | exact (sz_i32 _).1, by first | omega | exact (sz_i32 _).2⟩ (fun (c8 : (K x) ≤ (mo)) => ?_) (fun (c8 : ¬((K x) ≤ (mo))) => ?_)
        · skip
          refine ez_go (n := 1) (pc' := 236) (L' := [(7, .inr (.inr none)), (6, .inl (K x)), (5, .inl (a9)), (4, .inl (mo)), (3, .inr (.inr (some (z)))), (2, .inl (n)), (0, .inr (.inr (some (770)))), (1, .inl (t))]) (st' := [.inr (.inr none)]) rfl ?_
          refine ez_null0 rfl rfl ?_
          refine ez_go (n := 2) (pc' := 259) (L' := [(7, .inr (.inr none)), (6, .inl (K x)), (5, .inl (a9)), (4, .inl (mo)), (3, .inr (.inr (some (z)))), (2, .inl (n)), (0, .inr (.inr (some (770)))), (1, .inl (t))]) (st' := [.inl (K x), .inl (mo)]) rfl ?_
          refine ez_cs hBg.2.1 rfl rfl rfl rfl rfl (rd_maxE ⟨by omega, by omega⟩ ⟨by omega, by omega⟩ (ez_K1 ?_))
          refine ez_go (n := 3) (pc' := 161) (L' := [(5, .inl (a9 + 1)), (4, .inl (max mo (K x))), (7, .inr (.inr none)), (6, .inl (K x)), (3, .inr (.inr (some (z)))), (2, .inl (n)), (0, .inr (.inr (some (770)))), (1, .inl (t))]) (st' := []) rfl ?_
          refine ez_less [(5, .inl (a9 + 1)), (4, .inl (max mo (K x))), (3, .inr (.inr (some (z)))), (2, .inl (n)), (0, .inr (.inr (some (770)))), (1, .inl (t))] rfl ⟨rfl, rfl, rfl, rfl, rfl, rfl, trivial⟩ ?_
          refine ih (ps ++ [x]) row e (max mo (K x)) (a9 + 1) n z g (by rw [List.length_append, a9e]; rfl) nr l3 (by rw [List.append_assoc]; exact tmg) (by rw [List.append_assoc]; exact lg) (by rw [List.append_assoc]; exact pg) pw sg tz mz ?_ (by omega) hBg hf ig
          rw [← sca_n (by omega) (Or.inl (fun q => by omega))]; exact ht
        · skip
          refine ez_go (n := 2) (pc' := 209) (L' := [(7, .inr (.inr none)), (6, .inl (K x)), (5, .inl (a9)), (4, .inl (mo)), (3, .inr (.inr (some (z)))), (2, .inl (n)), (0, .inr (.inr (some (770)))), (1, .inl (t))]) (st' := [.inl (3), .inl (n)]) rfl ?_
          refine ez_icmp rfl rfl ⟨by first | omega | exact (sz_i32 _).1, by first | omega | exact (sz_i32 _).2⟩ ⟨by first | omega | exact (sz_i32 _).1, by first | omega | exact (sz_i32 _).2⟩ (fun (c9 : (3) ≤ (n)) => ?_) (fun (c9 : ¬((3) ≤ (n))) => ?_)
          · skip
            refine ez_go (n := 1) (pc' := 236) (L' := [(7, .inr (.inr none)), (6, .inl (K x)), (5, .inl (a9)), (4, .inl (mo)), (3, .inr (.inr (some (z)))), (2, .inl (n)), (0, .inr (.inr (some (770)))), (1, .inl (t))]) (st' := [.inr (.inr none)]) rfl ?_
            refine ez_null0 rfl rfl ?_
            refine ez_go (n := 2) (pc' := 259) (L' := [(7, .inr (.inr none)), (6, .inl (K x)), (5, .inl (a9)), (4, .inl (mo)), (3, .inr (.inr (some (z)))), (2, .inl (n)), (0, .inr (.inr (some (770)))), (1, .inl (t))]) (st' := [.inl (K x), .inl (mo)]) rfl ?_
            refine ez_cs hBg.2.1 rfl rfl rfl rfl rfl (rd_maxE ⟨by omega, by omega⟩ ⟨by omega, by omega⟩ (ez_K1 ?_))
            refine ez_go (n := 3) (pc' := 161) (L' := [(5, .inl (a9 + 1)), (4, .inl (max mo (K x))), (7, .inr (.inr none)), (6, .inl (K x)), (3, .inr (.inr (some (z)))), (2, .inl (n)), (0, .inr (.inr (some (770)))), (1, .inl (t))]) (st' := []) rfl ?_
            refine ez_less [(5, .inl (a9 + 1)), (4, .inl (max mo (K x))), (3, .inr (.inr (some (z)))), (2, .inl (n)), (0, .inr (.inr (some (770)))), (1, .inl (t))] rfl ⟨rfl, rfl, rfl, rfl, rfl, rfl, trivial⟩ ?_
            refine ih (ps ++ [x]) row e (max mo (K x)) (a9 + 1) n z g (by rw [List.length_append, a9e]; rfl) nr l3 (by rw [List.append_assoc]; exact tmg) (by rw [List.append_assoc]; exact lg) (by rw [List.append_assoc]; exact pg) pw sg tz mz ?_ (by omega) hBg hf ig
            rw [← sca_n (by omega) (Or.inl (fun q => by omega))]; exact ht
          · skip
            refine ez_go (n := 1) (pc' := 213) (L' := [(7, .inr (.inr none)), (6, .inl (K x)), (5, .inl (a9)), (4, .inl (mo)), (3, .inr (.inr (some (z)))), (2, .inl (n)), (0, .inr (.inr (some (770)))), (1, .inl (t))]) (st' := [.inr (.inr (some (770)))]) rfl ?_
            refine ez_gC (p := 801) (tg := 87) hBg t770 rfl rfl tq_75 rfl rfl (fun (t801 : _ = 87) => ?_)
            refine ez_go (n := 2) (pc' := 218) (L' := [(7, .inr (.inr none)), (6, .inl (K x)), (5, .inl (a9)), (4, .inl (mo)), (3, .inr (.inr (some (z)))), (2, .inl (n)), (0, .inr (.inr (some (770)))), (1, .inl (t))]) (st' := [.inr (.inr (some (770))), .inl (n), .inr (.inr (some (801)))]) rfl ?_
            refine ez_gC (p := 796) (tg := 83) hBg t770 rfl rfl tq_75 rfl rfl (fun (t796 : _ = 83) => ?_)
            refine ez_go (n := 1) (pc' := 223) (L' := [(7, .inr (.inr none)), (6, .inl (K x)), (5, .inl (a9)), (4, .inl (mo)), (3, .inr (.inr (some (z)))), (2, .inl (n)), (0, .inr (.inr (some (770)))), (1, .inl (t))]) (st' := [.inl (a9), .inr (.inr (some (796))), .inl (n), .inr (.inr (some (801)))]) rfl ?_
            have n11 : 2000 ≤ qz_N g 796 ∧ qz_N g 796 ≤ 2000 := ez_len hBg t796 tq_83 rfl
            refine ez_aI hBg t796 rfl tq_83 rfl rfl (by omega) (by omega) (fun (b10 : -2147483648 ≤ qz_I g 796 (a9).toNat) (b10' : qz_I g 796 (a9).toNat ≤ 2147483647) => ?_)
            rw [show qz_I g 796 (a9).toNat = x from tmg.2 _ _ hx9]
            have n14 : 4 ≤ qz_N g 801 ∧ qz_N g 801 ≤ 4 := ez_len hBg t801 tq_87 rfl
            refine ez_as hBg t801 rfl tq_87 rfl rfl (by omega) (by omega) (ez_vdI rfl rfl (by omega) (by omega)) (fun hB12 w13 => ?_)
            refine ez_go (n := 4) (pc' := 229) (L' := [(7, .inr (.inr none)), (6, .inl (K x)), (5, .inl (a9)), (4, .inl (mo)), (3, .inr (.inr (some (z)))), (2, .inl (n)), (0, .inr (.inr (some (770)))), (1, .inl (t))]) (st' := [.inl ((n) + (1)), .inr (.inr (some (770)))]) rfl ?_
            have w9 : qz_I (dz_put g 801 (n).toNat (ez_v (.inl (x)))) 801 (n).toNat = x := w13.trans (rz_rd ⟨by omega, by omega⟩)
            have i9 : ∀ j, j ≠ (n).toNat → qz_I (dz_put g 801 (n).toNat (ez_v (.inl (x)))) 801 j = qz_I g 801 j := fun j hj => ez_put_I (fun w => hj w.2)
            have f9 : ez_fr (ez_one 801) g (dz_put g 801 (n).toNat (ez_v (.inl (x)))) := (ez_fr.refl (ez_one 801) g).put rfl _ _
            have B9 := hB12
            generalize (dz_put g 801 (n).toNat (ez_v (.inl (x)))) = g1 at *
            have nc9 := nc.fr hBg hX f9 (fun q hq => Or.inr (Or.inr (Nat.eq_of_beq_eq_true hq))) (fun j _ _ _ => f9.I rfl j) (Or.inl (f9.I rfl 36))
            have I9 := nc9.mIx Ig B9
            have m9 := nc9.mCx Ig mg
            have s8 : str g1 row := fun j v hj => (i9 j (by have := (List.getElem?_eq_some_iff.mp hj).1; omega)).trans (sg j v hj)
            have s9 : str g1 (row ++ [x]) := str_app s8 (by rw [show row.length = (n).toNat by omega]; exact w9)
            have tm9 : tm g1 (ps ++ x :: xs) := ⟨(f9.I rfl _).trans tmg.1, fun j v hv => (f9.I rfl j).trans (tmg.2 j v hv)⟩
            have pw9 : ptl (row ++ [x]) := fun v hv => by rcases List.mem_append.mp hv with w | w; (· exact pw v w); (· rw [List.mem_singleton.mp w]; exact pb)
            have lr9 : (row ++ [x]).length = row.length + 1 := by rw [List.length_append]; rfl
            refine ez_cv hB12 t770 rfl rfl rfl tq_75 rfl rfl rfl (rd_mlf I9 m9 pw9 (by omega) (by omega) s9 (fun no => ez_KA ?_) (fun z2 e2 he tz2 mz2 => ez_KA ?_))
            · skip
              refine ez_go (n := 2) (pc' := 236) (L' := [(7, .inr (.inr none)), (6, .inl (K x)), (5, .inl (a9)), (4, .inl (mo)), (3, .inr (.inr (some (z)))), (2, .inl (n)), (0, .inr (.inr (some (770)))), (1, .inl (t))]) (st' := [.inr (.inr none)]) rfl ?_
              refine ez_null0 rfl rfl ?_
              refine ez_go (n := 2) (pc' := 259) (L' := [(7, .inr (.inr none)), (6, .inl (K x)), (5, .inl (a9)), (4, .inl (mo)), (3, .inr (.inr (some (z)))), (2, .inl (n)), (0, .inr (.inr (some (770)))), (1, .inl (t))]) (st' := [.inl (K x), .inl (mo)]) rfl ?_
              refine ez_cs B9.2.1 rfl rfl rfl rfl rfl (rd_maxE ⟨by omega, by omega⟩ ⟨by omega, by omega⟩ (ez_K1 ?_))
              refine ez_go (n := 3) (pc' := 161) (L' := [(5, .inl (a9 + 1)), (4, .inl (max mo (K x))), (7, .inr (.inr none)), (6, .inl (K x)), (3, .inr (.inr (some (z)))), (2, .inl (n)), (0, .inr (.inr (some (770)))), (1, .inl (t))]) (st' := []) rfl ?_
              refine ez_less [(5, .inl (a9 + 1)), (4, .inl (max mo (K x))), (3, .inr (.inr (some (z)))), (2, .inl (n)), (0, .inr (.inr (some (770)))), (1, .inl (t))] rfl ⟨rfl, rfl, rfl, rfl, rfl, rfl, trivial⟩ ?_
              refine ih (ps ++ [x]) row e (max mo (K x)) (a9 + 1) n z g1 (by rw [List.length_append, a9e]; rfl) nr l3 (by rw [List.append_assoc]; exact tm9) (by rw [List.append_assoc]; exact lg) (by rw [List.append_assoc]; exact pg) pw s8 tz (nc9.mClx hBg hX tz.1 tz.2.1 tz.2.2 mz) ?_ (by omega) B9 (hf.trans (ez_fr_mono f9 (fun z hz => P81_1 hz))) (fun j hj => (f9.I rfl j).trans (ig j hj))
              rw [← sca_n (by omega) (Or.inr no)]; exact ht
            · skip
              refine ez_go (n := 2) (pc' := 236) (L' := [(7, .inr (.inr (some (z2)))), (6, .inl (K x)), (5, .inl (a9)), (4, .inl (mo)), (3, .inr (.inr (some (z)))), (2, .inl (n)), (0, .inr (.inr (some (770)))), (1, .inl (t))]) (st' := [.inr (.inr (some (z2)))]) rfl ?_
              refine ez_null1 rfl ?_
              refine ez_go (n := 6) (pc' := 249) (L' := [(2, .inl (n + 1)), (3, .inr (.inr (some (z2)))), (7, .inr (.inr (some (z2)))), (6, .inl (K x)), (5, .inl (a9)), (4, .inl (mo)), (0, .inr (.inr (some (770)))), (1, .inl (t))]) (st' := [.inl (1), .inl (a9), .inr (.inr (some (770)))]) rfl ?_
              refine ez_cv B9 t770 rfl rfl rfl tq_75 rfl rfl rfl (rd_mdrop (A := ps) (B := [x]) (C := xs) B9 hX (by rw [List.append_assoc]; exact tm9) (by rw [List.append_assoc]; exact pg) (by rw [List.append_assoc]; exact lg) a9e rfl (fun g2 B2 f2 i2 tm2 => ez_K0 ?_))
              have a2 := nc.fr B9 hX f2 (fun q hq => P81_c q (P81_2 hq)) (fun j j1 _ _ => i2 j j1) (Or.inl (i2 36 (by decide)))
              have s2 : str g2 (row ++ [x]) := fun j v hj => (f2.I rfl j).trans (s9 j v hj)
              refine ez_go (n := 2) (pc' := 161) (L' := [(2, .inl (n + 1)), (3, .inr (.inr (some (z2)))), (7, .inr (.inr (some (z2)))), (6, .inl (K x)), (5, .inl (a9)), (4, .inl (mo)), (0, .inr (.inr (some (770)))), (1, .inl (t))]) (st' := []) rfl ?_
              refine ez_less [(5, .inl (a9)), (4, .inl (mo)), (3, .inr (.inr (some (z2)))), (2, .inl (n + 1)), (0, .inr (.inr (some (770)))), (1, .inl (t))] rfl ⟨rfl, rfl, rfl, rfl, rfl, rfl, trivial⟩ ?_
              refine ih ps (row ++ [x]) e2 mo a9 (n + 1) z2 g2 a9e (by omega) (by omega) tm2 (by rw [List.length_append] at *; rw [List.length_cons] at lg; omega) (fun v hv => pg v (by rcases List.mem_append.mp hv with w | w; (· exact List.mem_append_left _ w); (· exact List.mem_append_right _ (List.mem_cons_of_mem _ w)))) pw9 s2 tz2 (a2.mClx B9 hX tz2.1 tz2.2.1 tz2.2.2 mz2) ?_ mb B2 ((hf.trans (ez_fr_mono f9 (fun z hz => P81_1 hz))).trans (ez_fr_mono f2 (fun z hz => P81_2 hz))) (fun j hj => (i2 j hj).trans ((f9.I rfl j).trans (ig j hj)))
              rw [← sca_y (by omega) (by omega) (by omega) he]; exact ht

theorem rd_mls_e {t : Int} {z : Nat} {es : List eL} (hI : mI τ h Ls b) (l1 : L.length + 18 ≤ 36000) (rm : rmc h) (tz : τ z = 13 ∧ τ (z + 1) = 15 ∧ τ (z + 2) = 16) (mz : mCl h z (some (row, es))) (kx : ∀ g τ1, ez_B τ1 g → n23 τ h τ1 g → emt g (L ++ es) → ez_W (d + 8) cm_247 22 [(0, .inr (.inr (some (770)))), (1, .inl (t))] [] g Q) : ∀ (m : Nat) (k : Int) (g : cz_H) (τ1 : Nat → Nat), m = ((es.length : Int) - k).toNat → 0 ≤ k → k ≤ (es.length : Int) → ez_B τ1 g → n23 τ h τ1 g → emt g (L ++ es.take k.toNat) → ez_W (d + 8) cm_247 273 [(6, .inl (k)), (3, .inr (.inr (some (z)))), (0, .inr (.inr (some (770)))), (1, .inl (t))] [] g Q := by
  have hX := hI.2.1
  have t770 : τ 770 = 75 := hX 770 (by decide)
  intro m
  induction m with
  | zero =>
    intro k g τ1 hm0 k0 k1 hBg hn em
    have Xg := hn.1.X hX
    have u770 : τ1 770 = 75 := Xg 770 (by decide)
    have Ig := hn.1.mIx hI hBg
    have npo : pn g ≤ qz_N g (po g) := Ig.2.2.1.1.2
    have tg := tg3k hn.1 tz
    have rg := rmc_rd hBg Xg (hn.1.rm rm)
    obtain ⟨-, m2, m3, ⟨m4, m5, m6⟩, m7, m8, m9, m10⟩ := (hn.1.mClx hI.1 hX tz.1 tz.2.1 tz.2.2 mz).2 _ rfl
    simp only at m4 m5 m6 m7 m8 m9 m10
    refine ez_go (n := 2) (pc' := 276) (L' := [(6, .inl (k)), (3, .inr (.inr (some (z)))), (0, .inr (.inr (some (770)))), (1, .inl (t))]) (st' := [.inr (.inr (some (z))), .inl (k)]) rfl ?_
    refine ez_gR hBg tg.1 rfl rfl tq_13 rfl rfl (fun (t1 : _ = 16) (t1' : 1 ≤ qz_I g z 8) => ?_)
    rw [show qz_P g z 8 = z + 2 from (ez_l78 hBg tg.1).2]
    refine ez_go (n := 1) (pc' := 280) (L' := [(6, .inl (k)), (3, .inr (.inr (some (z)))), (0, .inr (.inr (some (770)))), (1, .inl (t))]) (st' := [.inl (1), .inr (.inr (some (z + 2))), .inl (k)]) rfl ?_
    have n3 : 3 ≤ qz_N g (z + 2) ∧ qz_N g (z + 2) ≤ 3 := ez_len hBg tg.2.2 tq_16 rfl
    refine ez_aI hBg tg.2.2 rfl tq_16 rfl rfl (by omega) (by omega) (fun (b2 : 0 ≤ qz_I g (z + 2) (1 : Int).toNat) (b2' : qz_I g (z + 2) (1 : Int).toNat ≤ 18) => ?_)
    rw [show qz_I g (z + 2) (1 : Int).toNat = (es.length : Int) from m4]
    refine ez_icmp rfl rfl ⟨by first | omega | exact (sz_i32 _).1, by first | omega | exact (sz_i32 _).2⟩ ⟨by first | omega | exact (sz_i32 _).1, by first | omega | exact (sz_i32 _).2⟩ (fun (c4 : ((es.length : Int)) ≤ (k)) => ?_) (fun (c4 : ¬(((es.length : Int)) ≤ (k))) => ?_)
    · skip
      refine ez_go (n := 1) (pc' := 22) (L' := [(6, .inl (k)), (3, .inr (.inr (some (z)))), (0, .inr (.inr (some (770)))), (1, .inl (t))]) (st' := []) rfl ?_
      refine ez_less [(0, .inr (.inr (some (770)))), (1, .inl (t))] rfl ⟨rfl, rfl, trivial⟩ ?_
      rw [List.take_of_length_le (by omega)] at em
      exact kx g τ1 hBg hn em
    · skip
      refine ez_go (n := 1) (pc' := 285) (L' := [(6, .inl (k)), (3, .inr (.inr (some (z)))), (0, .inr (.inr (some (770)))), (1, .inl (t))]) (st' := [.inr (.inr (some (z)))]) rfl ?_
      refine ez_gR hBg tg.1 rfl rfl tq_13 rfl rfl (fun (t5 : _ = 15) (t5' : 1 ≤ qz_I g z 7) => ?_)
      rw [show qz_P g z 7 = z + 1 from (ez_l78 hBg tg.1).1]
      refine ez_go (n := 1) (pc' := 289) (L' := [(6, .inl (k)), (3, .inr (.inr (some (z)))), (0, .inr (.inr (some (770)))), (1, .inl (t))]) (st' := [.inl (1), .inr (.inr (some (z + 1)))]) rfl ?_
      have n7 : 3 ≤ qz_N g (z + 1) ∧ qz_N g (z + 1) ≤ 3 := ez_len hBg tg.2.1 tq_15 rfl
      refine ez_aI hBg tg.2.1 rfl tq_15 rfl rfl (by omega) (by omega) (fun (b6 : 0 ≤ qz_I g (z + 1) (1 : Int).toNat) (b6' : qz_I g (z + 1) (1 : Int).toNat ≤ 38500) => ?_)
      rw [show qz_I g (z + 1) (1 : Int).toNat = qz_I g (z + 1) 1 from rfl]
      have l9 : k.toNat < es.length := by omega
      obtain ⟨el, hel⟩ : ∃ el, es[k.toNat]? = some el := ⟨_, List.getElem?_eq_getElem l9⟩
      obtain ⟨v1, v2, v3, v4⟩ := m7 _ _ hel
      obtain ⟨⟨y1, y2⟩, ⟨y3, y4⟩, ⟨y5, y6⟩, y7, y8⟩ := m8 _ (List.mem_of_getElem? hel)
      rw [show ((k.toNat : Nat) : Int) = k by omega] at v1 v2 v3 v4
      unfold pl at v1 v2 v3 v4
      refine ez_go (n := 7) (pc' := 299) (L' := [(7, .inl ((qz_I g (z + 1) 1) + ((4) * (k)))), (6, .inl (k)), (3, .inr (.inr (some (z)))), (0, .inr (.inr (some (770)))), (1, .inl (t))]) (st' := [.inr (.inr (some (770))), .inr (.inr (some (770)))]) rfl ?_
      refine ez_gR hBg u770 rfl rfl tq_75 rfl rfl (fun (t8 : _ = 17) (t8' : 1 ≤ qz_I g 770 9) => ?_)
      rw [show qz_P g 770 9 = po g from rfl]
      refine ez_go (n := 1) (pc' := 304) (L' := [(7, .inl ((qz_I g (z + 1) 1) + ((4) * (k)))), (6, .inl (k)), (3, .inr (.inr (some (z)))), (0, .inr (.inr (some (770)))), (1, .inl (t))]) (st' := [.inl ((qz_I g (z + 1) 1) + ((4) * (k))), .inr (.inr (some (po g))), .inr (.inr (some (770)))]) rfl ?_
      have n10 : 1024 ≤ qz_N g (po g) ∧ qz_N g (po g) ≤ 77100 := ez_len hBg (ez_tls hBg u770).2 tq_17 rfl
      refine ez_aI hBg (ez_tls hBg u770).2 rfl tq_17 rfl rfl (by omega) (by omega) (fun (b9 : -2147483648 ≤ qz_I g (po g) ((qz_I g (z + 1) 1) + ((4) * (k))).toNat) (b9' : qz_I g (po g) ((qz_I g (z + 1) 1) + ((4) * (k))).toNat ≤ 2147483647) => ?_)
      rw [show qz_I g (po g) ((qz_I g (z + 1) 1) + ((4) * (k))).toNat = el.1 from v1]
      refine ez_go (n := 1) (pc' := 306) (L' := [(7, .inl ((qz_I g (z + 1) 1) + ((4) * (k)))), (6, .inl (k)), (3, .inr (.inr (some (z)))), (0, .inr (.inr (some (770)))), (1, .inl (t))]) (st' := [.inr (.inr (some (770))), .inl (el.1), .inr (.inr (some (770)))]) rfl ?_
      refine ez_gR hBg u770 rfl rfl tq_75 rfl rfl (fun (t11 : _ = 17) (t11' : 1 ≤ qz_I g 770 9) => ?_)
      rw [show qz_P g 770 9 = po g from rfl]
      refine ez_go (n := 3) (pc' := 313) (L' := [(7, .inl ((qz_I g (z + 1) 1) + ((4) * (k)))), (6, .inl (k)), (3, .inr (.inr (some (z)))), (0, .inr (.inr (some (770)))), (1, .inl (t))]) (st' := [.inl (((qz_I g (z + 1) 1) + ((4) * (k))) + (1)), .inr (.inr (some (po g))), .inl (el.1), .inr (.inr (some (770)))]) rfl ?_
      have n13 : 1024 ≤ qz_N g (po g) ∧ qz_N g (po g) ≤ 77100 := ez_len hBg (ez_tls hBg u770).2 tq_17 rfl
      refine ez_aI hBg (ez_tls hBg u770).2 rfl tq_17 rfl rfl (by omega) (by omega) (fun (b12 : -2147483648 ≤ qz_I g (po g) (((qz_I g (z + 1) 1) + ((4) * (k))) + (1)).toNat) (b12' : qz_I g (po g) (((qz_I g (z + 1) 1) + ((4) * (k))) + (1)).toNat ≤ 2147483647) => ?_)
      rw [show qz_I g (po g) (((qz_I g (z + 1) 1) + ((4) * (k))) + (1)).toNat = el.2.1 from v2]
      refine ez_go (n := 1) (pc' := 315) (L' := [(7, .inl ((qz_I g (z + 1) 1) + ((4) * (k)))), (6, .inl (k)), (3, .inr (.inr (some (z)))), (0, .inr (.inr (some (770)))), (1, .inl (t))]) (st' := [.inr (.inr (some (770))), .inl (el.2.1), .inl (el.1), .inr (.inr (some (770)))]) rfl ?_
      refine ez_gR hBg u770 rfl rfl tq_75 rfl rfl (fun (t14 : _ = 17) (t14' : 1 ≤ qz_I g 770 9) => ?_)
      rw [show qz_P g 770 9 = po g from rfl]
      refine ez_go (n := 3) (pc' := 322) (L' := [(7, .inl ((qz_I g (z + 1) 1) + ((4) * (k)))), (6, .inl (k)), (3, .inr (.inr (some (z)))), (0, .inr (.inr (some (770)))), (1, .inl (t))]) (st' := [.inl (((qz_I g (z + 1) 1) + ((4) * (k))) + (2)), .inr (.inr (some (po g))), .inl (el.2.1), .inl (el.1), .inr (.inr (some (770)))]) rfl ?_
      have n16 : 1024 ≤ qz_N g (po g) ∧ qz_N g (po g) ≤ 77100 := ez_len hBg (ez_tls hBg u770).2 tq_17 rfl
      refine ez_aI hBg (ez_tls hBg u770).2 rfl tq_17 rfl rfl (by omega) (by omega) (fun (b15 : -2147483648 ≤ qz_I g (po g) (((qz_I g (z + 1) 1) + ((4) * (k))) + (2)).toNat) (b15' : qz_I g (po g) (((qz_I g (z + 1) 1) + ((4) * (k))) + (2)).toNat ≤ 2147483647) => ?_)
      rw [show qz_I g (po g) (((qz_I g (z + 1) 1) + ((4) * (k))) + (2)).toNat = el.2.2.1 from v3]
      refine ez_go (n := 1) (pc' := 324) (L' := [(7, .inl ((qz_I g (z + 1) 1) + ((4) * (k)))), (6, .inl (k)), (3, .inr (.inr (some (z)))), (0, .inr (.inr (some (770)))), (1, .inl (t))]) (st' := [.inr (.inr (some (770))), .inl (el.2.2.1), .inl (el.2.1), .inl (el.1), .inr (.inr (some (770)))]) rfl ?_
      refine ez_gR hBg u770 rfl rfl tq_75 rfl rfl (fun (t17 : _ = 17) (t17' : 1 ≤ qz_I g 770 9) => ?_)
      rw [show qz_P g 770 9 = po g from rfl]
      refine ez_go (n := 3) (pc' := 331) (L' := [(7, .inl ((qz_I g (z + 1) 1) + ((4) * (k)))), (6, .inl (k)), (3, .inr (.inr (some (z)))), (0, .inr (.inr (some (770)))), (1, .inl (t))]) (st' := [.inl (((qz_I g (z + 1) 1) + ((4) * (k))) + (3)), .inr (.inr (some (po g))), .inl (el.2.2.1), .inl (el.2.1), .inl (el.1), .inr (.inr (some (770)))]) rfl ?_
      have n19 : 1024 ≤ qz_N g (po g) ∧ qz_N g (po g) ≤ 77100 := ez_len hBg (ez_tls hBg u770).2 tq_17 rfl
      refine ez_aI hBg (ez_tls hBg u770).2 rfl tq_17 rfl rfl (by omega) (by omega) (fun (b18 : -2147483648 ≤ qz_I g (po g) (((qz_I g (z + 1) 1) + ((4) * (k))) + (3)).toNat) (b18' : qz_I g (po g) (((qz_I g (z + 1) 1) + ((4) * (k))) + (3)).toNat ≤ 2147483647) => ?_)
      rw [show qz_I g (po g) (((qz_I g (z + 1) 1) + ((4) * (k))) + (3)).toNat = el.2.2.2 from v4]
      refine ez_cv hBg u770 rfl rfl rfl tq_75 rfl rfl rfl (rd_mel hBg u770 em (by rw [List.length_append, List.length_take]; omega) ⟨by omega, by omega⟩ ⟨by omega, by omega⟩ ⟨by omega, by omega⟩ ⟨by omega, by omega⟩ (by omega) (by omega) (fun g2 τ2 B2 n4 em2 => ez_K0 ?_))
      have n2 := hn.trans (n23.of4 hBg Xg n4 em2)
      refine ez_go (n := 2) (pc' := 273) (L' := [(6, .inl (k + 1)), (7, .inl ((qz_I g (z + 1) 1) + ((4) * (k)))), (3, .inr (.inr (some (z)))), (0, .inr (.inr (some (770)))), (1, .inl (t))]) (st' := []) rfl ?_
      exfalso; omega
  | succ m ih =>
    intro k g τ1 hm0 k0 k1 hBg hn em
    have Xg := hn.1.X hX
    have u770 : τ1 770 = 75 := Xg 770 (by decide)
    have Ig := hn.1.mIx hI hBg
    have npo : pn g ≤ qz_N g (po g) := Ig.2.2.1.1.2
    have tg := tg3k hn.1 tz
    have rg := rmc_rd hBg Xg (hn.1.rm rm)
    obtain ⟨-, m2, m3, ⟨m4, m5, m6⟩, m7, m8, m9, m10⟩ := (hn.1.mClx hI.1 hX tz.1 tz.2.1 tz.2.2 mz).2 _ rfl
    simp only at m4 m5 m6 m7 m8 m9 m10
    refine ez_go (n := 2) (pc' := 276) (L' := [(6, .inl (k)), (3, .inr (.inr (some (z)))), (0, .inr (.inr (some (770)))), (1, .inl (t))]) (st' := [.inr (.inr (some (z))), .inl (k)]) rfl ?_
    refine ez_gR hBg tg.1 rfl rfl tq_13 rfl rfl (fun (t1 : _ = 16) (t1' : 1 ≤ qz_I g z 8) => ?_)
    rw [show qz_P g z 8 = z + 2 from (ez_l78 hBg tg.1).2]
    refine ez_go (n := 1) (pc' := 280) (L' := [(6, .inl (k)), (3, .inr (.inr (some (z)))), (0, .inr (.inr (some (770)))), (1, .inl (t))]) (st' := [.inl (1), .inr (.inr (some (z + 2))), .inl (k)]) rfl ?_
    have n3 : 3 ≤ qz_N g (z + 2) ∧ qz_N g (z + 2) ≤ 3 := ez_len hBg tg.2.2 tq_16 rfl
    refine ez_aI hBg tg.2.2 rfl tq_16 rfl rfl (by omega) (by omega) (fun (b2 : 0 ≤ qz_I g (z + 2) (1 : Int).toNat) (b2' : qz_I g (z + 2) (1 : Int).toNat ≤ 18) => ?_)
    rw [show qz_I g (z + 2) (1 : Int).toNat = (es.length : Int) from m4]
    refine ez_icmp rfl rfl ⟨by first | omega | exact (sz_i32 _).1, by first | omega | exact (sz_i32 _).2⟩ ⟨by first | omega | exact (sz_i32 _).1, by first | omega | exact (sz_i32 _).2⟩ (fun (c4 : ((es.length : Int)) ≤ (k)) => ?_) (fun (c4 : ¬(((es.length : Int)) ≤ (k))) => ?_)
    · skip
      refine ez_go (n := 1) (pc' := 22) (L' := [(6, .inl (k)), (3, .inr (.inr (some (z)))), (0, .inr (.inr (some (770)))), (1, .inl (t))]) (st' := []) rfl ?_
      refine ez_less [(0, .inr (.inr (some (770)))), (1, .inl (t))] rfl ⟨rfl, rfl, trivial⟩ ?_
      rw [List.take_of_length_le (by omega)] at em
      exact kx g τ1 hBg hn em
    · skip
      refine ez_go (n := 1) (pc' := 285) (L' := [(6, .inl (k)), (3, .inr (.inr (some (z)))), (0, .inr (.inr (some (770)))), (1, .inl (t))]) (st' := [.inr (.inr (some (z)))]) rfl ?_
      refine ez_gR hBg tg.1 rfl rfl tq_13 rfl rfl (fun (t5 : _ = 15) (t5' : 1 ≤ qz_I g z 7) => ?_)
      rw [show qz_P g z 7 = z + 1 from (ez_l78 hBg tg.1).1]
      refine ez_go (n := 1) (pc' := 289) (L' := [(6, .inl (k)), (3, .inr (.inr (some (z)))), (0, .inr (.inr (some (770)))), (1, .inl (t))]) (st' := [.inl (1), .inr (.inr (some (z + 1)))]) rfl ?_
      have n7 : 3 ≤ qz_N g (z + 1) ∧ qz_N g (z + 1) ≤ 3 := ez_len hBg tg.2.1 tq_15 rfl
      refine ez_aI hBg tg.2.1 rfl tq_15 rfl rfl (by omega) (by omega) (fun (b6 : 0 ≤ qz_I g (z + 1) (1 : Int).toNat) (b6' : qz_I g (z + 1) (1 : Int).toNat ≤ 38500) => ?_)
      rw [show qz_I g (z + 1) (1 : Int).toNat = qz_I g (z + 1) 1 from rfl]
      have l9 : k.toNat < es.length := by omega
      obtain ⟨el, hel⟩ : ∃ el, es[k.toNat]? = some el := ⟨_, List.getElem?_eq_getElem l9⟩
      obtain ⟨v1, v2, v3, v4⟩ := m7 _ _ hel
      obtain ⟨⟨y1, y2⟩, ⟨y3, y4⟩, ⟨y5, y6⟩, y7, y8⟩ := m8 _ (List.mem_of_getElem? hel)
      rw [show ((k.toNat : Nat) : Int) = k by omega] at v1 v2 v3 v4
      unfold pl at v1 v2 v3 v4
      refine ez_go (n := 7) (pc' := 299) (L' := [(7, .inl ((qz_I g (z + 1) 1) + ((4) * (k)))), (6, .inl (k)), (3, .inr (.inr (some (z)))), (0, .inr (.inr (some (770)))), (1, .inl (t))]) (st' := [.inr (.inr (some (770))), .inr (.inr (some (770)))]) rfl ?_
      refine ez_gR hBg u770 rfl rfl tq_75 rfl rfl (fun (t8 : _ = 17) (t8' : 1 ≤ qz_I g 770 9) => ?_)
      rw [show qz_P g 770 9 = po g from rfl]
      refine ez_go (n := 1) (pc' := 304) (L' := [(7, .inl ((qz_I g (z + 1) 1) + ((4) * (k)))), (6, .inl (k)), (3, .inr (.inr (some (z)))), (0, .inr (.inr (some (770)))), (1, .inl (t))]) (st' := [.inl ((qz_I g (z + 1) 1) + ((4) * (k))), .inr (.inr (some (po g))), .inr (.inr (some (770)))]) rfl ?_
      have n10 : 1024 ≤ qz_N g (po g) ∧ qz_N g (po g) ≤ 77100 := ez_len hBg (ez_tls hBg u770).2 tq_17 rfl
      refine ez_aI hBg (ez_tls hBg u770).2 rfl tq_17 rfl rfl (by omega) (by omega) (fun (b9 : -2147483648 ≤ qz_I g (po g) ((qz_I g (z + 1) 1) + ((4) * (k))).toNat) (b9' : qz_I g (po g) ((qz_I g (z + 1) 1) + ((4) * (k))).toNat ≤ 2147483647) => ?_)
      rw [show qz_I g (po g) ((qz_I g (z + 1) 1) + ((4) * (k))).toNat = el.1 from v1]
      refine ez_go (n := 1) (pc' := 306) (L' := [(7, .inl ((qz_I g (z + 1) 1) + ((4) * (k)))), (6, .inl (k)), (3, .inr (.inr (some (z)))), (0, .inr (.inr (some (770)))), (1, .inl (t))]) (st' := [.inr (.inr (some (770))), .inl (el.1), .inr (.inr (some (770)))]) rfl ?_
      refine ez_gR hBg u770 rfl rfl tq_75 rfl rfl (fun (t11 : _ = 17) (t11' : 1 ≤ qz_I g 770 9) => ?_)
      rw [show qz_P g 770 9 = po g from rfl]
      refine ez_go (n := 3) (pc' := 313) (L' := [(7, .inl ((qz_I g (z + 1) 1) + ((4) * (k)))), (6, .inl (k)), (3, .inr (.inr (some (z)))), (0, .inr (.inr (some (770)))), (1, .inl (t))]) (st' := [.inl (((qz_I g (z + 1) 1) + ((4) * (k))) + (1)), .inr (.inr (some (po g))), .inl (el.1), .inr (.inr (some (770)))]) rfl ?_
      have n13 : 1024 ≤ qz_N g (po g) ∧ qz_N g (po g) ≤ 77100 := ez_len hBg (ez_tls hBg u770).2 tq_17 rfl
      refine ez_aI hBg (ez_tls hBg u770).2 rfl tq_17 rfl rfl (by omega) (by omega) (fun (b12 : -2147483648 ≤ qz_I g (po g) (((qz_I g (z + 1) 1) + ((4) * (k))) + (1)).toNat) (b12' : qz_I g (po g) (((qz_I g (z + 1) 1) + ((4) * (k))) + (1)).toNat ≤ 2147483647) => ?_)
      rw [show qz_I g (po g) (((qz_I g (z + 1) 1) + ((4) * (k))) + (1)).toNat = el.2.1 from v2]
      refine ez_go (n := 1) (pc' := 315) (L' := [(7, .inl ((qz_I g (z + 1) 1) + ((4) * (k)))), (6, .inl (k)), (3, .inr (.inr (some (z)))), (0, .inr (.inr (some (770)))), (1, .inl (t))]) (st' := [.inr (.inr (some (770))), .inl (el.2.1), .inl (el.1), .inr (.inr (some (770)))]) rfl ?_
      refine ez_gR hBg u770 rfl rfl tq_75 rfl rfl (fun (t14 : _ = 17) (t14' : 1 ≤ qz_I g 770 9) => ?_)
      rw [show qz_P g 770 9 = po g from rfl]
      refine ez_go (n := 3) (pc' := 322) (L' := [(7, .inl ((qz_I g (z + 1) 1) + ((4) * (k)))), (6, .inl (k)), (3, .inr (.inr (some (z)))), (0, .inr (.inr (some (770)))), (1, .inl (t))]) (st' := [.inl (((qz_I g (z + 1) 1) + ((4) * (k))) + (2)), .inr (.inr (some (po g))), .inl (el.2.1), .inl (el.1), .inr (.inr (some (770)))]) rfl ?_
      have n16 : 1024 ≤ qz_N g (po g) ∧ qz_N g (po g) ≤ 77100 := ez_len hBg (ez_tls hBg u770).2 tq_17 rfl
      refine ez_aI hBg (ez_tls hBg u770).2 rfl tq_17 rfl rfl (by omega) (by omega) (fun (b15 : -2147483648 ≤ qz_I g (po g) (((qz_I g (z + 1) 1) + ((4) * (k))) + (2)).toNat) (b15' : qz_I g (po g) (((qz_I g (z + 1) 1) + ((4) * (k))) + (2)).toNat ≤ 2147483647) => ?_)
      rw [show qz_I g (po g) (((qz_I g (z + 1) 1) + ((4) * (k))) + (2)).toNat = el.2.2.1 from v3]
      refine ez_go (n := 1) (pc' := 324) (L' := [(7, .inl ((qz_I g (z + 1) 1) + ((4) * (k)))), (6, .inl (k)), (3, .inr (.inr (some (z)))), (0, .inr (.inr (some (770)))), (1, .inl (t))]) (st' := [.inr (.inr (some (770))), .inl (el.2.2.1), .inl (el.2.1), .inl (el.1), .inr (.inr (some (770)))]) rfl ?_
      refine ez_gR hBg u770 rfl rfl tq_75 rfl rfl (fun (t17 : _ = 17) (t17' : 1 ≤ qz_I g 770 9) => ?_)
      rw [show qz_P g 770 9 = po g from rfl]
      refine ez_go (n := 3) (pc' := 331) (L' := [(7, .inl ((qz_I g (z + 1) 1) + ((4) * (k)))), (6, .inl (k)), (3, .inr (.inr (some (z)))), (0, .inr (.inr (some (770)))), (1, .inl (t))]) (st' := [.inl (((qz_I g (z + 1) 1) + ((4) * (k))) + (3)), .inr (.inr (some (po g))), .inl (el.2.2.1), .inl (el.2.1), .inl (el.1), .inr (.inr (some (770)))]) rfl ?_
      have n19 : 1024 ≤ qz_N g (po g) ∧ qz_N g (po g) ≤ 77100 := ez_len hBg (ez_tls hBg u770).2 tq_17 rfl
      refine ez_aI hBg (ez_tls hBg u770).2 rfl tq_17 rfl rfl (by omega) (by omega) (fun (b18 : -2147483648 ≤ qz_I g (po g) (((qz_I g (z + 1) 1) + ((4) * (k))) + (3)).toNat) (b18' : qz_I g (po g) (((qz_I g (z + 1) 1) + ((4) * (k))) + (3)).toNat ≤ 2147483647) => ?_)
      rw [show qz_I g (po g) (((qz_I g (z + 1) 1) + ((4) * (k))) + (3)).toNat = el.2.2.2 from v4]
      refine ez_cv hBg u770 rfl rfl rfl tq_75 rfl rfl rfl (rd_mel hBg u770 em (by rw [List.length_append, List.length_take]; omega) ⟨by omega, by omega⟩ ⟨by omega, by omega⟩ ⟨by omega, by omega⟩ ⟨by omega, by omega⟩ (by omega) (by omega) (fun g2 τ2 B2 n4 em2 => ez_K0 ?_))
      have n2 := hn.trans (n23.of4 hBg Xg n4 em2)
      refine ez_go (n := 2) (pc' := 273) (L' := [(6, .inl (k + 1)), (7, .inl ((qz_I g (z + 1) 1) + ((4) * (k)))), (3, .inr (.inr (some (z)))), (0, .inr (.inr (some (770)))), (1, .inl (t))]) (st' := []) rfl ?_
      refine ez_less [(6, .inl (k + 1)), (3, .inr (.inr (some (z)))), (0, .inr (.inr (some (770)))), (1, .inl (t))] rfl ⟨rfl, rfl, rfl, rfl, trivial⟩ ?_
      refine ih (k + 1) g2 τ2 (by omega) (by omega) (by omega) B2 n2 ?_
      rw [show (k + 1).toNat = k.toNat + 1 by omega, List.take_succ, hel, Option.toList_some, ← List.append_assoc]
      exact em2

theorem rd_mls_o {t : Int} {tot : List eL} (c : nmC τ h Ls) (hm : mC h Cs) (hKv : ∀ x, (vF Ls x).1 = K x) (hK : ∀ x, (0 ≤ x ∧ x ≤ 1114111) → 0 ≤ K x ∧ K x ≤ 254) (rm : rmc h) (kx : ∀ g τ1, ez_B τ1 g → ndk τ h τ1 g → emt g tot → Q (.inl none, g)) : ∀ (m : Nat) (g : cz_H) (τ1 : Nat → Nat) (rem : List Int) (L : List eL), ez_B τ1 g → ndk τ h τ1 g → rem.length ≤ m → tm g rem → ptl rem → rem.length ≤ 2000 → emt g L → L.length + 18 * rem.length ≤ 36000 → tot = L ++ els (cLK Cs) K (UBd (yD Ls)) m rem → ez_W (d + 8) cm_247 22 [(0, .inr (.inr (some (770)))), (1, .inl (t))] [] g Q := by
  intro m
  induction m with
  | zero =>
    intro g τ1 rem L hBg hn lm tmg pg lg em ll ht
    have cg := c.c hn.1 hBg
    have mg := hn.1.mCx c.1 hm
    have Xg := cg.1.2.1
    have u770 : τ1 770 = 75 := Xg 770 (by decide)
    have rg := hn.1.rm rm
    refine ez_go (n := 1) (pc' := 23) (L' := [(0, .inr (.inr (some (770)))), (1, .inl (t))]) (st' := [.inr (.inr (some (770)))]) rfl ?_
    refine ez_gI hBg u770 rfl rfl tq_75 rfl rfl (fun (b1 : 0 ≤ qz_I g 770 30) (b1' : qz_I g 770 30 ≤ 2000) => ?_)
    rw [show qz_I g 770 30 = (rem.length : Int) from tmg.1]
    refine ez_if rfl rfl ⟨by first | omega | exact (sz_i32 _).1, by first | omega | exact (sz_i32 _).2⟩ (fun (c2 : ((rem.length : Int)) ≤ (0)) => ?_) (fun (c2 : ¬(((rem.length : Int)) ≤ (0))) => ?_)
    · skip
      have e0 : rem = [] := List.length_eq_zero_iff.mp (by omega)
      subst e0
      rw [els_0, List.append_nil] at ht
      subst ht
      exact ez_ret0 rfl rfl (kx g τ1 hBg hn em)
    · exfalso; omega
  | succ m ih =>
    intro g τ1 rem L hBg hn lm tmg pg lg em ll ht
    have cg := c.c hn.1 hBg
    have mg := hn.1.mCx c.1 hm
    have Xg := cg.1.2.1
    have u770 : τ1 770 = 75 := Xg 770 (by decide)
    have rg := hn.1.rm rm
    refine ez_go (n := 1) (pc' := 23) (L' := [(0, .inr (.inr (some (770)))), (1, .inl (t))]) (st' := [.inr (.inr (some (770)))]) rfl ?_
    refine ez_gI hBg u770 rfl rfl tq_75 rfl rfl (fun (b1 : 0 ≤ qz_I g 770 30) (b1' : qz_I g 770 30 ≤ 2000) => ?_)
    rw [show qz_I g 770 30 = (rem.length : Int) from tmg.1]
    refine ez_if rfl rfl ⟨by first | omega | exact (sz_i32 _).1, by first | omega | exact (sz_i32 _).2⟩ (fun (c2 : ((rem.length : Int)) ≤ (0)) => ?_) (fun (c2 : ¬(((rem.length : Int)) ≤ (0))) => ?_)
    · skip
      have e0 : rem = [] := List.length_eq_zero_iff.mp (by omega)
      subst e0
      rw [els_0, List.append_nil] at ht
      subst ht
      exact ez_ret0 rfl rfl (kx g τ1 hBg hn em)
    · skip
      refine ez_go (n := 6) (pc' := 36) (L' := [(4, .inl (1)), (3, .inr (.inr none)), (2, .inl (0)), (0, .inr (.inr (some (770)))), (1, .inl (t))]) (st' := []) rfl ?_
      refine ez_less [(4, .inl (1)), (3, .inr (.inr none)), (2, .inl (0)), (0, .inr (.inr (some (770)))), (1, .inl (t))] rfl ⟨rfl, rfl, rfl, rfl, rfl, trivial⟩ ?_
      refine rd_mls_k (h := g) (rem := rem) cg.1 mg tmg pg lg (fun g1 o n B1 f1 bs => ?_) _ 1 0 none g rfl (by omega) (by omega) (by omega) hBg (ez_fr.refl _ g) (fun j v hj => by rw [show ((1 : Int) - 1).toNat = 0 from rfl, List.take_zero] at hj; cases hj) (by rw [show ((1 : Int) - 1).toNat = 0 from rfl]; exact ⟨fun _ => ⟨rfl, rfl⟩, fun m e w => by cases w⟩)
      have d1 := ndk.fr hBg Xg f1 (fun q hq => Or.inr (Or.inr (Nat.eq_of_beq_eq_true hq))) (fun j _ _ => f1.I rfl j) (Or.inl (f1.I rfl 36))
      have a1 := d1.1
      have I1 := a1.mIx cg.1 B1
      have M1 := a1.mCx cg.1 mg
      have tm1 : tm g1 rem := ⟨(f1.I rfl _).trans tmg.1, fun j v hv => (f1.I rfl j).trans (tmg.2 j v hv)⟩
      have em1 := em.f hBg Xg f1 (fun q hq => Or.inr (Or.inr (Nat.eq_of_beq_eq_true hq))) (fun j _ => f1.I rfl j)
      have r1 := a1.rm rg
      obtain ⟨lo, hlo⟩ : ∃ lo, lo = lon (cLK Cs) rem := ⟨_, rfl⟩
      rw [← hlo] at bs
      rcases lo with _ | ⟨m9, e9⟩
      · obtain ⟨eo, en⟩ := bs.1 rfl
        subst eo; subst en
        obtain ⟨p, t9, er⟩ : ∃ p t9, rem = p :: t9 := by match rem, (show 0 < rem.length by omega) with | p :: t9, _ => exact ⟨p, t9, rfl⟩
        subst er
        have pb := ptl_at pg (show (p :: t9)[0]? = some p from rfl)
        rw [List.length_cons] at lm ll
        refine ez_go (n := 1) (pc' := 98) (L' := [(3, .inr (.inr none)), (2, .inl (0)), (0, .inr (.inr (some (770)))), (1, .inl (t))]) (st' := [.inr (.inr none)]) rfl ?_
        refine ez_nonn0 rfl ?_
        refine ez_go (n := 2) (pc' := 103) (L' := [(3, .inr (.inr none)), (2, .inl (0)), (0, .inr (.inr (some (770)))), (1, .inl (t))]) (st' := [.inr (.inr (some (770))), .inr (.inr (some (770)))]) rfl ?_
        refine ez_gC (p := 796) (tg := 83) B1 u770 rfl rfl tq_75 rfl rfl (fun (t796 : _ = 83) => ?_)
        refine ez_go (n := 1) (pc' := 107) (L' := [(3, .inr (.inr none)), (2, .inl (0)), (0, .inr (.inr (some (770)))), (1, .inl (t))]) (st' := [.inl (0), .inr (.inr (some (796))), .inr (.inr (some (770)))]) rfl ?_
        have n4 : 2000 ≤ qz_N g1 796 ∧ qz_N g1 796 ≤ 2000 := ez_len B1 t796 tq_83 rfl
        refine ez_aI B1 t796 rfl tq_83 rfl rfl (by omega) (by omega) (fun (b3 : -2147483648 ≤ qz_I g1 796 (0 : Int).toNat) (b3' : qz_I g1 796 (0 : Int).toNat ≤ 2147483647) => ?_)
        rw [show qz_I g1 796 (0 : Int).toNat = p from tm1.2 0 p rfl]
        refine ez_cv B1 u770 rfl rfl rfl tq_75 rfl rfl rfl (rd_mimp I1 em1 (by omega) pb.1 pb.2 r1 (fun g2 τ2 B2 n2 em2 => ez_K0 ?_))
        have X2 := n2.1.X Xg
        have v770 : τ2 770 = 75 := X2 770 (by decide)
        have tm2 := n2.tm Xg tm1
        refine ez_go (n := 3) (pc' := 114) (L' := [(3, .inr (.inr none)), (2, .inl (0)), (0, .inr (.inr (some (770)))), (1, .inl (t))]) (st' := [.inl (1), .inl (0), .inr (.inr (some (770)))]) rfl ?_
        refine ez_cv B2 v770 rfl rfl rfl tq_75 rfl rfl rfl (rd_mdrop (A := []) (B := [p]) (C := t9) B2 X2 tm2 pg lg rfl rfl (fun g3 B3 f3 i3 tm3 => ez_K0 ?_))
        have d3 := ndk.fr B2 X2 f3 (fun q hq => P81_c q (P81_2 hq)) (fun j j1 _ => i3 j j1) (Or.inl (i3 36 (by decide)))
        have em3 := em2.f B2 X2 f3 (fun q hq => P81_c q (P81_2 hq)) i3
        have st9 : stE (cLK Cs) K (UBd (yD Ls)) (p :: t9) (impE (UBd (yD Ls)) p) t9 := Or.inl ⟨hlo.symm, p, t9, rfl, rfl, rfl⟩
        have se := stE_els st9 m
        refine ez_go (n := 1) (pc' := 22) (L' := [(3, .inr (.inr none)), (2, .inl (0)), (0, .inr (.inr (some (770)))), (1, .inl (t))]) (st' := []) rfl ?_
        refine ez_less [(0, .inr (.inr (some (770)))), (1, .inl (t))] rfl ⟨rfl, rfl, trivial⟩ ?_
        refine ih g3 τ2 t9 (L ++ impE (UBd (yD Ls)) p) B3 (hn.trans (d1.trans ((n2.ndk Xg).trans d3))) (by omega) tm3 (fun v hv => pg v (List.mem_cons_of_mem _ hv)) (by rw [List.length_cons] at lg; omega) em3 (by rw [List.length_append]; show L.length + 2 + 18 * t9.length ≤ 36000; omega) ?_
        rw [ht, se.1, List.append_assoc]
      · obtain ⟨en, z, eo, tz, mz⟩ := bs.2 m9 e9 rfl
        subst eo; subst en
        have ok9 := lon_ok hlo.symm
        refine ez_go (n := 1) (pc' := 98) (L' := [(3, .inr (.inr (some (z)))), (2, .inl ((m9 : Int))), (0, .inr (.inr (some (770)))), (1, .inl (t))]) (st' := [.inr (.inr (some (z)))]) rfl ?_
        refine ez_nonn1 rfl rfl ?_
        refine ez_go (n := 2) (pc' := 123) (L' := [(4, .inl (0)), (3, .inr (.inr (some (z)))), (2, .inl ((m9 : Int))), (0, .inr (.inr (some (770)))), (1, .inl (t))]) (st' := []) rfl ?_
        refine ez_less [(4, .inl (0)), (3, .inr (.inr (some (z)))), (2, .inl ((m9 : Int))), (0, .inr (.inr (some (770)))), (1, .inl (t))] rfl ⟨rfl, rfl, rfl, rfl, rfl, trivial⟩ ?_
        refine rd_mls_c (h := g1) (rem := rem) (m9 := m9) Xg tm1 pg lg (by omega) (by omega) tz.1 (fun g2 B2 f2 s2 => ?_) _ 0 g1 rfl (by omega) (by omega) B1 (ez_fr.refl _ g1) (fun j v hj => by rw [show (0 : Int).toNat = 0 from rfl, List.take_zero] at hj; cases hj)
        have d2 := ndk.fr B1 Xg f2 (fun q hq => Or.inr (Or.inr (Nat.eq_of_beq_eq_true hq))) (fun j _ _ => f2.I rfl j) (Or.inl (f2.I rfl 36))
        have a2 := d2.1
        have tm2 : tm g2 rem := ⟨(f2.I rfl _).trans tm1.1, fun j v hv => (f2.I rfl j).trans (tm1.2 j v hv)⟩
        have em2 := em1.f B1 Xg f2 (fun q hq => Or.inr (Or.inr (Nat.eq_of_beq_eq_true hq))) (fun j _ => f2.I rfl j)
        refine ez_go (n := 3) (pc' := 152) (L' := [(3, .inr (.inr (some (z)))), (2, .inl ((m9 : Int))), (0, .inr (.inr (some (770)))), (1, .inl (t))]) (st' := [.inl ((m9 : Int)), .inl (0), .inr (.inr (some (770)))]) rfl ?_
        refine ez_cv B2 u770 rfl rfl rfl tq_75 rfl rfl rfl (rd_mdrop (A := []) (B := rem.take m9) (C := rem.drop m9) B2 Xg (by rw [List.nil_append, List.take_append_drop]; exact tm2) (by rw [List.nil_append, List.take_append_drop]; exact pg) (by rw [List.nil_append, List.take_append_drop]; exact lg) rfl (by rw [List.length_take]; omega) (fun g3 B3 f3 i3 tm3 => ez_K0 ?_))
        rw [List.nil_append] at tm3
        have d3 := ndk.fr B2 Xg f3 (fun q hq => P81_c q (P81_2 hq)) (fun j j1 _ => i3 j j1) (Or.inl (i3 36 (by decide)))
        have a3 := d3.1
        have em3 := em2.f B2 Xg f3 (fun q hq => P81_c q (P81_2 hq)) i3
        have a13 := a2.trans a3
        have I3 := a13.mIx I1 B3
        have M3 := a13.mCx I1 M1
        have mz3 := a13.mClx B1 Xg tz.1 tz.2.1 tz.2.2 mz
        have s3 : str g3 (rem.take m9) := fun j v hj => (f3.I rfl j).trans (s2 j v hj)
        refine ez_go (n := 4) (pc' := 161) (L' := [(5, .inl (0)), (4, .inl (0)), (3, .inr (.inr (some (z)))), (2, .inl ((m9 : Int))), (0, .inr (.inr (some (770)))), (1, .inl (t))]) (st' := []) rfl ?_
        refine ez_less [(5, .inl (0)), (4, .inl (0)), (3, .inr (.inr (some (z)))), (2, .inl ((m9 : Int))), (0, .inr (.inr (some (770)))), (1, .inl (t))] rfl ⟨rfl, rfl, rfl, rfl, rfl, rfl, trivial⟩ ?_
        refine rd_mls_s (h := g3) (tot := sca (cLK Cs) K (rem.drop m9) (rem.take m9) e9 0 []) I3 M3 hKv hK (fun g4 z4 l9 es row4 B4 f4 i4 tm4 p4 ln4 et tz4 mz4 => ?_) (rem.drop m9) [] (rem.take m9) e9 0 0 (m9 : Int) z g3 rfl (by rw [List.length_take]; omega) (by rw [List.length_take]; omega) tm3 (by rw [List.nil_append, List.length_drop]; omega) (fun v hv => pg v (List.mem_of_mem_drop hv)) (fun v hv => pg v (List.mem_of_mem_take hv)) s3 tz mz3 rfl ⟨by decide, by decide⟩ B3 (ez_fr.refl _ g3) (fun _ _ => rfl)
        have d4 := ndk.fr B3 Xg f4 P81_c (fun j j1 _ => i4 j j1) (Or.inl (i4 36 (by decide)))
        have a4 := d4.1
        have em4 := em3.f B3 Xg f4 P81_c i4
        have I4 := a4.mIx I3 B4
        have st9 : stE (cLK Cs) K (UBd (yD Ls)) rem es l9 := Or.inr ⟨m9, e9, hlo.symm, et⟩
        have se := stE_els st9 m
        have es8 : es.length ≤ 18 := (mz4.2 _ rfl).2.2.2.2.2.2.2
        have r4 := (a13.trans a4).rm r1
        refine ez_go (n := 2) (pc' := 273) (L' := [(6, .inl (0)), (3, .inr (.inr (some (z4)))), (0, .inr (.inr (some (770)))), (1, .inl (t))]) (st' := []) rfl ?_
        refine ez_less [(6, .inl (0)), (3, .inr (.inr (some (z4)))), (0, .inr (.inr (some (770)))), (1, .inl (t))] rfl ⟨rfl, rfl, rfl, rfl, trivial⟩ ?_
        refine rd_mls_e (h := g4) (L := L) I4 (by omega) r4 tz4 mz4 (fun g5 τ5 B5 n5 em5 => ?_) _ 0 g4 τ1 rfl (by omega) (by omega) B4 (n23.refl τ1 g4) (by rw [show (0 : Int).toNat = 0 from rfl, List.take_zero, List.append_nil]; exact em4)
        have X5 := n5.1.X Xg
        refine ih g5 τ5 l9 (L ++ es) B5 (hn.trans (d1.trans (((d2.trans d3).trans d4).trans (n5.ndk Xg)))) (by omega) (n5.tm Xg tm4) p4 ln4 em5 (by rw [List.length_append]; omega) ?_
        rw [ht, se.1, List.append_assoc]

theorem rd_mels {t : Int} {u : List Int} (c : nmC τ h Ls) (hm : mC h Cs) (hKv : ∀ x, (vF Ls x).1 = K x) (hK : ∀ x, (0 ≤ x ∧ x ≤ 1114111) → 0 ≤ K x ∧ K x ≤ 254) (rm : rmc h) (sl : slt h) (t0 : 0 ≤ t) (t7 : t ≤ 7) (mu : mx h t.toNat u) (up : ptl u) (ul : u.length ≤ 2000) (k1 : ∀ m res, uz_FL (vF Ls) (decide ((0 : Int) = 1 ∨ (0 : Int) = 3)) u m → m.length ≤ 2000 → nfR (vF Ls) (vE Ls) 0 m res → ptl res → ∀ g τ1, ez_B τ1 g → ndk τ h τ1 g → emt g (els (cLK Cs) K (UBd (yD Ls)) 2000 res) → Q (.inl none, g)) (k0 : ∀ m, uz_FL (vF Ls) (decide ((0 : Int) = 1 ∨ (0 : Int) = 3)) u m → 2000 < m.length → ∀ g τ1, ez_B τ1 g → nk τ h τ1 g → Q (.inr g.1, xc g 0)) : ez_W (d + 8) cm_247 0 [(0, .inr (.inr (some (770)))), (1, .inl (t))] [] h Q := by
  have hX := c.1.2.1
  have t770 : τ 770 = 75 := hX 770 (by decide)
  have tt := mx_tag hX (show t.toNat < 8 by omega)
  have r1 := rmc_rd c.1.1 hX rm
  refine ez_go (n := 2) (pc' := 2) (L' := [(0, .inr (.inr (some (770)))), (1, .inl (t))]) (st' := [.inr (.inr (some (770))), .inr (.inr (some (770)))]) rfl ?_
  refine ez_gC (p := 773) (tg := 78) c.1.1 t770 rfl rfl tq_75 rfl rfl (fun (t773 : _ = 78) => ?_)
  refine ez_go (n := 1) (pc' := 6) (L' := [(0, .inr (.inr (some (770)))), (1, .inl (t))]) (st' := [.inl (t), .inr (.inr (some (773))), .inr (.inr (some (770)))]) rfl ?_
  have n2 : 8 ≤ qz_N h 773 ∧ qz_N h 773 ≤ 8 := ez_len c.1.1 t773 tq_78 rfl
  have y3 : 1 ≤ qz_I h 773 (t).toNat := (by have := (sl t.toNat (by omega)).2; omega)
  have y4 : 1 ≤ qz_I h 773 (t).toNat ∧ qz_I h 773 (t).toNat ≤ 1000000 := ez_aB c.1.1 t773 tq_78 rfl rfl (by decide) (by omega) (by omega)
  have y4' : ((qz_P h 773 (t).toNat : Nat) : Int) + 1 = qz_I h 773 (t).toNat := by unfold qz_P; omega
  refine ez_aR c.1.1 t773 rfl tq_78 rfl rfl (by omega) (by omega) (by omega) (fun (t1 : _ = 37) => ?_)
  rw [show qz_P h 773 (t).toNat = 774 + (t).toNat by unfold qz_P; have := (sl (t).toNat (by omega)).2; omega]
  refine ez_go (n := 1) (pc' := 8) (L' := [(0, .inr (.inr (some (770)))), (1, .inl (t))]) (st' := [.inr (.inr (some (770))), .inr (.inr (some (774 + (t).toNat))), .inr (.inr (some (770)))]) rfl ?_
  refine ez_gC (p := 782) (tg := 79) c.1.1 t770 rfl rfl tq_75 rfl rfl (fun (t782 : _ = 79) => ?_)
  refine ez_go (n := 1) (pc' := 12) (L' := [(0, .inr (.inr (some (770)))), (1, .inl (t))]) (st' := [.inl (t), .inr (.inr (some (782))), .inr (.inr (some (774 + (t).toNat))), .inr (.inr (some (770)))]) rfl ?_
  have n6 : 8 ≤ qz_N h 782 ∧ qz_N h 782 ≤ 8 := ez_len c.1.1 t782 tq_79 rfl
  refine ez_aI c.1.1 t782 rfl tq_79 rfl rfl (by omega) (by omega) (fun (b5 : 0 ≤ qz_I h 782 (t).toNat) (b5' : qz_I h 782 (t).toNat ≤ 2000) => ?_)
  rw [show qz_I h 782 (t).toNat = (u.length : Int) from mu.1]
  refine ez_go (n := 1) (pc' := 14) (L' := [(0, .inr (.inr (some (770)))), (1, .inl (t))]) (st' := [.inl (0), .inl ((u.length : Int)), .inr (.inr (some (774 + (t).toNat))), .inr (.inr (some (770)))]) rfl ?_
  refine ez_cv c.1.1 t770 rfl rfl rfl tq_75 rfl rfl rfl (rd_mnorm_s (u := u) c tt.1 rfl (by omega) mu.2 up ⟨by decide, by decide⟩ (by omega) (by omega) (fun m res um lt nf pr g2 τ2 B2 nk2 tm2 => ez_K0 ?_) (fun m um lt g2 τ2 B2 nk2 => ez_Kp (xc_exc B2 rfl) rfl (k0 m um lt g2 τ2 B2 nk2)))
  have n2 := ndk.ofk c.1.1 hX nk2
  have X2 := n2.1.X hX
  have u770 : τ2 770 = 75 := X2 770 (by decide)
  have rl : res.length ≤ 2000 := by have := tm2.1; have : 0 ≤ qz_I g2 770 30 ∧ qz_I g2 770 30 ≤ 2000 := ez_fB (cl := 11) (k := 30) B2 u770 tq_75 rfl rfl (by decide); omega
  refine ez_go (n := 2) (pc' := 19) (L' := [(0, .inr (.inr (some (770)))), (1, .inl (t))]) (st' := [.inl (0), .inr (.inr (some (770)))]) rfl ?_
  refine ez_pf B2 u770 rfl rfl tq_75 rfl rfl rfl rfl (ez_vdI rfl rfl (by omega) (by omega)) (fun hB7 w8 => ?_)
  refine ez_less [(0, .inr (.inr (some (770)))), (1, .inl (t))] rfl ⟨rfl, rfl, trivial⟩ ?_
  have v36 : qz_I (dz_put g2 770 36 (ez_v (.inl (0)))) 770 36 = 0 := w8.trans rfl
  have i36 : ∀ j, j ≠ 36 → qz_I (dz_put g2 770 36 (ez_v (.inl (0)))) 770 j = qz_I g2 770 j := fun j hj => ez_put_I (fun w => hj w.2)
  have f36 : ez_fr (ez_one 770) g2 (dz_put g2 770 36 (ez_v (.inl (0)))) := (ez_fr.refl (ez_one 770) g2).put rfl _ _
  have B3 := hB7
  generalize (dz_put g2 770 36 (ez_v (.inl (0)))) = g3 at *
  have a3 := ndk.fr B2 X2 f36 (fun q hq => Or.inl (Nat.eq_of_beq_eq_true hq)) (fun j _ j2 => i36 j j2) (Or.inr v36)
  have tm3 : tm g3 res := ⟨(i36 30 (by decide)).trans tm2.1, fun j v hv => (f36.I rfl j).trans (tm2.2 j v hv)⟩
  refine rd_mls_o (h := h) (tot := els (cLK Cs) K (UBd (yD Ls)) 2000 res) c hm hKv hK rm (k1 m res um lt nf pr) 2000 g3 τ2 res [] B3 (n2.trans a3) rl tm3 pr rl ⟨⟨v36, ?_⟩, fun j e hj => by cases hj⟩ (by rw [List.length_nil]; omega) (by rw [List.nil_append])
  have : 1024 ≤ qz_N g3 (gel g3) ∧ qz_N g3 (gel g3) ≤ 300000 := ez_len B3 (ez_tel B3 u770) tq_23 rfl
  rw [List.length_nil]; omega

end EzMi

/-! COLLATION: the model: weight. (Written by wip/p2/py/pvk13.py.) -/
theorem sh8 {v : Int} (h0 : 0 ≤ v) (h1 : v ≤ 65535) : (Int32.ofInt v >>> (Int32.ofInt 8 &&& 31)).toInt = v / 256 := by
  have e : (Int32.ofInt v).toBitVec.toInt = v := dz_toInt_i (n := v) (by omega) (by omega)
  show ((Int32.ofInt v >>> (Int32.ofInt 8 &&& 31)).toBitVec).toInt = v / 256
  rw [Int32.toBitVec_shiftRight]
  show ((Int32.ofInt v).toBitVec.sshiftRight 8).toInt = v / 256
  rw [BitVec.toInt_sshiftRight, e, Int.shiftRight_eq_div_pow]
  first | rfl | omega
theorem sb_bd (n : Int) : -128 ≤ sgb n ∧ sgb n ≤ 127 := i8_bd _
/-- the key so far -/
def kyt (h : cz_H) (B : List Int) : Prop := (qz_I h 770 41 = 2 * (B.length : Int) ∧ 2 * (B.length : Int) ≤ qz_N h (gke h)) ∧ rsb h (gke h) (byS B)
/-- a weight more, in an array that may be a new one -/
def nw (τ : Nat → Nat) (h : cz_H) (τ1 : Nat → Nat) (g : cz_H) : Prop :=
  (∀ q, τ q ≠ 0 → τ1 q = τ q ∧ (q ≠ 770 → q ≠ gke h → g.2.2 q = h.2.2 q)) ∧ (∀ q, τ q = 0 → τ1 q ≠ 0 → τ1 q = 25) ∧ (gke g = gke h ∨ τ (gke g) = 0) ∧ (∀ j, j ≠ 40 → j ≠ 41 → qz_I g 770 j = qz_I h 770 j) ∧ qz_N h (gke h) ≤ qz_N g (gke g) ∧ ((g.2.1 : Int) - h.2.1 ≤ 2 * (qz_N g (gke g) - qz_N h (gke h)) ∧ 64 * ((g.1 : Int) - h.1) ≤ qz_N g (gke g) - qz_N h (gke h)) ∧ (h.1 ≤ g.1 ∧ h.2.1 ≤ g.2.1)
theorem nw.refl (τ : Nat → Nat) (h : cz_H) : nw τ h τ h := ⟨fun q _ => ⟨rfl, fun _ _ => rfl⟩, fun q h1 h2 => absurd h1 h2, Or.inl rfl, fun _ _ _ => rfl, Int.le_refl _, ⟨by omega, by omega⟩, Nat.le_refl _, Nat.le_refl _⟩
theorem nw.trans {τ τ1 τ2 : Nat → Nat} {h g k : cz_H} (a : nw τ h τ1 g) (b : nw τ1 g τ2 k) : nw τ h τ2 k := by
  obtain ⟨a1, a2, a3, a4, a5, a6, a7⟩ := a
  obtain ⟨b1, b2, b3, b4, b5, b6, b7⟩ := b
  refine ⟨fun q hq => ?_, fun q q0 q1 => ?_, ?_, fun j j1 j2 => (b4 j j1 j2).trans (a4 j j1 j2), by omega, by omega, by omega⟩
  · have y1 := a1 q hq
    have y2 := b1 q (by rw [y1.1]; exact hq)
    refine ⟨y2.1.trans y1.1, fun q1 q2 => (y2.2 q1 (fun e => ?_)).trans (y1.2 q1 q2)⟩
    rcases a3 with w | w
    · exact q2 (e.trans w)
    · rw [e, w] at hq; exact hq rfl
  · by_cases e : τ1 q = 0
    · exact b2 q e q1
    · rw [(b1 q e).1]; exact a2 q q0 e
  · rcases b3 with w | w
    · rw [w]; exact a3
    · refine Or.inr (Classical.byContradiction fun e => e ?_)
      have := (a1 _ e).1
      omega
theorem nw.o {τ τ1 : Nat → Nat} {h g : cz_H} (hB : ez_B τ h) (hX : jz_X τ) (a : nw τ h τ1 g) (dk : got h ≠ gke h) : got g = got h ∧ got g ≠ gke g ∧ g.2.2 (got h) = h.2.2 (got h) := by
  obtain ⟨-, t1, t2, t3, t4, t5⟩ := ez_tg5 hB (hX 770 (by decide))
  have e : got g = got h := by unfold got qz_P; rw [a.2.2.2.1 39 (by decide) (by decide)]
  refine ⟨e, ?_, (a.1 (got h) (by rw [t4]; decide)).2 (fun w => by rw [w, hX 770 (by decide)] at t4; cases t4) dk⟩
  rcases a.2.2.1 with w | w
  · rw [e, w]; exact dk
  · rw [e]; intro q; rw [← q, t4] at w; cases w
theorem nc.ofw {τ τ1 : Nat → Nat} {h g : cz_H} (hB : ez_B τ h) (hX : jz_X τ) (a : nw τ h τ1 g) (dk : got h ≠ gke h) : nc τ h τ1 g := by
  have t770 : τ 770 = 75 := hX 770 (by decide)
  have ow := a.o hB hX dk
  obtain ⟨-, t1, t2, t3, t4, t5⟩ := ez_tg5 hB t770
  obtain ⟨a1, a2, a3, a4, a5, a6, a7⟩ := a
  have eq : ∀ {q t : Nat}, τ q = t → (!(Nat.beq t 0) && !(Nat.beq t 75) && !(Nat.beq t 25)) = true → qz_N g q = qz_N h q := fun {q t} e w => by
    simp only [Bool.and_eq_true, Bool.not_eq_true'] at w
    obtain ⟨⟨w1, w2⟩, w3⟩ := w
    subst e
    unfold qz_N
    rw [(a1 q (fun e => by rw [e] at w1; exact absurd w1 (by decide))).2 (fun e => by rw [e, t770] at w2; exact absurd w2 (by decide)) (fun e => by rw [e, t5] at w3; exact absurd w3 (by decide))]
  have e0 : sk g = sk h := by unfold sk qz_P; rw [a4 24 (by decide) (by decide)]
  have e1 : gel g = gel h := by unfold gel qz_P; rw [a4 35 (by decide) (by decide)]
  have e2 : gfo g = gfo h := by unfold gfo qz_P; rw [a4 38 (by decide) (by decide)]
  have en : qz_N g (got h) = qz_N h (got h) := by unfold qz_N; rw [ow.2.2]
  have ez : zz g - zz h = qz_N g (gke g) - qz_N h (gke h) := by
    unfold zz; rw [e0, e1, e2, ow.1, eq t1 (by decide), eq t2 (by decide), eq t3 (by decide), en]; omega
  refine ⟨fun q hq => ⟨(a1 q hq).1, fun q1 _ q3 => (a1 q hq).2 q1 (fun e => by rw [e, t5] at q3; exact absurd q3 (by decide))⟩, fun q q0 q1 => by rw [a2 q q0 q1]; rfl, fun j hj => a4 j (fun e => by rw [e] at hj; exact absurd hj (by decide)) (fun e => by rw [e] at hj; exact absurd hj (by decide)), by omega, a7, fun w => ?_, fun w => ?_⟩
  · rw [a4 25 (by decide) (by decide), e0, eq t1 (by decide)]; exact w
  · rw [a4 36 (by decide) (by decide), e1, eq t2 (by decide)]; exact w
section EzMw
variable {d : Nat} {h : cz_H} {τ : Nat → Nat} {Q : cz_F → Prop} {B : List Int}
theorem ez_tke (hB : ez_B τ h) (t770 : τ 770 = 75) : τ (gke h) = 25 := (ez_tg5 hB t770).2.2.2.2.2
theorem rd_mw_l {v : Int} {q : Nat} (t770 : τ 770 = 75) (tq : τ q = 25) (tpo : τ (gke h) = 25) (n770 : 770 ≠ q) (npo : gke h ≠ q) (c0 : 0 ≤ qz_I h 770 41) (c1 : qz_I h 770 41 ≤ 300000) (hn : qz_I h 770 41 ≤ qz_N h q) (hn2 : qz_I h 770 41 ≤ qz_N h (gke h)) (kx : ∀ g, ez_B τ g → ez_fr (ez_one q) h g → qz_N g q = qz_N h q → (∀ j : Nat, (j : Int) < qz_I h 770 41 → qz_I g q j = qz_I h (gke h) j) → ez_W d cm_307 49 [(2, .inr (.inr (some (q)))), (0, .inr (.inr (some (770)))), (1, .inl (v))] [] g Q) : ∀ (m : Nat) (i : Int) (g : cz_H), m = (qz_I h 770 41 - i).toNat → 0 ≤ i → i ≤ qz_I h 770 41 → ez_B τ g → ez_fr (ez_one q) h g → qz_N g q = qz_N h q → (∀ j : Nat, (j : Int) < i → qz_I g q j = qz_I h (gke h) j) → ez_W d cm_307 26 [(3, .inl (i)), (2, .inr (.inr (some (q)))), (0, .inr (.inr (some (770)))), (1, .inl (v))] [] g Q := by
  intro m
  induction m with
  | zero =>
    intro i g hm i0 i1 hB hf nq hc
    have f770 : ∀ j, qz_I g 770 j = qz_I h 770 j := fun j => hf.I (dz_beq_ne n770) j
    have ep : qz_P g 770 40 = gke h := by unfold gke qz_P; rw [f770]
    have f41 := f770 41
    have np : qz_N g (gke h) = qz_N h (gke h) := hf.N (dz_beq_ne npo)
    have fpo : ∀ j, qz_I g (gke h) j = qz_I h (gke h) j := fun j => hf.I (dz_beq_ne npo) j
    refine ez_go (n := 2) (pc' := 28) (L' := [(3, .inl (i)), (2, .inr (.inr (some (q)))), (0, .inr (.inr (some (770)))), (1, .inl (v))]) (st' := [.inr (.inr (some (770))), .inl (i)]) rfl ?_
    refine ez_gI hB t770 rfl rfl tq_75 rfl rfl (fun (b1 : 0 ≤ qz_I g 770 41) (b1' : qz_I g 770 41 ≤ 300000) => ?_)
    rw [f41]
    refine ez_icmp rfl rfl ⟨by first | omega | exact (sz_i32 _).1, by first | omega | exact (sz_i32 _).2⟩ ⟨by first | omega | exact (sz_i32 _).1, by first | omega | exact (sz_i32 _).2⟩ (fun (c2 : (qz_I h 770 41) ≤ (i)) => ?_) (fun (c2 : ¬((qz_I h 770 41) ≤ (i))) => ?_)
    · skip
      refine ez_less [(2, .inr (.inr (some (q)))), (0, .inr (.inr (some (770)))), (1, .inl (v))] rfl ⟨rfl, rfl, rfl, trivial⟩ ?_
      exact kx g hB hf nq (fun j j1 => hc j (by omega))
    · exfalso; omega
  | succ m ih =>
    intro i g hm i0 i1 hB hf nq hc
    have f770 : ∀ j, qz_I g 770 j = qz_I h 770 j := fun j => hf.I (dz_beq_ne n770) j
    have ep : qz_P g 770 40 = gke h := by unfold gke qz_P; rw [f770]
    have f41 := f770 41
    have np : qz_N g (gke h) = qz_N h (gke h) := hf.N (dz_beq_ne npo)
    have fpo : ∀ j, qz_I g (gke h) j = qz_I h (gke h) j := fun j => hf.I (dz_beq_ne npo) j
    refine ez_go (n := 2) (pc' := 28) (L' := [(3, .inl (i)), (2, .inr (.inr (some (q)))), (0, .inr (.inr (some (770)))), (1, .inl (v))]) (st' := [.inr (.inr (some (770))), .inl (i)]) rfl ?_
    refine ez_gI hB t770 rfl rfl tq_75 rfl rfl (fun (b1 : 0 ≤ qz_I g 770 41) (b1' : qz_I g 770 41 ≤ 300000) => ?_)
    rw [f41]
    refine ez_icmp rfl rfl ⟨by first | omega | exact (sz_i32 _).1, by first | omega | exact (sz_i32 _).2⟩ ⟨by first | omega | exact (sz_i32 _).1, by first | omega | exact (sz_i32 _).2⟩ (fun (c2 : (qz_I h 770 41) ≤ (i)) => ?_) (fun (c2 : ¬((qz_I h 770 41) ≤ (i))) => ?_)
    · exfalso; omega
    · skip
      refine ez_go (n := 3) (pc' := 37) (L' := [(3, .inl (i)), (2, .inr (.inr (some (q)))), (0, .inr (.inr (some (770)))), (1, .inl (v))]) (st' := [.inr (.inr (some (770))), .inl (i), .inr (.inr (some (q)))]) rfl ?_
      refine ez_gR hB t770 rfl rfl tq_75 rfl rfl (fun (t3 : _ = 25) (t3' : 1 ≤ qz_I g 770 40) => ?_)
      rw [show qz_P g 770 40 = gke h from ep] at *
      refine ez_go (n := 1) (pc' := 41) (L' := [(3, .inl (i)), (2, .inr (.inr (some (q)))), (0, .inr (.inr (some (770)))), (1, .inl (v))]) (st' := [.inl (i), .inr (.inr (some ((gke h)))), .inl (i), .inr (.inr (some (q)))]) rfl ?_
      have n5 : 1024 ≤ qz_N g ((gke h)) ∧ qz_N g ((gke h)) ≤ 600100 := ez_len hB t3 tq_25 rfl
      refine ez_aI hB t3 rfl tq_25 rfl rfl (by omega) (by omega) (fun (b4 : -128 ≤ qz_I g ((gke h)) (i).toNat) (b4' : qz_I g ((gke h)) (i).toNat ≤ 127) => ?_)
      have n8 : 1024 ≤ qz_N g q ∧ qz_N g q ≤ 600100 := ez_len hB tq tq_25 rfl
      refine ez_ab hB tq rfl tq_25 rfl rfl (by omega) (by omega) (by first | omega | exact (i8_bd _).1) (by first | omega | exact (i8_bd _).2) (fun hB6 w7 => ?_)
      refine ez_go (n := 2) (pc' := 26) (L' := [(3, .inl (i + 1)), (2, .inr (.inr (some (q)))), (0, .inr (.inr (some (770)))), (1, .inl (v))]) (st' := []) rfl ?_
      refine ez_less [(3, .inl (i + 1)), (2, .inr (.inr (some (q)))), (0, .inr (.inr (some (770)))), (1, .inl (v))] rfl ⟨rfl, rfl, rfl, rfl, trivial⟩ ?_
      refine ih (i + 1) _ (by omega) (by omega) (by omega) hB6 (hf.put (show Nat.beq q q = true from Nat.beq_refl q) _ _) (by rw [ez_put_N]; exact nq) (fun j j1 => ?_)
      by_cases e : (j : Int) = i
      · rw [show j = (i).toNat by omega, w7, rz_rd ⟨by omega, by omega⟩, fpo]
      · rw [ez_put_I (by omega)]; exact hc j (by omega)

theorem rd_mw_e {v : Int} (hB : ez_B τ h) (t770 : τ 770 = 75) (ky : kyt h B) (l1 : B.length ≤ 145000) (hn : 2 * (B.length : Int) + 2 ≤ qz_N h (gke h)) (v0 : 0 ≤ v) (v1 : v ≤ 65535) (kx : ∀ g, ez_B τ g → ez_fr (nz_P2 770 (gke h)) h g → gke g = gke h → qz_N g (gke h) = qz_N h (gke h) → (∀ j, j ≠ 41 → qz_I g 770 j = qz_I h 770 j) → kyt g (B ++ [v]) → Q (.inl none, g)) : ez_W d cm_307 54 [(0, .inr (.inr (some (770)))), (1, .inl (v))] [] h Q := by
  have tE := ez_tke hB t770
  have nE : gke h ≠ 770 := fun e => by rw [e, t770] at tE; cases tE
  obtain ⟨⟨c, cn⟩, kr⟩ := id ky
  refine ez_go (n := 1) (pc' := 55) (L' := [(0, .inr (.inr (some (770)))), (1, .inl (v))]) (st' := [.inr (.inr (some (770)))]) rfl ?_
  refine ez_gR hB t770 rfl rfl tq_75 rfl rfl (fun (t1 : _ = 25) (t1' : 1 ≤ qz_I h 770 40) => ?_)
  rw [show qz_P h 770 40 = gke h from rfl]
  refine ez_go (n := 1) (pc' := 59) (L' := [(0, .inr (.inr (some (770)))), (1, .inl (v))]) (st' := [.inr (.inr (some (770))), .inr (.inr (some ((gke h))))]) rfl ?_
  refine ez_gI hB t770 rfl rfl tq_75 rfl rfl (fun (b2 : 0 ≤ qz_I h 770 41) (b2' : qz_I h 770 41 ≤ 300000) => ?_)
  rw [show qz_I h 770 41 = 2 * (B.length : Int) from c]
  refine ez_go (n := 4) (pc' := 67) (L' := [(0, .inr (.inr (some (770)))), (1, .inl (v))]) (st' := [.inl ((Int32.ofInt ((Int32.ofInt (v) >>> (Int32.ofInt (8) &&& 31)).toInt)).toInt8.toInt32.toInt), .inl (2 * (B.length : Int)), .inr (.inr (some ((gke h))))]) rfl ?_
  rw [sh8 v0 v1]
  rw [show (Int32.ofInt (v / 256)).toInt8.toInt32.toInt = sgb (v / 256) from rfl]
  have s1 := sb_bd (v / 256)
  have n5 : 1024 ≤ qz_N h ((gke h)) ∧ qz_N h ((gke h)) ≤ 600100 := ez_len hB tE tq_25 rfl
  refine ez_ab hB tE rfl tq_25 rfl rfl (by omega) (by omega) (by first | omega | exact (i8_bd _).1) (by first | omega | exact (i8_bd _).2) (fun hB3 w4 => ?_)
  have w1 : qz_I (dz_put h ((gke h)) (2 * (B.length : Int)).toNat (ez_v (.inl (sgb (v / 256))))) (gke h) (2 * (B.length : Int)).toNat = sgb (v / 256) := w4.trans (rz_rd ⟨by omega, by omega⟩)
  have o1 : ∀ j, j ≠ (2 * (B.length : Int)).toNat → qz_I (dz_put h ((gke h)) (2 * (B.length : Int)).toNat (ez_v (.inl (sgb (v / 256))))) (gke h) j = qz_I h (gke h) j := fun j hj => ez_put_I (fun y => hj y.2)
  have f1 : ez_fr (ez_one (gke h)) h (dz_put h ((gke h)) (2 * (B.length : Int)).toNat (ez_v (.inl (sgb (v / 256))))) := (ez_fr.refl (ez_one (gke h)) h).put (Nat.beq_refl _) _ _
  have n1 : qz_N (dz_put h ((gke h)) (2 * (B.length : Int)).toNat (ez_v (.inl (sgb (v / 256))))) (gke h) = qz_N h (gke h) := ez_put_N _
  have B1 := hB3
  generalize (dz_put h ((gke h)) (2 * (B.length : Int)).toNat (ez_v (.inl (sgb (v / 256))))) = g1 at *
  have j1 : ∀ j, qz_I g1 770 j = qz_I h 770 j := fun j => f1.I (dz_beq_ne nE.symm) j
  refine ez_go (n := 1) (pc' := 69) (L' := [(0, .inr (.inr (some (770)))), (1, .inl (v))]) (st' := [.inr (.inr (some (770)))]) rfl ?_
  refine ez_gR B1 t770 rfl rfl tq_75 rfl rfl (fun (t6 : _ = 25) (t6' : 1 ≤ qz_I g1 770 40) => ?_)
  rw [show qz_P g1 770 40 = gke h from by unfold gke qz_P; rw [j1]]
  refine ez_go (n := 1) (pc' := 73) (L' := [(0, .inr (.inr (some (770)))), (1, .inl (v))]) (st' := [.inr (.inr (some (770))), .inr (.inr (some ((gke h))))]) rfl ?_
  refine ez_gI B1 t770 rfl rfl tq_75 rfl rfl (fun (b7 : 0 ≤ qz_I g1 770 41) (b7' : qz_I g1 770 41 ≤ 300000) => ?_)
  rw [show qz_I g1 770 41 = 2 * (B.length : Int) from (j1 41).trans c]
  refine ez_go (n := 4) (pc' := 80) (L' := [(0, .inr (.inr (some (770)))), (1, .inl (v))]) (st' := [.inl ((Int32.ofInt (v)).toInt8.toInt32.toInt), .inl ((2 * (B.length : Int)) + (1)), .inr (.inr (some ((gke h))))]) rfl ?_
  rw [show (Int32.ofInt (v)).toInt8.toInt32.toInt = sgb v from rfl]
  have s2 := sb_bd v
  have n10 : 1024 ≤ qz_N g1 ((gke h)) ∧ qz_N g1 ((gke h)) ≤ 600100 := ez_len B1 tE tq_25 rfl
  refine ez_ab B1 tE rfl tq_25 rfl rfl (by omega) (by omega) (by first | omega | exact (i8_bd _).1) (by first | omega | exact (i8_bd _).2) (fun hB8 w9 => ?_)
  have w2 : qz_I (dz_put g1 ((gke h)) ((2 * (B.length : Int)) + (1)).toNat (ez_v (.inl (sgb v)))) (gke h) ((2 * (B.length : Int)) + (1)).toNat = sgb v := w9.trans (rz_rd ⟨by omega, by omega⟩)
  have o2 : ∀ j, j ≠ ((2 * (B.length : Int)) + (1)).toNat → qz_I (dz_put g1 ((gke h)) ((2 * (B.length : Int)) + (1)).toNat (ez_v (.inl (sgb v)))) (gke h) j = qz_I g1 (gke h) j := fun j hj => ez_put_I (fun y => hj y.2)
  have f2 : ez_fr (ez_one (gke h)) h (dz_put g1 ((gke h)) ((2 * (B.length : Int)) + (1)).toNat (ez_v (.inl (sgb v)))) := f1.put (Nat.beq_refl _) _ _
  have n2 : qz_N (dz_put g1 ((gke h)) ((2 * (B.length : Int)) + (1)).toNat (ez_v (.inl (sgb v)))) (gke h) = qz_N h (gke h) := (ez_put_N _).trans n1
  have B2 := hB8
  generalize (dz_put g1 ((gke h)) ((2 * (B.length : Int)) + (1)).toNat (ez_v (.inl (sgb v)))) = g2 at *
  have j2 : ∀ j, qz_I g2 770 j = qz_I h 770 j := fun j => f2.I (dz_beq_ne nE.symm) j
  refine ez_go (n := 2) (pc' := 83) (L' := [(0, .inr (.inr (some (770)))), (1, .inl (v))]) (st' := [.inr (.inr (some (770))), .inr (.inr (some (770)))]) rfl ?_
  refine ez_gI B2 t770 rfl rfl tq_75 rfl rfl (fun (b11 : 0 ≤ qz_I g2 770 41) (b11' : qz_I g2 770 41 ≤ 300000) => ?_)
  rw [show qz_I g2 770 41 = 2 * (B.length : Int) from (j2 41).trans c]
  refine ez_go (n := 2) (pc' := 88) (L' := [(0, .inr (.inr (some (770)))), (1, .inl (v))]) (st' := [.inl ((2 * (B.length : Int)) + (2)), .inr (.inr (some (770)))]) rfl ?_
  refine ez_pf B2 t770 rfl rfl tq_75 rfl rfl rfl rfl (ez_vdI rfl rfl (by omega) (by omega)) (fun hB12 w13 => ?_)
  have v3 : qz_I (dz_put g2 770 41 (ez_v (.inl ((2 * (B.length : Int)) + (2))))) 770 41 = 2 * (B.length : Int) + 2 := w13.trans (rz_rd ⟨by omega, by omega⟩)
  have o3 : ∀ j, j ≠ 41 → qz_I (dz_put g2 770 41 (ez_v (.inl ((2 * (B.length : Int)) + (2))))) 770 j = qz_I h 770 j := fun j hj => (ez_put_I (fun q => hj q.2)).trans (j2 j)
  have e3 : gke (dz_put g2 770 41 (ez_v (.inl ((2 * (B.length : Int)) + (2))))) = gke h := by unfold gke qz_P; rw [o3 40 (by decide)]
  have i3 : ∀ j, qz_I (dz_put g2 770 41 (ez_v (.inl ((2 * (B.length : Int)) + (2))))) (gke h) j = qz_I g2 (gke h) j := fun j => ez_put_I (fun q => nE q.1)
  have n3 : qz_N (dz_put g2 770 41 (ez_v (.inl ((2 * (B.length : Int)) + (2))))) (gke h) = qz_N h (gke h) := (ez_put_N _).trans n2
  refine ez_ret0 rfl rfl (kx _ hB12 ((ez_fr_mono f2 (fun z hz => by unfold ez_one at hz; unfold nz_P2; rw [hz]; exact Bool.or_true _)).put (by unfold nz_P2; rfl) _ _) e3 n3 o3 ⟨⟨?_, ?_⟩, ?_⟩)
  · rw [v3, List.length_append]; show _ = 2 * ((B.length + 1 : Nat) : Int); omega
  · rw [e3, n3, List.length_append]; show 2 * ((B.length + 1 : Nat) : Int) ≤ _; omega
  · rw [e3]
    refine rsb_app (h := h) (a := 2 * (B.length : Int)) kr rfl (fun j x1 x2 => (i3 j).trans ((o2 j x2).trans (o1 j x1))) ?_ ?_
    · rw [i3, o2 _ (by omega)]; exact w1
    · rw [i3]; exact w2

theorem rd_mw {v : Int} (hB : ez_B τ h) (t770 : τ 770 = 75) (ky : kyt h B) (l1 : B.length ≤ 145000) (v0 : 0 ≤ v) (v1 : v ≤ 65535) (hr1 : h.1 + 1 ≤ 600192) (hr2 : h.2.1 + 700000 ≤ 7302232) (kx : ∀ g τ1, ez_B τ1 g → nw τ h τ1 g → kyt g (B ++ [v]) → Q (.inl none, g)) : ez_W d cm_307 0 [(0, .inr (.inr (some (770)))), (1, .inl (v))] [] h Q := by
  have tpo := ez_tke hB t770
  have lpo : 1024 ≤ qz_N h (gke h) ∧ qz_N h (gke h) ≤ 600100 := ez_len hB tpo tq_25 rfl
  obtain ⟨⟨c, cn⟩, kr⟩ := id ky
  refine ez_go (n := 1) (pc' := 1) (L' := [(0, .inr (.inr (some (770)))), (1, .inl (v))]) (st' := [.inr (.inr (some (770)))]) rfl ?_
  refine ez_gI hB t770 rfl rfl tq_75 rfl rfl (fun (b1 : 0 ≤ qz_I h 770 41) (b1' : qz_I h 770 41 ≤ 300000) => ?_)
  refine ez_go (n := 3) (pc' := 7) (L' := [(0, .inr (.inr (some (770)))), (1, .inl (v))]) (st' := [.inr (.inr (some (770))), .inl ((qz_I h 770 41) + (2))]) rfl ?_
  refine ez_gR hB t770 rfl rfl tq_75 rfl rfl (fun (t2 : _ = 25) (t2' : 1 ≤ qz_I h 770 40) => ?_)
  rw [show qz_P h 770 40 = gke h from rfl] at *
  refine ez_al hB t2 rfl tq_25 rfl (fun (b3 : 1024 ≤ qz_N h ((gke h))) (b3' : qz_N h ((gke h)) ≤ 600100) => ?_)
  refine ez_icmp rfl rfl ⟨by first | omega | exact (sz_i32 _).1, by first | omega | exact (sz_i32 _).2⟩ ⟨by first | omega | exact (sz_i32 _).1, by first | omega | exact (sz_i32 _).2⟩ (fun (c4 : ((qz_I h 770 41) + (2)) ≤ (qz_N h ((gke h)))) => ?_) (fun (c4 : ¬(((qz_I h 770 41) + (2)) ≤ (qz_N h ((gke h))))) => ?_)
  · skip
    refine ez_less [(0, .inr (.inr (some (770)))), (1, .inl (v))] rfl ⟨rfl, rfl, trivial⟩ ?_
    refine rd_mw_e hB t770 ky l1 (by omega) v0 v1 (fun g hBg f ge nn hj em2 => kx g τ hBg ⟨fun q hq => ⟨rfl, fun q1 q2 => f.2.2 q (nz_P2_f q1 q2)⟩, fun q h1 h2 => absurd h1 h2, Or.inl ge, fun j _ j2 => hj j j2, by rw [ge, nn]; exact Int.le_refl _, ⟨by rw [ge, nn, f.2.1]; omega, by rw [ge, nn, f.1]; omega⟩, by rw [f.1]; exact Nat.le_refl _, by rw [f.2.1]; exact Nat.le_refl _⟩ em2)
  · skip
    refine ez_go (n := 2) (pc' := 16) (L' := [(0, .inr (.inr (some (770)))), (1, .inl (v))]) (st' := [.inr (.inr (some (770))), .inl (2)]) rfl ?_
    refine ez_gR hB t770 rfl rfl tq_75 rfl rfl (fun (t5 : _ = 25) (t5' : 1 ≤ qz_I h 770 40) => ?_)
    rw [show qz_P h 770 40 = gke h from rfl] at *
    refine ez_al hB t5 rfl tq_25 rfl (fun (b6 : 1024 ≤ qz_N h ((gke h))) (b6' : qz_N h ((gke h)) ≤ 600100) => ?_)
    refine ez_go (n := 1) (pc' := 21) (L' := [(0, .inr (.inr (some (770)))), (1, .inl (v))]) (st' := [.inl ((2) * (qz_N h ((gke h))))]) rfl ?_
    refine ez_nA' (t := 25) hB rfl rfl rfl tq_25 rfl rfl (by omega) (by show (1024 : Int) ≤ _; omega) (by show _ ≤ (600100 : Int); omega) (by omega) (by omega) (by omega) (fun g7 τ7 p7 hB7 x7 o7 t7 z7 e7 N7 y7 => ?_)
    have c7 := x7.2
    have t770n7 := (x7.1 _ (by rw [t770]; decide)).1.trans t770
    have t5n7 := (x7.1 _ (by rw [t5]; decide)).1.trans t5
    have t5n7 := (x7.1 _ (by rw [t5]; decide)).1.trans t5
    have hq770 : 770 ≠ p7 := fun e => by rw [← e, t770] at z7; cases z7
    have hqpo : gke h ≠ p7 := fun e => by rw [← e, tpo] at z7; cases z7
    have f9 : ∀ j, qz_I g7 770 j = qz_I h 770 j := fun j => x7.I (by rw [t770]; decide) j
    have epo : gke g7 = gke h := by unfold gke qz_P; rw [f9]
    have epl : ∀ j, qz_I g7 (gke h) j = qz_I h (gke h) j := fun j => x7.I (by rw [tpo]; decide) _
    have eN9 : qz_N g7 (gke h) = qz_N h (gke h) := x7.N (by rw [tpo]; decide)
    refine ez_go (n := 3) (pc' := 26) (L' := [(3, .inl (0)), (2, .inr (.inr (some (p7)))), (0, .inr (.inr (some (770)))), (1, .inl (v))]) (st' := []) rfl ?_
    refine ez_less [(3, .inl (0)), (2, .inr (.inr (some (p7)))), (0, .inr (.inr (some (770)))), (1, .inl (v))] rfl ⟨rfl, rfl, rfl, rfl, trivial⟩ ?_
    refine rd_mw_l (h := g7) t770n7 t7 (by rw [epo]; exact (x7.1 _ (by rw [tpo]; decide)).1.trans tpo) hq770 (by rw [epo]; exact hqpo) (by rw [f9]; omega) (by rw [f9]; omega) (by rw [f9, N7]; omega) (by rw [f9, epo, eN9]; omega) (fun g2 hB2 f2 n2 c2 => ?_) _ 0 g7 rfl (by omega) (by rw [f9]; omega) hB7 (ez_fr.refl _ _) rfl (fun j j1 => by omega)
    refine ez_go (n := 2) (pc' := 51) (L' := [(2, .inr (.inr (some (p7)))), (0, .inr (.inr (some (770)))), (1, .inl (v))]) (st' := [.inr (.inr (some (p7))), .inr (.inr (some (770)))]) rfl ?_
    refine ez_pf hB2 t770n7 rfl rfl tq_75 rfl rfl rfl rfl (ez_vdR rfl t7 (by omega) (by omega)) (fun hB8 w9 => ?_)
    refine ez_less [(0, .inr (.inr (some (770)))), (1, .inl (v))] rfl ⟨rfl, rfl, trivial⟩ ?_
    have hE3 : gke (dz_put g2 770 40 (ez_v (.inr (.inr (some (p7)))))) = p7 := by unfold gke qz_P; rw [w9]; show ((p7 : Int) + 1 - 1).toNat = p7; omega
    have h3j : ∀ j, j ≠ 40 → qz_I (dz_put g2 770 40 (ez_v (.inr (.inr (some (p7)))))) 770 j = qz_I h 770 j := fun j hj => by rw [ez_put_I (fun w => hj w.2), f2.I (dz_beq_ne hq770)]; exact f9 j
    have hN3 : qz_N (dz_put g2 770 40 (ez_v (.inr (.inr (some (p7)))))) p7 = 2 * qz_N h (gke h) := by rw [ez_put_N, n2, N7]
    have hI3 : ∀ j : Nat, (j : Int) < 2 * (B.length : Int) → qz_I (dz_put g2 770 40 (ez_v (.inr (.inr (some (p7)))))) p7 j = qz_I h (gke h) j := fun j hj => by rw [ez_put_I (fun w => hq770 w.1.symm), c2 j (by rw [f9, c]; exact hj), epo]; exact epl j
    have fr3 : ∀ q, q ≠ 770 → q ≠ p7 → ((dz_put g2 770 40 (ez_v (.inr (.inr (some (p7))))))).2.2 q = g7.2.2 q := fun q h1 h2 => by rw [qz_put_at _ _ _ _ h1, f2.2.2 q (dz_beq_ne h2)]
    have c31 : ((dz_put g2 770 40 (ez_v (.inr (.inr (some (p7))))))).1 = g7.1 := f2.1
    have c32 : ((dz_put g2 770 40 (ez_v (.inr (.inr (some (p7))))))).2.1 = g7.2.1 := f2.2.1
    have hB3 := hB8
    generalize (dz_put g2 770 40 (ez_v (.inr (.inr (some (p7)))))) = g3 at *
    have bl9 := byS_len B
    have em3 : kyt g3 B := ⟨⟨(h3j 41 (by decide)).trans c, by rw [hE3, hN3]; omega⟩, fun j e hj => by have jl := (List.getElem?_eq_some_iff.mp hj).1; rw [hE3, hI3 _ (by omega)]; exact kr j e hj⟩
    have cx := x7.2
    refine rd_mw_e hB3 t770n7 em3 l1 (by rw [hE3, hN3]; omega) v0 v1 (fun g4 hB4 f4 ge4 nn4 hj4 em4 => ?_)
    rw [hE3] at f4 ge4 nn4
    refine kx g4 τ7 hB4 ⟨fun q hq => ⟨(x7.1 q hq).1, fun q1 q2 => ?_⟩, fun q h1 h2 => ?_, Or.inr (by rw [ge4]; exact z7), fun j j1 j2 => (hj4 j j2).trans (h3j j j1), by rw [ge4, nn4, hN3]; omega, ⟨by rw [ge4, nn4, hN3, f4.2.1, c32]; omega, by rw [ge4, nn4, hN3, f4.1, c31]; omega⟩, by rw [f4.1, c31]; omega, by rw [f4.2.1, c32]; omega⟩ em4
    · have hqp : q ≠ p7 := fun e => by rw [e, z7] at hq; exact hq rfl
      rw [f4.2.2 q (nz_P2_f q1 hqp), fr3 q q1 hqp, (x7.1 q hq).2]
    · by_cases e : q = p7
      · rw [e]; exact t7
      · rw [o7 q e] at h2; exact absurd h1 h2

end EzMw

/-! COLLATION: the model: keyOf. (Written by wip/p2/py/pvk14.py.) -/
/-- the key that was before stays -/
def ng (τ : Nat → Nat) (h : cz_H) (τ1 : Nat → Nat) (g : cz_H) : Prop := nc τ h τ1 g ∧ got g = got h ∧ (gke g = gke h ∨ τ (gke g) = 0) ∧ g.2.2 (got h) = h.2.2 (got h)
theorem ng.trans {τ τ1 τ2 : Nat → Nat} {h g k : cz_H} (a : ng τ h τ1 g) (b : ng τ1 g τ2 k) : ng τ h τ2 k := by
  refine ⟨a.1.trans b.1, b.2.1.trans a.2.1, ?_, ?_⟩
  · rcases b.2.2.1 with w | w
    · rw [w]; exact a.2.2.1
    · refine Or.inr (Classical.byContradiction fun e => e ?_)
      have := (a.1.1 _ e).1
      omega
  · have := b.2.2.2
    rw [a.2.1] at this; exact this.trans a.2.2.2
theorem ng.dk {τ τ1 : Nat → Nat} {h g : cz_H} (a : ng τ h τ1 g) (hB : ez_B τ h) (hX : jz_X τ) (dk : got h ≠ gke h) : got g ≠ gke g := by
  obtain ⟨-, t1, t2, t3, t4, t5⟩ := ez_tg5 hB (hX 770 (by decide))
  rw [a.2.1]
  rcases a.2.2.1 with w | w
  · rw [w]; exact dk
  · intro q; rw [← q, t4] at w; cases w
theorem ndk.ng {τ τ1 : Nat → Nat} {h g : cz_H} (a : ndk τ h τ1 g) (hB : ez_B τ h) (hX : jz_X τ) : ng τ h τ1 g := by
  obtain ⟨-, t1, t2, t3, t4, t5⟩ := ez_tg5 hB (hX 770 (by decide))
  exact ⟨a.1, by unfold got qz_P; rw [a.2.2 39 (by decide) (by decide)], Or.inl (by unfold gke qz_P; rw [a.2.2 40 (by decide) (by decide)]), a.2.1 _ (Or.inr t4)⟩
theorem nw.ng {τ τ1 : Nat → Nat} {h g : cz_H} (a : nw τ h τ1 g) (hB : ez_B τ h) (hX : jz_X τ) (dk : got h ≠ gke h) : ng τ h τ1 g := by
  have o := a.o hB hX dk
  exact ⟨nc.ofw hB hX a dk, o.1, a.2.2.1, o.2.2⟩
theorem ng.fr {τ : Nat → Nat} {h g : cz_H} {P : Nat → Bool} (hB : ez_B τ h) (hX : jz_X τ) (f : ez_fr P h g) (hP : ∀ q, P q = true → q = 770 ∨ τ q = 23 ∨ τ q = 24) (hN : ∀ q, kcT (τ q) = true → qz_N g q = qz_N h q) (i7 : ∀ j, j ≠ 41 → qz_I g 770 j = qz_I h 770 j) : ng τ h τ g := by
  obtain ⟨-, t1, t2, t3, t4, t5⟩ := ez_tg5 hB (hX 770 (by decide))
  refine ⟨nc.frN hB hX f (fun q hq => ?_) hN (fun j _ _ j3 => i7 j j3) (Or.inl (i7 36 (by decide))), by unfold got qz_P; rw [i7 39 (by decide)], Or.inl (by unfold gke qz_P; rw [i7 40 (by decide)]), f.2.2 _ ?_⟩
  · rcases hP q hq with w | w | w
    · exact Or.inl w
    · exact Or.inr (by rw [w]; rfl)
    · exact Or.inr (by rw [w]; rfl)
  · cases e : P (got h) with
    | false => rfl
    | true =>
      exfalso
      rcases hP _ e with w | w | w
      · rw [w, hX 770 (by decide)] at t4; cases t4
      · omega
      · omega
/-- the weights in the arrays -/
def wet (h : cz_H) (sh : Bool) (W : List eL) : Prop := (qz_I h 770 36 = (W.length : Int) ∧ 4 * (W.length : Int) ≤ qz_N h (gel h) ∧ (W.length : Int) ≤ qz_N h (gfo h)) ∧ ∀ (j : Nat) w, W[j]? = some w → qz_I h (gel h) (4 * j + 1) = w.1 ∧ qz_I h (gel h) (4 * j + 2) = w.2.1 ∧ qz_I h (gel h) (4 * j + 3) = w.2.2.1 ∧ (sh = true → qz_I h (gfo h) j = w.2.2.2)
theorem wet.at {h : cz_H} {sh : Bool} {W : List eL} (x : wet h sh W) {k lv : Int} {w : eL} (k0 : 0 ≤ k) (hw : W[k.toNat]? = some w) (l1 : 1 ≤ lv) (l3 : lv ≤ 3) : qz_I h (gel h) (((4) * (k)) + (lv)).toNat = wk w (lv - 1).toNat := by
  obtain ⟨x1, x2, x3, -⟩ := x.2 _ _ hw
  have : lv = 1 ∨ lv = 2 ∨ lv = 3 := by omega
  rcases this with e | e | e
  · subst e; rw [show (((4) * (k)) + (1 : Int)).toNat = 4 * k.toNat + 1 by omega]; exact x1
  · subst e; rw [show (((4) * (k)) + (2 : Int)).toNat = 4 * k.toNat + 2 by omega]; exact x2
  · subst e; rw [show (((4) * (k)) + (3 : Int)).toNat = 4 * k.toNat + 3 by omega]; exact x3
theorem wet.k {h g : cz_H} {sh : Bool} {W : List eL} (x : wet h sh W) (i7 : ∀ j, j ≠ 40 → j ≠ 41 → qz_I g 770 j = qz_I h 770 j) (e1 : g.2.2 (gel h) = h.2.2 (gel h)) (e2 : g.2.2 (gfo h) = h.2.2 (gfo h)) : wet g sh W := by
  obtain ⟨⟨a, b, c⟩, y⟩ := x
  have p1 : gel g = gel h := by unfold gel qz_P; rw [i7 35 (by decide) (by decide)]
  have p2 : gfo g = gfo h := by unfold gfo qz_P; rw [i7 38 (by decide) (by decide)]
  have n1 : qz_N g (gel h) = qz_N h (gel h) := by unfold qz_N; rw [e1]
  have n2 : qz_N g (gfo h) = qz_N h (gfo h) := by unfold qz_N; rw [e2]
  have c1 : ∀ j, qz_I g (gel h) j = qz_I h (gel h) j := fun j => by unfold qz_I; rw [e1]
  have c2 : ∀ j, qz_I g (gfo h) j = qz_I h (gfo h) j := fun j => by unfold qz_I; rw [e2]
  exact ⟨⟨(i7 36 (by decide) (by decide)).trans a, by rw [p1, n1]; exact b, by rw [p2, n2]; exact c⟩, fun j w hw => by rw [p1, p2, c1, c1, c1, c2]; exact y j w hw⟩
theorem nw.wet {τ τ1 : Nat → Nat} {h g : cz_H} {sh : Bool} {W : List eL} (a : nw τ h τ1 g) (hB : ez_B τ h) (hX : jz_X τ) (x : wet h sh W) : wet g sh W := by
  obtain ⟨-, t1, t2, t3, t4, t5⟩ := ez_tg5 hB (hX 770 (by decide))
  refine x.k a.2.2.2.1 ((a.1 _ (by rw [t2]; decide)).2 (fun w => ?_) (fun w => ?_)) ((a.1 _ (by rw [t3]; decide)).2 (fun w => ?_) (fun w => ?_))
  · rw [w, hX 770 (by decide)] at t2; cases t2
  · rw [w, t5] at t2; cases t2
  · rw [w, hX 770 (by decide)] at t3; cases t3
  · rw [w, t5] at t3; cases t3
theorem wtsF : ∀ (es : List eL) (b : Bool) (j : Nat) (w : eL), (wts false b es)[j]? = some w → ∃ e, es[j]? = some e ∧ w = (e.2.1, e.2.2.1, e.2.2.2, 0)
  | [], _, _, _, h => by cases h
  | e :: t, b, 0, w, h => by
    refine ⟨e, rfl, ?_⟩
    have h : some (wt1 false b e) = some w := h
    cases h
    unfold wt1; exact if_neg (by decide)
  | e :: t, b, j + 1, w, h => wtsF t _ j w h
/-- halfway -/
def swS (h g : cz_H) (A R : List eL) : Prop := (∀ (j : Nat) w, (wts true false A)[j]? = some w → qz_I g (gel h) (4 * j + 1) = w.1 ∧ qz_I g (gel h) (4 * j + 2) = w.2.1 ∧ qz_I g (gel h) (4 * j + 3) = w.2.2.1 ∧ qz_I g (gfo h) j = w.2.2.2) ∧ ∀ (j : Nat) e, R[j]? = some e → qz_I g (gel h) (4 * (A.length + j)) = e.1 ∧ qz_I g (gel h) (4 * (A.length + j) + 1) = e.2.1 ∧ qz_I g (gel h) (4 * (A.length + j) + 2) = e.2.2.1 ∧ qz_I g (gel h) (4 * (A.length + j) + 3) = e.2.2.2
theorem swS.st {h g k : cz_H} {A R : List eL} {e w : eL} (s : swS h g A (e :: R)) (hw : wt1 true (wtz true false A) e = w) (c1 : ∀ j, j ≠ 4 * A.length + 1 → j ≠ 4 * A.length + 2 → j ≠ 4 * A.length + 3 → qz_I k (gel h) j = qz_I g (gel h) j) (v1 : qz_I k (gel h) (4 * A.length + 1) = w.1) (v2 : qz_I k (gel h) (4 * A.length + 2) = w.2.1) (v3 : qz_I k (gel h) (4 * A.length + 3) = w.2.2.1) (c2 : ∀ j, j ≠ A.length → qz_I k (gfo h) j = qz_I g (gfo h) j) (v4 : qz_I k (gfo h) A.length = w.2.2.2) : swS h k (A ++ [e]) R := by
  have wl := wts_len true A false
  refine ⟨fun j x hj => ?_, fun j x hj => ?_⟩
  · rw [wts_app, show wts true (wtz true false A) [e] = [wt1 true (wtz true false A) e] from rfl, hw] at hj
    by_cases q : j < (wts true false A).length
    · rw [List.getElem?_append_left q] at hj
      rw [c1 _ (by omega) (by omega) (by omega), c1 _ (by omega) (by omega) (by omega), c1 _ (by omega) (by omega) (by omega), c2 _ (by omega)]
      exact s.1 j x hj
    · rw [List.getElem?_append_right (by omega)] at hj
      have e0 : j - (wts true false A).length = 0 := Classical.byContradiction fun q => by rw [List.getElem?_eq_none (by rw [List.length_singleton]; omega)] at hj; cases hj
      rw [e0] at hj; cases hj
      rw [show j = A.length by omega]; exact ⟨v1, v2, v3, v4⟩
  · have := s.2 (j + 1) x hj
    rw [List.length_append, show A.length + [e].length + j = A.length + (j + 1) by rw [List.length_singleton]; omega]
    rw [c1 _ (by omega) (by omega) (by omega), c1 _ (by omega) (by omega) (by omega), c1 _ (by omega) (by omega) (by omega), c1 _ (by omega) (by omega) (by omega)]
    exact this
theorem wt1_b {b : Bool} {e : eL} (h : wtb true b e = true) : wt1 true b e = (0, 0, 0, e.2.1) := by unfold wt1; rw [if_pos rfl, if_pos h]
theorem wt1_z {b : Bool} {e : eL} (h : wtb true b e = false) (h1 : e.2.1 = 0) (h2 : e.2.2.1 = 0) (h3 : e.2.2.2 = 0) : wt1 true b e = (0, 0, 0, 0) := by unfold wt1; rw [if_pos rfl, h, if_neg (by decide), if_pos ⟨h1, h2, h3⟩]
theorem wt1_f {b : Bool} {e : eL} (h : wtb true b e = false) (hn : ¬ (e.2.1 = 0 ∧ e.2.2.1 = 0 ∧ e.2.2.2 = 0)) : wt1 true b e = (e.2.1, e.2.2.1, e.2.2.2, 65535) := by unfold wt1; rw [if_pos rfl, h, if_neg (by decide), if_neg hn]
theorem wtb_0 {b : Bool} {e : eL} (h : e.2.1 = 0) : wtb true b e = b := by unfold wtb; rw [if_pos rfl, if_pos h]
theorem wtb_1 {b : Bool} {e : eL} (h : e.2.1 ≠ 0) : wtb true b e = decide (e.1 = 1) := by unfold wtb; rw [if_pos rfl, if_neg h]
section EzMk
variable {d : Nat} {h : cz_H} {τ : Nat → Nat} {Q : cz_F → Prop} {Ls : List vz} {b : Int} {Cs : List cEo} {B : List Int} {es A W : List eL} {sh : Bool}
theorem rd_kf_b {t st k x p : Int} {g : cz_H} (hBh : ez_B τ h) (t770 : τ 770 = 75) (hBg : ez_B τ g) (hj7 : ∀ j, qz_I g 770 j = qz_I h 770 j) (k0 : 0 ≤ k) (kE : 4 * k + 4 ≤ qz_N g (gel h)) (kF : k < qz_N g (gfo h)) (k9 : k ≤ 36000) (pr : ez_rg p) (kx : ∀ g4, ez_B τ g4 → ez_fr (nz_P2 (gel h) (gfo h)) g g4 → (∀ q, qz_N g4 q = qz_N g q) → (∀ j, j ≠ 4 * (k).toNat + 1 → j ≠ 4 * (k).toNat + 2 → j ≠ 4 * (k).toNat + 3 → qz_I g4 (gel h) j = qz_I g (gel h) j) → qz_I g4 (gel h) (4 * (k).toNat + 1) = 0 → qz_I g4 (gel h) (4 * (k).toNat + 2) = 0 → qz_I g4 (gel h) (4 * (k).toNat + 3) = 0 → (∀ j, j ≠ (k).toNat → qz_I g4 (gfo h) j = qz_I g (gfo h) j) → qz_I g4 (gfo h) (k).toNat = p → ez_W d cm_273 190 [(5, .inl (k)), (4, .inl (x)), (0, .inr (.inr (some (770)))), (1, .inl (t)), (2, .inl (st)), (3, .inl (1))] [] g4 Q) : ez_W d cm_273 131 [(6, .inl (p)), (5, .inl (k)), (4, .inl (x)), (0, .inr (.inr (some (770)))), (1, .inl (t)), (2, .inl (st)), (3, .inl (1))] [] g Q := by
  obtain ⟨pr1, pr2⟩ := id pr
  obtain ⟨-, -, tE, tF, -, -⟩ := ez_tg5 hBh t770
  have nEF : gel h ≠ gfo h := fun e => by rw [e, tF] at tE; cases tE
  have nE7 : 770 ≠ gel h := fun e => by rw [← e, t770] at tE; cases tE
  have nF7 : 770 ≠ gfo h := fun e => by rw [← e, t770] at tF; cases tF
  have pE : nz_P2 (gel h) (gfo h) (gel h) = true := by unfold nz_P2; rw [Nat.beq_refl]; rfl
  have pF : nz_P2 (gel h) (gfo h) (gfo h) = true := by unfold nz_P2; rw [Nat.beq_refl]; exact Bool.or_true _
  have p770 : nz_P2 (gel h) (gfo h) 770 = false := nz_P2_f nE7 nF7
  have e35 : qz_P g 770 35 = gel h := by unfold gel qz_P; rw [hj7]
  have e38 : qz_P g 770 38 = gfo h := by unfold gfo qz_P; rw [hj7]
  refine ez_go (n := 1) (pc' := 132) (L' := [(6, .inl (p)), (5, .inl (k)), (4, .inl (x)), (0, .inr (.inr (some (770)))), (1, .inl (t)), (2, .inl (st)), (3, .inl (1))]) (st' := [.inr (.inr (some (770)))]) rfl ?_
  refine ez_gR hBg t770 rfl rfl tq_75 rfl rfl (fun (t1 : _ = 24) (t1' : 1 ≤ qz_I g 770 38) => ?_)
  rw [show qz_P g 770 38 = gfo h from e38]
  refine ez_go (n := 2) (pc' := 139) (L' := [(6, .inl (p)), (5, .inl (k)), (4, .inl (x)), (0, .inr (.inr (some (770)))), (1, .inl (t)), (2, .inl (st)), (3, .inl (1))]) (st' := [.inl (p), .inl (k), .inr (.inr (some ((gfo h))))]) rfl ?_
  have n4 : 1024 ≤ qz_N g ((gfo h)) ∧ qz_N g ((gfo h)) ≤ 200000 := ez_len hBg tF tq_24 rfl
  refine ez_as hBg tF rfl tq_24 rfl rfl (by omega) (by omega) (ez_vdI rfl rfl (by omega) (by omega)) (fun hB2 w3 => ?_)
  have w1 : qz_I (dz_put g ((gfo h)) (k).toNat (ez_v (.inl (p)))) (gfo h) (k).toNat = p := w3.trans (rz_rd ⟨by omega, by omega⟩)
  have o1 : ∀ q j, ¬ (q = gfo h ∧ j = (k).toNat) → qz_I (dz_put g ((gfo h)) (k).toNat (ez_v (.inl (p)))) q j = qz_I g q j := fun q j hj => ez_put_I hj
  have f1 : ez_fr (nz_P2 (gel h) (gfo h)) g (dz_put g ((gfo h)) (k).toNat (ez_v (.inl (p)))) := (ez_fr.refl (nz_P2 (gel h) (gfo h)) g).put pF _ _
  have n1 : ∀ q, qz_N (dz_put g ((gfo h)) (k).toNat (ez_v (.inl (p)))) q = qz_N g q := fun q => ez_put_N _
  have B1 := hB2
  generalize (dz_put g ((gfo h)) (k).toNat (ez_v (.inl (p)))) = g1 at *
  have e351 : qz_P g1 770 35 = gel h := by unfold gel qz_P; rw [f1.I p770, hj7]
  have e381 : qz_P g1 770 38 = gfo h := by unfold gfo qz_P; rw [f1.I p770, hj7]
  have m81 := n1 (gel h); have m91 := n1 (gfo h)
  refine ez_go (n := 4) (pc' := 146) (L' := [(8, .inl (1)), (6, .inl (p)), (5, .inl (k)), (4, .inl (x)), (0, .inr (.inr (some (770)))), (1, .inl (t)), (2, .inl (st)), (3, .inl (1))]) (st' := [.inl (4), .inl (1)]) rfl ?_
  refine ez_icmp rfl rfl ⟨by decide, by decide⟩ ⟨by decide, by decide⟩ (fun (c5 : (4) ≤ (1 : Int)) => absurd c5 (by decide)) (fun _ => ?_)
  refine ez_go (n := 1) (pc' := 150) (L' := [(8, .inl (1)), (6, .inl (p)), (5, .inl (k)), (4, .inl (x)), (0, .inr (.inr (some (770)))), (1, .inl (t)), (2, .inl (st)), (3, .inl (1))]) (st' := [.inr (.inr (some (770)))]) rfl ?_
  refine ez_gR B1 t770 rfl rfl tq_75 rfl rfl (fun (t6 : _ = 23) (t6' : 1 ≤ qz_I g1 770 35) => ?_)
  rw [show qz_P g1 770 35 = gel h from e351]
  refine ez_go (n := 6) (pc' := 161) (L' := [(8, .inl (1)), (6, .inl (p)), (5, .inl (k)), (4, .inl (x)), (0, .inr (.inr (some (770)))), (1, .inl (t)), (2, .inl (st)), (3, .inl (1))]) (st' := [.inl (0), .inl (((4) * (k)) + (1)), .inr (.inr (some ((gel h))))]) rfl ?_
  have n9 : 1024 ≤ qz_N g1 ((gel h)) ∧ qz_N g1 ((gel h)) ≤ 300000 := ez_len B1 tE tq_23 rfl
  refine ez_as B1 tE rfl tq_23 rfl rfl (by omega) (by omega) (ez_vdI rfl rfl (by omega) (by omega)) (fun hB7 w8 => ?_)
  have w2 : qz_I (dz_put g1 ((gel h)) (((4) * (k)) + (1)).toNat (ez_v (.inl (0)))) (gel h) (((4) * (k)) + (1)).toNat = 0 := w8.trans (rz_rd ⟨by omega, by omega⟩)
  have o2 : ∀ q j, ¬ (q = gel h ∧ j = (((4) * (k)) + (1)).toNat) → qz_I (dz_put g1 ((gel h)) (((4) * (k)) + (1)).toNat (ez_v (.inl (0)))) q j = qz_I g1 q j := fun q j hj => ez_put_I hj
  have f2 : ez_fr (nz_P2 (gel h) (gfo h)) g (dz_put g1 ((gel h)) (((4) * (k)) + (1)).toNat (ez_v (.inl (0)))) := f1.put pE _ _
  have n2 : ∀ q, qz_N (dz_put g1 ((gel h)) (((4) * (k)) + (1)).toNat (ez_v (.inl (0)))) q = qz_N g q := fun q => (ez_put_N _).trans (n1 q)
  have B2 := hB7
  generalize (dz_put g1 ((gel h)) (((4) * (k)) + (1)).toNat (ez_v (.inl (0)))) = g2 at *
  have e352 : qz_P g2 770 35 = gel h := by unfold gel qz_P; rw [f2.I p770, hj7]
  have e382 : qz_P g2 770 38 = gfo h := by unfold gfo qz_P; rw [f2.I p770, hj7]
  have m82 := n2 (gel h); have m92 := n2 (gfo h)
  refine ez_go (n := 4) (pc' := 146) (L' := [(8, .inl (2)), (6, .inl (p)), (5, .inl (k)), (4, .inl (x)), (0, .inr (.inr (some (770)))), (1, .inl (t)), (2, .inl (st)), (3, .inl (1))]) (st' := [.inl (4), .inl (2)]) rfl ?_
  refine ez_icmp rfl rfl ⟨by decide, by decide⟩ ⟨by decide, by decide⟩ (fun (c10 : (4) ≤ (2 : Int)) => absurd c10 (by decide)) (fun _ => ?_)
  refine ez_go (n := 1) (pc' := 150) (L' := [(8, .inl (2)), (6, .inl (p)), (5, .inl (k)), (4, .inl (x)), (0, .inr (.inr (some (770)))), (1, .inl (t)), (2, .inl (st)), (3, .inl (1))]) (st' := [.inr (.inr (some (770)))]) rfl ?_
  refine ez_gR B2 t770 rfl rfl tq_75 rfl rfl (fun (t11 : _ = 23) (t11' : 1 ≤ qz_I g2 770 35) => ?_)
  rw [show qz_P g2 770 35 = gel h from e352]
  refine ez_go (n := 6) (pc' := 161) (L' := [(8, .inl (2)), (6, .inl (p)), (5, .inl (k)), (4, .inl (x)), (0, .inr (.inr (some (770)))), (1, .inl (t)), (2, .inl (st)), (3, .inl (1))]) (st' := [.inl (0), .inl (((4) * (k)) + (2)), .inr (.inr (some ((gel h))))]) rfl ?_
  have n14 : 1024 ≤ qz_N g2 ((gel h)) ∧ qz_N g2 ((gel h)) ≤ 300000 := ez_len B2 tE tq_23 rfl
  refine ez_as B2 tE rfl tq_23 rfl rfl (by omega) (by omega) (ez_vdI rfl rfl (by omega) (by omega)) (fun hB12 w13 => ?_)
  have w3 : qz_I (dz_put g2 ((gel h)) (((4) * (k)) + (2)).toNat (ez_v (.inl (0)))) (gel h) (((4) * (k)) + (2)).toNat = 0 := w13.trans (rz_rd ⟨by omega, by omega⟩)
  have o3 : ∀ q j, ¬ (q = gel h ∧ j = (((4) * (k)) + (2)).toNat) → qz_I (dz_put g2 ((gel h)) (((4) * (k)) + (2)).toNat (ez_v (.inl (0)))) q j = qz_I g2 q j := fun q j hj => ez_put_I hj
  have f3 : ez_fr (nz_P2 (gel h) (gfo h)) g (dz_put g2 ((gel h)) (((4) * (k)) + (2)).toNat (ez_v (.inl (0)))) := f2.put pE _ _
  have n3 : ∀ q, qz_N (dz_put g2 ((gel h)) (((4) * (k)) + (2)).toNat (ez_v (.inl (0)))) q = qz_N g q := fun q => (ez_put_N _).trans (n2 q)
  have B3 := hB12
  generalize (dz_put g2 ((gel h)) (((4) * (k)) + (2)).toNat (ez_v (.inl (0)))) = g3 at *
  have e353 : qz_P g3 770 35 = gel h := by unfold gel qz_P; rw [f3.I p770, hj7]
  have e383 : qz_P g3 770 38 = gfo h := by unfold gfo qz_P; rw [f3.I p770, hj7]
  have m83 := n3 (gel h); have m93 := n3 (gfo h)
  refine ez_go (n := 4) (pc' := 146) (L' := [(8, .inl (3)), (6, .inl (p)), (5, .inl (k)), (4, .inl (x)), (0, .inr (.inr (some (770)))), (1, .inl (t)), (2, .inl (st)), (3, .inl (1))]) (st' := [.inl (4), .inl (3)]) rfl ?_
  refine ez_icmp rfl rfl ⟨by decide, by decide⟩ ⟨by decide, by decide⟩ (fun (c15 : (4) ≤ (3 : Int)) => absurd c15 (by decide)) (fun _ => ?_)
  refine ez_go (n := 1) (pc' := 150) (L' := [(8, .inl (3)), (6, .inl (p)), (5, .inl (k)), (4, .inl (x)), (0, .inr (.inr (some (770)))), (1, .inl (t)), (2, .inl (st)), (3, .inl (1))]) (st' := [.inr (.inr (some (770)))]) rfl ?_
  refine ez_gR B3 t770 rfl rfl tq_75 rfl rfl (fun (t16 : _ = 23) (t16' : 1 ≤ qz_I g3 770 35) => ?_)
  rw [show qz_P g3 770 35 = gel h from e353]
  refine ez_go (n := 6) (pc' := 161) (L' := [(8, .inl (3)), (6, .inl (p)), (5, .inl (k)), (4, .inl (x)), (0, .inr (.inr (some (770)))), (1, .inl (t)), (2, .inl (st)), (3, .inl (1))]) (st' := [.inl (0), .inl (((4) * (k)) + (3)), .inr (.inr (some ((gel h))))]) rfl ?_
  have n19 : 1024 ≤ qz_N g3 ((gel h)) ∧ qz_N g3 ((gel h)) ≤ 300000 := ez_len B3 tE tq_23 rfl
  refine ez_as B3 tE rfl tq_23 rfl rfl (by omega) (by omega) (ez_vdI rfl rfl (by omega) (by omega)) (fun hB17 w18 => ?_)
  have w4 : qz_I (dz_put g3 ((gel h)) (((4) * (k)) + (3)).toNat (ez_v (.inl (0)))) (gel h) (((4) * (k)) + (3)).toNat = 0 := w18.trans (rz_rd ⟨by omega, by omega⟩)
  have o4 : ∀ q j, ¬ (q = gel h ∧ j = (((4) * (k)) + (3)).toNat) → qz_I (dz_put g3 ((gel h)) (((4) * (k)) + (3)).toNat (ez_v (.inl (0)))) q j = qz_I g3 q j := fun q j hj => ez_put_I hj
  have f4 : ez_fr (nz_P2 (gel h) (gfo h)) g (dz_put g3 ((gel h)) (((4) * (k)) + (3)).toNat (ez_v (.inl (0)))) := f3.put pE _ _
  have n4 : ∀ q, qz_N (dz_put g3 ((gel h)) (((4) * (k)) + (3)).toNat (ez_v (.inl (0)))) q = qz_N g q := fun q => (ez_put_N _).trans (n3 q)
  have B4 := hB17
  generalize (dz_put g3 ((gel h)) (((4) * (k)) + (3)).toNat (ez_v (.inl (0)))) = g4 at *
  have e354 : qz_P g4 770 35 = gel h := by unfold gel qz_P; rw [f4.I p770, hj7]
  have e384 : qz_P g4 770 38 = gfo h := by unfold gfo qz_P; rw [f4.I p770, hj7]
  have m84 := n4 (gel h); have m94 := n4 (gfo h)
  refine ez_go (n := 4) (pc' := 146) (L' := [(8, .inl (4)), (6, .inl (p)), (5, .inl (k)), (4, .inl (x)), (0, .inr (.inr (some (770)))), (1, .inl (t)), (2, .inl (st)), (3, .inl (1))]) (st' := [.inl (4), .inl (4)]) rfl ?_
  refine ez_icmp rfl rfl ⟨by decide, by decide⟩ ⟨by decide, by decide⟩ (fun _ => ?_) (fun (c20 : ¬((4 : Int) ≤ (4))) => absurd c20 (by decide))
  refine ez_go (n := 1) (pc' := 190) (L' := [(8, .inl (4)), (6, .inl (p)), (5, .inl (k)), (4, .inl (x)), (0, .inr (.inr (some (770)))), (1, .inl (t)), (2, .inl (st)), (3, .inl (1))]) (st' := []) rfl ?_
  refine ez_less [(5, .inl (k)), (4, .inl (x)), (0, .inr (.inr (some (770)))), (1, .inl (t)), (2, .inl (st)), (3, .inl (1))] rfl ⟨rfl, rfl, rfl, rfl, rfl, rfl, trivial⟩ ?_
  refine kx g4 B4 f4 n4 (fun j j1 j2 j3 => ?_) ?_ ?_ ?_ (fun j jk => ?_) ?_
  · rw [o4 _ _ (fun y => j3 (by have := y.2; omega)), o3 _ _ (fun y => j2 (by have := y.2; omega)), o2 _ _ (fun y => j1 (by have := y.2; omega)), o1 _ _ (fun y => nEF y.1)]
  · rw [o4 _ _ (fun y => by have := y.2; omega), o3 _ _ (fun y => by have := y.2; omega), show 4 * (k).toNat + 1 = (((4) * (k)) + (1)).toNat by omega]; exact w2
  · rw [o4 _ _ (fun y => by have := y.2; omega), show 4 * (k).toNat + 2 = (((4) * (k)) + (2)).toNat by omega]; exact w3
  · rw [show 4 * (k).toNat + 3 = (((4) * (k)) + (3)).toNat by omega]; exact w4
  · rw [o4 _ _ (fun y => nEF y.1.symm), o3 _ _ (fun y => nEF y.1.symm), o2 _ _ (fun y => nEF y.1.symm), o1 _ _ (fun y => jk y.2)]
  · rw [o4 _ _ (fun y => nEF y.1.symm), o3 _ _ (fun y => nEF y.1.symm), o2 _ _ (fun y => nEF y.1.symm)]; exact w1

theorem rd_kf_s {t st : Int} (hBh : ez_B τ h) (t770 : τ 770 = 75) (c36 : qz_I h 770 36 = (es.length : Int)) (l9 : es.length ≤ 36000) (hnE : 4 * (es.length : Int) ≤ qz_N h (gel h)) (hnF : (es.length : Int) ≤ qz_N h (gfo h)) (hok : ∀ e ∈ es, eok e) (kx : ∀ g, ez_B τ g → ez_fr (nz_P2 (gel h) (gfo h)) h g → (∀ q, qz_N g q = qz_N h q) → wet g true (wts true false es) → ez_W d cm_273 196 [(0, .inr (.inr (some (770)))), (1, .inl (t)), (2, .inl (st)), (3, .inl (1))] [] g Q) : ∀ (R A : List eL) (k x : Int) (g : cz_H), es = A ++ R → k = (A.length : Int) → bz (wtz true false A) x → ez_B τ g → ez_fr (nz_P2 (gel h) (gfo h)) h g → (∀ q, qz_N g q = qz_N h q) → swS h g A R → ez_W d cm_273 35 [(5, .inl (k)), (4, .inl (x)), (0, .inr (.inr (some (770)))), (1, .inl (t)), (2, .inl (st)), (3, .inl (1))] [] g Q := by
  obtain ⟨-, -, tE, tF, -, -⟩ := ez_tg5 hBh t770
  have nEF : gel h ≠ gfo h := fun e => by rw [e, tF] at tE; cases tE
  have nE7 : 770 ≠ gel h := fun e => by rw [← e, t770] at tE; cases tE
  have nF7 : 770 ≠ gfo h := fun e => by rw [← e, t770] at tF; cases tF
  have pE : nz_P2 (gel h) (gfo h) (gel h) = true := by unfold nz_P2; rw [Nat.beq_refl]; rfl
  have pF : nz_P2 (gel h) (gfo h) (gfo h) = true := by unfold nz_P2; rw [Nat.beq_refl]; exact Bool.or_true _
  have p770 : nz_P2 (gel h) (gfo h) 770 = false := nz_P2_f nE7 nF7
  intro R
  induction R with
  | nil =>
    intro A k x g hes hk xb hBg hf hN sw
    have hj7 : ∀ j, qz_I g 770 j = qz_I h 770 j := fun j => hf.I p770 j
    have e35 : qz_P g 770 35 = gel h := by unfold gel qz_P; rw [hj7]
    have e38 : qz_P g 770 38 = gfo h := by unfold gfo qz_P; rw [hj7]
    have le : es.length = A.length + 0 := by rw [hes, List.length_append]; rfl
    have nE9 : qz_N g (gel h) = qz_N h (gel h) := hN _
    have nF9 : qz_N g (gfo h) = qz_N h (gfo h) := hN _
    refine ez_go (n := 2) (pc' := 38) (L' := [(5, .inl (k)), (4, .inl (x)), (0, .inr (.inr (some (770)))), (1, .inl (t)), (2, .inl (st)), (3, .inl (1))]) (st' := [.inr (.inr (some (770))), .inl (k)]) rfl ?_
    refine ez_gI hBg t770 rfl rfl tq_75 rfl rfl (fun (b1 : 0 ≤ qz_I g 770 36) (b1' : qz_I g 770 36 ≤ 36000) => ?_)
    rw [show qz_I g 770 36 = (es.length : Int) from (hj7 36).trans c36]
    refine ez_icmp rfl rfl ⟨by first | omega | exact (sz_i32 _).1, by first | omega | exact (sz_i32 _).2⟩ ⟨by first | omega | exact (sz_i32 _).1, by first | omega | exact (sz_i32 _).2⟩ (fun (c2 : ((es.length : Int)) ≤ (k)) => ?_) (fun (c2 : ¬(((es.length : Int)) ≤ (k))) => ?_)
    · skip
      refine ez_less [(0, .inr (.inr (some (770)))), (1, .inl (t)), (2, .inl (st)), (3, .inl (1))] rfl ⟨rfl, rfl, rfl, rfl, trivial⟩ ?_
      rw [List.append_nil] at hes
      subst hes
      refine kx g hBg hf hN ⟨⟨by rw [wts_len]; exact (hj7 36).trans c36, by rw [wts_len, show gel g = gel h from e35, hN]; exact hnE, by rw [wts_len, show gfo g = gfo h from e38, hN]; exact hnF⟩, fun j w hw => ?_⟩
      rw [show gel g = gel h from e35, show gfo g = gfo h from e38]
      obtain ⟨z1, z2, z3, z4⟩ := sw.1 j w hw
      exact ⟨z1, z2, z3, fun _ => z4⟩
    · exfalso; omega
  | cons e R ih =>
    intro A k x g hes hk xb hBg hf hN sw
    have hj7 : ∀ j, qz_I g 770 j = qz_I h 770 j := fun j => hf.I p770 j
    have e35 : qz_P g 770 35 = gel h := by unfold gel qz_P; rw [hj7]
    have e38 : qz_P g 770 38 = gfo h := by unfold gfo qz_P; rw [hj7]
    have le : es.length = A.length + (R.length + 1) := by rw [hes, List.length_append]; rfl
    have nE9 : qz_N g (gel h) = qz_N h (gel h) := hN _
    have nF9 : qz_N g (gfo h) = qz_N h (gfo h) := hN _
    obtain ⟨y0, y1, y2, y3⟩ := sw.2 0 e rfl
    have ek : (k).toNat = A.length := by omega
    obtain ⟨⟨q1, q2⟩, ⟨q3, q4⟩, ⟨q5, q6⟩, q7, q8⟩ := hok e (by rw [hes]; exact List.mem_append_right _ List.mem_cons_self)
    have xb1 : x = 0 ∨ x = 1 := by rcases xb with y | y; (· exact Or.inr y.2); (· exact Or.inl y.2)
    refine ez_go (n := 2) (pc' := 38) (L' := [(5, .inl (k)), (4, .inl (x)), (0, .inr (.inr (some (770)))), (1, .inl (t)), (2, .inl (st)), (3, .inl (1))]) (st' := [.inr (.inr (some (770))), .inl (k)]) rfl ?_
    refine ez_gI hBg t770 rfl rfl tq_75 rfl rfl (fun (b1 : 0 ≤ qz_I g 770 36) (b1' : qz_I g 770 36 ≤ 36000) => ?_)
    rw [show qz_I g 770 36 = (es.length : Int) from (hj7 36).trans c36]
    refine ez_icmp rfl rfl ⟨by first | omega | exact (sz_i32 _).1, by first | omega | exact (sz_i32 _).2⟩ ⟨by first | omega | exact (sz_i32 _).1, by first | omega | exact (sz_i32 _).2⟩ (fun (c2 : ((es.length : Int)) ≤ (k)) => ?_) (fun (c2 : ¬(((es.length : Int)) ≤ (k))) => ?_)
    · exfalso; omega
    · skip
      refine ez_go (n := 1) (pc' := 45) (L' := [(5, .inl (k)), (4, .inl (x)), (0, .inr (.inr (some (770)))), (1, .inl (t)), (2, .inl (st)), (3, .inl (1))]) (st' := [.inl (1)]) rfl ?_
      refine ez_if rfl rfl ⟨by decide, by decide⟩ (fun (c3 : (1 : Int) = (0)) => absurd c3 (by decide)) (fun _ => ?_)
      refine ez_go (n := 1) (pc' := 49) (L' := [(5, .inl (k)), (4, .inl (x)), (0, .inr (.inr (some (770)))), (1, .inl (t)), (2, .inl (st)), (3, .inl (1))]) (st' := [.inr (.inr (some (770)))]) rfl ?_
      refine ez_gR hBg t770 rfl rfl tq_75 rfl rfl (fun (t4 : _ = 23) (t4' : 1 ≤ qz_I g 770 35) => ?_)
      rw [show qz_P g 770 35 = gel h from e35]
      refine ez_go (n := 5) (pc' := 58) (L' := [(5, .inl (k)), (4, .inl (x)), (0, .inr (.inr (some (770)))), (1, .inl (t)), (2, .inl (st)), (3, .inl (1))]) (st' := [.inl (((4) * (k)) + (1)), .inr (.inr (some ((gel h))))]) rfl ?_
      have n6 : 1024 ≤ qz_N g ((gel h)) ∧ qz_N g ((gel h)) ≤ 300000 := ez_len hBg tE tq_23 rfl
      refine ez_aI hBg tE rfl tq_23 rfl rfl (by omega) (by omega) (fun (b5 : -2147483648 ≤ qz_I g ((gel h)) (((4) * (k)) + (1)).toNat) (b5' : qz_I g ((gel h)) (((4) * (k)) + (1)).toNat ≤ 2147483647) => ?_)
      rw [show qz_I g ((gel h)) (((4) * (k)) + (1)).toNat = e.2.1 from by rw [show (((4) * (k)) + (1)).toNat = 4 * (A.length + 0) + 1 by omega]; exact y1]
      refine ez_go (n := 2) (pc' := 63) (L' := [(6, .inl (e.2.1)), (5, .inl (k)), (4, .inl (x)), (0, .inr (.inr (some (770)))), (1, .inl (t)), (2, .inl (st)), (3, .inl (1))]) (st' := [.inl (e.2.1)]) rfl ?_
      refine ez_if rfl rfl ⟨by first | omega | exact (sz_i32 _).1, by first | omega | exact (sz_i32 _).2⟩ (fun (c7 : (e.2.1) ≠ (0)) => ?_) (fun (c7 : ¬((e.2.1) ≠ (0))) => ?_)
      · skip
        refine ez_go (n := 3) (pc' := 103) (L' := [(7, .inl (0)), (6, .inl (e.2.1)), (5, .inl (k)), (4, .inl (x)), (0, .inr (.inr (some (770)))), (1, .inl (t)), (2, .inl (st)), (3, .inl (1))]) (st' := [.inl (e.2.1)]) rfl ?_
        refine ez_if rfl rfl ⟨by first | omega | exact (sz_i32 _).1, by first | omega | exact (sz_i32 _).2⟩ (fun (c8 : (e.2.1) ≤ (0)) => ?_) (fun (c8 : ¬((e.2.1) ≤ (0))) => ?_)
        · skip
          refine ez_go (n := 1) (pc' := 128) (L' := [(7, .inl (0)), (6, .inl (e.2.1)), (5, .inl (k)), (4, .inl (x)), (0, .inr (.inr (some (770)))), (1, .inl (t)), (2, .inl (st)), (3, .inl (1))]) (st' := [.inl (x)]) rfl ?_
          refine ez_if rfl rfl ⟨by first | omega | exact (sz_i32 _).1, by first | omega | exact (sz_i32 _).2⟩ (fun (c9 : (x) = (0)) => ?_) (fun (c9 : ¬((x) = (0))) => ?_)
          · skip
            refine ez_go (n := 1) (pc' := 172) (L' := [(7, .inl (0)), (6, .inl (e.2.1)), (5, .inl (k)), (4, .inl (x)), (0, .inr (.inr (some (770)))), (1, .inl (t)), (2, .inl (st)), (3, .inl (1))]) (st' := [.inr (.inr (some (770)))]) rfl ?_
            refine ez_gR hBg t770 rfl rfl tq_75 rfl rfl (fun (t10 : _ = 24) (t10' : 1 ≤ qz_I g 770 38) => ?_)
            rw [show qz_P g 770 38 = gfo h from e38]
            refine ez_go (n := 2) (pc' := 179) (L' := [(7, .inl (0)), (6, .inl (e.2.1)), (5, .inl (k)), (4, .inl (x)), (0, .inr (.inr (some (770)))), (1, .inl (t)), (2, .inl (st)), (3, .inl (1))]) (st' := [.inl (0), .inl (k), .inr (.inr (some ((gfo h))))]) rfl ?_
            refine ez_if rfl rfl ⟨by decide, by decide⟩ (fun _ => ?_) (fun (c11 : ¬((0 : Int) = (0))) => absurd c11 (by decide))
            refine ez_ldcV (65535) rfl rfl rfl ?_
            have n14 : 1024 ≤ qz_N g ((gfo h)) ∧ qz_N g ((gfo h)) ≤ 200000 := ez_len hBg tF tq_24 rfl
            refine ez_as hBg tF rfl tq_24 rfl rfl (by omega) (by omega) (ez_vdI rfl rfl (by omega) (by omega)) (fun hB12 w13 => ?_)
            refine ez_go (n := 2) (pc' := 35) (L' := [(5, .inl (k + 1)), (7, .inl (0)), (6, .inl (e.2.1)), (4, .inl (x)), (0, .inr (.inr (some (770)))), (1, .inl (t)), (2, .inl (st)), (3, .inl (1))]) (st' := []) rfl ?_
            refine ez_less [(5, .inl (k + 1)), (4, .inl (x)), (0, .inr (.inr (some (770)))), (1, .inl (t)), (2, .inl (st)), (3, .inl (1))] rfl ⟨rfl, rfl, rfl, rfl, rfl, rfl, trivial⟩ ?_
            have w9 : qz_I (dz_put g ((gfo h)) (k).toNat (ez_v (.inl (65535)))) (gfo h) (k).toNat = 65535 := w13.trans (rz_rd ⟨by omega, by omega⟩)
            have o9 : ∀ q j, ¬ (q = gfo h ∧ j = (k).toNat) → qz_I (dz_put g ((gfo h)) (k).toNat (ez_v (.inl (65535)))) q j = qz_I g q j := fun q j hj => ez_put_I hj
            have f9 : ez_fr (nz_P2 (gel h) (gfo h)) h (dz_put g ((gfo h)) (k).toNat (ez_v (.inl (65535)))) := hf.put pF _ _
            have n9 : ∀ q, qz_N (dz_put g ((gfo h)) (k).toNat (ez_v (.inl (65535)))) q = qz_N h q := fun q => (ez_put_N _).trans (hN q)
            have B9 := hB12
            generalize (dz_put g ((gfo h)) (k).toNat (ez_v (.inl (65535)))) = g9 at *
            have wb : wtb true (wtz true false A) e = false := by rw [wtb_0 (by omega)]; exact (xb.resolve_left (fun y => by have := y.2; omega)).1
            rw [ek] at w9
            have sw9 := sw.st (k := g9) (wt1_f wb (by omega)) (fun j _ _ _ => o9 _ _ (fun y => nEF y.1)) ((o9 _ _ (fun y => nEF y.1)).trans y1) ((o9 _ _ (fun y => nEF y.1)).trans y2) ((o9 _ _ (fun y => nEF y.1)).trans y3) (fun j jk => o9 _ _ (fun y => jk (y.2.trans ek))) w9
            exact ih (A ++ [e]) (k + 1) x g9 (by rw [List.append_assoc]; exact hes) (by rw [List.length_append, List.length_singleton]; omega) (Or.inr ⟨by rw [wtz_app]; exact wb, by omega⟩) B9 f9 n9 sw9
          · skip
            refine ez_less [(6, .inl (e.2.1)), (5, .inl (k)), (4, .inl (x)), (0, .inr (.inr (some (770)))), (1, .inl (t)), (2, .inl (st)), (3, .inl (1))] rfl ⟨rfl, rfl, rfl, rfl, rfl, rfl, rfl, trivial⟩ ?_
            refine rd_kf_b hBh t770 hBg hj7 (by omega) (by omega) (by omega) (by omega) ⟨by omega, by omega⟩ (fun g4 B4 f4 n4 c1 v1 v2 v3 c2 v4 => ?_)
            have wb : wtb true (wtz true false A) e = true := by rw [wtb_0 (by omega)]; exact (xb.resolve_right (fun y => by have := y.2; omega)).1
            rw [ek] at c1 v1 v2 v3 c2 v4
            have sw4 := sw.st (wt1_b wb) c1 v1 v2 v3 c2 v4
            refine ez_go (n := 2) (pc' := 35) (L' := [(5, .inl (k + 1)), (4, .inl (x)), (0, .inr (.inr (some (770)))), (1, .inl (t)), (2, .inl (st)), (3, .inl (1))]) (st' := []) rfl ?_
            refine ez_less [(5, .inl (k + 1)), (4, .inl (x)), (0, .inr (.inr (some (770)))), (1, .inl (t)), (2, .inl (st)), (3, .inl (1))] rfl ⟨rfl, rfl, rfl, rfl, rfl, rfl, trivial⟩ ?_
            exact ih (A ++ [e]) (k + 1) x g4 (by rw [List.append_assoc]; exact hes) (by rw [List.length_append, List.length_singleton]; omega) (Or.inl ⟨by rw [wtz_app]; exact wb, by omega⟩) B4 (hf.trans f4) (fun q => (n4 q).trans (hN q)) sw4
        · skip
          refine ez_go (n := 1) (pc' := 107) (L' := [(7, .inl (0)), (6, .inl (e.2.1)), (5, .inl (k)), (4, .inl (x)), (0, .inr (.inr (some (770)))), (1, .inl (t)), (2, .inl (st)), (3, .inl (1))]) (st' := [.inr (.inr (some (770)))]) rfl ?_
          refine ez_gR hBg t770 rfl rfl tq_75 rfl rfl (fun (t15 : _ = 23) (t15' : 1 ≤ qz_I g 770 35) => ?_)
          rw [show qz_P g 770 35 = gel h from e35]
          refine ez_go (n := 3) (pc' := 114) (L' := [(7, .inl (0)), (6, .inl (e.2.1)), (5, .inl (k)), (4, .inl (x)), (0, .inr (.inr (some (770)))), (1, .inl (t)), (2, .inl (st)), (3, .inl (1))]) (st' := [.inl ((4) * (k)), .inr (.inr (some ((gel h))))]) rfl ?_
          have n17 : 1024 ≤ qz_N g ((gel h)) ∧ qz_N g ((gel h)) ≤ 300000 := ez_len hBg tE tq_23 rfl
          refine ez_aI hBg tE rfl tq_23 rfl rfl (by omega) (by omega) (fun (b16 : -2147483648 ≤ qz_I g ((gel h)) ((4) * (k)).toNat) (b16' : qz_I g ((gel h)) ((4) * (k)).toNat ≤ 2147483647) => ?_)
          rw [show qz_I g ((gel h)) ((4) * (k)).toNat = e.1 from by rw [show ((4) * (k)).toNat = 4 * (A.length + 0) by omega]; exact y0]
          refine ez_go (n := 1) (pc' := 116) (L' := [(7, .inl (0)), (6, .inl (e.2.1)), (5, .inl (k)), (4, .inl (x)), (0, .inr (.inr (some (770)))), (1, .inl (t)), (2, .inl (st)), (3, .inl (1))]) (st' := [.inl (1), .inl (e.1)]) rfl ?_
          refine ez_icmp rfl rfl ⟨by first | omega | exact (sz_i32 _).1, by first | omega | exact (sz_i32 _).2⟩ ⟨by first | omega | exact (sz_i32 _).1, by first | omega | exact (sz_i32 _).2⟩ (fun (c18 : (e.1) ≠ (1)) => ?_) (fun (c18 : ¬((e.1) ≠ (1))) => ?_)
          · skip
            refine ez_go (n := 3) (pc' := 128) (L' := [(4, .inl (0)), (7, .inl (0)), (6, .inl (e.2.1)), (5, .inl (k)), (0, .inr (.inr (some (770)))), (1, .inl (t)), (2, .inl (st)), (3, .inl (1))]) (st' := [.inl (0)]) rfl ?_
            refine ez_if rfl rfl ⟨by decide, by decide⟩ (fun _ => ?_) (fun (c19 : ¬((0 : Int) = (0))) => absurd c19 (by decide))
            refine ez_go (n := 1) (pc' := 172) (L' := [(4, .inl (0)), (7, .inl (0)), (6, .inl (e.2.1)), (5, .inl (k)), (0, .inr (.inr (some (770)))), (1, .inl (t)), (2, .inl (st)), (3, .inl (1))]) (st' := [.inr (.inr (some (770)))]) rfl ?_
            refine ez_gR hBg t770 rfl rfl tq_75 rfl rfl (fun (t20 : _ = 24) (t20' : 1 ≤ qz_I g 770 38) => ?_)
            rw [show qz_P g 770 38 = gfo h from e38]
            refine ez_go (n := 2) (pc' := 179) (L' := [(4, .inl (0)), (7, .inl (0)), (6, .inl (e.2.1)), (5, .inl (k)), (0, .inr (.inr (some (770)))), (1, .inl (t)), (2, .inl (st)), (3, .inl (1))]) (st' := [.inl (0), .inl (k), .inr (.inr (some ((gfo h))))]) rfl ?_
            refine ez_if rfl rfl ⟨by decide, by decide⟩ (fun _ => ?_) (fun (c21 : ¬((0 : Int) = (0))) => absurd c21 (by decide))
            refine ez_ldcV (65535) rfl rfl rfl ?_
            have n24 : 1024 ≤ qz_N g ((gfo h)) ∧ qz_N g ((gfo h)) ≤ 200000 := ez_len hBg tF tq_24 rfl
            refine ez_as hBg tF rfl tq_24 rfl rfl (by omega) (by omega) (ez_vdI rfl rfl (by omega) (by omega)) (fun hB22 w23 => ?_)
            refine ez_go (n := 2) (pc' := 35) (L' := [(5, .inl (k + 1)), (4, .inl (0)), (7, .inl (0)), (6, .inl (e.2.1)), (0, .inr (.inr (some (770)))), (1, .inl (t)), (2, .inl (st)), (3, .inl (1))]) (st' := []) rfl ?_
            refine ez_less [(5, .inl (k + 1)), (4, .inl (0)), (0, .inr (.inr (some (770)))), (1, .inl (t)), (2, .inl (st)), (3, .inl (1))] rfl ⟨rfl, rfl, rfl, rfl, rfl, rfl, trivial⟩ ?_
            have w9 : qz_I (dz_put g ((gfo h)) (k).toNat (ez_v (.inl (65535)))) (gfo h) (k).toNat = 65535 := w23.trans (rz_rd ⟨by omega, by omega⟩)
            have o9 : ∀ q j, ¬ (q = gfo h ∧ j = (k).toNat) → qz_I (dz_put g ((gfo h)) (k).toNat (ez_v (.inl (65535)))) q j = qz_I g q j := fun q j hj => ez_put_I hj
            have f9 : ez_fr (nz_P2 (gel h) (gfo h)) h (dz_put g ((gfo h)) (k).toNat (ez_v (.inl (65535)))) := hf.put pF _ _
            have n9 : ∀ q, qz_N (dz_put g ((gfo h)) (k).toNat (ez_v (.inl (65535)))) q = qz_N h q := fun q => (ez_put_N _).trans (hN q)
            have B9 := hB22
            generalize (dz_put g ((gfo h)) (k).toNat (ez_v (.inl (65535)))) = g9 at *
            have wb : wtb true (wtz true false A) e = false := by rw [wtb_1 (by omega)]; exact decide_eq_false (by omega)
            rw [ek] at w9
            have sw9 := sw.st (k := g9) (wt1_f wb (by omega)) (fun j _ _ _ => o9 _ _ (fun y => nEF y.1)) ((o9 _ _ (fun y => nEF y.1)).trans y1) ((o9 _ _ (fun y => nEF y.1)).trans y2) ((o9 _ _ (fun y => nEF y.1)).trans y3) (fun j jk => o9 _ _ (fun y => jk (y.2.trans ek))) w9
            exact ih (A ++ [e]) (k + 1) 0 g9 (by rw [List.append_assoc]; exact hes) (by rw [List.length_append, List.length_singleton]; omega) (Or.inr ⟨by rw [wtz_app]; exact wb, rfl⟩) B9 f9 n9 sw9
          · skip
            refine ez_go (n := 4) (pc' := 128) (L' := [(4, .inl (1)), (7, .inl (0)), (6, .inl (e.2.1)), (5, .inl (k)), (0, .inr (.inr (some (770)))), (1, .inl (t)), (2, .inl (st)), (3, .inl (1))]) (st' := [.inl (1)]) rfl ?_
            refine ez_if rfl rfl ⟨by decide, by decide⟩ (fun (c25 : (1 : Int) = (0)) => absurd c25 (by decide)) (fun _ => ?_)
            refine ez_less [(6, .inl (e.2.1)), (5, .inl (k)), (4, .inl (1)), (0, .inr (.inr (some (770)))), (1, .inl (t)), (2, .inl (st)), (3, .inl (1))] rfl ⟨rfl, rfl, rfl, rfl, rfl, rfl, rfl, trivial⟩ ?_
            refine rd_kf_b hBh t770 hBg hj7 (by omega) (by omega) (by omega) (by omega) ⟨by omega, by omega⟩ (fun g4 B4 f4 n4 c1 v1 v2 v3 c2 v4 => ?_)
            have wb : wtb true (wtz true false A) e = true := by rw [wtb_1 (by omega)]; exact decide_eq_true (by omega)
            rw [ek] at c1 v1 v2 v3 c2 v4
            have sw4 := sw.st (wt1_b wb) c1 v1 v2 v3 c2 v4
            refine ez_go (n := 2) (pc' := 35) (L' := [(5, .inl (k + 1)), (4, .inl (1)), (0, .inr (.inr (some (770)))), (1, .inl (t)), (2, .inl (st)), (3, .inl (1))]) (st' := []) rfl ?_
            refine ez_less [(5, .inl (k + 1)), (4, .inl (1)), (0, .inr (.inr (some (770)))), (1, .inl (t)), (2, .inl (st)), (3, .inl (1))] rfl ⟨rfl, rfl, rfl, rfl, rfl, rfl, trivial⟩ ?_
            exact ih (A ++ [e]) (k + 1) 1 g4 (by rw [List.append_assoc]; exact hes) (by rw [List.length_append, List.length_singleton]; omega) (Or.inl ⟨by rw [wtz_app]; exact wb, rfl⟩) B4 (hf.trans f4) (fun q => (n4 q).trans (hN q)) sw4
      · skip
        refine ez_go (n := 1) (pc' := 67) (L' := [(6, .inl (e.2.1)), (5, .inl (k)), (4, .inl (x)), (0, .inr (.inr (some (770)))), (1, .inl (t)), (2, .inl (st)), (3, .inl (1))]) (st' := [.inr (.inr (some (770)))]) rfl ?_
        refine ez_gR hBg t770 rfl rfl tq_75 rfl rfl (fun (t26 : _ = 23) (t26' : 1 ≤ qz_I g 770 35) => ?_)
        rw [show qz_P g 770 35 = gel h from e35]
        refine ez_go (n := 5) (pc' := 76) (L' := [(6, .inl (e.2.1)), (5, .inl (k)), (4, .inl (x)), (0, .inr (.inr (some (770)))), (1, .inl (t)), (2, .inl (st)), (3, .inl (1))]) (st' := [.inl (((4) * (k)) + (2)), .inr (.inr (some ((gel h))))]) rfl ?_
        have n28 : 1024 ≤ qz_N g ((gel h)) ∧ qz_N g ((gel h)) ≤ 300000 := ez_len hBg tE tq_23 rfl
        refine ez_aI hBg tE rfl tq_23 rfl rfl (by omega) (by omega) (fun (b27 : -2147483648 ≤ qz_I g ((gel h)) (((4) * (k)) + (2)).toNat) (b27' : qz_I g ((gel h)) (((4) * (k)) + (2)).toNat ≤ 2147483647) => ?_)
        rw [show qz_I g ((gel h)) (((4) * (k)) + (2)).toNat = e.2.2.1 from by rw [show (((4) * (k)) + (2)).toNat = 4 * (A.length + 0) + 2 by omega]; exact y2]
        refine ez_if rfl rfl ⟨by first | omega | exact (sz_i32 _).1, by first | omega | exact (sz_i32 _).2⟩ (fun (c29 : (e.2.2.1) ≠ (0)) => ?_) (fun (c29 : ¬((e.2.2.1) ≠ (0))) => ?_)
        · skip
          refine ez_go (n := 3) (pc' := 103) (L' := [(7, .inl (0)), (6, .inl (e.2.1)), (5, .inl (k)), (4, .inl (x)), (0, .inr (.inr (some (770)))), (1, .inl (t)), (2, .inl (st)), (3, .inl (1))]) (st' := [.inl (e.2.1)]) rfl ?_
          refine ez_if rfl rfl ⟨by first | omega | exact (sz_i32 _).1, by first | omega | exact (sz_i32 _).2⟩ (fun (c30 : (e.2.1) ≤ (0)) => ?_) (fun (c30 : ¬((e.2.1) ≤ (0))) => ?_)
          · skip
            refine ez_go (n := 1) (pc' := 128) (L' := [(7, .inl (0)), (6, .inl (e.2.1)), (5, .inl (k)), (4, .inl (x)), (0, .inr (.inr (some (770)))), (1, .inl (t)), (2, .inl (st)), (3, .inl (1))]) (st' := [.inl (x)]) rfl ?_
            refine ez_if rfl rfl ⟨by first | omega | exact (sz_i32 _).1, by first | omega | exact (sz_i32 _).2⟩ (fun (c31 : (x) = (0)) => ?_) (fun (c31 : ¬((x) = (0))) => ?_)
            · skip
              refine ez_go (n := 1) (pc' := 172) (L' := [(7, .inl (0)), (6, .inl (e.2.1)), (5, .inl (k)), (4, .inl (x)), (0, .inr (.inr (some (770)))), (1, .inl (t)), (2, .inl (st)), (3, .inl (1))]) (st' := [.inr (.inr (some (770)))]) rfl ?_
              refine ez_gR hBg t770 rfl rfl tq_75 rfl rfl (fun (t32 : _ = 24) (t32' : 1 ≤ qz_I g 770 38) => ?_)
              rw [show qz_P g 770 38 = gfo h from e38]
              refine ez_go (n := 2) (pc' := 179) (L' := [(7, .inl (0)), (6, .inl (e.2.1)), (5, .inl (k)), (4, .inl (x)), (0, .inr (.inr (some (770)))), (1, .inl (t)), (2, .inl (st)), (3, .inl (1))]) (st' := [.inl (0), .inl (k), .inr (.inr (some ((gfo h))))]) rfl ?_
              refine ez_if rfl rfl ⟨by decide, by decide⟩ (fun _ => ?_) (fun (c33 : ¬((0 : Int) = (0))) => absurd c33 (by decide))
              refine ez_ldcV (65535) rfl rfl rfl ?_
              have n36 : 1024 ≤ qz_N g ((gfo h)) ∧ qz_N g ((gfo h)) ≤ 200000 := ez_len hBg tF tq_24 rfl
              refine ez_as hBg tF rfl tq_24 rfl rfl (by omega) (by omega) (ez_vdI rfl rfl (by omega) (by omega)) (fun hB34 w35 => ?_)
              refine ez_go (n := 2) (pc' := 35) (L' := [(5, .inl (k + 1)), (7, .inl (0)), (6, .inl (e.2.1)), (4, .inl (x)), (0, .inr (.inr (some (770)))), (1, .inl (t)), (2, .inl (st)), (3, .inl (1))]) (st' := []) rfl ?_
              refine ez_less [(5, .inl (k + 1)), (4, .inl (x)), (0, .inr (.inr (some (770)))), (1, .inl (t)), (2, .inl (st)), (3, .inl (1))] rfl ⟨rfl, rfl, rfl, rfl, rfl, rfl, trivial⟩ ?_
              have w9 : qz_I (dz_put g ((gfo h)) (k).toNat (ez_v (.inl (65535)))) (gfo h) (k).toNat = 65535 := w35.trans (rz_rd ⟨by omega, by omega⟩)
              have o9 : ∀ q j, ¬ (q = gfo h ∧ j = (k).toNat) → qz_I (dz_put g ((gfo h)) (k).toNat (ez_v (.inl (65535)))) q j = qz_I g q j := fun q j hj => ez_put_I hj
              have f9 : ez_fr (nz_P2 (gel h) (gfo h)) h (dz_put g ((gfo h)) (k).toNat (ez_v (.inl (65535)))) := hf.put pF _ _
              have n9 : ∀ q, qz_N (dz_put g ((gfo h)) (k).toNat (ez_v (.inl (65535)))) q = qz_N h q := fun q => (ez_put_N _).trans (hN q)
              have B9 := hB34
              generalize (dz_put g ((gfo h)) (k).toNat (ez_v (.inl (65535)))) = g9 at *
              have wb : wtb true (wtz true false A) e = false := by rw [wtb_0 (by omega)]; exact (xb.resolve_left (fun y => by have := y.2; omega)).1
              rw [ek] at w9
              have sw9 := sw.st (k := g9) (wt1_f wb (by omega)) (fun j _ _ _ => o9 _ _ (fun y => nEF y.1)) ((o9 _ _ (fun y => nEF y.1)).trans y1) ((o9 _ _ (fun y => nEF y.1)).trans y2) ((o9 _ _ (fun y => nEF y.1)).trans y3) (fun j jk => o9 _ _ (fun y => jk (y.2.trans ek))) w9
              exact ih (A ++ [e]) (k + 1) x g9 (by rw [List.append_assoc]; exact hes) (by rw [List.length_append, List.length_singleton]; omega) (Or.inr ⟨by rw [wtz_app]; exact wb, by omega⟩) B9 f9 n9 sw9
            · skip
              refine ez_less [(6, .inl (e.2.1)), (5, .inl (k)), (4, .inl (x)), (0, .inr (.inr (some (770)))), (1, .inl (t)), (2, .inl (st)), (3, .inl (1))] rfl ⟨rfl, rfl, rfl, rfl, rfl, rfl, rfl, trivial⟩ ?_
              refine rd_kf_b hBh t770 hBg hj7 (by omega) (by omega) (by omega) (by omega) ⟨by omega, by omega⟩ (fun g4 B4 f4 n4 c1 v1 v2 v3 c2 v4 => ?_)
              have wb : wtb true (wtz true false A) e = true := by rw [wtb_0 (by omega)]; exact (xb.resolve_right (fun y => by have := y.2; omega)).1
              rw [ek] at c1 v1 v2 v3 c2 v4
              have sw4 := sw.st (wt1_b wb) c1 v1 v2 v3 c2 v4
              refine ez_go (n := 2) (pc' := 35) (L' := [(5, .inl (k + 1)), (4, .inl (x)), (0, .inr (.inr (some (770)))), (1, .inl (t)), (2, .inl (st)), (3, .inl (1))]) (st' := []) rfl ?_
              refine ez_less [(5, .inl (k + 1)), (4, .inl (x)), (0, .inr (.inr (some (770)))), (1, .inl (t)), (2, .inl (st)), (3, .inl (1))] rfl ⟨rfl, rfl, rfl, rfl, rfl, rfl, trivial⟩ ?_
              exact ih (A ++ [e]) (k + 1) x g4 (by rw [List.append_assoc]; exact hes) (by rw [List.length_append, List.length_singleton]; omega) (Or.inl ⟨by rw [wtz_app]; exact wb, by omega⟩) B4 (hf.trans f4) (fun q => (n4 q).trans (hN q)) sw4
          · skip
            refine ez_go (n := 1) (pc' := 107) (L' := [(7, .inl (0)), (6, .inl (e.2.1)), (5, .inl (k)), (4, .inl (x)), (0, .inr (.inr (some (770)))), (1, .inl (t)), (2, .inl (st)), (3, .inl (1))]) (st' := [.inr (.inr (some (770)))]) rfl ?_
            refine ez_gR hBg t770 rfl rfl tq_75 rfl rfl (fun (t37 : _ = 23) (t37' : 1 ≤ qz_I g 770 35) => ?_)
            rw [show qz_P g 770 35 = gel h from e35]
            refine ez_go (n := 3) (pc' := 114) (L' := [(7, .inl (0)), (6, .inl (e.2.1)), (5, .inl (k)), (4, .inl (x)), (0, .inr (.inr (some (770)))), (1, .inl (t)), (2, .inl (st)), (3, .inl (1))]) (st' := [.inl ((4) * (k)), .inr (.inr (some ((gel h))))]) rfl ?_
            have n39 : 1024 ≤ qz_N g ((gel h)) ∧ qz_N g ((gel h)) ≤ 300000 := ez_len hBg tE tq_23 rfl
            refine ez_aI hBg tE rfl tq_23 rfl rfl (by omega) (by omega) (fun (b38 : -2147483648 ≤ qz_I g ((gel h)) ((4) * (k)).toNat) (b38' : qz_I g ((gel h)) ((4) * (k)).toNat ≤ 2147483647) => ?_)
            rw [show qz_I g ((gel h)) ((4) * (k)).toNat = e.1 from by rw [show ((4) * (k)).toNat = 4 * (A.length + 0) by omega]; exact y0]
            refine ez_go (n := 1) (pc' := 116) (L' := [(7, .inl (0)), (6, .inl (e.2.1)), (5, .inl (k)), (4, .inl (x)), (0, .inr (.inr (some (770)))), (1, .inl (t)), (2, .inl (st)), (3, .inl (1))]) (st' := [.inl (1), .inl (e.1)]) rfl ?_
            refine ez_icmp rfl rfl ⟨by first | omega | exact (sz_i32 _).1, by first | omega | exact (sz_i32 _).2⟩ ⟨by first | omega | exact (sz_i32 _).1, by first | omega | exact (sz_i32 _).2⟩ (fun (c40 : (e.1) ≠ (1)) => ?_) (fun (c40 : ¬((e.1) ≠ (1))) => ?_)
            · skip
              refine ez_go (n := 3) (pc' := 128) (L' := [(4, .inl (0)), (7, .inl (0)), (6, .inl (e.2.1)), (5, .inl (k)), (0, .inr (.inr (some (770)))), (1, .inl (t)), (2, .inl (st)), (3, .inl (1))]) (st' := [.inl (0)]) rfl ?_
              refine ez_if rfl rfl ⟨by decide, by decide⟩ (fun _ => ?_) (fun (c41 : ¬((0 : Int) = (0))) => absurd c41 (by decide))
              refine ez_go (n := 1) (pc' := 172) (L' := [(4, .inl (0)), (7, .inl (0)), (6, .inl (e.2.1)), (5, .inl (k)), (0, .inr (.inr (some (770)))), (1, .inl (t)), (2, .inl (st)), (3, .inl (1))]) (st' := [.inr (.inr (some (770)))]) rfl ?_
              refine ez_gR hBg t770 rfl rfl tq_75 rfl rfl (fun (t42 : _ = 24) (t42' : 1 ≤ qz_I g 770 38) => ?_)
              rw [show qz_P g 770 38 = gfo h from e38]
              refine ez_go (n := 2) (pc' := 179) (L' := [(4, .inl (0)), (7, .inl (0)), (6, .inl (e.2.1)), (5, .inl (k)), (0, .inr (.inr (some (770)))), (1, .inl (t)), (2, .inl (st)), (3, .inl (1))]) (st' := [.inl (0), .inl (k), .inr (.inr (some ((gfo h))))]) rfl ?_
              refine ez_if rfl rfl ⟨by decide, by decide⟩ (fun _ => ?_) (fun (c43 : ¬((0 : Int) = (0))) => absurd c43 (by decide))
              refine ez_ldcV (65535) rfl rfl rfl ?_
              have n46 : 1024 ≤ qz_N g ((gfo h)) ∧ qz_N g ((gfo h)) ≤ 200000 := ez_len hBg tF tq_24 rfl
              refine ez_as hBg tF rfl tq_24 rfl rfl (by omega) (by omega) (ez_vdI rfl rfl (by omega) (by omega)) (fun hB44 w45 => ?_)
              refine ez_go (n := 2) (pc' := 35) (L' := [(5, .inl (k + 1)), (4, .inl (0)), (7, .inl (0)), (6, .inl (e.2.1)), (0, .inr (.inr (some (770)))), (1, .inl (t)), (2, .inl (st)), (3, .inl (1))]) (st' := []) rfl ?_
              refine ez_less [(5, .inl (k + 1)), (4, .inl (0)), (0, .inr (.inr (some (770)))), (1, .inl (t)), (2, .inl (st)), (3, .inl (1))] rfl ⟨rfl, rfl, rfl, rfl, rfl, rfl, trivial⟩ ?_
              have w9 : qz_I (dz_put g ((gfo h)) (k).toNat (ez_v (.inl (65535)))) (gfo h) (k).toNat = 65535 := w45.trans (rz_rd ⟨by omega, by omega⟩)
              have o9 : ∀ q j, ¬ (q = gfo h ∧ j = (k).toNat) → qz_I (dz_put g ((gfo h)) (k).toNat (ez_v (.inl (65535)))) q j = qz_I g q j := fun q j hj => ez_put_I hj
              have f9 : ez_fr (nz_P2 (gel h) (gfo h)) h (dz_put g ((gfo h)) (k).toNat (ez_v (.inl (65535)))) := hf.put pF _ _
              have n9 : ∀ q, qz_N (dz_put g ((gfo h)) (k).toNat (ez_v (.inl (65535)))) q = qz_N h q := fun q => (ez_put_N _).trans (hN q)
              have B9 := hB44
              generalize (dz_put g ((gfo h)) (k).toNat (ez_v (.inl (65535)))) = g9 at *
              have wb : wtb true (wtz true false A) e = false := by rw [wtb_1 (by omega)]; exact decide_eq_false (by omega)
              rw [ek] at w9
              have sw9 := sw.st (k := g9) (wt1_f wb (by omega)) (fun j _ _ _ => o9 _ _ (fun y => nEF y.1)) ((o9 _ _ (fun y => nEF y.1)).trans y1) ((o9 _ _ (fun y => nEF y.1)).trans y2) ((o9 _ _ (fun y => nEF y.1)).trans y3) (fun j jk => o9 _ _ (fun y => jk (y.2.trans ek))) w9
              exact ih (A ++ [e]) (k + 1) 0 g9 (by rw [List.append_assoc]; exact hes) (by rw [List.length_append, List.length_singleton]; omega) (Or.inr ⟨by rw [wtz_app]; exact wb, rfl⟩) B9 f9 n9 sw9
            · skip
              refine ez_go (n := 4) (pc' := 128) (L' := [(4, .inl (1)), (7, .inl (0)), (6, .inl (e.2.1)), (5, .inl (k)), (0, .inr (.inr (some (770)))), (1, .inl (t)), (2, .inl (st)), (3, .inl (1))]) (st' := [.inl (1)]) rfl ?_
              refine ez_if rfl rfl ⟨by decide, by decide⟩ (fun (c47 : (1 : Int) = (0)) => absurd c47 (by decide)) (fun _ => ?_)
              refine ez_less [(6, .inl (e.2.1)), (5, .inl (k)), (4, .inl (1)), (0, .inr (.inr (some (770)))), (1, .inl (t)), (2, .inl (st)), (3, .inl (1))] rfl ⟨rfl, rfl, rfl, rfl, rfl, rfl, rfl, trivial⟩ ?_
              refine rd_kf_b hBh t770 hBg hj7 (by omega) (by omega) (by omega) (by omega) ⟨by omega, by omega⟩ (fun g4 B4 f4 n4 c1 v1 v2 v3 c2 v4 => ?_)
              have wb : wtb true (wtz true false A) e = true := by rw [wtb_1 (by omega)]; exact decide_eq_true (by omega)
              rw [ek] at c1 v1 v2 v3 c2 v4
              have sw4 := sw.st (wt1_b wb) c1 v1 v2 v3 c2 v4
              refine ez_go (n := 2) (pc' := 35) (L' := [(5, .inl (k + 1)), (4, .inl (1)), (0, .inr (.inr (some (770)))), (1, .inl (t)), (2, .inl (st)), (3, .inl (1))]) (st' := []) rfl ?_
              refine ez_less [(5, .inl (k + 1)), (4, .inl (1)), (0, .inr (.inr (some (770)))), (1, .inl (t)), (2, .inl (st)), (3, .inl (1))] rfl ⟨rfl, rfl, rfl, rfl, rfl, rfl, trivial⟩ ?_
              exact ih (A ++ [e]) (k + 1) 1 g4 (by rw [List.append_assoc]; exact hes) (by rw [List.length_append, List.length_singleton]; omega) (Or.inl ⟨by rw [wtz_app]; exact wb, rfl⟩) B4 (hf.trans f4) (fun q => (n4 q).trans (hN q)) sw4
        · skip
          refine ez_go (n := 1) (pc' := 81) (L' := [(6, .inl (e.2.1)), (5, .inl (k)), (4, .inl (x)), (0, .inr (.inr (some (770)))), (1, .inl (t)), (2, .inl (st)), (3, .inl (1))]) (st' := [.inr (.inr (some (770)))]) rfl ?_
          refine ez_gR hBg t770 rfl rfl tq_75 rfl rfl (fun (t48 : _ = 23) (t48' : 1 ≤ qz_I g 770 35) => ?_)
          rw [show qz_P g 770 35 = gel h from e35]
          refine ez_go (n := 5) (pc' := 90) (L' := [(6, .inl (e.2.1)), (5, .inl (k)), (4, .inl (x)), (0, .inr (.inr (some (770)))), (1, .inl (t)), (2, .inl (st)), (3, .inl (1))]) (st' := [.inl (((4) * (k)) + (3)), .inr (.inr (some ((gel h))))]) rfl ?_
          have n50 : 1024 ≤ qz_N g ((gel h)) ∧ qz_N g ((gel h)) ≤ 300000 := ez_len hBg tE tq_23 rfl
          refine ez_aI hBg tE rfl tq_23 rfl rfl (by omega) (by omega) (fun (b49 : -2147483648 ≤ qz_I g ((gel h)) (((4) * (k)) + (3)).toNat) (b49' : qz_I g ((gel h)) (((4) * (k)) + (3)).toNat ≤ 2147483647) => ?_)
          rw [show qz_I g ((gel h)) (((4) * (k)) + (3)).toNat = e.2.2.2 from by rw [show (((4) * (k)) + (3)).toNat = 4 * (A.length + 0) + 3 by omega]; exact y3]
          refine ez_if rfl rfl ⟨by first | omega | exact (sz_i32 _).1, by first | omega | exact (sz_i32 _).2⟩ (fun (c51 : (e.2.2.2) ≠ (0)) => ?_) (fun (c51 : ¬((e.2.2.2) ≠ (0))) => ?_)
          · skip
            refine ez_go (n := 3) (pc' := 103) (L' := [(7, .inl (0)), (6, .inl (e.2.1)), (5, .inl (k)), (4, .inl (x)), (0, .inr (.inr (some (770)))), (1, .inl (t)), (2, .inl (st)), (3, .inl (1))]) (st' := [.inl (e.2.1)]) rfl ?_
            refine ez_if rfl rfl ⟨by first | omega | exact (sz_i32 _).1, by first | omega | exact (sz_i32 _).2⟩ (fun (c52 : (e.2.1) ≤ (0)) => ?_) (fun (c52 : ¬((e.2.1) ≤ (0))) => ?_)
            · skip
              refine ez_go (n := 1) (pc' := 128) (L' := [(7, .inl (0)), (6, .inl (e.2.1)), (5, .inl (k)), (4, .inl (x)), (0, .inr (.inr (some (770)))), (1, .inl (t)), (2, .inl (st)), (3, .inl (1))]) (st' := [.inl (x)]) rfl ?_
              refine ez_if rfl rfl ⟨by first | omega | exact (sz_i32 _).1, by first | omega | exact (sz_i32 _).2⟩ (fun (c53 : (x) = (0)) => ?_) (fun (c53 : ¬((x) = (0))) => ?_)
              · skip
                refine ez_go (n := 1) (pc' := 172) (L' := [(7, .inl (0)), (6, .inl (e.2.1)), (5, .inl (k)), (4, .inl (x)), (0, .inr (.inr (some (770)))), (1, .inl (t)), (2, .inl (st)), (3, .inl (1))]) (st' := [.inr (.inr (some (770)))]) rfl ?_
                refine ez_gR hBg t770 rfl rfl tq_75 rfl rfl (fun (t54 : _ = 24) (t54' : 1 ≤ qz_I g 770 38) => ?_)
                rw [show qz_P g 770 38 = gfo h from e38]
                refine ez_go (n := 2) (pc' := 179) (L' := [(7, .inl (0)), (6, .inl (e.2.1)), (5, .inl (k)), (4, .inl (x)), (0, .inr (.inr (some (770)))), (1, .inl (t)), (2, .inl (st)), (3, .inl (1))]) (st' := [.inl (0), .inl (k), .inr (.inr (some ((gfo h))))]) rfl ?_
                refine ez_if rfl rfl ⟨by decide, by decide⟩ (fun _ => ?_) (fun (c55 : ¬((0 : Int) = (0))) => absurd c55 (by decide))
                refine ez_ldcV (65535) rfl rfl rfl ?_
                have n58 : 1024 ≤ qz_N g ((gfo h)) ∧ qz_N g ((gfo h)) ≤ 200000 := ez_len hBg tF tq_24 rfl
                refine ez_as hBg tF rfl tq_24 rfl rfl (by omega) (by omega) (ez_vdI rfl rfl (by omega) (by omega)) (fun hB56 w57 => ?_)
                refine ez_go (n := 2) (pc' := 35) (L' := [(5, .inl (k + 1)), (7, .inl (0)), (6, .inl (e.2.1)), (4, .inl (x)), (0, .inr (.inr (some (770)))), (1, .inl (t)), (2, .inl (st)), (3, .inl (1))]) (st' := []) rfl ?_
                refine ez_less [(5, .inl (k + 1)), (4, .inl (x)), (0, .inr (.inr (some (770)))), (1, .inl (t)), (2, .inl (st)), (3, .inl (1))] rfl ⟨rfl, rfl, rfl, rfl, rfl, rfl, trivial⟩ ?_
                have w9 : qz_I (dz_put g ((gfo h)) (k).toNat (ez_v (.inl (65535)))) (gfo h) (k).toNat = 65535 := w57.trans (rz_rd ⟨by omega, by omega⟩)
                have o9 : ∀ q j, ¬ (q = gfo h ∧ j = (k).toNat) → qz_I (dz_put g ((gfo h)) (k).toNat (ez_v (.inl (65535)))) q j = qz_I g q j := fun q j hj => ez_put_I hj
                have f9 : ez_fr (nz_P2 (gel h) (gfo h)) h (dz_put g ((gfo h)) (k).toNat (ez_v (.inl (65535)))) := hf.put pF _ _
                have n9 : ∀ q, qz_N (dz_put g ((gfo h)) (k).toNat (ez_v (.inl (65535)))) q = qz_N h q := fun q => (ez_put_N _).trans (hN q)
                have B9 := hB56
                generalize (dz_put g ((gfo h)) (k).toNat (ez_v (.inl (65535)))) = g9 at *
                have wb : wtb true (wtz true false A) e = false := by rw [wtb_0 (by omega)]; exact (xb.resolve_left (fun y => by have := y.2; omega)).1
                rw [ek] at w9
                have sw9 := sw.st (k := g9) (wt1_f wb (by omega)) (fun j _ _ _ => o9 _ _ (fun y => nEF y.1)) ((o9 _ _ (fun y => nEF y.1)).trans y1) ((o9 _ _ (fun y => nEF y.1)).trans y2) ((o9 _ _ (fun y => nEF y.1)).trans y3) (fun j jk => o9 _ _ (fun y => jk (y.2.trans ek))) w9
                exact ih (A ++ [e]) (k + 1) x g9 (by rw [List.append_assoc]; exact hes) (by rw [List.length_append, List.length_singleton]; omega) (Or.inr ⟨by rw [wtz_app]; exact wb, by omega⟩) B9 f9 n9 sw9
              · skip
                refine ez_less [(6, .inl (e.2.1)), (5, .inl (k)), (4, .inl (x)), (0, .inr (.inr (some (770)))), (1, .inl (t)), (2, .inl (st)), (3, .inl (1))] rfl ⟨rfl, rfl, rfl, rfl, rfl, rfl, rfl, trivial⟩ ?_
                refine rd_kf_b hBh t770 hBg hj7 (by omega) (by omega) (by omega) (by omega) ⟨by omega, by omega⟩ (fun g4 B4 f4 n4 c1 v1 v2 v3 c2 v4 => ?_)
                have wb : wtb true (wtz true false A) e = true := by rw [wtb_0 (by omega)]; exact (xb.resolve_right (fun y => by have := y.2; omega)).1
                rw [ek] at c1 v1 v2 v3 c2 v4
                have sw4 := sw.st (wt1_b wb) c1 v1 v2 v3 c2 v4
                refine ez_go (n := 2) (pc' := 35) (L' := [(5, .inl (k + 1)), (4, .inl (x)), (0, .inr (.inr (some (770)))), (1, .inl (t)), (2, .inl (st)), (3, .inl (1))]) (st' := []) rfl ?_
                refine ez_less [(5, .inl (k + 1)), (4, .inl (x)), (0, .inr (.inr (some (770)))), (1, .inl (t)), (2, .inl (st)), (3, .inl (1))] rfl ⟨rfl, rfl, rfl, rfl, rfl, rfl, trivial⟩ ?_
                exact ih (A ++ [e]) (k + 1) x g4 (by rw [List.append_assoc]; exact hes) (by rw [List.length_append, List.length_singleton]; omega) (Or.inl ⟨by rw [wtz_app]; exact wb, by omega⟩) B4 (hf.trans f4) (fun q => (n4 q).trans (hN q)) sw4
            · skip
              refine ez_go (n := 1) (pc' := 107) (L' := [(7, .inl (0)), (6, .inl (e.2.1)), (5, .inl (k)), (4, .inl (x)), (0, .inr (.inr (some (770)))), (1, .inl (t)), (2, .inl (st)), (3, .inl (1))]) (st' := [.inr (.inr (some (770)))]) rfl ?_
              refine ez_gR hBg t770 rfl rfl tq_75 rfl rfl (fun (t59 : _ = 23) (t59' : 1 ≤ qz_I g 770 35) => ?_)
              rw [show qz_P g 770 35 = gel h from e35]
              refine ez_go (n := 3) (pc' := 114) (L' := [(7, .inl (0)), (6, .inl (e.2.1)), (5, .inl (k)), (4, .inl (x)), (0, .inr (.inr (some (770)))), (1, .inl (t)), (2, .inl (st)), (3, .inl (1))]) (st' := [.inl ((4) * (k)), .inr (.inr (some ((gel h))))]) rfl ?_
              have n61 : 1024 ≤ qz_N g ((gel h)) ∧ qz_N g ((gel h)) ≤ 300000 := ez_len hBg tE tq_23 rfl
              refine ez_aI hBg tE rfl tq_23 rfl rfl (by omega) (by omega) (fun (b60 : -2147483648 ≤ qz_I g ((gel h)) ((4) * (k)).toNat) (b60' : qz_I g ((gel h)) ((4) * (k)).toNat ≤ 2147483647) => ?_)
              rw [show qz_I g ((gel h)) ((4) * (k)).toNat = e.1 from by rw [show ((4) * (k)).toNat = 4 * (A.length + 0) by omega]; exact y0]
              refine ez_go (n := 1) (pc' := 116) (L' := [(7, .inl (0)), (6, .inl (e.2.1)), (5, .inl (k)), (4, .inl (x)), (0, .inr (.inr (some (770)))), (1, .inl (t)), (2, .inl (st)), (3, .inl (1))]) (st' := [.inl (1), .inl (e.1)]) rfl ?_
              refine ez_icmp rfl rfl ⟨by first | omega | exact (sz_i32 _).1, by first | omega | exact (sz_i32 _).2⟩ ⟨by first | omega | exact (sz_i32 _).1, by first | omega | exact (sz_i32 _).2⟩ (fun (c62 : (e.1) ≠ (1)) => ?_) (fun (c62 : ¬((e.1) ≠ (1))) => ?_)
              · skip
                refine ez_go (n := 3) (pc' := 128) (L' := [(4, .inl (0)), (7, .inl (0)), (6, .inl (e.2.1)), (5, .inl (k)), (0, .inr (.inr (some (770)))), (1, .inl (t)), (2, .inl (st)), (3, .inl (1))]) (st' := [.inl (0)]) rfl ?_
                refine ez_if rfl rfl ⟨by decide, by decide⟩ (fun _ => ?_) (fun (c63 : ¬((0 : Int) = (0))) => absurd c63 (by decide))
                refine ez_go (n := 1) (pc' := 172) (L' := [(4, .inl (0)), (7, .inl (0)), (6, .inl (e.2.1)), (5, .inl (k)), (0, .inr (.inr (some (770)))), (1, .inl (t)), (2, .inl (st)), (3, .inl (1))]) (st' := [.inr (.inr (some (770)))]) rfl ?_
                refine ez_gR hBg t770 rfl rfl tq_75 rfl rfl (fun (t64 : _ = 24) (t64' : 1 ≤ qz_I g 770 38) => ?_)
                rw [show qz_P g 770 38 = gfo h from e38]
                refine ez_go (n := 2) (pc' := 179) (L' := [(4, .inl (0)), (7, .inl (0)), (6, .inl (e.2.1)), (5, .inl (k)), (0, .inr (.inr (some (770)))), (1, .inl (t)), (2, .inl (st)), (3, .inl (1))]) (st' := [.inl (0), .inl (k), .inr (.inr (some ((gfo h))))]) rfl ?_
                refine ez_if rfl rfl ⟨by decide, by decide⟩ (fun _ => ?_) (fun (c65 : ¬((0 : Int) = (0))) => absurd c65 (by decide))
                refine ez_ldcV (65535) rfl rfl rfl ?_
                have n68 : 1024 ≤ qz_N g ((gfo h)) ∧ qz_N g ((gfo h)) ≤ 200000 := ez_len hBg tF tq_24 rfl
                refine ez_as hBg tF rfl tq_24 rfl rfl (by omega) (by omega) (ez_vdI rfl rfl (by omega) (by omega)) (fun hB66 w67 => ?_)
                refine ez_go (n := 2) (pc' := 35) (L' := [(5, .inl (k + 1)), (4, .inl (0)), (7, .inl (0)), (6, .inl (e.2.1)), (0, .inr (.inr (some (770)))), (1, .inl (t)), (2, .inl (st)), (3, .inl (1))]) (st' := []) rfl ?_
                refine ez_less [(5, .inl (k + 1)), (4, .inl (0)), (0, .inr (.inr (some (770)))), (1, .inl (t)), (2, .inl (st)), (3, .inl (1))] rfl ⟨rfl, rfl, rfl, rfl, rfl, rfl, trivial⟩ ?_
                have w9 : qz_I (dz_put g ((gfo h)) (k).toNat (ez_v (.inl (65535)))) (gfo h) (k).toNat = 65535 := w67.trans (rz_rd ⟨by omega, by omega⟩)
                have o9 : ∀ q j, ¬ (q = gfo h ∧ j = (k).toNat) → qz_I (dz_put g ((gfo h)) (k).toNat (ez_v (.inl (65535)))) q j = qz_I g q j := fun q j hj => ez_put_I hj
                have f9 : ez_fr (nz_P2 (gel h) (gfo h)) h (dz_put g ((gfo h)) (k).toNat (ez_v (.inl (65535)))) := hf.put pF _ _
                have n9 : ∀ q, qz_N (dz_put g ((gfo h)) (k).toNat (ez_v (.inl (65535)))) q = qz_N h q := fun q => (ez_put_N _).trans (hN q)
                have B9 := hB66
                generalize (dz_put g ((gfo h)) (k).toNat (ez_v (.inl (65535)))) = g9 at *
                have wb : wtb true (wtz true false A) e = false := by rw [wtb_1 (by omega)]; exact decide_eq_false (by omega)
                rw [ek] at w9
                have sw9 := sw.st (k := g9) (wt1_f wb (by omega)) (fun j _ _ _ => o9 _ _ (fun y => nEF y.1)) ((o9 _ _ (fun y => nEF y.1)).trans y1) ((o9 _ _ (fun y => nEF y.1)).trans y2) ((o9 _ _ (fun y => nEF y.1)).trans y3) (fun j jk => o9 _ _ (fun y => jk (y.2.trans ek))) w9
                exact ih (A ++ [e]) (k + 1) 0 g9 (by rw [List.append_assoc]; exact hes) (by rw [List.length_append, List.length_singleton]; omega) (Or.inr ⟨by rw [wtz_app]; exact wb, rfl⟩) B9 f9 n9 sw9
              · skip
                refine ez_go (n := 4) (pc' := 128) (L' := [(4, .inl (1)), (7, .inl (0)), (6, .inl (e.2.1)), (5, .inl (k)), (0, .inr (.inr (some (770)))), (1, .inl (t)), (2, .inl (st)), (3, .inl (1))]) (st' := [.inl (1)]) rfl ?_
                refine ez_if rfl rfl ⟨by decide, by decide⟩ (fun (c69 : (1 : Int) = (0)) => absurd c69 (by decide)) (fun _ => ?_)
                refine ez_less [(6, .inl (e.2.1)), (5, .inl (k)), (4, .inl (1)), (0, .inr (.inr (some (770)))), (1, .inl (t)), (2, .inl (st)), (3, .inl (1))] rfl ⟨rfl, rfl, rfl, rfl, rfl, rfl, rfl, trivial⟩ ?_
                refine rd_kf_b hBh t770 hBg hj7 (by omega) (by omega) (by omega) (by omega) ⟨by omega, by omega⟩ (fun g4 B4 f4 n4 c1 v1 v2 v3 c2 v4 => ?_)
                have wb : wtb true (wtz true false A) e = true := by rw [wtb_1 (by omega)]; exact decide_eq_true (by omega)
                rw [ek] at c1 v1 v2 v3 c2 v4
                have sw4 := sw.st (wt1_b wb) c1 v1 v2 v3 c2 v4
                refine ez_go (n := 2) (pc' := 35) (L' := [(5, .inl (k + 1)), (4, .inl (1)), (0, .inr (.inr (some (770)))), (1, .inl (t)), (2, .inl (st)), (3, .inl (1))]) (st' := []) rfl ?_
                refine ez_less [(5, .inl (k + 1)), (4, .inl (1)), (0, .inr (.inr (some (770)))), (1, .inl (t)), (2, .inl (st)), (3, .inl (1))] rfl ⟨rfl, rfl, rfl, rfl, rfl, rfl, trivial⟩ ?_
                exact ih (A ++ [e]) (k + 1) 1 g4 (by rw [List.append_assoc]; exact hes) (by rw [List.length_append, List.length_singleton]; omega) (Or.inl ⟨by rw [wtz_app]; exact wb, rfl⟩) B4 (hf.trans f4) (fun q => (n4 q).trans (hN q)) sw4
          · skip
            refine ez_go (n := 4) (pc' := 103) (L' := [(7, .inl (1)), (6, .inl (e.2.1)), (5, .inl (k)), (4, .inl (x)), (0, .inr (.inr (some (770)))), (1, .inl (t)), (2, .inl (st)), (3, .inl (1))]) (st' := [.inl (e.2.1)]) rfl ?_
            refine ez_if rfl rfl ⟨by first | omega | exact (sz_i32 _).1, by first | omega | exact (sz_i32 _).2⟩ (fun (c70 : (e.2.1) ≤ (0)) => ?_) (fun (c70 : ¬((e.2.1) ≤ (0))) => ?_)
            · skip
              refine ez_go (n := 1) (pc' := 128) (L' := [(7, .inl (1)), (6, .inl (e.2.1)), (5, .inl (k)), (4, .inl (x)), (0, .inr (.inr (some (770)))), (1, .inl (t)), (2, .inl (st)), (3, .inl (1))]) (st' := [.inl (x)]) rfl ?_
              refine ez_if rfl rfl ⟨by first | omega | exact (sz_i32 _).1, by first | omega | exact (sz_i32 _).2⟩ (fun (c71 : (x) = (0)) => ?_) (fun (c71 : ¬((x) = (0))) => ?_)
              · skip
                refine ez_go (n := 1) (pc' := 172) (L' := [(7, .inl (1)), (6, .inl (e.2.1)), (5, .inl (k)), (4, .inl (x)), (0, .inr (.inr (some (770)))), (1, .inl (t)), (2, .inl (st)), (3, .inl (1))]) (st' := [.inr (.inr (some (770)))]) rfl ?_
                refine ez_gR hBg t770 rfl rfl tq_75 rfl rfl (fun (t72 : _ = 24) (t72' : 1 ≤ qz_I g 770 38) => ?_)
                rw [show qz_P g 770 38 = gfo h from e38]
                refine ez_go (n := 2) (pc' := 179) (L' := [(7, .inl (1)), (6, .inl (e.2.1)), (5, .inl (k)), (4, .inl (x)), (0, .inr (.inr (some (770)))), (1, .inl (t)), (2, .inl (st)), (3, .inl (1))]) (st' := [.inl (1), .inl (k), .inr (.inr (some ((gfo h))))]) rfl ?_
                refine ez_if rfl rfl ⟨by decide, by decide⟩ (fun (c73 : (1 : Int) = (0)) => absurd c73 (by decide)) (fun _ => ?_)
                refine ez_go (n := 2) (pc' := 189) (L' := [(7, .inl (1)), (6, .inl (e.2.1)), (5, .inl (k)), (4, .inl (x)), (0, .inr (.inr (some (770)))), (1, .inl (t)), (2, .inl (st)), (3, .inl (1))]) (st' := [.inl (0), .inl (k), .inr (.inr (some ((gfo h))))]) rfl ?_
                have n76 : 1024 ≤ qz_N g ((gfo h)) ∧ qz_N g ((gfo h)) ≤ 200000 := ez_len hBg tF tq_24 rfl
                refine ez_as hBg tF rfl tq_24 rfl rfl (by omega) (by omega) (ez_vdI rfl rfl (by omega) (by omega)) (fun hB74 w75 => ?_)
                refine ez_go (n := 2) (pc' := 35) (L' := [(5, .inl (k + 1)), (7, .inl (1)), (6, .inl (e.2.1)), (4, .inl (x)), (0, .inr (.inr (some (770)))), (1, .inl (t)), (2, .inl (st)), (3, .inl (1))]) (st' := []) rfl ?_
                refine ez_less [(5, .inl (k + 1)), (4, .inl (x)), (0, .inr (.inr (some (770)))), (1, .inl (t)), (2, .inl (st)), (3, .inl (1))] rfl ⟨rfl, rfl, rfl, rfl, rfl, rfl, trivial⟩ ?_
                have w9 : qz_I (dz_put g ((gfo h)) (k).toNat (ez_v (.inl (0)))) (gfo h) (k).toNat = 0 := w75.trans (rz_rd ⟨by omega, by omega⟩)
                have o9 : ∀ q j, ¬ (q = gfo h ∧ j = (k).toNat) → qz_I (dz_put g ((gfo h)) (k).toNat (ez_v (.inl (0)))) q j = qz_I g q j := fun q j hj => ez_put_I hj
                have f9 : ez_fr (nz_P2 (gel h) (gfo h)) h (dz_put g ((gfo h)) (k).toNat (ez_v (.inl (0)))) := hf.put pF _ _
                have n9 : ∀ q, qz_N (dz_put g ((gfo h)) (k).toNat (ez_v (.inl (0)))) q = qz_N h q := fun q => (ez_put_N _).trans (hN q)
                have B9 := hB74
                generalize (dz_put g ((gfo h)) (k).toNat (ez_v (.inl (0)))) = g9 at *
                have wb : wtb true (wtz true false A) e = false := by rw [wtb_0 (by omega)]; exact (xb.resolve_left (fun y => by have := y.2; omega)).1
                rw [ek] at w9
                have sw9 := sw.st (k := g9) (wt1_z wb (by omega) (by omega) (by omega)) (fun j _ _ _ => o9 _ _ (fun y => nEF y.1)) ((o9 _ _ (fun y => nEF y.1)).trans (y1.trans (show e.2.1 = 0 by omega))) ((o9 _ _ (fun y => nEF y.1)).trans (y2.trans (show e.2.2.1 = 0 by omega))) ((o9 _ _ (fun y => nEF y.1)).trans (y3.trans (show e.2.2.2 = 0 by omega))) (fun j jk => o9 _ _ (fun y => jk (y.2.trans ek))) w9
                exact ih (A ++ [e]) (k + 1) x g9 (by rw [List.append_assoc]; exact hes) (by rw [List.length_append, List.length_singleton]; omega) (Or.inr ⟨by rw [wtz_app]; exact wb, by omega⟩) B9 f9 n9 sw9
              · skip
                refine ez_less [(6, .inl (e.2.1)), (5, .inl (k)), (4, .inl (x)), (0, .inr (.inr (some (770)))), (1, .inl (t)), (2, .inl (st)), (3, .inl (1))] rfl ⟨rfl, rfl, rfl, rfl, rfl, rfl, rfl, trivial⟩ ?_
                refine rd_kf_b hBh t770 hBg hj7 (by omega) (by omega) (by omega) (by omega) ⟨by omega, by omega⟩ (fun g4 B4 f4 n4 c1 v1 v2 v3 c2 v4 => ?_)
                have wb : wtb true (wtz true false A) e = true := by rw [wtb_0 (by omega)]; exact (xb.resolve_right (fun y => by have := y.2; omega)).1
                rw [ek] at c1 v1 v2 v3 c2 v4
                have sw4 := sw.st (wt1_b wb) c1 v1 v2 v3 c2 v4
                refine ez_go (n := 2) (pc' := 35) (L' := [(5, .inl (k + 1)), (4, .inl (x)), (0, .inr (.inr (some (770)))), (1, .inl (t)), (2, .inl (st)), (3, .inl (1))]) (st' := []) rfl ?_
                refine ez_less [(5, .inl (k + 1)), (4, .inl (x)), (0, .inr (.inr (some (770)))), (1, .inl (t)), (2, .inl (st)), (3, .inl (1))] rfl ⟨rfl, rfl, rfl, rfl, rfl, rfl, trivial⟩ ?_
                exact ih (A ++ [e]) (k + 1) x g4 (by rw [List.append_assoc]; exact hes) (by rw [List.length_append, List.length_singleton]; omega) (Or.inl ⟨by rw [wtz_app]; exact wb, by omega⟩) B4 (hf.trans f4) (fun q => (n4 q).trans (hN q)) sw4
            · skip
              refine ez_go (n := 1) (pc' := 107) (L' := [(7, .inl (1)), (6, .inl (e.2.1)), (5, .inl (k)), (4, .inl (x)), (0, .inr (.inr (some (770)))), (1, .inl (t)), (2, .inl (st)), (3, .inl (1))]) (st' := [.inr (.inr (some (770)))]) rfl ?_
              refine ez_gR hBg t770 rfl rfl tq_75 rfl rfl (fun (t77 : _ = 23) (t77' : 1 ≤ qz_I g 770 35) => ?_)
              rw [show qz_P g 770 35 = gel h from e35]
              refine ez_go (n := 3) (pc' := 114) (L' := [(7, .inl (1)), (6, .inl (e.2.1)), (5, .inl (k)), (4, .inl (x)), (0, .inr (.inr (some (770)))), (1, .inl (t)), (2, .inl (st)), (3, .inl (1))]) (st' := [.inl ((4) * (k)), .inr (.inr (some ((gel h))))]) rfl ?_
              have n79 : 1024 ≤ qz_N g ((gel h)) ∧ qz_N g ((gel h)) ≤ 300000 := ez_len hBg tE tq_23 rfl
              refine ez_aI hBg tE rfl tq_23 rfl rfl (by omega) (by omega) (fun (b78 : -2147483648 ≤ qz_I g ((gel h)) ((4) * (k)).toNat) (b78' : qz_I g ((gel h)) ((4) * (k)).toNat ≤ 2147483647) => ?_)
              rw [show qz_I g ((gel h)) ((4) * (k)).toNat = e.1 from by rw [show ((4) * (k)).toNat = 4 * (A.length + 0) by omega]; exact y0]
              refine ez_go (n := 1) (pc' := 116) (L' := [(7, .inl (1)), (6, .inl (e.2.1)), (5, .inl (k)), (4, .inl (x)), (0, .inr (.inr (some (770)))), (1, .inl (t)), (2, .inl (st)), (3, .inl (1))]) (st' := [.inl (1), .inl (e.1)]) rfl ?_
              refine ez_icmp rfl rfl ⟨by first | omega | exact (sz_i32 _).1, by first | omega | exact (sz_i32 _).2⟩ ⟨by first | omega | exact (sz_i32 _).1, by first | omega | exact (sz_i32 _).2⟩ (fun (c80 : (e.1) ≠ (1)) => ?_) (fun (c80 : ¬((e.1) ≠ (1))) => ?_)
              · skip
                refine ez_go (n := 3) (pc' := 128) (L' := [(4, .inl (0)), (7, .inl (1)), (6, .inl (e.2.1)), (5, .inl (k)), (0, .inr (.inr (some (770)))), (1, .inl (t)), (2, .inl (st)), (3, .inl (1))]) (st' := [.inl (0)]) rfl ?_
                refine ez_if rfl rfl ⟨by decide, by decide⟩ (fun _ => ?_) (fun (c81 : ¬((0 : Int) = (0))) => absurd c81 (by decide))
                refine ez_go (n := 1) (pc' := 172) (L' := [(4, .inl (0)), (7, .inl (1)), (6, .inl (e.2.1)), (5, .inl (k)), (0, .inr (.inr (some (770)))), (1, .inl (t)), (2, .inl (st)), (3, .inl (1))]) (st' := [.inr (.inr (some (770)))]) rfl ?_
                refine ez_gR hBg t770 rfl rfl tq_75 rfl rfl (fun (t82 : _ = 24) (t82' : 1 ≤ qz_I g 770 38) => ?_)
                rw [show qz_P g 770 38 = gfo h from e38]
                refine ez_go (n := 2) (pc' := 179) (L' := [(4, .inl (0)), (7, .inl (1)), (6, .inl (e.2.1)), (5, .inl (k)), (0, .inr (.inr (some (770)))), (1, .inl (t)), (2, .inl (st)), (3, .inl (1))]) (st' := [.inl (1), .inl (k), .inr (.inr (some ((gfo h))))]) rfl ?_
                refine ez_if rfl rfl ⟨by decide, by decide⟩ (fun (c83 : (1 : Int) = (0)) => absurd c83 (by decide)) (fun _ => ?_)
                refine ez_go (n := 2) (pc' := 189) (L' := [(4, .inl (0)), (7, .inl (1)), (6, .inl (e.2.1)), (5, .inl (k)), (0, .inr (.inr (some (770)))), (1, .inl (t)), (2, .inl (st)), (3, .inl (1))]) (st' := [.inl (0), .inl (k), .inr (.inr (some ((gfo h))))]) rfl ?_
                have n86 : 1024 ≤ qz_N g ((gfo h)) ∧ qz_N g ((gfo h)) ≤ 200000 := ez_len hBg tF tq_24 rfl
                refine ez_as hBg tF rfl tq_24 rfl rfl (by omega) (by omega) (ez_vdI rfl rfl (by omega) (by omega)) (fun hB84 w85 => ?_)
                refine ez_go (n := 2) (pc' := 35) (L' := [(5, .inl (k + 1)), (4, .inl (0)), (7, .inl (1)), (6, .inl (e.2.1)), (0, .inr (.inr (some (770)))), (1, .inl (t)), (2, .inl (st)), (3, .inl (1))]) (st' := []) rfl ?_
                refine ez_less [(5, .inl (k + 1)), (4, .inl (0)), (0, .inr (.inr (some (770)))), (1, .inl (t)), (2, .inl (st)), (3, .inl (1))] rfl ⟨rfl, rfl, rfl, rfl, rfl, rfl, trivial⟩ ?_
                have w9 : qz_I (dz_put g ((gfo h)) (k).toNat (ez_v (.inl (0)))) (gfo h) (k).toNat = 0 := w85.trans (rz_rd ⟨by omega, by omega⟩)
                have o9 : ∀ q j, ¬ (q = gfo h ∧ j = (k).toNat) → qz_I (dz_put g ((gfo h)) (k).toNat (ez_v (.inl (0)))) q j = qz_I g q j := fun q j hj => ez_put_I hj
                have f9 : ez_fr (nz_P2 (gel h) (gfo h)) h (dz_put g ((gfo h)) (k).toNat (ez_v (.inl (0)))) := hf.put pF _ _
                have n9 : ∀ q, qz_N (dz_put g ((gfo h)) (k).toNat (ez_v (.inl (0)))) q = qz_N h q := fun q => (ez_put_N _).trans (hN q)
                have B9 := hB84
                generalize (dz_put g ((gfo h)) (k).toNat (ez_v (.inl (0)))) = g9 at *
                have wb : wtb true (wtz true false A) e = false := by rw [wtb_1 (by omega)]; exact decide_eq_false (by omega)
                rw [ek] at w9
                have sw9 := sw.st (k := g9) (wt1_z wb (by omega) (by omega) (by omega)) (fun j _ _ _ => o9 _ _ (fun y => nEF y.1)) ((o9 _ _ (fun y => nEF y.1)).trans (y1.trans (show e.2.1 = 0 by omega))) ((o9 _ _ (fun y => nEF y.1)).trans (y2.trans (show e.2.2.1 = 0 by omega))) ((o9 _ _ (fun y => nEF y.1)).trans (y3.trans (show e.2.2.2 = 0 by omega))) (fun j jk => o9 _ _ (fun y => jk (y.2.trans ek))) w9
                exact ih (A ++ [e]) (k + 1) 0 g9 (by rw [List.append_assoc]; exact hes) (by rw [List.length_append, List.length_singleton]; omega) (Or.inr ⟨by rw [wtz_app]; exact wb, rfl⟩) B9 f9 n9 sw9
              · skip
                refine ez_go (n := 4) (pc' := 128) (L' := [(4, .inl (1)), (7, .inl (1)), (6, .inl (e.2.1)), (5, .inl (k)), (0, .inr (.inr (some (770)))), (1, .inl (t)), (2, .inl (st)), (3, .inl (1))]) (st' := [.inl (1)]) rfl ?_
                refine ez_if rfl rfl ⟨by decide, by decide⟩ (fun (c87 : (1 : Int) = (0)) => absurd c87 (by decide)) (fun _ => ?_)
                refine ez_less [(6, .inl (e.2.1)), (5, .inl (k)), (4, .inl (1)), (0, .inr (.inr (some (770)))), (1, .inl (t)), (2, .inl (st)), (3, .inl (1))] rfl ⟨rfl, rfl, rfl, rfl, rfl, rfl, rfl, trivial⟩ ?_
                refine rd_kf_b hBh t770 hBg hj7 (by omega) (by omega) (by omega) (by omega) ⟨by omega, by omega⟩ (fun g4 B4 f4 n4 c1 v1 v2 v3 c2 v4 => ?_)
                have wb : wtb true (wtz true false A) e = true := by rw [wtb_1 (by omega)]; exact decide_eq_true (by omega)
                rw [ek] at c1 v1 v2 v3 c2 v4
                have sw4 := sw.st (wt1_b wb) c1 v1 v2 v3 c2 v4
                refine ez_go (n := 2) (pc' := 35) (L' := [(5, .inl (k + 1)), (4, .inl (1)), (0, .inr (.inr (some (770)))), (1, .inl (t)), (2, .inl (st)), (3, .inl (1))]) (st' := []) rfl ?_
                refine ez_less [(5, .inl (k + 1)), (4, .inl (1)), (0, .inr (.inr (some (770)))), (1, .inl (t)), (2, .inl (st)), (3, .inl (1))] rfl ⟨rfl, rfl, rfl, rfl, rfl, rfl, trivial⟩ ?_
                exact ih (A ++ [e]) (k + 1) 1 g4 (by rw [List.append_assoc]; exact hes) (by rw [List.length_append, List.length_singleton]; omega) (Or.inl ⟨by rw [wtz_app]; exact wb, rfl⟩) B4 (hf.trans f4) (fun q => (n4 q).trans (hN q)) sw4

theorem rd_kf_l1 {t st lv : Int} (hBh : ez_B τ h) (hX : jz_X τ) (dk : got h ≠ gke h) (we : wet h true W) (W9 : wps W) (wl : W.length ≤ 36000) (bl : B.length + W.length ≤ 145000) (lv1 : 1 ≤ lv) (lv3 : lv ≤ 3) (rm : rmc h) (kx : ∀ g τ1, ez_B τ1 g → nw τ h τ1 g → kyt g (B ++ lev W (lv - 1).toNat) → ez_W (d + 1) cm_273 276 [(5, .inl (lv)), (0, .inr (.inr (some (770)))), (1, .inl (t)), (2, .inl (st)), (3, .inl (1))] [] g Q) : ∀ (m : Nat) (k : Int) (g : cz_H) (τ1 : Nat → Nat), m = ((W.length : Int) - k).toNat → 0 ≤ k → k ≤ (W.length : Int) → ez_B τ1 g → nw τ h τ1 g → kyt g (B ++ lev (W.take k.toNat) (lv - 1).toNat) → ez_W (d + 1) cm_273 230 [(6, .inl (k)), (5, .inl (lv)), (0, .inr (.inr (some (770)))), (1, .inl (t)), (2, .inl (st)), (3, .inl (1))] [] g Q := by
  intro m
  induction m with
  | zero =>
    intro k g τ1 hm0 k0 k1 hBg hn ky
    have ng9 := hn.ng hBh hX dk
    have Xg := ng9.1.X hX
    have u770 : τ1 770 = 75 := Xg 770 (by decide)
    have wg := hn.wet hBh hX we
    obtain ⟨-, -, tE, tF, -, -⟩ := ez_tg5 hBg u770
    have rg := rmc_rd hBg Xg (ng9.1.rm rm)
    have wgl := wg.1.2.1
    have lb : (lev (W.take k.toNat) (lv - 1).toNat).length ≤ W.length := by unfold lev; refine Nat.le_trans (List.length_filter_le _ _) ?_; rw [List.length_map, List.length_take]; omega
    refine ez_go (n := 2) (pc' := 233) (L' := [(6, .inl (k)), (5, .inl (lv)), (0, .inr (.inr (some (770)))), (1, .inl (t)), (2, .inl (st)), (3, .inl (1))]) (st' := [.inr (.inr (some (770))), .inl (k)]) rfl ?_
    refine ez_gI hBg u770 rfl rfl tq_75 rfl rfl (fun (b1 : 0 ≤ qz_I g 770 36) (b1' : qz_I g 770 36 ≤ 36000) => ?_)
    rw [show qz_I g 770 36 = (W.length : Int) from wg.1.1]
    refine ez_icmp rfl rfl ⟨by first | omega | exact (sz_i32 _).1, by first | omega | exact (sz_i32 _).2⟩ ⟨by first | omega | exact (sz_i32 _).1, by first | omega | exact (sz_i32 _).2⟩ (fun (c2 : ((W.length : Int)) ≤ (k)) => ?_) (fun (c2 : ¬(((W.length : Int)) ≤ (k))) => ?_)
    · skip
      refine ez_less [(5, .inl (lv)), (0, .inr (.inr (some (770)))), (1, .inl (t)), (2, .inl (st)), (3, .inl (1))] rfl ⟨rfl, rfl, rfl, rfl, rfl, trivial⟩ ?_
      rw [List.take_of_length_le (by omega)] at ky
      exact kx g τ1 hBg hn ky
    · skip
      refine ez_go (n := 1) (pc' := 240) (L' := [(6, .inl (k)), (5, .inl (lv)), (0, .inr (.inr (some (770)))), (1, .inl (t)), (2, .inl (st)), (3, .inl (1))]) (st' := [.inr (.inr (some (770)))]) rfl ?_
      refine ez_gR hBg u770 rfl rfl tq_75 rfl rfl (fun (t3 : _ = 23) (t3' : 1 ≤ qz_I g 770 35) => ?_)
      rw [show qz_P g 770 35 = gel g from rfl]
      refine ez_go (n := 5) (pc' := 250) (L' := [(6, .inl (k)), (5, .inl (lv)), (0, .inr (.inr (some (770)))), (1, .inl (t)), (2, .inl (st)), (3, .inl (1))]) (st' := [.inl (((4) * (k)) + (lv)), .inr (.inr (some (gel g)))]) rfl ?_
      have n5 : 1024 ≤ qz_N g (gel g) ∧ qz_N g (gel g) ≤ 300000 := ez_len hBg tE tq_23 rfl
      refine ez_aI hBg tE rfl tq_23 rfl rfl (by omega) (by omega) (fun (b4 : -2147483648 ≤ qz_I g (gel g) (((4) * (k)) + (lv)).toNat) (b4' : qz_I g (gel g) (((4) * (k)) + (lv)).toNat ≤ 2147483647) => ?_)
      have l8 : (k).toNat < W.length := by omega
      have hw := List.getElem?_eq_getElem l8
      have wb := wk_bd (W9 _ (List.getElem_mem l8)) (lv - 1).toNat
      rw [show qz_I g (gel g) (((4) * (k)) + (lv)).toNat = wk W[(k).toNat] (lv - 1).toNat from wg.at (by omega) hw (by omega) (by omega)]
      refine ez_if rfl rfl ⟨by first | omega | exact (sz_i32 _).1, by first | omega | exact (sz_i32 _).2⟩ (fun (c6 : (wk W[(k).toNat] (lv - 1).toNat) = (0)) => ?_) (fun (c6 : ¬((wk W[(k).toNat] (lv - 1).toNat) = (0))) => ?_)
      · skip
        refine ez_go (n := 2) (pc' := 230) (L' := [(6, .inl (k + 1)), (5, .inl (lv)), (0, .inr (.inr (some (770)))), (1, .inl (t)), (2, .inl (st)), (3, .inl (1))]) (st' := []) rfl ?_
        exfalso; omega
      · skip
        refine ez_go (n := 2) (pc' := 256) (L' := [(6, .inl (k)), (5, .inl (lv)), (0, .inr (.inr (some (770)))), (1, .inl (t)), (2, .inl (st)), (3, .inl (1))]) (st' := [.inr (.inr (some (770))), .inr (.inr (some (770)))]) rfl ?_
        refine ez_gR hBg u770 rfl rfl tq_75 rfl rfl (fun (t7 : _ = 23) (t7' : 1 ≤ qz_I g 770 35) => ?_)
        rw [show qz_P g 770 35 = gel g from rfl]
        refine ez_go (n := 5) (pc' := 266) (L' := [(6, .inl (k)), (5, .inl (lv)), (0, .inr (.inr (some (770)))), (1, .inl (t)), (2, .inl (st)), (3, .inl (1))]) (st' := [.inl (((4) * (k)) + (lv)), .inr (.inr (some (gel g))), .inr (.inr (some (770)))]) rfl ?_
        have n9 : 1024 ≤ qz_N g (gel g) ∧ qz_N g (gel g) ≤ 300000 := ez_len hBg tE tq_23 rfl
        refine ez_aI hBg tE rfl tq_23 rfl rfl (by omega) (by omega) (fun (b8 : -2147483648 ≤ qz_I g (gel g) (((4) * (k)) + (lv)).toNat) (b8' : qz_I g (gel g) (((4) * (k)) + (lv)).toNat ≤ 2147483647) => ?_)
        rw [show qz_I g (gel g) (((4) * (k)) + (lv)).toNat = wk W[(k).toNat] (lv - 1).toNat from wg.at (by omega) hw (by omega) (by omega)]
        refine ez_cv hBg u770 rfl rfl rfl tq_75 rfl rfl rfl (rd_mw hBg u770 ky (by rw [List.length_append]; omega) (by omega) (by omega) (by omega) (by omega) (fun g2 τ2 B2 n2 ky2 => ez_K0 ?_))
        have nn := hn.trans n2
        refine ez_go (n := 2) (pc' := 230) (L' := [(6, .inl (k + 1)), (5, .inl (lv)), (0, .inr (.inr (some (770)))), (1, .inl (t)), (2, .inl (st)), (3, .inl (1))]) (st' := []) rfl ?_
        exfalso; omega
  | succ m ih =>
    intro k g τ1 hm0 k0 k1 hBg hn ky
    have ng9 := hn.ng hBh hX dk
    have Xg := ng9.1.X hX
    have u770 : τ1 770 = 75 := Xg 770 (by decide)
    have wg := hn.wet hBh hX we
    obtain ⟨-, -, tE, tF, -, -⟩ := ez_tg5 hBg u770
    have rg := rmc_rd hBg Xg (ng9.1.rm rm)
    have wgl := wg.1.2.1
    have lb : (lev (W.take k.toNat) (lv - 1).toNat).length ≤ W.length := by unfold lev; refine Nat.le_trans (List.length_filter_le _ _) ?_; rw [List.length_map, List.length_take]; omega
    refine ez_go (n := 2) (pc' := 233) (L' := [(6, .inl (k)), (5, .inl (lv)), (0, .inr (.inr (some (770)))), (1, .inl (t)), (2, .inl (st)), (3, .inl (1))]) (st' := [.inr (.inr (some (770))), .inl (k)]) rfl ?_
    refine ez_gI hBg u770 rfl rfl tq_75 rfl rfl (fun (b1 : 0 ≤ qz_I g 770 36) (b1' : qz_I g 770 36 ≤ 36000) => ?_)
    rw [show qz_I g 770 36 = (W.length : Int) from wg.1.1]
    refine ez_icmp rfl rfl ⟨by first | omega | exact (sz_i32 _).1, by first | omega | exact (sz_i32 _).2⟩ ⟨by first | omega | exact (sz_i32 _).1, by first | omega | exact (sz_i32 _).2⟩ (fun (c2 : ((W.length : Int)) ≤ (k)) => ?_) (fun (c2 : ¬(((W.length : Int)) ≤ (k))) => ?_)
    · skip
      refine ez_less [(5, .inl (lv)), (0, .inr (.inr (some (770)))), (1, .inl (t)), (2, .inl (st)), (3, .inl (1))] rfl ⟨rfl, rfl, rfl, rfl, rfl, trivial⟩ ?_
      rw [List.take_of_length_le (by omega)] at ky
      exact kx g τ1 hBg hn ky
    · skip
      refine ez_go (n := 1) (pc' := 240) (L' := [(6, .inl (k)), (5, .inl (lv)), (0, .inr (.inr (some (770)))), (1, .inl (t)), (2, .inl (st)), (3, .inl (1))]) (st' := [.inr (.inr (some (770)))]) rfl ?_
      refine ez_gR hBg u770 rfl rfl tq_75 rfl rfl (fun (t3 : _ = 23) (t3' : 1 ≤ qz_I g 770 35) => ?_)
      rw [show qz_P g 770 35 = gel g from rfl]
      refine ez_go (n := 5) (pc' := 250) (L' := [(6, .inl (k)), (5, .inl (lv)), (0, .inr (.inr (some (770)))), (1, .inl (t)), (2, .inl (st)), (3, .inl (1))]) (st' := [.inl (((4) * (k)) + (lv)), .inr (.inr (some (gel g)))]) rfl ?_
      have n5 : 1024 ≤ qz_N g (gel g) ∧ qz_N g (gel g) ≤ 300000 := ez_len hBg tE tq_23 rfl
      refine ez_aI hBg tE rfl tq_23 rfl rfl (by omega) (by omega) (fun (b4 : -2147483648 ≤ qz_I g (gel g) (((4) * (k)) + (lv)).toNat) (b4' : qz_I g (gel g) (((4) * (k)) + (lv)).toNat ≤ 2147483647) => ?_)
      have l8 : (k).toNat < W.length := by omega
      have hw := List.getElem?_eq_getElem l8
      have wb := wk_bd (W9 _ (List.getElem_mem l8)) (lv - 1).toNat
      rw [show qz_I g (gel g) (((4) * (k)) + (lv)).toNat = wk W[(k).toNat] (lv - 1).toNat from wg.at (by omega) hw (by omega) (by omega)]
      refine ez_if rfl rfl ⟨by first | omega | exact (sz_i32 _).1, by first | omega | exact (sz_i32 _).2⟩ (fun (c6 : (wk W[(k).toNat] (lv - 1).toNat) = (0)) => ?_) (fun (c6 : ¬((wk W[(k).toNat] (lv - 1).toNat) = (0))) => ?_)
      · skip
        refine ez_go (n := 2) (pc' := 230) (L' := [(6, .inl (k + 1)), (5, .inl (lv)), (0, .inr (.inr (some (770)))), (1, .inl (t)), (2, .inl (st)), (3, .inl (1))]) (st' := []) rfl ?_
        refine ez_less [(6, .inl (k + 1)), (5, .inl (lv)), (0, .inr (.inr (some (770)))), (1, .inl (t)), (2, .inl (st)), (3, .inl (1))] rfl ⟨rfl, rfl, rfl, rfl, rfl, rfl, trivial⟩ ?_
        exact ih (k + 1) g τ1 (by omega) (by omega) (by omega) hBg hn (by rw [show (k + 1).toNat = k.toNat + 1 by omega, lev_tk hw, if_pos (by omega), List.append_nil]; exact ky)
      · skip
        refine ez_go (n := 2) (pc' := 256) (L' := [(6, .inl (k)), (5, .inl (lv)), (0, .inr (.inr (some (770)))), (1, .inl (t)), (2, .inl (st)), (3, .inl (1))]) (st' := [.inr (.inr (some (770))), .inr (.inr (some (770)))]) rfl ?_
        refine ez_gR hBg u770 rfl rfl tq_75 rfl rfl (fun (t7 : _ = 23) (t7' : 1 ≤ qz_I g 770 35) => ?_)
        rw [show qz_P g 770 35 = gel g from rfl]
        refine ez_go (n := 5) (pc' := 266) (L' := [(6, .inl (k)), (5, .inl (lv)), (0, .inr (.inr (some (770)))), (1, .inl (t)), (2, .inl (st)), (3, .inl (1))]) (st' := [.inl (((4) * (k)) + (lv)), .inr (.inr (some (gel g))), .inr (.inr (some (770)))]) rfl ?_
        have n9 : 1024 ≤ qz_N g (gel g) ∧ qz_N g (gel g) ≤ 300000 := ez_len hBg tE tq_23 rfl
        refine ez_aI hBg tE rfl tq_23 rfl rfl (by omega) (by omega) (fun (b8 : -2147483648 ≤ qz_I g (gel g) (((4) * (k)) + (lv)).toNat) (b8' : qz_I g (gel g) (((4) * (k)) + (lv)).toNat ≤ 2147483647) => ?_)
        rw [show qz_I g (gel g) (((4) * (k)) + (lv)).toNat = wk W[(k).toNat] (lv - 1).toNat from wg.at (by omega) hw (by omega) (by omega)]
        refine ez_cv hBg u770 rfl rfl rfl tq_75 rfl rfl rfl (rd_mw hBg u770 ky (by rw [List.length_append]; omega) (by omega) (by omega) (by omega) (by omega) (fun g2 τ2 B2 n2 ky2 => ez_K0 ?_))
        have nn := hn.trans n2
        refine ez_go (n := 2) (pc' := 230) (L' := [(6, .inl (k + 1)), (5, .inl (lv)), (0, .inr (.inr (some (770)))), (1, .inl (t)), (2, .inl (st)), (3, .inl (1))]) (st' := []) rfl ?_
        refine ez_less [(6, .inl (k + 1)), (5, .inl (lv)), (0, .inr (.inr (some (770)))), (1, .inl (t)), (2, .inl (st)), (3, .inl (1))] rfl ⟨rfl, rfl, rfl, rfl, rfl, rfl, trivial⟩ ?_
        exact ih (k + 1) g2 τ2 (by omega) (by omega) (by omega) B2 nn (by rw [show (k + 1).toNat = k.toNat + 1 by omega, lev_tk hw, if_neg (by omega), ← List.append_assoc]; exact ky2)

theorem rd_kf_l0 {t st lv : Int} (hBh : ez_B τ h) (hX : jz_X τ) (dk : got h ≠ gke h) (we : wet h false W) (W9 : wps W) (wl : W.length ≤ 36000) (bl : B.length + W.length ≤ 145000) (lv1 : 1 ≤ lv) (lv3 : lv ≤ 3) (rm : rmc h) (kx : ∀ g τ1, ez_B τ1 g → nw τ h τ1 g → kyt g (B ++ lev W (lv - 1).toNat) → ez_W (d + 1) cm_273 276 [(5, .inl (lv)), (0, .inr (.inr (some (770)))), (1, .inl (t)), (2, .inl (st)), (3, .inl (0))] [] g Q) : ∀ (m : Nat) (k : Int) (g : cz_H) (τ1 : Nat → Nat), m = ((W.length : Int) - k).toNat → 0 ≤ k → k ≤ (W.length : Int) → ez_B τ1 g → nw τ h τ1 g → kyt g (B ++ lev (W.take k.toNat) (lv - 1).toNat) → ez_W (d + 1) cm_273 230 [(6, .inl (k)), (5, .inl (lv)), (0, .inr (.inr (some (770)))), (1, .inl (t)), (2, .inl (st)), (3, .inl (0))] [] g Q := by
  intro m
  induction m with
  | zero =>
    intro k g τ1 hm0 k0 k1 hBg hn ky
    have ng9 := hn.ng hBh hX dk
    have Xg := ng9.1.X hX
    have u770 : τ1 770 = 75 := Xg 770 (by decide)
    have wg := hn.wet hBh hX we
    obtain ⟨-, -, tE, tF, -, -⟩ := ez_tg5 hBg u770
    have rg := rmc_rd hBg Xg (ng9.1.rm rm)
    have wgl := wg.1.2.1
    have lb : (lev (W.take k.toNat) (lv - 1).toNat).length ≤ W.length := by unfold lev; refine Nat.le_trans (List.length_filter_le _ _) ?_; rw [List.length_map, List.length_take]; omega
    refine ez_go (n := 2) (pc' := 233) (L' := [(6, .inl (k)), (5, .inl (lv)), (0, .inr (.inr (some (770)))), (1, .inl (t)), (2, .inl (st)), (3, .inl (0))]) (st' := [.inr (.inr (some (770))), .inl (k)]) rfl ?_
    refine ez_gI hBg u770 rfl rfl tq_75 rfl rfl (fun (b1 : 0 ≤ qz_I g 770 36) (b1' : qz_I g 770 36 ≤ 36000) => ?_)
    rw [show qz_I g 770 36 = (W.length : Int) from wg.1.1]
    refine ez_icmp rfl rfl ⟨by first | omega | exact (sz_i32 _).1, by first | omega | exact (sz_i32 _).2⟩ ⟨by first | omega | exact (sz_i32 _).1, by first | omega | exact (sz_i32 _).2⟩ (fun (c2 : ((W.length : Int)) ≤ (k)) => ?_) (fun (c2 : ¬(((W.length : Int)) ≤ (k))) => ?_)
    · skip
      refine ez_less [(5, .inl (lv)), (0, .inr (.inr (some (770)))), (1, .inl (t)), (2, .inl (st)), (3, .inl (0))] rfl ⟨rfl, rfl, rfl, rfl, rfl, trivial⟩ ?_
      rw [List.take_of_length_le (by omega)] at ky
      exact kx g τ1 hBg hn ky
    · skip
      refine ez_go (n := 1) (pc' := 240) (L' := [(6, .inl (k)), (5, .inl (lv)), (0, .inr (.inr (some (770)))), (1, .inl (t)), (2, .inl (st)), (3, .inl (0))]) (st' := [.inr (.inr (some (770)))]) rfl ?_
      refine ez_gR hBg u770 rfl rfl tq_75 rfl rfl (fun (t3 : _ = 23) (t3' : 1 ≤ qz_I g 770 35) => ?_)
      rw [show qz_P g 770 35 = gel g from rfl]
      refine ez_go (n := 5) (pc' := 250) (L' := [(6, .inl (k)), (5, .inl (lv)), (0, .inr (.inr (some (770)))), (1, .inl (t)), (2, .inl (st)), (3, .inl (0))]) (st' := [.inl (((4) * (k)) + (lv)), .inr (.inr (some (gel g)))]) rfl ?_
      have n5 : 1024 ≤ qz_N g (gel g) ∧ qz_N g (gel g) ≤ 300000 := ez_len hBg tE tq_23 rfl
      refine ez_aI hBg tE rfl tq_23 rfl rfl (by omega) (by omega) (fun (b4 : -2147483648 ≤ qz_I g (gel g) (((4) * (k)) + (lv)).toNat) (b4' : qz_I g (gel g) (((4) * (k)) + (lv)).toNat ≤ 2147483647) => ?_)
      have l8 : (k).toNat < W.length := by omega
      have hw := List.getElem?_eq_getElem l8
      have wb := wk_bd (W9 _ (List.getElem_mem l8)) (lv - 1).toNat
      rw [show qz_I g (gel g) (((4) * (k)) + (lv)).toNat = wk W[(k).toNat] (lv - 1).toNat from wg.at (by omega) hw (by omega) (by omega)]
      refine ez_if rfl rfl ⟨by first | omega | exact (sz_i32 _).1, by first | omega | exact (sz_i32 _).2⟩ (fun (c6 : (wk W[(k).toNat] (lv - 1).toNat) = (0)) => ?_) (fun (c6 : ¬((wk W[(k).toNat] (lv - 1).toNat) = (0))) => ?_)
      · skip
        refine ez_go (n := 2) (pc' := 230) (L' := [(6, .inl (k + 1)), (5, .inl (lv)), (0, .inr (.inr (some (770)))), (1, .inl (t)), (2, .inl (st)), (3, .inl (0))]) (st' := []) rfl ?_
        exfalso; omega
      · skip
        refine ez_go (n := 2) (pc' := 256) (L' := [(6, .inl (k)), (5, .inl (lv)), (0, .inr (.inr (some (770)))), (1, .inl (t)), (2, .inl (st)), (3, .inl (0))]) (st' := [.inr (.inr (some (770))), .inr (.inr (some (770)))]) rfl ?_
        refine ez_gR hBg u770 rfl rfl tq_75 rfl rfl (fun (t7 : _ = 23) (t7' : 1 ≤ qz_I g 770 35) => ?_)
        rw [show qz_P g 770 35 = gel g from rfl]
        refine ez_go (n := 5) (pc' := 266) (L' := [(6, .inl (k)), (5, .inl (lv)), (0, .inr (.inr (some (770)))), (1, .inl (t)), (2, .inl (st)), (3, .inl (0))]) (st' := [.inl (((4) * (k)) + (lv)), .inr (.inr (some (gel g))), .inr (.inr (some (770)))]) rfl ?_
        have n9 : 1024 ≤ qz_N g (gel g) ∧ qz_N g (gel g) ≤ 300000 := ez_len hBg tE tq_23 rfl
        refine ez_aI hBg tE rfl tq_23 rfl rfl (by omega) (by omega) (fun (b8 : -2147483648 ≤ qz_I g (gel g) (((4) * (k)) + (lv)).toNat) (b8' : qz_I g (gel g) (((4) * (k)) + (lv)).toNat ≤ 2147483647) => ?_)
        rw [show qz_I g (gel g) (((4) * (k)) + (lv)).toNat = wk W[(k).toNat] (lv - 1).toNat from wg.at (by omega) hw (by omega) (by omega)]
        refine ez_cv hBg u770 rfl rfl rfl tq_75 rfl rfl rfl (rd_mw hBg u770 ky (by rw [List.length_append]; omega) (by omega) (by omega) (by omega) (by omega) (fun g2 τ2 B2 n2 ky2 => ez_K0 ?_))
        have nn := hn.trans n2
        refine ez_go (n := 2) (pc' := 230) (L' := [(6, .inl (k + 1)), (5, .inl (lv)), (0, .inr (.inr (some (770)))), (1, .inl (t)), (2, .inl (st)), (3, .inl (0))]) (st' := []) rfl ?_
        exfalso; omega
  | succ m ih =>
    intro k g τ1 hm0 k0 k1 hBg hn ky
    have ng9 := hn.ng hBh hX dk
    have Xg := ng9.1.X hX
    have u770 : τ1 770 = 75 := Xg 770 (by decide)
    have wg := hn.wet hBh hX we
    obtain ⟨-, -, tE, tF, -, -⟩ := ez_tg5 hBg u770
    have rg := rmc_rd hBg Xg (ng9.1.rm rm)
    have wgl := wg.1.2.1
    have lb : (lev (W.take k.toNat) (lv - 1).toNat).length ≤ W.length := by unfold lev; refine Nat.le_trans (List.length_filter_le _ _) ?_; rw [List.length_map, List.length_take]; omega
    refine ez_go (n := 2) (pc' := 233) (L' := [(6, .inl (k)), (5, .inl (lv)), (0, .inr (.inr (some (770)))), (1, .inl (t)), (2, .inl (st)), (3, .inl (0))]) (st' := [.inr (.inr (some (770))), .inl (k)]) rfl ?_
    refine ez_gI hBg u770 rfl rfl tq_75 rfl rfl (fun (b1 : 0 ≤ qz_I g 770 36) (b1' : qz_I g 770 36 ≤ 36000) => ?_)
    rw [show qz_I g 770 36 = (W.length : Int) from wg.1.1]
    refine ez_icmp rfl rfl ⟨by first | omega | exact (sz_i32 _).1, by first | omega | exact (sz_i32 _).2⟩ ⟨by first | omega | exact (sz_i32 _).1, by first | omega | exact (sz_i32 _).2⟩ (fun (c2 : ((W.length : Int)) ≤ (k)) => ?_) (fun (c2 : ¬(((W.length : Int)) ≤ (k))) => ?_)
    · skip
      refine ez_less [(5, .inl (lv)), (0, .inr (.inr (some (770)))), (1, .inl (t)), (2, .inl (st)), (3, .inl (0))] rfl ⟨rfl, rfl, rfl, rfl, rfl, trivial⟩ ?_
      rw [List.take_of_length_le (by omega)] at ky
      exact kx g τ1 hBg hn ky
    · skip
      refine ez_go (n := 1) (pc' := 240) (L' := [(6, .inl (k)), (5, .inl (lv)), (0, .inr (.inr (some (770)))), (1, .inl (t)), (2, .inl (st)), (3, .inl (0))]) (st' := [.inr (.inr (some (770)))]) rfl ?_
      refine ez_gR hBg u770 rfl rfl tq_75 rfl rfl (fun (t3 : _ = 23) (t3' : 1 ≤ qz_I g 770 35) => ?_)
      rw [show qz_P g 770 35 = gel g from rfl]
      refine ez_go (n := 5) (pc' := 250) (L' := [(6, .inl (k)), (5, .inl (lv)), (0, .inr (.inr (some (770)))), (1, .inl (t)), (2, .inl (st)), (3, .inl (0))]) (st' := [.inl (((4) * (k)) + (lv)), .inr (.inr (some (gel g)))]) rfl ?_
      have n5 : 1024 ≤ qz_N g (gel g) ∧ qz_N g (gel g) ≤ 300000 := ez_len hBg tE tq_23 rfl
      refine ez_aI hBg tE rfl tq_23 rfl rfl (by omega) (by omega) (fun (b4 : -2147483648 ≤ qz_I g (gel g) (((4) * (k)) + (lv)).toNat) (b4' : qz_I g (gel g) (((4) * (k)) + (lv)).toNat ≤ 2147483647) => ?_)
      have l8 : (k).toNat < W.length := by omega
      have hw := List.getElem?_eq_getElem l8
      have wb := wk_bd (W9 _ (List.getElem_mem l8)) (lv - 1).toNat
      rw [show qz_I g (gel g) (((4) * (k)) + (lv)).toNat = wk W[(k).toNat] (lv - 1).toNat from wg.at (by omega) hw (by omega) (by omega)]
      refine ez_if rfl rfl ⟨by first | omega | exact (sz_i32 _).1, by first | omega | exact (sz_i32 _).2⟩ (fun (c6 : (wk W[(k).toNat] (lv - 1).toNat) = (0)) => ?_) (fun (c6 : ¬((wk W[(k).toNat] (lv - 1).toNat) = (0))) => ?_)
      · skip
        refine ez_go (n := 2) (pc' := 230) (L' := [(6, .inl (k + 1)), (5, .inl (lv)), (0, .inr (.inr (some (770)))), (1, .inl (t)), (2, .inl (st)), (3, .inl (0))]) (st' := []) rfl ?_
        refine ez_less [(6, .inl (k + 1)), (5, .inl (lv)), (0, .inr (.inr (some (770)))), (1, .inl (t)), (2, .inl (st)), (3, .inl (0))] rfl ⟨rfl, rfl, rfl, rfl, rfl, rfl, trivial⟩ ?_
        exact ih (k + 1) g τ1 (by omega) (by omega) (by omega) hBg hn (by rw [show (k + 1).toNat = k.toNat + 1 by omega, lev_tk hw, if_pos (by omega), List.append_nil]; exact ky)
      · skip
        refine ez_go (n := 2) (pc' := 256) (L' := [(6, .inl (k)), (5, .inl (lv)), (0, .inr (.inr (some (770)))), (1, .inl (t)), (2, .inl (st)), (3, .inl (0))]) (st' := [.inr (.inr (some (770))), .inr (.inr (some (770)))]) rfl ?_
        refine ez_gR hBg u770 rfl rfl tq_75 rfl rfl (fun (t7 : _ = 23) (t7' : 1 ≤ qz_I g 770 35) => ?_)
        rw [show qz_P g 770 35 = gel g from rfl]
        refine ez_go (n := 5) (pc' := 266) (L' := [(6, .inl (k)), (5, .inl (lv)), (0, .inr (.inr (some (770)))), (1, .inl (t)), (2, .inl (st)), (3, .inl (0))]) (st' := [.inl (((4) * (k)) + (lv)), .inr (.inr (some (gel g))), .inr (.inr (some (770)))]) rfl ?_
        have n9 : 1024 ≤ qz_N g (gel g) ∧ qz_N g (gel g) ≤ 300000 := ez_len hBg tE tq_23 rfl
        refine ez_aI hBg tE rfl tq_23 rfl rfl (by omega) (by omega) (fun (b8 : -2147483648 ≤ qz_I g (gel g) (((4) * (k)) + (lv)).toNat) (b8' : qz_I g (gel g) (((4) * (k)) + (lv)).toNat ≤ 2147483647) => ?_)
        rw [show qz_I g (gel g) (((4) * (k)) + (lv)).toNat = wk W[(k).toNat] (lv - 1).toNat from wg.at (by omega) hw (by omega) (by omega)]
        refine ez_cv hBg u770 rfl rfl rfl tq_75 rfl rfl rfl (rd_mw hBg u770 ky (by rw [List.length_append]; omega) (by omega) (by omega) (by omega) (by omega) (fun g2 τ2 B2 n2 ky2 => ez_K0 ?_))
        have nn := hn.trans n2
        refine ez_go (n := 2) (pc' := 230) (L' := [(6, .inl (k + 1)), (5, .inl (lv)), (0, .inr (.inr (some (770)))), (1, .inl (t)), (2, .inl (st)), (3, .inl (0))]) (st' := []) rfl ?_
        refine ez_less [(6, .inl (k + 1)), (5, .inl (lv)), (0, .inr (.inr (some (770)))), (1, .inl (t)), (2, .inl (st)), (3, .inl (0))] rfl ⟨rfl, rfl, rfl, rfl, rfl, rfl, trivial⟩ ?_
        exact ih (k + 1) g2 τ2 (by omega) (by omega) (by omega) B2 nn (by rw [show (k + 1).toNat = k.toNat + 1 by omega, lev_tk hw, if_neg (by omega), ← List.append_assoc]; exact ky2)

theorem rd_kf_4 {t st : Int} (hBh : ez_B τ h) (hX : jz_X τ) (dk : got h ≠ gke h) (we : wet h true W) (W9 : wps W) (wl : W.length ≤ 36000) (bl : B.length + W.length ≤ 145000) (rm : rmc h) (kx : ∀ g τ1, ez_B τ1 g → nw τ h τ1 g → kyt g (B ++ lev W 3) → Q (.inl none, g)) : ∀ (m : Nat) (k : Int) (g : cz_H) (τ1 : Nat → Nat), m = ((W.length : Int) - k).toNat → 0 ≤ k → k ≤ (W.length : Int) → ez_B τ1 g → nw τ h τ1 g → kyt g (B ++ lev (W.take k.toNat) 3) → ez_W (d + 1) cm_273 300 [(5, .inl (k)), (0, .inr (.inr (some (770)))), (1, .inl (t)), (2, .inl (st)), (3, .inl (1))] [] g Q := by
  intro m
  induction m with
  | zero =>
    intro k g τ1 hm0 k0 k1 hBg hn ky
    have ng9 := hn.ng hBh hX dk
    have Xg := ng9.1.X hX
    have u770 : τ1 770 = 75 := Xg 770 (by decide)
    have wg := hn.wet hBh hX we
    obtain ⟨-, -, tE, tF, -, -⟩ := ez_tg5 hBg u770
    have rg := rmc_rd hBg Xg (ng9.1.rm rm)
    have wgl := wg.1.2.2
    have lb : (lev (W.take k.toNat) 3).length ≤ W.length := by unfold lev; refine Nat.le_trans (List.length_filter_le _ _) ?_; rw [List.length_map, List.length_take]; omega
    refine ez_go (n := 2) (pc' := 303) (L' := [(5, .inl (k)), (0, .inr (.inr (some (770)))), (1, .inl (t)), (2, .inl (st)), (3, .inl (1))]) (st' := [.inr (.inr (some (770))), .inl (k)]) rfl ?_
    refine ez_gI hBg u770 rfl rfl tq_75 rfl rfl (fun (b1 : 0 ≤ qz_I g 770 36) (b1' : qz_I g 770 36 ≤ 36000) => ?_)
    rw [show qz_I g 770 36 = (W.length : Int) from wg.1.1]
    refine ez_icmp rfl rfl ⟨by first | omega | exact (sz_i32 _).1, by first | omega | exact (sz_i32 _).2⟩ ⟨by first | omega | exact (sz_i32 _).1, by first | omega | exact (sz_i32 _).2⟩ (fun (c2 : ((W.length : Int)) ≤ (k)) => ?_) (fun (c2 : ¬(((W.length : Int)) ≤ (k))) => ?_)
    · skip
      rw [List.take_of_length_le (by omega)] at ky
      exact ez_ret0 rfl rfl (kx g τ1 hBg hn ky)
    · skip
      refine ez_go (n := 1) (pc' := 310) (L' := [(5, .inl (k)), (0, .inr (.inr (some (770)))), (1, .inl (t)), (2, .inl (st)), (3, .inl (1))]) (st' := [.inr (.inr (some (770)))]) rfl ?_
      refine ez_gR hBg u770 rfl rfl tq_75 rfl rfl (fun (t3 : _ = 24) (t3' : 1 ≤ qz_I g 770 38) => ?_)
      rw [show qz_P g 770 38 = gfo g from rfl]
      refine ez_go (n := 1) (pc' := 315) (L' := [(5, .inl (k)), (0, .inr (.inr (some (770)))), (1, .inl (t)), (2, .inl (st)), (3, .inl (1))]) (st' := [.inl (k), .inr (.inr (some (gfo g)))]) rfl ?_
      have n5 : 1024 ≤ qz_N g (gfo g) ∧ qz_N g (gfo g) ≤ 200000 := ez_len hBg tF tq_24 rfl
      refine ez_aI hBg tF rfl tq_24 rfl rfl (by omega) (by omega) (fun (b4 : -2147483648 ≤ qz_I g (gfo g) (k).toNat) (b4' : qz_I g (gfo g) (k).toNat ≤ 2147483647) => ?_)
      have l8 : (k).toNat < W.length := by omega
      have hw := List.getElem?_eq_getElem l8
      have wb := wk_bd (W9 _ (List.getElem_mem l8)) 3
      rw [show qz_I g (gfo g) (k).toNat = wk W[(k).toNat] 3 from (wg.2 _ _ hw).2.2.2 rfl]
      refine ez_if rfl rfl ⟨by first | omega | exact (sz_i32 _).1, by first | omega | exact (sz_i32 _).2⟩ (fun (c6 : (wk W[(k).toNat] 3) = (0)) => ?_) (fun (c6 : ¬((wk W[(k).toNat] 3) = (0))) => ?_)
      · skip
        refine ez_go (n := 2) (pc' := 300) (L' := [(5, .inl (k + 1)), (0, .inr (.inr (some (770)))), (1, .inl (t)), (2, .inl (st)), (3, .inl (1))]) (st' := []) rfl ?_
        exfalso; omega
      · skip
        refine ez_go (n := 2) (pc' := 321) (L' := [(5, .inl (k)), (0, .inr (.inr (some (770)))), (1, .inl (t)), (2, .inl (st)), (3, .inl (1))]) (st' := [.inr (.inr (some (770))), .inr (.inr (some (770)))]) rfl ?_
        refine ez_gR hBg u770 rfl rfl tq_75 rfl rfl (fun (t7 : _ = 24) (t7' : 1 ≤ qz_I g 770 38) => ?_)
        rw [show qz_P g 770 38 = gfo g from rfl]
        refine ez_go (n := 1) (pc' := 326) (L' := [(5, .inl (k)), (0, .inr (.inr (some (770)))), (1, .inl (t)), (2, .inl (st)), (3, .inl (1))]) (st' := [.inl (k), .inr (.inr (some (gfo g))), .inr (.inr (some (770)))]) rfl ?_
        have n9 : 1024 ≤ qz_N g (gfo g) ∧ qz_N g (gfo g) ≤ 200000 := ez_len hBg tF tq_24 rfl
        refine ez_aI hBg tF rfl tq_24 rfl rfl (by omega) (by omega) (fun (b8 : -2147483648 ≤ qz_I g (gfo g) (k).toNat) (b8' : qz_I g (gfo g) (k).toNat ≤ 2147483647) => ?_)
        rw [show qz_I g (gfo g) (k).toNat = wk W[(k).toNat] 3 from (wg.2 _ _ hw).2.2.2 rfl]
        refine ez_cv hBg u770 rfl rfl rfl tq_75 rfl rfl rfl (rd_mw hBg u770 ky (by rw [List.length_append]; omega) (by omega) (by omega) (by omega) (by omega) (fun g2 τ2 B2 n2 ky2 => ez_K0 ?_))
        have nn := hn.trans n2
        refine ez_go (n := 2) (pc' := 300) (L' := [(5, .inl (k + 1)), (0, .inr (.inr (some (770)))), (1, .inl (t)), (2, .inl (st)), (3, .inl (1))]) (st' := []) rfl ?_
        exfalso; omega
  | succ m ih =>
    intro k g τ1 hm0 k0 k1 hBg hn ky
    have ng9 := hn.ng hBh hX dk
    have Xg := ng9.1.X hX
    have u770 : τ1 770 = 75 := Xg 770 (by decide)
    have wg := hn.wet hBh hX we
    obtain ⟨-, -, tE, tF, -, -⟩ := ez_tg5 hBg u770
    have rg := rmc_rd hBg Xg (ng9.1.rm rm)
    have wgl := wg.1.2.2
    have lb : (lev (W.take k.toNat) 3).length ≤ W.length := by unfold lev; refine Nat.le_trans (List.length_filter_le _ _) ?_; rw [List.length_map, List.length_take]; omega
    refine ez_go (n := 2) (pc' := 303) (L' := [(5, .inl (k)), (0, .inr (.inr (some (770)))), (1, .inl (t)), (2, .inl (st)), (3, .inl (1))]) (st' := [.inr (.inr (some (770))), .inl (k)]) rfl ?_
    refine ez_gI hBg u770 rfl rfl tq_75 rfl rfl (fun (b1 : 0 ≤ qz_I g 770 36) (b1' : qz_I g 770 36 ≤ 36000) => ?_)
    rw [show qz_I g 770 36 = (W.length : Int) from wg.1.1]
    refine ez_icmp rfl rfl ⟨by first | omega | exact (sz_i32 _).1, by first | omega | exact (sz_i32 _).2⟩ ⟨by first | omega | exact (sz_i32 _).1, by first | omega | exact (sz_i32 _).2⟩ (fun (c2 : ((W.length : Int)) ≤ (k)) => ?_) (fun (c2 : ¬(((W.length : Int)) ≤ (k))) => ?_)
    · skip
      rw [List.take_of_length_le (by omega)] at ky
      exact ez_ret0 rfl rfl (kx g τ1 hBg hn ky)
    · skip
      refine ez_go (n := 1) (pc' := 310) (L' := [(5, .inl (k)), (0, .inr (.inr (some (770)))), (1, .inl (t)), (2, .inl (st)), (3, .inl (1))]) (st' := [.inr (.inr (some (770)))]) rfl ?_
      refine ez_gR hBg u770 rfl rfl tq_75 rfl rfl (fun (t3 : _ = 24) (t3' : 1 ≤ qz_I g 770 38) => ?_)
      rw [show qz_P g 770 38 = gfo g from rfl]
      refine ez_go (n := 1) (pc' := 315) (L' := [(5, .inl (k)), (0, .inr (.inr (some (770)))), (1, .inl (t)), (2, .inl (st)), (3, .inl (1))]) (st' := [.inl (k), .inr (.inr (some (gfo g)))]) rfl ?_
      have n5 : 1024 ≤ qz_N g (gfo g) ∧ qz_N g (gfo g) ≤ 200000 := ez_len hBg tF tq_24 rfl
      refine ez_aI hBg tF rfl tq_24 rfl rfl (by omega) (by omega) (fun (b4 : -2147483648 ≤ qz_I g (gfo g) (k).toNat) (b4' : qz_I g (gfo g) (k).toNat ≤ 2147483647) => ?_)
      have l8 : (k).toNat < W.length := by omega
      have hw := List.getElem?_eq_getElem l8
      have wb := wk_bd (W9 _ (List.getElem_mem l8)) 3
      rw [show qz_I g (gfo g) (k).toNat = wk W[(k).toNat] 3 from (wg.2 _ _ hw).2.2.2 rfl]
      refine ez_if rfl rfl ⟨by first | omega | exact (sz_i32 _).1, by first | omega | exact (sz_i32 _).2⟩ (fun (c6 : (wk W[(k).toNat] 3) = (0)) => ?_) (fun (c6 : ¬((wk W[(k).toNat] 3) = (0))) => ?_)
      · skip
        refine ez_go (n := 2) (pc' := 300) (L' := [(5, .inl (k + 1)), (0, .inr (.inr (some (770)))), (1, .inl (t)), (2, .inl (st)), (3, .inl (1))]) (st' := []) rfl ?_
        refine ez_less [(5, .inl (k + 1)), (0, .inr (.inr (some (770)))), (1, .inl (t)), (2, .inl (st)), (3, .inl (1))] rfl ⟨rfl, rfl, rfl, rfl, rfl, trivial⟩ ?_
        exact ih (k + 1) g τ1 (by omega) (by omega) (by omega) hBg hn (by rw [show (k + 1).toNat = k.toNat + 1 by omega, lev_tk hw, if_pos (by omega), List.append_nil]; exact ky)
      · skip
        refine ez_go (n := 2) (pc' := 321) (L' := [(5, .inl (k)), (0, .inr (.inr (some (770)))), (1, .inl (t)), (2, .inl (st)), (3, .inl (1))]) (st' := [.inr (.inr (some (770))), .inr (.inr (some (770)))]) rfl ?_
        refine ez_gR hBg u770 rfl rfl tq_75 rfl rfl (fun (t7 : _ = 24) (t7' : 1 ≤ qz_I g 770 38) => ?_)
        rw [show qz_P g 770 38 = gfo g from rfl]
        refine ez_go (n := 1) (pc' := 326) (L' := [(5, .inl (k)), (0, .inr (.inr (some (770)))), (1, .inl (t)), (2, .inl (st)), (3, .inl (1))]) (st' := [.inl (k), .inr (.inr (some (gfo g))), .inr (.inr (some (770)))]) rfl ?_
        have n9 : 1024 ≤ qz_N g (gfo g) ∧ qz_N g (gfo g) ≤ 200000 := ez_len hBg tF tq_24 rfl
        refine ez_aI hBg tF rfl tq_24 rfl rfl (by omega) (by omega) (fun (b8 : -2147483648 ≤ qz_I g (gfo g) (k).toNat) (b8' : qz_I g (gfo g) (k).toNat ≤ 2147483647) => ?_)
        rw [show qz_I g (gfo g) (k).toNat = wk W[(k).toNat] 3 from (wg.2 _ _ hw).2.2.2 rfl]
        refine ez_cv hBg u770 rfl rfl rfl tq_75 rfl rfl rfl (rd_mw hBg u770 ky (by rw [List.length_append]; omega) (by omega) (by omega) (by omega) (by omega) (fun g2 τ2 B2 n2 ky2 => ez_K0 ?_))
        have nn := hn.trans n2
        refine ez_go (n := 2) (pc' := 300) (L' := [(5, .inl (k + 1)), (0, .inr (.inr (some (770)))), (1, .inl (t)), (2, .inl (st)), (3, .inl (1))]) (st' := []) rfl ?_
        refine ez_less [(5, .inl (k + 1)), (0, .inr (.inr (some (770)))), (1, .inl (t)), (2, .inl (st)), (3, .inl (1))] rfl ⟨rfl, rfl, rfl, rfl, rfl, trivial⟩ ?_
        exact ih (k + 1) g2 τ2 (by omega) (by omega) (by omega) B2 nn (by rw [show (k + 1).toNat = k.toNat + 1 by omega, lev_tk hw, if_neg (by omega), ← List.append_assoc]; exact ky2)

end EzMk

/-! COLLATION: the model: keyOf as a whole. (Written by wip/p2/py/pvk15.py.) -/
theorem KY_b (W : List eL) : ∀ n, (KY W n).length ≤ n * (W.length + 1)
  | 0 => Nat.zero_le _
  | 1 => by
    have : (lev W 0).length ≤ W.length := by unfold lev; refine Nat.le_trans (List.length_filter_le _ _) ?_; rw [List.length_map]; exact Nat.le_refl _
    show (lev W 0).length ≤ 1 * (W.length + 1)
    omega
  | n + 2 => by
    have a := KY_b W (n + 1)
    have : (lev W (n + 1)).length ≤ W.length := by unfold lev; refine Nat.le_trans (List.length_filter_le _ _) ?_; rw [List.length_map]; exact Nat.le_refl _
    show (KY W (n + 1) ++ 0 :: lev W (n + 1)).length ≤ (n + 2) * (W.length + 1)
    rw [List.length_append, List.length_cons, show (n + 2) * (W.length + 1) = (n + 1) * (W.length + 1) + (W.length + 1) from Nat.succ_mul (n + 1) _]
    omega
section EzMl
variable {d : Nat} {h : cz_H} {τ : Nat → Nat} {Q : cz_F → Prop} {Ls : List vz} {b : Int} {Cs : List cEo} {es A W : List eL} {sh : Bool}
theorem rd_kf_r1 {t st : Int} (hB : ez_B τ h) (hX : jz_X τ) (em : emt h es) (l9 : es.length ≤ 36000) (hnF : (es.length : Int) ≤ qz_N h (gfo h)) (hok : ∀ e ∈ es, eok e) (dk : got h ≠ gke h) (rm : rmc h) (s1 : 1 ≤ st) (s4 : st ≤ 4) (kx : ∀ g τ1, ez_B τ1 g → ng τ h τ1 g → kyt g (KY (wts true false es) (lvl true st).toNat) → Q (.inl none, g)) : ez_W (d + 1) cm_273 29 [(0, .inr (.inr (some (770)))), (1, .inl (t)), (2, .inl (st)), (3, .inl (1))] [] h Q := by
  have t770 : τ 770 = 75 := hX 770 (by decide)
  obtain ⟨-, -, tE, tF, -, -⟩ := ez_tg5 hB t770
  have nE7 : 770 ≠ gel h := fun e => by rw [← e, t770] at tE; cases tE
  have nF7 : 770 ≠ gfo h := fun e => by rw [← e, t770] at tF; cases tF
  have p770 : nz_P2 (gel h) (gfo h) 770 = false := nz_P2_f nE7 nF7
  refine ez_go (n := 4) (pc' := 35) (L' := [(5, .inl (0)), (4, .inl (0)), (0, .inr (.inr (some (770)))), (1, .inl (t)), (2, .inl (st)), (3, .inl (1))]) (st' := []) rfl ?_
  refine ez_less [(5, .inl (0)), (4, .inl (0)), (0, .inr (.inr (some (770)))), (1, .inl (t)), (2, .inl (st)), (3, .inl (1))] rfl ⟨rfl, rfl, rfl, rfl, rfl, rfl, trivial⟩ ?_
  refine rd_kf_s (es := es) hB t770 em.1.1 l9 em.1.2 hnF hok (fun g1 B1 f1 n1 we1 => ?_) es [] 0 0 h rfl rfl (Or.inr ⟨rfl, rfl⟩) hB (ez_fr.refl _ h) (fun _ => rfl) ⟨fun j w hw => (by cases hw), fun j e hj => by rw [List.length_nil, Nat.zero_add]; exact em.2 j e hj⟩
  have g1n := ng.fr hB hX f1 (fun q hq => by unfold nz_P2 at hq; rcases Bool.or_eq_true_iff.mp hq with w | w; (· exact Or.inr (Or.inl (by rw [Nat.eq_of_beq_eq_true w]; exact tE))); (· exact Or.inr (Or.inr (by rw [Nat.eq_of_beq_eq_true w]; exact tF)))) (fun q _ => n1 q) (fun j _ => f1.I p770 j)
  refine ez_go (n := 2) (pc' := 198) (L' := [(0, .inr (.inr (some (770)))), (1, .inl (t)), (2, .inl (st)), (3, .inl (1))]) (st' := [.inl (0), .inr (.inr (some (770)))]) rfl ?_
  refine ez_pf B1 t770 rfl rfl tq_75 rfl rfl rfl rfl (ez_vdI rfl rfl (by omega) (by omega)) (fun hB1 w2 => ?_)
  have v41 : qz_I (dz_put g1 770 41 (ez_v (.inl (0)))) 770 41 = 0 := w2.trans rfl
  have i41 : ∀ j, j ≠ 41 → qz_I (dz_put g1 770 41 (ez_v (.inl (0)))) 770 j = qz_I g1 770 j := fun j hj => ez_put_I (fun w => hj w.2)
  have f41 : ez_fr (ez_one 770) g1 (dz_put g1 770 41 (ez_v (.inl (0)))) := (ez_fr.refl (ez_one 770) g1).put rfl _ _
  have n41 : ∀ q, qz_N (dz_put g1 770 41 (ez_v (.inl (0)))) q = qz_N g1 q := fun q => ez_put_N _
  have B2 := hB1
  generalize (dz_put g1 770 41 (ez_v (.inl (0)))) = g2 at *
  have c2n : ng τ g1 τ g2 := ng.fr B1 hX f41 (fun q hq => Or.inl (Nat.eq_of_beq_eq_true hq)) (fun q _ => n41 q) i41
  have a2 : ng τ h τ g2 := g1n.trans c2n
  have tq1 := (ez_tg5 B1 t770).2
  have we2 : wet g2 true (wts true false es) := we1.k (fun j _ j2 => i41 j j2) (f41.2.2 _ (dz_beq_ne (fun w => by have := tq1.2.1; rw [w, t770] at this; cases this))) (f41.2.2 _ (dz_beq_ne (fun w => by have := tq1.2.2.1; rw [w, t770] at this; cases this)))
  have dk2 := a2.dk hB hX dk
  have rm2 := a2.1.rm rm
  have rd2 := rmc_rd B2 hX rm2
  have lpo2 : 1024 ≤ qz_N g2 (gke g2) ∧ qz_N g2 (gke g2) ≤ 600100 := ez_len B2 (ez_tke B2 t770) tq_25 rfl
  have ky0 : kyt g2 [] := ⟨⟨v41, by rw [List.length_nil]; omega⟩, fun j v hv => by cases hv⟩
  have WL : (wts true false es).length ≤ 36000 := by rw [wts_len]; exact l9
  have W9 : wps (wts true false es) := wts_ok false hok
  have kb1 := KY_b (wts true false es) 1; have kb2 := KY_b (wts true false es) 2; have kb3 := KY_b (wts true false es) 3
  generalize wts true false es = W at *
  refine ez_go (n := 4) (pc' := 207) (L' := [(5, .inl (1)), (0, .inr (.inr (some (770)))), (1, .inl (t)), (2, .inl (st)), (3, .inl (1))]) (st' := [.inl (st), .inl (1)]) rfl ?_
  refine ez_icmp rfl rfl ⟨by first | omega | exact (sz_i32 _).1, by first | omega | exact (sz_i32 _).2⟩ ⟨by first | omega | exact (sz_i32 _).1, by first | omega | exact (sz_i32 _).2⟩ (fun (c3 : (st) < (1)) => ?_) (fun (c3 : ¬((st) < (1))) => ?_)
  · skip
    refine ez_go (n := 2) (pc' := 284) (L' := [(5, .inl (1)), (0, .inr (.inr (some (770)))), (1, .inl (t)), (2, .inl (st)), (3, .inl (1))]) (st' := [.inl (4), .inl (st)]) rfl ?_
    refine ez_icmp rfl rfl ⟨by first | omega | exact (sz_i32 _).1, by first | omega | exact (sz_i32 _).2⟩ ⟨by first | omega | exact (sz_i32 _).1, by first | omega | exact (sz_i32 _).2⟩ (fun (c4 : (st) < (4)) => ?_) (fun (c4 : ¬((st) < (4))) => ?_)
    · skip
      exfalso; omega
    · skip
      refine ez_go (n := 1) (pc' := 288) (L' := [(5, .inl (1)), (0, .inr (.inr (some (770)))), (1, .inl (t)), (2, .inl (st)), (3, .inl (1))]) (st' := [.inl (1)]) rfl ?_
      refine ez_if rfl rfl ⟨by decide, by decide⟩ (fun _ => ?_) (fun (c5 : ¬((1 : Int) ≠ (0))) => absurd c5 (by decide))
      exfalso; omega
  · skip
    refine ez_go (n := 2) (pc' := 213) (L' := [(5, .inl (1)), (0, .inr (.inr (some (770)))), (1, .inl (t)), (2, .inl (st)), (3, .inl (1))]) (st' := [.inl (4), .inl (1)]) rfl ?_
    refine ez_icmp rfl rfl ⟨by decide, by decide⟩ ⟨by decide, by decide⟩ (fun (c6 : (4) ≤ (1 : Int)) => absurd c6 (by decide)) (fun _ => ?_)
    refine ez_go (n := 2) (pc' := 219) (L' := [(5, .inl (1)), (0, .inr (.inr (some (770)))), (1, .inl (t)), (2, .inl (st)), (3, .inl (1))]) (st' := [.inl (1), .inl (1)]) rfl ?_
    refine ez_icmp rfl rfl ⟨by decide, by decide⟩ ⟨by decide, by decide⟩ (fun _ => ?_) (fun (c7 : ¬((1 : Int) ≤ (1))) => absurd c7 (by decide))
    refine ez_go (n := 2) (pc' := 230) (L' := [(6, .inl (0)), (5, .inl (1)), (0, .inr (.inr (some (770)))), (1, .inl (t)), (2, .inl (st)), (3, .inl (1))]) (st' := []) rfl ?_
    refine ez_less [(6, .inl (0)), (5, .inl (1)), (0, .inr (.inr (some (770)))), (1, .inl (t)), (2, .inl (st)), (3, .inl (1))] rfl ⟨rfl, rfl, rfl, rfl, rfl, rfl, trivial⟩ ?_
    refine rd_kf_l1 (h := g2) (B := []) (lv := 1) B2 hX dk2 we2 W9 WL (by rw [List.length_nil]; omega) (by decide) (by decide) rm2 (fun gn3 τn3 Bn3 nx3 kx3 => ?_) _ 0 g2 τ rfl (by omega) (by omega) B2 (nw.refl τ g2) (by rw [show (0 : Int).toNat = 0 from rfl, List.take_zero, lev_nil, List.append_nil]; exact ky0)
    have ky3 : kyt gn3 (KY W 1) := kx3
    have nw3 := (nw.refl τ g2).trans nx3
    have an3 := nw3.ng B2 hX dk2
    have Xn3 := an3.1.X hX
    have un3 : τn3 770 = 75 := Xn3 770 (by decide)
    have wen3 := nw3.wet B2 hX we2
    have dkn3 := an3.dk B2 hX dk2
    have rmn3 := an3.1.rm rm2
    have rdn3 := rmc_rd Bn3 Xn3 rmn3
    refine ez_go (n := 4) (pc' := 207) (L' := [(5, .inl (2)), (0, .inr (.inr (some (770)))), (1, .inl (t)), (2, .inl (st)), (3, .inl (1))]) (st' := [.inl (st), .inl (2)]) rfl ?_
    refine ez_icmp rfl rfl ⟨by first | omega | exact (sz_i32 _).1, by first | omega | exact (sz_i32 _).2⟩ ⟨by first | omega | exact (sz_i32 _).1, by first | omega | exact (sz_i32 _).2⟩ (fun (c8 : (st) < (2)) => ?_) (fun (c8 : ¬((st) < (2))) => ?_)
    · skip
      refine ez_go (n := 2) (pc' := 284) (L' := [(5, .inl (2)), (0, .inr (.inr (some (770)))), (1, .inl (t)), (2, .inl (st)), (3, .inl (1))]) (st' := [.inl (4), .inl (st)]) rfl ?_
      refine ez_icmp rfl rfl ⟨by first | omega | exact (sz_i32 _).1, by first | omega | exact (sz_i32 _).2⟩ ⟨by first | omega | exact (sz_i32 _).1, by first | omega | exact (sz_i32 _).2⟩ (fun (c9 : (st) < (4)) => ?_) (fun (c9 : ¬((st) < (4))) => ?_)
      · skip
        have el : (lvl true st).toNat = 1 := by rw [show lvl true st = st from if_pos rfl]; omega
        exact ez_ret0 rfl rfl (kx gn3 τn3 Bn3 (a2.trans an3) (by rw [el]; exact ky3))
      · skip
        refine ez_go (n := 1) (pc' := 288) (L' := [(5, .inl (2)), (0, .inr (.inr (some (770)))), (1, .inl (t)), (2, .inl (st)), (3, .inl (1))]) (st' := [.inl (1)]) rfl ?_
        refine ez_if rfl rfl ⟨by decide, by decide⟩ (fun _ => ?_) (fun (c10 : ¬((1 : Int) ≠ (0))) => absurd c10 (by decide))
        exfalso; omega
    · skip
      refine ez_go (n := 2) (pc' := 213) (L' := [(5, .inl (2)), (0, .inr (.inr (some (770)))), (1, .inl (t)), (2, .inl (st)), (3, .inl (1))]) (st' := [.inl (4), .inl (2)]) rfl ?_
      refine ez_icmp rfl rfl ⟨by decide, by decide⟩ ⟨by decide, by decide⟩ (fun (c11 : (4) ≤ (2 : Int)) => absurd c11 (by decide)) (fun _ => ?_)
      refine ez_go (n := 2) (pc' := 219) (L' := [(5, .inl (2)), (0, .inr (.inr (some (770)))), (1, .inl (t)), (2, .inl (st)), (3, .inl (1))]) (st' := [.inl (1), .inl (2)]) rfl ?_
      refine ez_icmp rfl rfl ⟨by decide, by decide⟩ ⟨by decide, by decide⟩ (fun (c12 : (2 : Int) ≤ (1)) => absurd c12 (by decide)) (fun _ => ?_)
      refine ez_go (n := 2) (pc' := 224) (L' := [(5, .inl (2)), (0, .inr (.inr (some (770)))), (1, .inl (t)), (2, .inl (st)), (3, .inl (1))]) (st' := [.inl (0), .inr (.inr (some (770)))]) rfl ?_
      refine ez_cv Bn3 un3 rfl rfl rfl tq_75 rfl rfl rfl (rd_mw Bn3 un3 ky3 (by omega) (by decide) (by decide) (by omega) (by omega) (fun gn4 τn4 Bn4 nx4 kx4 => ez_K0 ?_))
      have nw4 := nw3.trans nx4
      have an4 := nw4.ng B2 hX dk2
      have Xn4 := an4.1.X hX
      have un4 : τn4 770 = 75 := Xn4 770 (by decide)
      have wen4 := nw4.wet B2 hX we2
      have dkn4 := an4.dk B2 hX dk2
      have rmn4 := an4.1.rm rm2
      have rdn4 := rmc_rd Bn4 Xn4 rmn4
      refine ez_go (n := 2) (pc' := 230) (L' := [(6, .inl (0)), (5, .inl (2)), (0, .inr (.inr (some (770)))), (1, .inl (t)), (2, .inl (st)), (3, .inl (1))]) (st' := []) rfl ?_
      refine ez_less [(6, .inl (0)), (5, .inl (2)), (0, .inr (.inr (some (770)))), (1, .inl (t)), (2, .inl (st)), (3, .inl (1))] rfl ⟨rfl, rfl, rfl, rfl, rfl, rfl, trivial⟩ ?_
      refine rd_kf_l1 (h := gn4) (B := KY W 1 ++ [0]) (lv := 2) Bn4 Xn4 dkn4 wen4 W9 WL (by rw [List.length_append, List.length_singleton]; omega) (by decide) (by decide) rmn4 (fun gn5 τn5 Bn5 nx5 kx5 => ?_) _ 0 gn4 τn4 rfl (by omega) (by omega) Bn4 (nw.refl τn4 gn4) (by rw [show (0 : Int).toNat = 0 from rfl, List.take_zero, lev_nil, List.append_nil]; exact kx4)
      have ky5 : kyt gn5 (KY W 2) := by rw [List.append_assoc] at kx5; exact kx5
      have nw5 := nw4.trans nx5
      have an5 := nw5.ng B2 hX dk2
      have Xn5 := an5.1.X hX
      have un5 : τn5 770 = 75 := Xn5 770 (by decide)
      have wen5 := nw5.wet B2 hX we2
      have dkn5 := an5.dk B2 hX dk2
      have rmn5 := an5.1.rm rm2
      have rdn5 := rmc_rd Bn5 Xn5 rmn5
      refine ez_go (n := 4) (pc' := 207) (L' := [(5, .inl (3)), (0, .inr (.inr (some (770)))), (1, .inl (t)), (2, .inl (st)), (3, .inl (1))]) (st' := [.inl (st), .inl (3)]) rfl ?_
      refine ez_icmp rfl rfl ⟨by first | omega | exact (sz_i32 _).1, by first | omega | exact (sz_i32 _).2⟩ ⟨by first | omega | exact (sz_i32 _).1, by first | omega | exact (sz_i32 _).2⟩ (fun (c13 : (st) < (3)) => ?_) (fun (c13 : ¬((st) < (3))) => ?_)
      · skip
        refine ez_go (n := 2) (pc' := 284) (L' := [(5, .inl (3)), (0, .inr (.inr (some (770)))), (1, .inl (t)), (2, .inl (st)), (3, .inl (1))]) (st' := [.inl (4), .inl (st)]) rfl ?_
        refine ez_icmp rfl rfl ⟨by first | omega | exact (sz_i32 _).1, by first | omega | exact (sz_i32 _).2⟩ ⟨by first | omega | exact (sz_i32 _).1, by first | omega | exact (sz_i32 _).2⟩ (fun (c14 : (st) < (4)) => ?_) (fun (c14 : ¬((st) < (4))) => ?_)
        · skip
          have el : (lvl true st).toNat = 2 := by rw [show lvl true st = st from if_pos rfl]; omega
          exact ez_ret0 rfl rfl (kx gn5 τn5 Bn5 (a2.trans an5) (by rw [el]; exact ky5))
        · skip
          refine ez_go (n := 1) (pc' := 288) (L' := [(5, .inl (3)), (0, .inr (.inr (some (770)))), (1, .inl (t)), (2, .inl (st)), (3, .inl (1))]) (st' := [.inl (1)]) rfl ?_
          refine ez_if rfl rfl ⟨by decide, by decide⟩ (fun _ => ?_) (fun (c15 : ¬((1 : Int) ≠ (0))) => absurd c15 (by decide))
          exfalso; omega
      · skip
        refine ez_go (n := 2) (pc' := 213) (L' := [(5, .inl (3)), (0, .inr (.inr (some (770)))), (1, .inl (t)), (2, .inl (st)), (3, .inl (1))]) (st' := [.inl (4), .inl (3)]) rfl ?_
        refine ez_icmp rfl rfl ⟨by decide, by decide⟩ ⟨by decide, by decide⟩ (fun (c16 : (4) ≤ (3 : Int)) => absurd c16 (by decide)) (fun _ => ?_)
        refine ez_go (n := 2) (pc' := 219) (L' := [(5, .inl (3)), (0, .inr (.inr (some (770)))), (1, .inl (t)), (2, .inl (st)), (3, .inl (1))]) (st' := [.inl (1), .inl (3)]) rfl ?_
        refine ez_icmp rfl rfl ⟨by decide, by decide⟩ ⟨by decide, by decide⟩ (fun (c17 : (3 : Int) ≤ (1)) => absurd c17 (by decide)) (fun _ => ?_)
        refine ez_go (n := 2) (pc' := 224) (L' := [(5, .inl (3)), (0, .inr (.inr (some (770)))), (1, .inl (t)), (2, .inl (st)), (3, .inl (1))]) (st' := [.inl (0), .inr (.inr (some (770)))]) rfl ?_
        refine ez_cv Bn5 un5 rfl rfl rfl tq_75 rfl rfl rfl (rd_mw Bn5 un5 ky5 (by omega) (by decide) (by decide) (by omega) (by omega) (fun gn6 τn6 Bn6 nx6 kx6 => ez_K0 ?_))
        have nw6 := nw5.trans nx6
        have an6 := nw6.ng B2 hX dk2
        have Xn6 := an6.1.X hX
        have un6 : τn6 770 = 75 := Xn6 770 (by decide)
        have wen6 := nw6.wet B2 hX we2
        have dkn6 := an6.dk B2 hX dk2
        have rmn6 := an6.1.rm rm2
        have rdn6 := rmc_rd Bn6 Xn6 rmn6
        refine ez_go (n := 2) (pc' := 230) (L' := [(6, .inl (0)), (5, .inl (3)), (0, .inr (.inr (some (770)))), (1, .inl (t)), (2, .inl (st)), (3, .inl (1))]) (st' := []) rfl ?_
        refine ez_less [(6, .inl (0)), (5, .inl (3)), (0, .inr (.inr (some (770)))), (1, .inl (t)), (2, .inl (st)), (3, .inl (1))] rfl ⟨rfl, rfl, rfl, rfl, rfl, rfl, trivial⟩ ?_
        refine rd_kf_l1 (h := gn6) (B := KY W 2 ++ [0]) (lv := 3) Bn6 Xn6 dkn6 wen6 W9 WL (by rw [List.length_append, List.length_singleton]; omega) (by decide) (by decide) rmn6 (fun gn7 τn7 Bn7 nx7 kx7 => ?_) _ 0 gn6 τn6 rfl (by omega) (by omega) Bn6 (nw.refl τn6 gn6) (by rw [show (0 : Int).toNat = 0 from rfl, List.take_zero, lev_nil, List.append_nil]; exact kx6)
        have ky7 : kyt gn7 (KY W 3) := by rw [List.append_assoc] at kx7; exact kx7
        have nw7 := nw6.trans nx7
        have an7 := nw7.ng B2 hX dk2
        have Xn7 := an7.1.X hX
        have un7 : τn7 770 = 75 := Xn7 770 (by decide)
        have wen7 := nw7.wet B2 hX we2
        have dkn7 := an7.dk B2 hX dk2
        have rmn7 := an7.1.rm rm2
        have rdn7 := rmc_rd Bn7 Xn7 rmn7
        refine ez_go (n := 4) (pc' := 207) (L' := [(5, .inl (4)), (0, .inr (.inr (some (770)))), (1, .inl (t)), (2, .inl (st)), (3, .inl (1))]) (st' := [.inl (st), .inl (4)]) rfl ?_
        refine ez_icmp rfl rfl ⟨by first | omega | exact (sz_i32 _).1, by first | omega | exact (sz_i32 _).2⟩ ⟨by first | omega | exact (sz_i32 _).1, by first | omega | exact (sz_i32 _).2⟩ (fun (c18 : (st) < (4)) => ?_) (fun (c18 : ¬((st) < (4))) => ?_)
        · skip
          refine ez_go (n := 2) (pc' := 284) (L' := [(5, .inl (4)), (0, .inr (.inr (some (770)))), (1, .inl (t)), (2, .inl (st)), (3, .inl (1))]) (st' := [.inl (4), .inl (st)]) rfl ?_
          refine ez_icmp rfl rfl ⟨by first | omega | exact (sz_i32 _).1, by first | omega | exact (sz_i32 _).2⟩ ⟨by first | omega | exact (sz_i32 _).1, by first | omega | exact (sz_i32 _).2⟩ (fun (c19 : (st) < (4)) => ?_) (fun (c19 : ¬((st) < (4))) => ?_)
          · skip
            have el : (lvl true st).toNat = 3 := by rw [show lvl true st = st from if_pos rfl]; omega
            exact ez_ret0 rfl rfl (kx gn7 τn7 Bn7 (a2.trans an7) (by rw [el]; exact ky7))
          · skip
            refine ez_go (n := 1) (pc' := 288) (L' := [(5, .inl (4)), (0, .inr (.inr (some (770)))), (1, .inl (t)), (2, .inl (st)), (3, .inl (1))]) (st' := [.inl (1)]) rfl ?_
            refine ez_if rfl rfl ⟨by decide, by decide⟩ (fun _ => ?_) (fun (c20 : ¬((1 : Int) ≠ (0))) => absurd c20 (by decide))
            refine ez_go (n := 2) (pc' := 294) (L' := [(5, .inl (4)), (0, .inr (.inr (some (770)))), (1, .inl (t)), (2, .inl (st)), (3, .inl (1))]) (st' := [.inl (0), .inr (.inr (some (770)))]) rfl ?_
            refine ez_cv Bn7 un7 rfl rfl rfl tq_75 rfl rfl rfl (rd_mw Bn7 un7 ky7 (by omega) (by decide) (by decide) (by omega) (by omega) (fun gn8 τn8 Bn8 nx8 kx8 => ez_K0 ?_))
            have nw8 := nw7.trans nx8
            have an8 := nw8.ng B2 hX dk2
            have Xn8 := an8.1.X hX
            have un8 : τn8 770 = 75 := Xn8 770 (by decide)
            have wen8 := nw8.wet B2 hX we2
            have dkn8 := an8.dk B2 hX dk2
            have rmn8 := an8.1.rm rm2
            have rdn8 := rmc_rd Bn8 Xn8 rmn8
            refine ez_go (n := 2) (pc' := 300) (L' := [(5, .inl (0)), (0, .inr (.inr (some (770)))), (1, .inl (t)), (2, .inl (st)), (3, .inl (1))]) (st' := []) rfl ?_
            refine ez_less [(5, .inl (0)), (0, .inr (.inr (some (770)))), (1, .inl (t)), (2, .inl (st)), (3, .inl (1))] rfl ⟨rfl, rfl, rfl, rfl, rfl, trivial⟩ ?_
            have el : (lvl true st).toNat = 4 := by rw [show lvl true st = st from if_pos rfl]; omega
            refine rd_kf_4 (h := gn8) (B := KY W 3 ++ [0]) Bn8 Xn8 dkn8 wen8 W9 WL (by rw [List.length_append, List.length_singleton]; omega) rmn8 (fun g9 τ9 B9 n9 k9 => ?_) _ 0 gn8 τn8 rfl (by omega) (by omega) Bn8 (nw.refl τn8 gn8) (by rw [show (0 : Int).toNat = 0 from rfl, List.take_zero, lev_nil, List.append_nil]; exact kx8)
            exact kx g9 τ9 B9 (a2.trans ((nw8.trans n9).ng B2 hX dk2)) (by rw [el]; rw [List.append_assoc] at k9; exact k9)
        · skip
          refine ez_go (n := 2) (pc' := 213) (L' := [(5, .inl (4)), (0, .inr (.inr (some (770)))), (1, .inl (t)), (2, .inl (st)), (3, .inl (1))]) (st' := [.inl (4), .inl (4)]) rfl ?_
          refine ez_icmp rfl rfl ⟨by decide, by decide⟩ ⟨by decide, by decide⟩ (fun _ => ?_) (fun (c21 : ¬((4 : Int) ≤ (4))) => absurd c21 (by decide))
          refine ez_go (n := 2) (pc' := 284) (L' := [(5, .inl (4)), (0, .inr (.inr (some (770)))), (1, .inl (t)), (2, .inl (st)), (3, .inl (1))]) (st' := [.inl (4), .inl (st)]) rfl ?_
          refine ez_icmp rfl rfl ⟨by first | omega | exact (sz_i32 _).1, by first | omega | exact (sz_i32 _).2⟩ ⟨by first | omega | exact (sz_i32 _).1, by first | omega | exact (sz_i32 _).2⟩ (fun (c22 : (st) < (4)) => ?_) (fun (c22 : ¬((st) < (4))) => ?_)
          · skip
            have el : (lvl true st).toNat = 3 := by rw [show lvl true st = st from if_pos rfl]; omega
            exact ez_ret0 rfl rfl (kx gn7 τn7 Bn7 (a2.trans an7) (by rw [el]; exact ky7))
          · skip
            refine ez_go (n := 1) (pc' := 288) (L' := [(5, .inl (4)), (0, .inr (.inr (some (770)))), (1, .inl (t)), (2, .inl (st)), (3, .inl (1))]) (st' := [.inl (1)]) rfl ?_
            refine ez_if rfl rfl ⟨by decide, by decide⟩ (fun _ => ?_) (fun (c23 : ¬((1 : Int) ≠ (0))) => absurd c23 (by decide))
            refine ez_go (n := 2) (pc' := 294) (L' := [(5, .inl (4)), (0, .inr (.inr (some (770)))), (1, .inl (t)), (2, .inl (st)), (3, .inl (1))]) (st' := [.inl (0), .inr (.inr (some (770)))]) rfl ?_
            refine ez_cv Bn7 un7 rfl rfl rfl tq_75 rfl rfl rfl (rd_mw Bn7 un7 ky7 (by omega) (by decide) (by decide) (by omega) (by omega) (fun gn9 τn9 Bn9 nx9 kx9 => ez_K0 ?_))
            have nw9 := nw7.trans nx9
            have an9 := nw9.ng B2 hX dk2
            have Xn9 := an9.1.X hX
            have un9 : τn9 770 = 75 := Xn9 770 (by decide)
            have wen9 := nw9.wet B2 hX we2
            have dkn9 := an9.dk B2 hX dk2
            have rmn9 := an9.1.rm rm2
            have rdn9 := rmc_rd Bn9 Xn9 rmn9
            refine ez_go (n := 2) (pc' := 300) (L' := [(5, .inl (0)), (0, .inr (.inr (some (770)))), (1, .inl (t)), (2, .inl (st)), (3, .inl (1))]) (st' := []) rfl ?_
            refine ez_less [(5, .inl (0)), (0, .inr (.inr (some (770)))), (1, .inl (t)), (2, .inl (st)), (3, .inl (1))] rfl ⟨rfl, rfl, rfl, rfl, rfl, trivial⟩ ?_
            have el : (lvl true st).toNat = 4 := by rw [show lvl true st = st from if_pos rfl]; omega
            refine rd_kf_4 (h := gn9) (B := KY W 3 ++ [0]) Bn9 Xn9 dkn9 wen9 W9 WL (by rw [List.length_append, List.length_singleton]; omega) rmn9 (fun g9 τ9 B9 n9 k9 => ?_) _ 0 gn9 τn9 rfl (by omega) (by omega) Bn9 (nw.refl τn9 gn9) (by rw [show (0 : Int).toNat = 0 from rfl, List.take_zero, lev_nil, List.append_nil]; exact kx9)
            exact kx g9 τ9 B9 (a2.trans ((nw9.trans n9).ng B2 hX dk2)) (by rw [el]; rw [List.append_assoc] at k9; exact k9)

theorem rd_kf1 {t st : Int} {u : List Int} (c : nmC τ h Ls) (hm : mC h Cs) (hK : ∀ x, (0 ≤ x ∧ x ≤ 1114111) → 0 ≤ (vF Ls x).1 ∧ (vF Ls x).1 ≤ 254) (hL : ∀ row e, cLK Cs row = some e → (∀ x ∈ e, eok x) ∧ e.length ≤ 18) (rm : rmc h) (dk : got h ≠ gke h) (sl : slt h) (t0 : 0 ≤ t) (t7 : t ≤ 7) (mu : mx h t.toNat u) (up : ptl u) (ul : u.length ≤ 2000) (s1 : 1 ≤ st) (s4 : st ≤ 4) (k1 : ∀ W, kyR (vF Ls) (vE Ls) (cLK Cs) (yD Ls) true u W → wps W → W.length ≤ 36000 → ∀ g τ1, ez_B τ1 g → ng τ h τ1 g → kyt g (KY W (lvl true st).toNat) → Q (.inl none, g)) (k0 : kyN (vF Ls) u → ∀ g τ1, ez_B τ1 g → nk τ h τ1 g → Q (.inr g.1, xc g 0)) : ez_W (d + 9) cm_273 0 [(0, .inr (.inr (some (770)))), (1, .inl (t)), (2, .inl (st)), (3, .inl (1))] [] h Q := by
  have hX := c.1.2.1
  have t770 : τ 770 = 75 := hX 770 (by decide)
  refine ez_go (n := 2) (pc' := 2) (L' := [(0, .inr (.inr (some (770)))), (1, .inl (t)), (2, .inl (st)), (3, .inl (1))]) (st' := [.inl (t), .inr (.inr (some (770)))]) rfl ?_
  refine ez_cv c.1.1 t770 rfl rfl rfl tq_75 rfl rfl rfl (rd_mels (K := fun x => (vF Ls x).1) c hm (fun _ => rfl) hK rm sl t0 t7 mu up ul (fun m res um lt nf pr g1 τ1 B1 d1 em1 => ez_K0 ?_) (fun m um lt g1 τ1 B1 nk1 => ez_Kp (xc_exc B1 rfl) rfl (k0 ⟨m, um, lt⟩ g1 τ1 B1 nk1)))
  have X1 := d1.1.X hX
  have u770 : τ1 770 = 75 := X1 770 (by decide)
  have ok := els_ok (K := fun x => (vF Ls x).1) hL (UBd_bd (yD Ls)) 2000 res pr
  have e36 : 0 ≤ qz_I g1 770 36 ∧ qz_I g1 770 36 ≤ 36000 := ez_fB (cl := 11) (k := 36) B1 u770 tq_75 rfl rfl (by decide)
  have l9 : (els (cLK Cs) (fun x => (vF Ls x).1) (UBd (yD Ls)) 2000 res).length ≤ 36000 := by have := em1.1.1; omega
  have ky1 : kyR (vF Ls) (vE Ls) (cLK Cs) (yD Ls) true u (wts true false (els (cLK Cs) (fun x => (vF Ls x).1) (UBd (yD Ls)) 2000 res)) := ⟨m, res, um, lt, nf, rfl⟩
  have k9 := k1 _ ky1 (wts_ok false ok.1) (by rw [wts_len]; exact l9)
  have okk := ok.1
  clear ok ky1
  generalize els (cLK Cs) (fun x => (vF Ls x).1) (UBd (yD Ls)) 2000 res = es at *
  have a1 := d1.ng c.1.1 hX
  have dk1 := a1.dk c.1.1 hX dk
  have rm1 := a1.1.rm rm
  have rd1 := rmc_rd B1 X1 rm1
  have tpo := (ez_tg5 B1 u770).2.2.2.1
  have lpo : 1024 ≤ qz_N g1 (gfo g1) ∧ qz_N g1 (gfo g1) ≤ 200000 := ez_len B1 tpo tq_24 rfl
  refine ez_go (n := 1) (pc' := 6) (L' := [(0, .inr (.inr (some (770)))), (1, .inl (t)), (2, .inl (st)), (3, .inl (1))]) (st' := [.inr (.inr (some (770)))]) rfl ?_
  refine ez_gR B1 u770 rfl rfl tq_75 rfl rfl (fun (t1 : _ = 24) (t1' : 1 ≤ qz_I g1 770 38) => ?_)
  rw [show qz_P g1 770 38 = gfo g1 from rfl]
  refine ez_al B1 tpo rfl tq_24 rfl (fun (b2 : 1024 ≤ qz_N g1 (gfo g1)) (b2' : qz_N g1 (gfo g1) ≤ 200000) => ?_)
  refine ez_go (n := 1) (pc' := 11) (L' := [(0, .inr (.inr (some (770)))), (1, .inl (t)), (2, .inl (st)), (3, .inl (1))]) (st' := [.inr (.inr (some (770))), .inl (qz_N g1 (gfo g1))]) rfl ?_
  refine ez_gI B1 u770 rfl rfl tq_75 rfl rfl (fun (b3 : 0 ≤ qz_I g1 770 36) (b3' : qz_I g1 770 36 ≤ 36000) => ?_)
  rw [show qz_I g1 770 36 = (es.length : Int) from em1.1.1]
  refine ez_icmp rfl rfl ⟨by first | omega | exact (sz_i32 _).1, by first | omega | exact (sz_i32 _).2⟩ ⟨by first | omega | exact (sz_i32 _).1, by first | omega | exact (sz_i32 _).2⟩ (fun (c4 : ((es.length : Int)) ≤ (qz_N g1 (gfo g1))) => ?_) (fun (c4 : ¬(((es.length : Int)) ≤ (qz_N g1 (gfo g1)))) => ?_)
  · skip
    refine ez_less [(0, .inr (.inr (some (770)))), (1, .inl (t)), (2, .inl (st)), (3, .inl (1))] rfl ⟨rfl, rfl, rfl, rfl, trivial⟩ ?_
    exact rd_kf_r1 B1 X1 em1 l9 (by omega) okk dk1 rm1 s1 s4 (fun g τ2 B2 n2 ky2 => k9 g τ2 B2 (a1.trans n2) ky2)
  · skip
    refine ez_go (n := 3) (pc' := 20) (L' := [(0, .inr (.inr (some (770)))), (1, .inl (t)), (2, .inl (st)), (3, .inl (1))]) (st' := [.inr (.inr (some (770))), .inl (2), .inr (.inr (some (770)))]) rfl ?_
    refine ez_gI B1 u770 rfl rfl tq_75 rfl rfl (fun (b5 : 0 ≤ qz_I g1 770 36) (b5' : qz_I g1 770 36 ≤ 36000) => ?_)
    rw [show qz_I g1 770 36 = (es.length : Int) from em1.1.1]
    refine ez_go (n := 1) (pc' := 24) (L' := [(0, .inr (.inr (some (770)))), (1, .inl (t)), (2, .inl (st)), (3, .inl (1))]) (st' := [.inl ((2) * ((es.length : Int))), .inr (.inr (some (770)))]) rfl ?_
    refine ez_nA' (t := 24) B1 rfl rfl rfl tq_24 rfl rfl (by omega) (by show (1024 : Int) ≤ _; omega) (by show _ ≤ (200000 : Int); omega) (by omega) (by omega) (by omega) (fun g6 τ6 p6 hB6 x6 o6 t6 z6 e6 N6 y6 => ?_)
    have c6 := x6.2
    have u770n6 := (x6.1 _ (by rw [u770]; decide)).1.trans u770
    have t1n6 := (x6.1 _ (by rw [t1]; decide)).1.trans t1
    have tpon6 := (x6.1 _ (by rw [tpo]; decide)).1.trans tpo
    refine ez_pf hB6 u770n6 rfl rfl tq_75 rfl rfl rfl rfl (ez_vdR rfl t6 (by omega) (by omega)) (fun hB7 w8 => ?_)
    refine ez_less [(0, .inr (.inr (some (770)))), (1, .inl (t)), (2, .inl (st)), (3, .inl (1))] rfl ⟨rfl, rfl, rfl, rfl, trivial⟩ ?_
    have hq770 : 770 ≠ p6 := fun e => by rw [← e, u770] at z6; cases z6
    have f9 : ∀ j, qz_I g6 770 j = qz_I g1 770 j := fun j => x6.I (by rw [u770]; decide) j
    have hE3 : gfo (dz_put g6 770 38 (ez_v (.inr (.inr (some (p6)))))) = p6 := by unfold gfo qz_P; rw [w8]; show ((p6 : Int) + 1 - 1).toNat = p6; omega
    have h3j : ∀ j, j ≠ 38 → qz_I (dz_put g6 770 38 (ez_v (.inr (.inr (some (p6)))))) 770 j = qz_I g1 770 j := fun j hj => by rw [ez_put_I (fun w => hj w.2)]; exact f9 j
    have hN3 : qz_N (dz_put g6 770 38 (ez_v (.inr (.inr (some (p6)))))) p6 = 2 * (es.length : Int) := by rw [ez_put_N, N6]
    have fr3 : ∀ q, q ≠ 770 → τ1 q ≠ 0 → ((dz_put g6 770 38 (ez_v (.inr (.inr (some (p6))))))).2.2 q = g1.2.2 q := fun q h1 h2 => by rw [qz_put_at _ _ _ _ h1, (x6.1 q h2).2]
    have c31 : ((dz_put g6 770 38 (ez_v (.inr (.inr (some (p6))))))).1 = g6.1 := rfl
    have c32 : ((dz_put g6 770 38 (ez_v (.inr (.inr (some (p6))))))).2.1 = g6.2.1 := rfl
    have B3 := hB7
    have t3 := u770n6
    generalize (dz_put g6 770 38 (ez_v (.inr (.inr (some (p6)))))) = g3 at *
    have cx := x6.2
    obtain ⟨-, q1, q2, q3, q4, q5⟩ := ez_tg5 B1 u770
    have no : ∀ {q t : Nat}, τ1 q = t → (!(Nat.beq t 0) && !(Nat.beq t 75)) = true → g3.2.2 q = g1.2.2 q := fun {q t} e w => by
      simp only [Bool.and_eq_true, Bool.not_eq_true'] at w
      subst e
      exact fr3 q (fun e => by rw [e, u770] at w; exact absurd w.2 (by decide)) (fun e => by rw [e] at w; exact absurd w.1 (by decide))
    have eN : ∀ {q t : Nat}, τ1 q = t → (!(Nat.beq t 0) && !(Nat.beq t 75)) = true → qz_N g3 q = qz_N g1 q := fun {q t} e w => by unfold qz_N; rw [no e w]
    have p0 : sk g3 = sk g1 := by unfold sk qz_P; rw [h3j 24 (by decide)]
    have p1 : gel g3 = gel g1 := by unfold gel qz_P; rw [h3j 35 (by decide)]
    have p3 : got g3 = got g1 := by unfold got qz_P; rw [h3j 39 (by decide)]
    have p4 : gke g3 = gke g1 := by unfold gke qz_P; rw [h3j 40 (by decide)]
    have ez : zz g3 - zz g1 = 2 * (es.length : Int) - qz_N g1 (gfo g1) := by
      unfold zz; rw [p0, p1, hE3, p3, p4, eN q1 (by decide), eN q2 (by decide), eN q4 (by decide), eN q5 (by decide), hN3]; omega
    have a3 : ng τ1 g1 τ6 g3 := by
      refine ⟨⟨fun q hq => ⟨(x6.1 q hq).1, fun y1 _ _ => fr3 q y1 hq⟩, fun q y0 y1 => ?_, fun j hj => h3j j (fun e => by rw [e] at hj; exact absurd hj (by decide)), by omega, by omega, fun w => ?_, fun w => ?_⟩, p3, Or.inl p4, no q4 (by decide)⟩
      · by_cases e : q = p6
        · rw [e, t6]; rfl
        · rw [o6 q e] at y1; exact absurd y0 y1
      · rw [h3j 25 (by decide), p0, eN q1 (by decide)]; exact w
      · rw [h3j 36 (by decide), p1, eN q2 (by decide)]; exact w
    have X3 := a3.1.X X1
    have em3 : emt g3 es := em1.k (h3j 36 (by decide)) (h3j 35 (by decide)) (no q2 (by decide))
    exact rd_kf_r1 B3 X3 em3 l9 (by rw [hE3, hN3]; omega) okk (a3.dk B1 X1 dk1) (a3.1.rm rm1) s1 s4 (fun g τ2 B2 n2 ky2 => k9 g τ2 B2 ((a1.trans a3).trans n2) ky2)

theorem rd_kf_r0 {t st : Int} (hB : ez_B τ h) (hX : jz_X τ) (em : emt h es) (l9 : es.length ≤ 36000) (hnF : (es.length : Int) ≤ qz_N h (gfo h)) (hok : ∀ e ∈ es, eok e) (dk : got h ≠ gke h) (rm : rmc h) (s1 : 1 ≤ st) (s4 : st ≤ 4) (kx : ∀ g τ1, ez_B τ1 g → ng τ h τ1 g → kyt g (KY (wts false false es) (lvl false st).toNat) → Q (.inl none, g)) : ez_W (d + 1) cm_273 29 [(0, .inr (.inr (some (770)))), (1, .inl (t)), (2, .inl (st)), (3, .inl (0))] [] h Q := by
  have t770 : τ 770 = 75 := hX 770 (by decide)
  obtain ⟨-, -, tE, tF, -, -⟩ := ez_tg5 hB t770
  have nE7 : 770 ≠ gel h := fun e => by rw [← e, t770] at tE; cases tE
  have nF7 : 770 ≠ gfo h := fun e => by rw [← e, t770] at tF; cases tF
  have p770 : nz_P2 (gel h) (gfo h) 770 = false := nz_P2_f nE7 nF7
  refine ez_go (n := 6) (pc' := 38) (L' := [(5, .inl (0)), (4, .inl (0)), (0, .inr (.inr (some (770)))), (1, .inl (t)), (2, .inl (st)), (3, .inl (0))]) (st' := [.inr (.inr (some (770))), .inl (0)]) rfl ?_
  refine ez_gI hB t770 rfl rfl tq_75 rfl rfl (fun (b1 : 0 ≤ qz_I h 770 36) (b1' : qz_I h 770 36 ≤ 36000) => ?_)
  rw [show qz_I h 770 36 = (es.length : Int) from em.1.1]
  refine ez_icmp rfl rfl ⟨by first | omega | exact (sz_i32 _).1, by first | omega | exact (sz_i32 _).2⟩ ⟨by first | omega | exact (sz_i32 _).1, by first | omega | exact (sz_i32 _).2⟩ (fun (c2 : ((es.length : Int)) ≤ (0)) => ?_) (fun (c2 : ¬(((es.length : Int)) ≤ (0))) => ?_)
  · skip
    refine ez_less [(0, .inr (.inr (some (770)))), (1, .inl (t)), (2, .inl (st)), (3, .inl (0))] rfl ⟨rfl, rfl, rfl, rfl, trivial⟩ ?_
    have we1 : wet h false (wts false false es) := ⟨⟨by rw [wts_len]; exact em.1.1, by rw [wts_len]; exact em.1.2, by rw [wts_len]; exact hnF⟩, fun j w hw => by
      obtain ⟨e, e1, e2⟩ := wtsF es false j w hw
      subst e2
      obtain ⟨-, z1, z2, z3⟩ := em.2 j e e1
      exact ⟨z1, z2, z3, fun y => by cases y⟩⟩
    refine ez_go (n := 2) (pc' := 198) (L' := [(0, .inr (.inr (some (770)))), (1, .inl (t)), (2, .inl (st)), (3, .inl (0))]) (st' := [.inl (0), .inr (.inr (some (770)))]) rfl ?_
    refine ez_pf hB t770 rfl rfl tq_75 rfl rfl rfl rfl (ez_vdI rfl rfl (by omega) (by omega)) (fun hB3 w4 => ?_)
    have v41 : qz_I (dz_put h 770 41 (ez_v (.inl (0)))) 770 41 = 0 := w4.trans rfl
    have i41 : ∀ j, j ≠ 41 → qz_I (dz_put h 770 41 (ez_v (.inl (0)))) 770 j = qz_I h 770 j := fun j hj => ez_put_I (fun w => hj w.2)
    have f41 : ez_fr (ez_one 770) h (dz_put h 770 41 (ez_v (.inl (0)))) := (ez_fr.refl (ez_one 770) h).put rfl _ _
    have n41 : ∀ q, qz_N (dz_put h 770 41 (ez_v (.inl (0)))) q = qz_N h q := fun q => ez_put_N _
    have B2 := hB3
    generalize (dz_put h 770 41 (ez_v (.inl (0)))) = g2 at *
    have c2n : ng τ h τ g2 := ng.fr hB hX f41 (fun q hq => Or.inl (Nat.eq_of_beq_eq_true hq)) (fun q _ => n41 q) i41
    have a2 : ng τ h τ g2 := c2n
    have tq1 := (ez_tg5 hB t770).2
    have we2 : wet g2 false (wts false false es) := we1.k (fun j _ j2 => i41 j j2) (f41.2.2 _ (dz_beq_ne (fun w => by have := tq1.2.1; rw [w, t770] at this; cases this))) (f41.2.2 _ (dz_beq_ne (fun w => by have := tq1.2.2.1; rw [w, t770] at this; cases this)))
    have dk2 := a2.dk hB hX dk
    have rm2 := a2.1.rm rm
    have rd2 := rmc_rd B2 hX rm2
    have lpo2 : 1024 ≤ qz_N g2 (gke g2) ∧ qz_N g2 (gke g2) ≤ 600100 := ez_len B2 (ez_tke B2 t770) tq_25 rfl
    have ky0 : kyt g2 [] := ⟨⟨v41, by rw [List.length_nil]; omega⟩, fun j v hv => by cases hv⟩
    have WL : (wts false false es).length ≤ 36000 := by rw [wts_len]; exact l9
    have W9 : wps (wts false false es) := wts_ok false hok
    have kb1 := KY_b (wts false false es) 1; have kb2 := KY_b (wts false false es) 2; have kb3 := KY_b (wts false false es) 3
    generalize wts false false es = W at *
    refine ez_go (n := 4) (pc' := 207) (L' := [(5, .inl (1)), (0, .inr (.inr (some (770)))), (1, .inl (t)), (2, .inl (st)), (3, .inl (0))]) (st' := [.inl (st), .inl (1)]) rfl ?_
    refine ez_icmp rfl rfl ⟨by first | omega | exact (sz_i32 _).1, by first | omega | exact (sz_i32 _).2⟩ ⟨by first | omega | exact (sz_i32 _).1, by first | omega | exact (sz_i32 _).2⟩ (fun (c5 : (st) < (1)) => ?_) (fun (c5 : ¬((st) < (1))) => ?_)
    · skip
      refine ez_go (n := 2) (pc' := 284) (L' := [(5, .inl (1)), (0, .inr (.inr (some (770)))), (1, .inl (t)), (2, .inl (st)), (3, .inl (0))]) (st' := [.inl (4), .inl (st)]) rfl ?_
      refine ez_icmp rfl rfl ⟨by first | omega | exact (sz_i32 _).1, by first | omega | exact (sz_i32 _).2⟩ ⟨by first | omega | exact (sz_i32 _).1, by first | omega | exact (sz_i32 _).2⟩ (fun (c6 : (st) < (4)) => ?_) (fun (c6 : ¬((st) < (4))) => ?_)
      · skip
        exfalso; omega
      · skip
        refine ez_go (n := 1) (pc' := 288) (L' := [(5, .inl (1)), (0, .inr (.inr (some (770)))), (1, .inl (t)), (2, .inl (st)), (3, .inl (0))]) (st' := [.inl (0)]) rfl ?_
        refine ez_if rfl rfl ⟨by decide, by decide⟩ (fun (c7 : (0 : Int) ≠ (0)) => absurd c7 (by decide)) (fun _ => ?_)
        exfalso; omega
    · skip
      refine ez_go (n := 2) (pc' := 213) (L' := [(5, .inl (1)), (0, .inr (.inr (some (770)))), (1, .inl (t)), (2, .inl (st)), (3, .inl (0))]) (st' := [.inl (4), .inl (1)]) rfl ?_
      refine ez_icmp rfl rfl ⟨by decide, by decide⟩ ⟨by decide, by decide⟩ (fun (c8 : (4) ≤ (1 : Int)) => absurd c8 (by decide)) (fun _ => ?_)
      refine ez_go (n := 2) (pc' := 219) (L' := [(5, .inl (1)), (0, .inr (.inr (some (770)))), (1, .inl (t)), (2, .inl (st)), (3, .inl (0))]) (st' := [.inl (1), .inl (1)]) rfl ?_
      refine ez_icmp rfl rfl ⟨by decide, by decide⟩ ⟨by decide, by decide⟩ (fun _ => ?_) (fun (c9 : ¬((1 : Int) ≤ (1))) => absurd c9 (by decide))
      refine ez_go (n := 2) (pc' := 230) (L' := [(6, .inl (0)), (5, .inl (1)), (0, .inr (.inr (some (770)))), (1, .inl (t)), (2, .inl (st)), (3, .inl (0))]) (st' := []) rfl ?_
      refine ez_less [(6, .inl (0)), (5, .inl (1)), (0, .inr (.inr (some (770)))), (1, .inl (t)), (2, .inl (st)), (3, .inl (0))] rfl ⟨rfl, rfl, rfl, rfl, rfl, rfl, trivial⟩ ?_
      refine rd_kf_l0 (h := g2) (B := []) (lv := 1) B2 hX dk2 we2 W9 WL (by rw [List.length_nil]; omega) (by decide) (by decide) rm2 (fun gn3 τn3 Bn3 nx3 kx3 => ?_) _ 0 g2 τ rfl (by omega) (by omega) B2 (nw.refl τ g2) (by rw [show (0 : Int).toNat = 0 from rfl, List.take_zero, lev_nil, List.append_nil]; exact ky0)
      have ky3 : kyt gn3 (KY W 1) := kx3
      have nw3 := (nw.refl τ g2).trans nx3
      have an3 := nw3.ng B2 hX dk2
      have Xn3 := an3.1.X hX
      have un3 : τn3 770 = 75 := Xn3 770 (by decide)
      have wen3 := nw3.wet B2 hX we2
      have dkn3 := an3.dk B2 hX dk2
      have rmn3 := an3.1.rm rm2
      have rdn3 := rmc_rd Bn3 Xn3 rmn3
      refine ez_go (n := 4) (pc' := 207) (L' := [(5, .inl (2)), (0, .inr (.inr (some (770)))), (1, .inl (t)), (2, .inl (st)), (3, .inl (0))]) (st' := [.inl (st), .inl (2)]) rfl ?_
      refine ez_icmp rfl rfl ⟨by first | omega | exact (sz_i32 _).1, by first | omega | exact (sz_i32 _).2⟩ ⟨by first | omega | exact (sz_i32 _).1, by first | omega | exact (sz_i32 _).2⟩ (fun (c10 : (st) < (2)) => ?_) (fun (c10 : ¬((st) < (2))) => ?_)
      · skip
        refine ez_go (n := 2) (pc' := 284) (L' := [(5, .inl (2)), (0, .inr (.inr (some (770)))), (1, .inl (t)), (2, .inl (st)), (3, .inl (0))]) (st' := [.inl (4), .inl (st)]) rfl ?_
        refine ez_icmp rfl rfl ⟨by first | omega | exact (sz_i32 _).1, by first | omega | exact (sz_i32 _).2⟩ ⟨by first | omega | exact (sz_i32 _).1, by first | omega | exact (sz_i32 _).2⟩ (fun (c11 : (st) < (4)) => ?_) (fun (c11 : ¬((st) < (4))) => ?_)
        · skip
          have el : (lvl false st).toNat = 1 := by rw [show lvl false st = min st 3 from if_neg (by decide)]; omega
          exact ez_ret0 rfl rfl (kx gn3 τn3 Bn3 (a2.trans an3) (by rw [el]; exact ky3))
        · skip
          refine ez_go (n := 1) (pc' := 288) (L' := [(5, .inl (2)), (0, .inr (.inr (some (770)))), (1, .inl (t)), (2, .inl (st)), (3, .inl (0))]) (st' := [.inl (0)]) rfl ?_
          refine ez_if rfl rfl ⟨by decide, by decide⟩ (fun (c12 : (0 : Int) ≠ (0)) => absurd c12 (by decide)) (fun _ => ?_)
          have el : (lvl false st).toNat = 1 := by rw [show lvl false st = min st 3 from if_neg (by decide)]; omega
          exact ez_ret0 rfl rfl (kx gn3 τn3 Bn3 (a2.trans an3) (by rw [el]; exact ky3))
      · skip
        refine ez_go (n := 2) (pc' := 213) (L' := [(5, .inl (2)), (0, .inr (.inr (some (770)))), (1, .inl (t)), (2, .inl (st)), (3, .inl (0))]) (st' := [.inl (4), .inl (2)]) rfl ?_
        refine ez_icmp rfl rfl ⟨by decide, by decide⟩ ⟨by decide, by decide⟩ (fun (c13 : (4) ≤ (2 : Int)) => absurd c13 (by decide)) (fun _ => ?_)
        refine ez_go (n := 2) (pc' := 219) (L' := [(5, .inl (2)), (0, .inr (.inr (some (770)))), (1, .inl (t)), (2, .inl (st)), (3, .inl (0))]) (st' := [.inl (1), .inl (2)]) rfl ?_
        refine ez_icmp rfl rfl ⟨by decide, by decide⟩ ⟨by decide, by decide⟩ (fun (c14 : (2 : Int) ≤ (1)) => absurd c14 (by decide)) (fun _ => ?_)
        refine ez_go (n := 2) (pc' := 224) (L' := [(5, .inl (2)), (0, .inr (.inr (some (770)))), (1, .inl (t)), (2, .inl (st)), (3, .inl (0))]) (st' := [.inl (0), .inr (.inr (some (770)))]) rfl ?_
        refine ez_cv Bn3 un3 rfl rfl rfl tq_75 rfl rfl rfl (rd_mw Bn3 un3 ky3 (by omega) (by decide) (by decide) (by omega) (by omega) (fun gn4 τn4 Bn4 nx4 kx4 => ez_K0 ?_))
        have nw4 := nw3.trans nx4
        have an4 := nw4.ng B2 hX dk2
        have Xn4 := an4.1.X hX
        have un4 : τn4 770 = 75 := Xn4 770 (by decide)
        have wen4 := nw4.wet B2 hX we2
        have dkn4 := an4.dk B2 hX dk2
        have rmn4 := an4.1.rm rm2
        have rdn4 := rmc_rd Bn4 Xn4 rmn4
        refine ez_go (n := 2) (pc' := 230) (L' := [(6, .inl (0)), (5, .inl (2)), (0, .inr (.inr (some (770)))), (1, .inl (t)), (2, .inl (st)), (3, .inl (0))]) (st' := []) rfl ?_
        refine ez_less [(6, .inl (0)), (5, .inl (2)), (0, .inr (.inr (some (770)))), (1, .inl (t)), (2, .inl (st)), (3, .inl (0))] rfl ⟨rfl, rfl, rfl, rfl, rfl, rfl, trivial⟩ ?_
        refine rd_kf_l0 (h := gn4) (B := KY W 1 ++ [0]) (lv := 2) Bn4 Xn4 dkn4 wen4 W9 WL (by rw [List.length_append, List.length_singleton]; omega) (by decide) (by decide) rmn4 (fun gn5 τn5 Bn5 nx5 kx5 => ?_) _ 0 gn4 τn4 rfl (by omega) (by omega) Bn4 (nw.refl τn4 gn4) (by rw [show (0 : Int).toNat = 0 from rfl, List.take_zero, lev_nil, List.append_nil]; exact kx4)
        have ky5 : kyt gn5 (KY W 2) := by rw [List.append_assoc] at kx5; exact kx5
        have nw5 := nw4.trans nx5
        have an5 := nw5.ng B2 hX dk2
        have Xn5 := an5.1.X hX
        have un5 : τn5 770 = 75 := Xn5 770 (by decide)
        have wen5 := nw5.wet B2 hX we2
        have dkn5 := an5.dk B2 hX dk2
        have rmn5 := an5.1.rm rm2
        have rdn5 := rmc_rd Bn5 Xn5 rmn5
        refine ez_go (n := 4) (pc' := 207) (L' := [(5, .inl (3)), (0, .inr (.inr (some (770)))), (1, .inl (t)), (2, .inl (st)), (3, .inl (0))]) (st' := [.inl (st), .inl (3)]) rfl ?_
        refine ez_icmp rfl rfl ⟨by first | omega | exact (sz_i32 _).1, by first | omega | exact (sz_i32 _).2⟩ ⟨by first | omega | exact (sz_i32 _).1, by first | omega | exact (sz_i32 _).2⟩ (fun (c15 : (st) < (3)) => ?_) (fun (c15 : ¬((st) < (3))) => ?_)
        · skip
          refine ez_go (n := 2) (pc' := 284) (L' := [(5, .inl (3)), (0, .inr (.inr (some (770)))), (1, .inl (t)), (2, .inl (st)), (3, .inl (0))]) (st' := [.inl (4), .inl (st)]) rfl ?_
          refine ez_icmp rfl rfl ⟨by first | omega | exact (sz_i32 _).1, by first | omega | exact (sz_i32 _).2⟩ ⟨by first | omega | exact (sz_i32 _).1, by first | omega | exact (sz_i32 _).2⟩ (fun (c16 : (st) < (4)) => ?_) (fun (c16 : ¬((st) < (4))) => ?_)
          · skip
            have el : (lvl false st).toNat = 2 := by rw [show lvl false st = min st 3 from if_neg (by decide)]; omega
            exact ez_ret0 rfl rfl (kx gn5 τn5 Bn5 (a2.trans an5) (by rw [el]; exact ky5))
          · skip
            refine ez_go (n := 1) (pc' := 288) (L' := [(5, .inl (3)), (0, .inr (.inr (some (770)))), (1, .inl (t)), (2, .inl (st)), (3, .inl (0))]) (st' := [.inl (0)]) rfl ?_
            refine ez_if rfl rfl ⟨by decide, by decide⟩ (fun (c17 : (0 : Int) ≠ (0)) => absurd c17 (by decide)) (fun _ => ?_)
            have el : (lvl false st).toNat = 2 := by rw [show lvl false st = min st 3 from if_neg (by decide)]; omega
            exact ez_ret0 rfl rfl (kx gn5 τn5 Bn5 (a2.trans an5) (by rw [el]; exact ky5))
        · skip
          refine ez_go (n := 2) (pc' := 213) (L' := [(5, .inl (3)), (0, .inr (.inr (some (770)))), (1, .inl (t)), (2, .inl (st)), (3, .inl (0))]) (st' := [.inl (4), .inl (3)]) rfl ?_
          refine ez_icmp rfl rfl ⟨by decide, by decide⟩ ⟨by decide, by decide⟩ (fun (c18 : (4) ≤ (3 : Int)) => absurd c18 (by decide)) (fun _ => ?_)
          refine ez_go (n := 2) (pc' := 219) (L' := [(5, .inl (3)), (0, .inr (.inr (some (770)))), (1, .inl (t)), (2, .inl (st)), (3, .inl (0))]) (st' := [.inl (1), .inl (3)]) rfl ?_
          refine ez_icmp rfl rfl ⟨by decide, by decide⟩ ⟨by decide, by decide⟩ (fun (c19 : (3 : Int) ≤ (1)) => absurd c19 (by decide)) (fun _ => ?_)
          refine ez_go (n := 2) (pc' := 224) (L' := [(5, .inl (3)), (0, .inr (.inr (some (770)))), (1, .inl (t)), (2, .inl (st)), (3, .inl (0))]) (st' := [.inl (0), .inr (.inr (some (770)))]) rfl ?_
          refine ez_cv Bn5 un5 rfl rfl rfl tq_75 rfl rfl rfl (rd_mw Bn5 un5 ky5 (by omega) (by decide) (by decide) (by omega) (by omega) (fun gn6 τn6 Bn6 nx6 kx6 => ez_K0 ?_))
          have nw6 := nw5.trans nx6
          have an6 := nw6.ng B2 hX dk2
          have Xn6 := an6.1.X hX
          have un6 : τn6 770 = 75 := Xn6 770 (by decide)
          have wen6 := nw6.wet B2 hX we2
          have dkn6 := an6.dk B2 hX dk2
          have rmn6 := an6.1.rm rm2
          have rdn6 := rmc_rd Bn6 Xn6 rmn6
          refine ez_go (n := 2) (pc' := 230) (L' := [(6, .inl (0)), (5, .inl (3)), (0, .inr (.inr (some (770)))), (1, .inl (t)), (2, .inl (st)), (3, .inl (0))]) (st' := []) rfl ?_
          refine ez_less [(6, .inl (0)), (5, .inl (3)), (0, .inr (.inr (some (770)))), (1, .inl (t)), (2, .inl (st)), (3, .inl (0))] rfl ⟨rfl, rfl, rfl, rfl, rfl, rfl, trivial⟩ ?_
          refine rd_kf_l0 (h := gn6) (B := KY W 2 ++ [0]) (lv := 3) Bn6 Xn6 dkn6 wen6 W9 WL (by rw [List.length_append, List.length_singleton]; omega) (by decide) (by decide) rmn6 (fun gn7 τn7 Bn7 nx7 kx7 => ?_) _ 0 gn6 τn6 rfl (by omega) (by omega) Bn6 (nw.refl τn6 gn6) (by rw [show (0 : Int).toNat = 0 from rfl, List.take_zero, lev_nil, List.append_nil]; exact kx6)
          have ky7 : kyt gn7 (KY W 3) := by rw [List.append_assoc] at kx7; exact kx7
          have nw7 := nw6.trans nx7
          have an7 := nw7.ng B2 hX dk2
          have Xn7 := an7.1.X hX
          have un7 : τn7 770 = 75 := Xn7 770 (by decide)
          have wen7 := nw7.wet B2 hX we2
          have dkn7 := an7.dk B2 hX dk2
          have rmn7 := an7.1.rm rm2
          have rdn7 := rmc_rd Bn7 Xn7 rmn7
          refine ez_go (n := 4) (pc' := 207) (L' := [(5, .inl (4)), (0, .inr (.inr (some (770)))), (1, .inl (t)), (2, .inl (st)), (3, .inl (0))]) (st' := [.inl (st), .inl (4)]) rfl ?_
          refine ez_icmp rfl rfl ⟨by first | omega | exact (sz_i32 _).1, by first | omega | exact (sz_i32 _).2⟩ ⟨by first | omega | exact (sz_i32 _).1, by first | omega | exact (sz_i32 _).2⟩ (fun (c20 : (st) < (4)) => ?_) (fun (c20 : ¬((st) < (4))) => ?_)
          · skip
            refine ez_go (n := 2) (pc' := 284) (L' := [(5, .inl (4)), (0, .inr (.inr (some (770)))), (1, .inl (t)), (2, .inl (st)), (3, .inl (0))]) (st' := [.inl (4), .inl (st)]) rfl ?_
            refine ez_icmp rfl rfl ⟨by first | omega | exact (sz_i32 _).1, by first | omega | exact (sz_i32 _).2⟩ ⟨by first | omega | exact (sz_i32 _).1, by first | omega | exact (sz_i32 _).2⟩ (fun (c21 : (st) < (4)) => ?_) (fun (c21 : ¬((st) < (4))) => ?_)
            · skip
              have el : (lvl false st).toNat = 3 := by rw [show lvl false st = min st 3 from if_neg (by decide)]; omega
              exact ez_ret0 rfl rfl (kx gn7 τn7 Bn7 (a2.trans an7) (by rw [el]; exact ky7))
            · skip
              refine ez_go (n := 1) (pc' := 288) (L' := [(5, .inl (4)), (0, .inr (.inr (some (770)))), (1, .inl (t)), (2, .inl (st)), (3, .inl (0))]) (st' := [.inl (0)]) rfl ?_
              refine ez_if rfl rfl ⟨by decide, by decide⟩ (fun (c22 : (0 : Int) ≠ (0)) => absurd c22 (by decide)) (fun _ => ?_)
              have el : (lvl false st).toNat = 3 := by rw [show lvl false st = min st 3 from if_neg (by decide)]; omega
              exact ez_ret0 rfl rfl (kx gn7 τn7 Bn7 (a2.trans an7) (by rw [el]; exact ky7))
          · skip
            refine ez_go (n := 2) (pc' := 213) (L' := [(5, .inl (4)), (0, .inr (.inr (some (770)))), (1, .inl (t)), (2, .inl (st)), (3, .inl (0))]) (st' := [.inl (4), .inl (4)]) rfl ?_
            refine ez_icmp rfl rfl ⟨by decide, by decide⟩ ⟨by decide, by decide⟩ (fun _ => ?_) (fun (c23 : ¬((4 : Int) ≤ (4))) => absurd c23 (by decide))
            refine ez_go (n := 2) (pc' := 284) (L' := [(5, .inl (4)), (0, .inr (.inr (some (770)))), (1, .inl (t)), (2, .inl (st)), (3, .inl (0))]) (st' := [.inl (4), .inl (st)]) rfl ?_
            refine ez_icmp rfl rfl ⟨by first | omega | exact (sz_i32 _).1, by first | omega | exact (sz_i32 _).2⟩ ⟨by first | omega | exact (sz_i32 _).1, by first | omega | exact (sz_i32 _).2⟩ (fun (c24 : (st) < (4)) => ?_) (fun (c24 : ¬((st) < (4))) => ?_)
            · skip
              have el : (lvl false st).toNat = 3 := by rw [show lvl false st = min st 3 from if_neg (by decide)]; omega
              exact ez_ret0 rfl rfl (kx gn7 τn7 Bn7 (a2.trans an7) (by rw [el]; exact ky7))
            · skip
              refine ez_go (n := 1) (pc' := 288) (L' := [(5, .inl (4)), (0, .inr (.inr (some (770)))), (1, .inl (t)), (2, .inl (st)), (3, .inl (0))]) (st' := [.inl (0)]) rfl ?_
              refine ez_if rfl rfl ⟨by decide, by decide⟩ (fun (c25 : (0 : Int) ≠ (0)) => absurd c25 (by decide)) (fun _ => ?_)
              have el : (lvl false st).toNat = 3 := by rw [show lvl false st = min st 3 from if_neg (by decide)]; omega
              exact ez_ret0 rfl rfl (kx gn7 τn7 Bn7 (a2.trans an7) (by rw [el]; exact ky7))
  · skip
    refine ez_go (n := 1) (pc' := 45) (L' := [(5, .inl (0)), (4, .inl (0)), (0, .inr (.inr (some (770)))), (1, .inl (t)), (2, .inl (st)), (3, .inl (0))]) (st' := [.inl (0)]) rfl ?_
    refine ez_if rfl rfl ⟨by decide, by decide⟩ (fun _ => ?_) (fun (c26 : ¬((0 : Int) = (0))) => absurd c26 (by decide))
    refine ez_less [(0, .inr (.inr (some (770)))), (1, .inl (t)), (2, .inl (st)), (3, .inl (0))] rfl ⟨rfl, rfl, rfl, rfl, trivial⟩ ?_
    have we1 : wet h false (wts false false es) := ⟨⟨by rw [wts_len]; exact em.1.1, by rw [wts_len]; exact em.1.2, by rw [wts_len]; exact hnF⟩, fun j w hw => by
      obtain ⟨e, e1, e2⟩ := wtsF es false j w hw
      subst e2
      obtain ⟨-, z1, z2, z3⟩ := em.2 j e e1
      exact ⟨z1, z2, z3, fun y => by cases y⟩⟩
    refine ez_go (n := 2) (pc' := 198) (L' := [(0, .inr (.inr (some (770)))), (1, .inl (t)), (2, .inl (st)), (3, .inl (0))]) (st' := [.inl (0), .inr (.inr (some (770)))]) rfl ?_
    refine ez_pf hB t770 rfl rfl tq_75 rfl rfl rfl rfl (ez_vdI rfl rfl (by omega) (by omega)) (fun hB27 w28 => ?_)
    have v41 : qz_I (dz_put h 770 41 (ez_v (.inl (0)))) 770 41 = 0 := w28.trans rfl
    have i41 : ∀ j, j ≠ 41 → qz_I (dz_put h 770 41 (ez_v (.inl (0)))) 770 j = qz_I h 770 j := fun j hj => ez_put_I (fun w => hj w.2)
    have f41 : ez_fr (ez_one 770) h (dz_put h 770 41 (ez_v (.inl (0)))) := (ez_fr.refl (ez_one 770) h).put rfl _ _
    have n41 : ∀ q, qz_N (dz_put h 770 41 (ez_v (.inl (0)))) q = qz_N h q := fun q => ez_put_N _
    have B2 := hB27
    generalize (dz_put h 770 41 (ez_v (.inl (0)))) = g2 at *
    have c2n : ng τ h τ g2 := ng.fr hB hX f41 (fun q hq => Or.inl (Nat.eq_of_beq_eq_true hq)) (fun q _ => n41 q) i41
    have a2 : ng τ h τ g2 := c2n
    have tq1 := (ez_tg5 hB t770).2
    have we2 : wet g2 false (wts false false es) := we1.k (fun j _ j2 => i41 j j2) (f41.2.2 _ (dz_beq_ne (fun w => by have := tq1.2.1; rw [w, t770] at this; cases this))) (f41.2.2 _ (dz_beq_ne (fun w => by have := tq1.2.2.1; rw [w, t770] at this; cases this)))
    have dk2 := a2.dk hB hX dk
    have rm2 := a2.1.rm rm
    have rd2 := rmc_rd B2 hX rm2
    have lpo2 : 1024 ≤ qz_N g2 (gke g2) ∧ qz_N g2 (gke g2) ≤ 600100 := ez_len B2 (ez_tke B2 t770) tq_25 rfl
    have ky0 : kyt g2 [] := ⟨⟨v41, by rw [List.length_nil]; omega⟩, fun j v hv => by cases hv⟩
    have WL : (wts false false es).length ≤ 36000 := by rw [wts_len]; exact l9
    have W9 : wps (wts false false es) := wts_ok false hok
    have kb1 := KY_b (wts false false es) 1; have kb2 := KY_b (wts false false es) 2; have kb3 := KY_b (wts false false es) 3
    generalize wts false false es = W at *
    refine ez_go (n := 4) (pc' := 207) (L' := [(5, .inl (1)), (0, .inr (.inr (some (770)))), (1, .inl (t)), (2, .inl (st)), (3, .inl (0))]) (st' := [.inl (st), .inl (1)]) rfl ?_
    refine ez_icmp rfl rfl ⟨by first | omega | exact (sz_i32 _).1, by first | omega | exact (sz_i32 _).2⟩ ⟨by first | omega | exact (sz_i32 _).1, by first | omega | exact (sz_i32 _).2⟩ (fun (c29 : (st) < (1)) => ?_) (fun (c29 : ¬((st) < (1))) => ?_)
    · skip
      refine ez_go (n := 2) (pc' := 284) (L' := [(5, .inl (1)), (0, .inr (.inr (some (770)))), (1, .inl (t)), (2, .inl (st)), (3, .inl (0))]) (st' := [.inl (4), .inl (st)]) rfl ?_
      refine ez_icmp rfl rfl ⟨by first | omega | exact (sz_i32 _).1, by first | omega | exact (sz_i32 _).2⟩ ⟨by first | omega | exact (sz_i32 _).1, by first | omega | exact (sz_i32 _).2⟩ (fun (c30 : (st) < (4)) => ?_) (fun (c30 : ¬((st) < (4))) => ?_)
      · skip
        exfalso; omega
      · skip
        refine ez_go (n := 1) (pc' := 288) (L' := [(5, .inl (1)), (0, .inr (.inr (some (770)))), (1, .inl (t)), (2, .inl (st)), (3, .inl (0))]) (st' := [.inl (0)]) rfl ?_
        refine ez_if rfl rfl ⟨by decide, by decide⟩ (fun (c31 : (0 : Int) ≠ (0)) => absurd c31 (by decide)) (fun _ => ?_)
        exfalso; omega
    · skip
      refine ez_go (n := 2) (pc' := 213) (L' := [(5, .inl (1)), (0, .inr (.inr (some (770)))), (1, .inl (t)), (2, .inl (st)), (3, .inl (0))]) (st' := [.inl (4), .inl (1)]) rfl ?_
      refine ez_icmp rfl rfl ⟨by decide, by decide⟩ ⟨by decide, by decide⟩ (fun (c32 : (4) ≤ (1 : Int)) => absurd c32 (by decide)) (fun _ => ?_)
      refine ez_go (n := 2) (pc' := 219) (L' := [(5, .inl (1)), (0, .inr (.inr (some (770)))), (1, .inl (t)), (2, .inl (st)), (3, .inl (0))]) (st' := [.inl (1), .inl (1)]) rfl ?_
      refine ez_icmp rfl rfl ⟨by decide, by decide⟩ ⟨by decide, by decide⟩ (fun _ => ?_) (fun (c33 : ¬((1 : Int) ≤ (1))) => absurd c33 (by decide))
      refine ez_go (n := 2) (pc' := 230) (L' := [(6, .inl (0)), (5, .inl (1)), (0, .inr (.inr (some (770)))), (1, .inl (t)), (2, .inl (st)), (3, .inl (0))]) (st' := []) rfl ?_
      refine ez_less [(6, .inl (0)), (5, .inl (1)), (0, .inr (.inr (some (770)))), (1, .inl (t)), (2, .inl (st)), (3, .inl (0))] rfl ⟨rfl, rfl, rfl, rfl, rfl, rfl, trivial⟩ ?_
      refine rd_kf_l0 (h := g2) (B := []) (lv := 1) B2 hX dk2 we2 W9 WL (by rw [List.length_nil]; omega) (by decide) (by decide) rm2 (fun gn8 τn8 Bn8 nx8 kx8 => ?_) _ 0 g2 τ rfl (by omega) (by omega) B2 (nw.refl τ g2) (by rw [show (0 : Int).toNat = 0 from rfl, List.take_zero, lev_nil, List.append_nil]; exact ky0)
      have ky8 : kyt gn8 (KY W 1) := kx8
      have nw8 := (nw.refl τ g2).trans nx8
      have an8 := nw8.ng B2 hX dk2
      have Xn8 := an8.1.X hX
      have un8 : τn8 770 = 75 := Xn8 770 (by decide)
      have wen8 := nw8.wet B2 hX we2
      have dkn8 := an8.dk B2 hX dk2
      have rmn8 := an8.1.rm rm2
      have rdn8 := rmc_rd Bn8 Xn8 rmn8
      refine ez_go (n := 4) (pc' := 207) (L' := [(5, .inl (2)), (0, .inr (.inr (some (770)))), (1, .inl (t)), (2, .inl (st)), (3, .inl (0))]) (st' := [.inl (st), .inl (2)]) rfl ?_
      refine ez_icmp rfl rfl ⟨by first | omega | exact (sz_i32 _).1, by first | omega | exact (sz_i32 _).2⟩ ⟨by first | omega | exact (sz_i32 _).1, by first | omega | exact (sz_i32 _).2⟩ (fun (c34 : (st) < (2)) => ?_) (fun (c34 : ¬((st) < (2))) => ?_)
      · skip
        refine ez_go (n := 2) (pc' := 284) (L' := [(5, .inl (2)), (0, .inr (.inr (some (770)))), (1, .inl (t)), (2, .inl (st)), (3, .inl (0))]) (st' := [.inl (4), .inl (st)]) rfl ?_
        refine ez_icmp rfl rfl ⟨by first | omega | exact (sz_i32 _).1, by first | omega | exact (sz_i32 _).2⟩ ⟨by first | omega | exact (sz_i32 _).1, by first | omega | exact (sz_i32 _).2⟩ (fun (c35 : (st) < (4)) => ?_) (fun (c35 : ¬((st) < (4))) => ?_)
        · skip
          have el : (lvl false st).toNat = 1 := by rw [show lvl false st = min st 3 from if_neg (by decide)]; omega
          exact ez_ret0 rfl rfl (kx gn8 τn8 Bn8 (a2.trans an8) (by rw [el]; exact ky8))
        · skip
          refine ez_go (n := 1) (pc' := 288) (L' := [(5, .inl (2)), (0, .inr (.inr (some (770)))), (1, .inl (t)), (2, .inl (st)), (3, .inl (0))]) (st' := [.inl (0)]) rfl ?_
          refine ez_if rfl rfl ⟨by decide, by decide⟩ (fun (c36 : (0 : Int) ≠ (0)) => absurd c36 (by decide)) (fun _ => ?_)
          have el : (lvl false st).toNat = 1 := by rw [show lvl false st = min st 3 from if_neg (by decide)]; omega
          exact ez_ret0 rfl rfl (kx gn8 τn8 Bn8 (a2.trans an8) (by rw [el]; exact ky8))
      · skip
        refine ez_go (n := 2) (pc' := 213) (L' := [(5, .inl (2)), (0, .inr (.inr (some (770)))), (1, .inl (t)), (2, .inl (st)), (3, .inl (0))]) (st' := [.inl (4), .inl (2)]) rfl ?_
        refine ez_icmp rfl rfl ⟨by decide, by decide⟩ ⟨by decide, by decide⟩ (fun (c37 : (4) ≤ (2 : Int)) => absurd c37 (by decide)) (fun _ => ?_)
        refine ez_go (n := 2) (pc' := 219) (L' := [(5, .inl (2)), (0, .inr (.inr (some (770)))), (1, .inl (t)), (2, .inl (st)), (3, .inl (0))]) (st' := [.inl (1), .inl (2)]) rfl ?_
        refine ez_icmp rfl rfl ⟨by decide, by decide⟩ ⟨by decide, by decide⟩ (fun (c38 : (2 : Int) ≤ (1)) => absurd c38 (by decide)) (fun _ => ?_)
        refine ez_go (n := 2) (pc' := 224) (L' := [(5, .inl (2)), (0, .inr (.inr (some (770)))), (1, .inl (t)), (2, .inl (st)), (3, .inl (0))]) (st' := [.inl (0), .inr (.inr (some (770)))]) rfl ?_
        refine ez_cv Bn8 un8 rfl rfl rfl tq_75 rfl rfl rfl (rd_mw Bn8 un8 ky8 (by omega) (by decide) (by decide) (by omega) (by omega) (fun gn9 τn9 Bn9 nx9 kx9 => ez_K0 ?_))
        have nw9 := nw8.trans nx9
        have an9 := nw9.ng B2 hX dk2
        have Xn9 := an9.1.X hX
        have un9 : τn9 770 = 75 := Xn9 770 (by decide)
        have wen9 := nw9.wet B2 hX we2
        have dkn9 := an9.dk B2 hX dk2
        have rmn9 := an9.1.rm rm2
        have rdn9 := rmc_rd Bn9 Xn9 rmn9
        refine ez_go (n := 2) (pc' := 230) (L' := [(6, .inl (0)), (5, .inl (2)), (0, .inr (.inr (some (770)))), (1, .inl (t)), (2, .inl (st)), (3, .inl (0))]) (st' := []) rfl ?_
        refine ez_less [(6, .inl (0)), (5, .inl (2)), (0, .inr (.inr (some (770)))), (1, .inl (t)), (2, .inl (st)), (3, .inl (0))] rfl ⟨rfl, rfl, rfl, rfl, rfl, rfl, trivial⟩ ?_
        refine rd_kf_l0 (h := gn9) (B := KY W 1 ++ [0]) (lv := 2) Bn9 Xn9 dkn9 wen9 W9 WL (by rw [List.length_append, List.length_singleton]; omega) (by decide) (by decide) rmn9 (fun gn10 τn10 Bn10 nx10 kx10 => ?_) _ 0 gn9 τn9 rfl (by omega) (by omega) Bn9 (nw.refl τn9 gn9) (by rw [show (0 : Int).toNat = 0 from rfl, List.take_zero, lev_nil, List.append_nil]; exact kx9)
        have ky10 : kyt gn10 (KY W 2) := by rw [List.append_assoc] at kx10; exact kx10
        have nw10 := nw9.trans nx10
        have an10 := nw10.ng B2 hX dk2
        have Xn10 := an10.1.X hX
        have un10 : τn10 770 = 75 := Xn10 770 (by decide)
        have wen10 := nw10.wet B2 hX we2
        have dkn10 := an10.dk B2 hX dk2
        have rmn10 := an10.1.rm rm2
        have rdn10 := rmc_rd Bn10 Xn10 rmn10
        refine ez_go (n := 4) (pc' := 207) (L' := [(5, .inl (3)), (0, .inr (.inr (some (770)))), (1, .inl (t)), (2, .inl (st)), (3, .inl (0))]) (st' := [.inl (st), .inl (3)]) rfl ?_
        refine ez_icmp rfl rfl ⟨by first | omega | exact (sz_i32 _).1, by first | omega | exact (sz_i32 _).2⟩ ⟨by first | omega | exact (sz_i32 _).1, by first | omega | exact (sz_i32 _).2⟩ (fun (c39 : (st) < (3)) => ?_) (fun (c39 : ¬((st) < (3))) => ?_)
        · skip
          refine ez_go (n := 2) (pc' := 284) (L' := [(5, .inl (3)), (0, .inr (.inr (some (770)))), (1, .inl (t)), (2, .inl (st)), (3, .inl (0))]) (st' := [.inl (4), .inl (st)]) rfl ?_
          refine ez_icmp rfl rfl ⟨by first | omega | exact (sz_i32 _).1, by first | omega | exact (sz_i32 _).2⟩ ⟨by first | omega | exact (sz_i32 _).1, by first | omega | exact (sz_i32 _).2⟩ (fun (c40 : (st) < (4)) => ?_) (fun (c40 : ¬((st) < (4))) => ?_)
          · skip
            have el : (lvl false st).toNat = 2 := by rw [show lvl false st = min st 3 from if_neg (by decide)]; omega
            exact ez_ret0 rfl rfl (kx gn10 τn10 Bn10 (a2.trans an10) (by rw [el]; exact ky10))
          · skip
            refine ez_go (n := 1) (pc' := 288) (L' := [(5, .inl (3)), (0, .inr (.inr (some (770)))), (1, .inl (t)), (2, .inl (st)), (3, .inl (0))]) (st' := [.inl (0)]) rfl ?_
            refine ez_if rfl rfl ⟨by decide, by decide⟩ (fun (c41 : (0 : Int) ≠ (0)) => absurd c41 (by decide)) (fun _ => ?_)
            have el : (lvl false st).toNat = 2 := by rw [show lvl false st = min st 3 from if_neg (by decide)]; omega
            exact ez_ret0 rfl rfl (kx gn10 τn10 Bn10 (a2.trans an10) (by rw [el]; exact ky10))
        · skip
          refine ez_go (n := 2) (pc' := 213) (L' := [(5, .inl (3)), (0, .inr (.inr (some (770)))), (1, .inl (t)), (2, .inl (st)), (3, .inl (0))]) (st' := [.inl (4), .inl (3)]) rfl ?_
          refine ez_icmp rfl rfl ⟨by decide, by decide⟩ ⟨by decide, by decide⟩ (fun (c42 : (4) ≤ (3 : Int)) => absurd c42 (by decide)) (fun _ => ?_)
          refine ez_go (n := 2) (pc' := 219) (L' := [(5, .inl (3)), (0, .inr (.inr (some (770)))), (1, .inl (t)), (2, .inl (st)), (3, .inl (0))]) (st' := [.inl (1), .inl (3)]) rfl ?_
          refine ez_icmp rfl rfl ⟨by decide, by decide⟩ ⟨by decide, by decide⟩ (fun (c43 : (3 : Int) ≤ (1)) => absurd c43 (by decide)) (fun _ => ?_)
          refine ez_go (n := 2) (pc' := 224) (L' := [(5, .inl (3)), (0, .inr (.inr (some (770)))), (1, .inl (t)), (2, .inl (st)), (3, .inl (0))]) (st' := [.inl (0), .inr (.inr (some (770)))]) rfl ?_
          refine ez_cv Bn10 un10 rfl rfl rfl tq_75 rfl rfl rfl (rd_mw Bn10 un10 ky10 (by omega) (by decide) (by decide) (by omega) (by omega) (fun gn11 τn11 Bn11 nx11 kx11 => ez_K0 ?_))
          have nw11 := nw10.trans nx11
          have an11 := nw11.ng B2 hX dk2
          have Xn11 := an11.1.X hX
          have un11 : τn11 770 = 75 := Xn11 770 (by decide)
          have wen11 := nw11.wet B2 hX we2
          have dkn11 := an11.dk B2 hX dk2
          have rmn11 := an11.1.rm rm2
          have rdn11 := rmc_rd Bn11 Xn11 rmn11
          refine ez_go (n := 2) (pc' := 230) (L' := [(6, .inl (0)), (5, .inl (3)), (0, .inr (.inr (some (770)))), (1, .inl (t)), (2, .inl (st)), (3, .inl (0))]) (st' := []) rfl ?_
          refine ez_less [(6, .inl (0)), (5, .inl (3)), (0, .inr (.inr (some (770)))), (1, .inl (t)), (2, .inl (st)), (3, .inl (0))] rfl ⟨rfl, rfl, rfl, rfl, rfl, rfl, trivial⟩ ?_
          refine rd_kf_l0 (h := gn11) (B := KY W 2 ++ [0]) (lv := 3) Bn11 Xn11 dkn11 wen11 W9 WL (by rw [List.length_append, List.length_singleton]; omega) (by decide) (by decide) rmn11 (fun gn12 τn12 Bn12 nx12 kx12 => ?_) _ 0 gn11 τn11 rfl (by omega) (by omega) Bn11 (nw.refl τn11 gn11) (by rw [show (0 : Int).toNat = 0 from rfl, List.take_zero, lev_nil, List.append_nil]; exact kx11)
          have ky12 : kyt gn12 (KY W 3) := by rw [List.append_assoc] at kx12; exact kx12
          have nw12 := nw11.trans nx12
          have an12 := nw12.ng B2 hX dk2
          have Xn12 := an12.1.X hX
          have un12 : τn12 770 = 75 := Xn12 770 (by decide)
          have wen12 := nw12.wet B2 hX we2
          have dkn12 := an12.dk B2 hX dk2
          have rmn12 := an12.1.rm rm2
          have rdn12 := rmc_rd Bn12 Xn12 rmn12
          refine ez_go (n := 4) (pc' := 207) (L' := [(5, .inl (4)), (0, .inr (.inr (some (770)))), (1, .inl (t)), (2, .inl (st)), (3, .inl (0))]) (st' := [.inl (st), .inl (4)]) rfl ?_
          refine ez_icmp rfl rfl ⟨by first | omega | exact (sz_i32 _).1, by first | omega | exact (sz_i32 _).2⟩ ⟨by first | omega | exact (sz_i32 _).1, by first | omega | exact (sz_i32 _).2⟩ (fun (c44 : (st) < (4)) => ?_) (fun (c44 : ¬((st) < (4))) => ?_)
          · skip
            refine ez_go (n := 2) (pc' := 284) (L' := [(5, .inl (4)), (0, .inr (.inr (some (770)))), (1, .inl (t)), (2, .inl (st)), (3, .inl (0))]) (st' := [.inl (4), .inl (st)]) rfl ?_
            refine ez_icmp rfl rfl ⟨by first | omega | exact (sz_i32 _).1, by first | omega | exact (sz_i32 _).2⟩ ⟨by first | omega | exact (sz_i32 _).1, by first | omega | exact (sz_i32 _).2⟩ (fun (c45 : (st) < (4)) => ?_) (fun (c45 : ¬((st) < (4))) => ?_)
            · skip
              have el : (lvl false st).toNat = 3 := by rw [show lvl false st = min st 3 from if_neg (by decide)]; omega
              exact ez_ret0 rfl rfl (kx gn12 τn12 Bn12 (a2.trans an12) (by rw [el]; exact ky12))
            · skip
              refine ez_go (n := 1) (pc' := 288) (L' := [(5, .inl (4)), (0, .inr (.inr (some (770)))), (1, .inl (t)), (2, .inl (st)), (3, .inl (0))]) (st' := [.inl (0)]) rfl ?_
              refine ez_if rfl rfl ⟨by decide, by decide⟩ (fun (c46 : (0 : Int) ≠ (0)) => absurd c46 (by decide)) (fun _ => ?_)
              have el : (lvl false st).toNat = 3 := by rw [show lvl false st = min st 3 from if_neg (by decide)]; omega
              exact ez_ret0 rfl rfl (kx gn12 τn12 Bn12 (a2.trans an12) (by rw [el]; exact ky12))
          · skip
            refine ez_go (n := 2) (pc' := 213) (L' := [(5, .inl (4)), (0, .inr (.inr (some (770)))), (1, .inl (t)), (2, .inl (st)), (3, .inl (0))]) (st' := [.inl (4), .inl (4)]) rfl ?_
            refine ez_icmp rfl rfl ⟨by decide, by decide⟩ ⟨by decide, by decide⟩ (fun _ => ?_) (fun (c47 : ¬((4 : Int) ≤ (4))) => absurd c47 (by decide))
            refine ez_go (n := 2) (pc' := 284) (L' := [(5, .inl (4)), (0, .inr (.inr (some (770)))), (1, .inl (t)), (2, .inl (st)), (3, .inl (0))]) (st' := [.inl (4), .inl (st)]) rfl ?_
            refine ez_icmp rfl rfl ⟨by first | omega | exact (sz_i32 _).1, by first | omega | exact (sz_i32 _).2⟩ ⟨by first | omega | exact (sz_i32 _).1, by first | omega | exact (sz_i32 _).2⟩ (fun (c48 : (st) < (4)) => ?_) (fun (c48 : ¬((st) < (4))) => ?_)
            · skip
              have el : (lvl false st).toNat = 3 := by rw [show lvl false st = min st 3 from if_neg (by decide)]; omega
              exact ez_ret0 rfl rfl (kx gn12 τn12 Bn12 (a2.trans an12) (by rw [el]; exact ky12))
            · skip
              refine ez_go (n := 1) (pc' := 288) (L' := [(5, .inl (4)), (0, .inr (.inr (some (770)))), (1, .inl (t)), (2, .inl (st)), (3, .inl (0))]) (st' := [.inl (0)]) rfl ?_
              refine ez_if rfl rfl ⟨by decide, by decide⟩ (fun (c49 : (0 : Int) ≠ (0)) => absurd c49 (by decide)) (fun _ => ?_)
              have el : (lvl false st).toNat = 3 := by rw [show lvl false st = min st 3 from if_neg (by decide)]; omega
              exact ez_ret0 rfl rfl (kx gn12 τn12 Bn12 (a2.trans an12) (by rw [el]; exact ky12))

theorem rd_kf0 {t st : Int} {u : List Int} (c : nmC τ h Ls) (hm : mC h Cs) (hK : ∀ x, (0 ≤ x ∧ x ≤ 1114111) → 0 ≤ (vF Ls x).1 ∧ (vF Ls x).1 ≤ 254) (hL : ∀ row e, cLK Cs row = some e → (∀ x ∈ e, eok x) ∧ e.length ≤ 18) (rm : rmc h) (dk : got h ≠ gke h) (sl : slt h) (t0 : 0 ≤ t) (t7 : t ≤ 7) (mu : mx h t.toNat u) (up : ptl u) (ul : u.length ≤ 2000) (s1 : 1 ≤ st) (s4 : st ≤ 4) (k1 : ∀ W, kyR (vF Ls) (vE Ls) (cLK Cs) (yD Ls) false u W → wps W → W.length ≤ 36000 → ∀ g τ1, ez_B τ1 g → ng τ h τ1 g → kyt g (KY W (lvl false st).toNat) → Q (.inl none, g)) (k0 : kyN (vF Ls) u → ∀ g τ1, ez_B τ1 g → nk τ h τ1 g → Q (.inr g.1, xc g 0)) : ez_W (d + 9) cm_273 0 [(0, .inr (.inr (some (770)))), (1, .inl (t)), (2, .inl (st)), (3, .inl (0))] [] h Q := by
  have hX := c.1.2.1
  have t770 : τ 770 = 75 := hX 770 (by decide)
  refine ez_go (n := 2) (pc' := 2) (L' := [(0, .inr (.inr (some (770)))), (1, .inl (t)), (2, .inl (st)), (3, .inl (0))]) (st' := [.inl (t), .inr (.inr (some (770)))]) rfl ?_
  refine ez_cv c.1.1 t770 rfl rfl rfl tq_75 rfl rfl rfl (rd_mels (K := fun x => (vF Ls x).1) c hm (fun _ => rfl) hK rm sl t0 t7 mu up ul (fun m res um lt nf pr g1 τ1 B1 d1 em1 => ez_K0 ?_) (fun m um lt g1 τ1 B1 nk1 => ez_Kp (xc_exc B1 rfl) rfl (k0 ⟨m, um, lt⟩ g1 τ1 B1 nk1)))
  have X1 := d1.1.X hX
  have u770 : τ1 770 = 75 := X1 770 (by decide)
  have ok := els_ok (K := fun x => (vF Ls x).1) hL (UBd_bd (yD Ls)) 2000 res pr
  have e36 : 0 ≤ qz_I g1 770 36 ∧ qz_I g1 770 36 ≤ 36000 := ez_fB (cl := 11) (k := 36) B1 u770 tq_75 rfl rfl (by decide)
  have l9 : (els (cLK Cs) (fun x => (vF Ls x).1) (UBd (yD Ls)) 2000 res).length ≤ 36000 := by have := em1.1.1; omega
  have ky1 : kyR (vF Ls) (vE Ls) (cLK Cs) (yD Ls) false u (wts false false (els (cLK Cs) (fun x => (vF Ls x).1) (UBd (yD Ls)) 2000 res)) := ⟨m, res, um, lt, nf, rfl⟩
  have k9 := k1 _ ky1 (wts_ok false ok.1) (by rw [wts_len]; exact l9)
  have okk := ok.1
  clear ok ky1
  generalize els (cLK Cs) (fun x => (vF Ls x).1) (UBd (yD Ls)) 2000 res = es at *
  have a1 := d1.ng c.1.1 hX
  have dk1 := a1.dk c.1.1 hX dk
  have rm1 := a1.1.rm rm
  have rd1 := rmc_rd B1 X1 rm1
  have tpo := (ez_tg5 B1 u770).2.2.2.1
  have lpo : 1024 ≤ qz_N g1 (gfo g1) ∧ qz_N g1 (gfo g1) ≤ 200000 := ez_len B1 tpo tq_24 rfl
  refine ez_go (n := 1) (pc' := 6) (L' := [(0, .inr (.inr (some (770)))), (1, .inl (t)), (2, .inl (st)), (3, .inl (0))]) (st' := [.inr (.inr (some (770)))]) rfl ?_
  refine ez_gR B1 u770 rfl rfl tq_75 rfl rfl (fun (t1 : _ = 24) (t1' : 1 ≤ qz_I g1 770 38) => ?_)
  rw [show qz_P g1 770 38 = gfo g1 from rfl]
  refine ez_al B1 tpo rfl tq_24 rfl (fun (b2 : 1024 ≤ qz_N g1 (gfo g1)) (b2' : qz_N g1 (gfo g1) ≤ 200000) => ?_)
  refine ez_go (n := 1) (pc' := 11) (L' := [(0, .inr (.inr (some (770)))), (1, .inl (t)), (2, .inl (st)), (3, .inl (0))]) (st' := [.inr (.inr (some (770))), .inl (qz_N g1 (gfo g1))]) rfl ?_
  refine ez_gI B1 u770 rfl rfl tq_75 rfl rfl (fun (b3 : 0 ≤ qz_I g1 770 36) (b3' : qz_I g1 770 36 ≤ 36000) => ?_)
  rw [show qz_I g1 770 36 = (es.length : Int) from em1.1.1]
  refine ez_icmp rfl rfl ⟨by first | omega | exact (sz_i32 _).1, by first | omega | exact (sz_i32 _).2⟩ ⟨by first | omega | exact (sz_i32 _).1, by first | omega | exact (sz_i32 _).2⟩ (fun (c4 : ((es.length : Int)) ≤ (qz_N g1 (gfo g1))) => ?_) (fun (c4 : ¬(((es.length : Int)) ≤ (qz_N g1 (gfo g1)))) => ?_)
  · skip
    refine ez_less [(0, .inr (.inr (some (770)))), (1, .inl (t)), (2, .inl (st)), (3, .inl (0))] rfl ⟨rfl, rfl, rfl, rfl, trivial⟩ ?_
    exact rd_kf_r0 B1 X1 em1 l9 (by omega) okk dk1 rm1 s1 s4 (fun g τ2 B2 n2 ky2 => k9 g τ2 B2 (a1.trans n2) ky2)
  · skip
    refine ez_go (n := 3) (pc' := 20) (L' := [(0, .inr (.inr (some (770)))), (1, .inl (t)), (2, .inl (st)), (3, .inl (0))]) (st' := [.inr (.inr (some (770))), .inl (2), .inr (.inr (some (770)))]) rfl ?_
    refine ez_gI B1 u770 rfl rfl tq_75 rfl rfl (fun (b5 : 0 ≤ qz_I g1 770 36) (b5' : qz_I g1 770 36 ≤ 36000) => ?_)
    rw [show qz_I g1 770 36 = (es.length : Int) from em1.1.1]
    refine ez_go (n := 1) (pc' := 24) (L' := [(0, .inr (.inr (some (770)))), (1, .inl (t)), (2, .inl (st)), (3, .inl (0))]) (st' := [.inl ((2) * ((es.length : Int))), .inr (.inr (some (770)))]) rfl ?_
    refine ez_nA' (t := 24) B1 rfl rfl rfl tq_24 rfl rfl (by omega) (by show (1024 : Int) ≤ _; omega) (by show _ ≤ (200000 : Int); omega) (by omega) (by omega) (by omega) (fun g6 τ6 p6 hB6 x6 o6 t6 z6 e6 N6 y6 => ?_)
    have c6 := x6.2
    have u770n6 := (x6.1 _ (by rw [u770]; decide)).1.trans u770
    have t1n6 := (x6.1 _ (by rw [t1]; decide)).1.trans t1
    have tpon6 := (x6.1 _ (by rw [tpo]; decide)).1.trans tpo
    refine ez_pf hB6 u770n6 rfl rfl tq_75 rfl rfl rfl rfl (ez_vdR rfl t6 (by omega) (by omega)) (fun hB7 w8 => ?_)
    refine ez_less [(0, .inr (.inr (some (770)))), (1, .inl (t)), (2, .inl (st)), (3, .inl (0))] rfl ⟨rfl, rfl, rfl, rfl, trivial⟩ ?_
    have hq770 : 770 ≠ p6 := fun e => by rw [← e, u770] at z6; cases z6
    have f9 : ∀ j, qz_I g6 770 j = qz_I g1 770 j := fun j => x6.I (by rw [u770]; decide) j
    have hE3 : gfo (dz_put g6 770 38 (ez_v (.inr (.inr (some (p6)))))) = p6 := by unfold gfo qz_P; rw [w8]; show ((p6 : Int) + 1 - 1).toNat = p6; omega
    have h3j : ∀ j, j ≠ 38 → qz_I (dz_put g6 770 38 (ez_v (.inr (.inr (some (p6)))))) 770 j = qz_I g1 770 j := fun j hj => by rw [ez_put_I (fun w => hj w.2)]; exact f9 j
    have hN3 : qz_N (dz_put g6 770 38 (ez_v (.inr (.inr (some (p6)))))) p6 = 2 * (es.length : Int) := by rw [ez_put_N, N6]
    have fr3 : ∀ q, q ≠ 770 → τ1 q ≠ 0 → ((dz_put g6 770 38 (ez_v (.inr (.inr (some (p6))))))).2.2 q = g1.2.2 q := fun q h1 h2 => by rw [qz_put_at _ _ _ _ h1, (x6.1 q h2).2]
    have c31 : ((dz_put g6 770 38 (ez_v (.inr (.inr (some (p6))))))).1 = g6.1 := rfl
    have c32 : ((dz_put g6 770 38 (ez_v (.inr (.inr (some (p6))))))).2.1 = g6.2.1 := rfl
    have B3 := hB7
    have t3 := u770n6
    generalize (dz_put g6 770 38 (ez_v (.inr (.inr (some (p6)))))) = g3 at *
    have cx := x6.2
    obtain ⟨-, q1, q2, q3, q4, q5⟩ := ez_tg5 B1 u770
    have no : ∀ {q t : Nat}, τ1 q = t → (!(Nat.beq t 0) && !(Nat.beq t 75)) = true → g3.2.2 q = g1.2.2 q := fun {q t} e w => by
      simp only [Bool.and_eq_true, Bool.not_eq_true'] at w
      subst e
      exact fr3 q (fun e => by rw [e, u770] at w; exact absurd w.2 (by decide)) (fun e => by rw [e] at w; exact absurd w.1 (by decide))
    have eN : ∀ {q t : Nat}, τ1 q = t → (!(Nat.beq t 0) && !(Nat.beq t 75)) = true → qz_N g3 q = qz_N g1 q := fun {q t} e w => by unfold qz_N; rw [no e w]
    have p0 : sk g3 = sk g1 := by unfold sk qz_P; rw [h3j 24 (by decide)]
    have p1 : gel g3 = gel g1 := by unfold gel qz_P; rw [h3j 35 (by decide)]
    have p3 : got g3 = got g1 := by unfold got qz_P; rw [h3j 39 (by decide)]
    have p4 : gke g3 = gke g1 := by unfold gke qz_P; rw [h3j 40 (by decide)]
    have ez : zz g3 - zz g1 = 2 * (es.length : Int) - qz_N g1 (gfo g1) := by
      unfold zz; rw [p0, p1, hE3, p3, p4, eN q1 (by decide), eN q2 (by decide), eN q4 (by decide), eN q5 (by decide), hN3]; omega
    have a3 : ng τ1 g1 τ6 g3 := by
      refine ⟨⟨fun q hq => ⟨(x6.1 q hq).1, fun y1 _ _ => fr3 q y1 hq⟩, fun q y0 y1 => ?_, fun j hj => h3j j (fun e => by rw [e] at hj; exact absurd hj (by decide)), by omega, by omega, fun w => ?_, fun w => ?_⟩, p3, Or.inl p4, no q4 (by decide)⟩
      · by_cases e : q = p6
        · rw [e, t6]; rfl
        · rw [o6 q e] at y1; exact absurd y0 y1
      · rw [h3j 25 (by decide), p0, eN q1 (by decide)]; exact w
      · rw [h3j 36 (by decide), p1, eN q2 (by decide)]; exact w
    have X3 := a3.1.X X1
    have em3 : emt g3 es := em1.k (h3j 36 (by decide)) (h3j 35 (by decide)) (no q2 (by decide))
    exact rd_kf_r0 B3 X3 em3 l9 (by rw [hE3, hN3]; omega) okk (a3.dk B1 X1 dk1) (a3.1.rm rm1) s1 s4 (fun g τ2 B2 n2 ky2 => k9 g τ2 B2 ((a1.trans a3).trans n2) ky2)

end EzMl
