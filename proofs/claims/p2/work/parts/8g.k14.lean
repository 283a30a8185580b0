/-! The class: takeSpecial, takeEntry. (Written by wip/p2/py/pv24.py.) -/
/-- what an old cell points to is old -/
theorem ez_old {τ : Nat → Nat} {h : cz_H} (hB : ez_B τ h) {r t cl k : Nat} {ti : dz_I} {lo hi : Int} {tg md : Nat} (hτ : τ r = t) (hti : tz_T t = some ti) (hk : (Nat.beq ti.1 0 && Nat.beq ti.2.1 cl) = true) (hD : dz_nth ti.2.2.2.2 k = some (3, lo, hi, tg, md)) (hm : md ≠ 2) {x : Nat} (hx : qz_I h r k = (x : Int) + 1) : τ x = tg ∧ tg ≠ 0 := by
  obtain ⟨vs, v, -, -, g1, g2, -⟩ := ez_fld hB hτ hti hk hD
  obtain ⟨-, h2⟩ := ez_slR g1 g2 rfl hm (by omega)
  have e : qz_P h r k = x := by unfold qz_P; omega
  rw [e] at h2
  exact h2
section EzTs
variable {d : Nat} {h : cz_H} {τ : Nat → Nat} {Q : cz_F → Prop}
theorem rd_Special_init {r : Nat} (k : Q (.inl none, h)) : ez_W (d + 1) cm_186 0 [(0, .inr (.inr (some (r))))] [] h Q := by
  refine ez_go (n := 1) (pc' := 1) (L' := [(0, .inr (.inr (some (r))))]) (st' := [.inr (.inr (some (r)))]) rfl ?_
  refine ez_ob rfl rfl rfl ?_
  exact ez_ret0 rfl rfl k

theorem rd_Entry_init {r : Nat} (k : Q (.inl none, h)) : ez_W (d + 1) cm_133 0 [(0, .inr (.inr (some (r))))] [] h Q := by
  refine ez_go (n := 1) (pc' := 1) (L' := [(0, .inr (.inr (some (r))))]) (st' := [.inr (.inr (some (r)))]) rfl ?_
  refine ez_ob rfl rfl rfl ?_
  exact ez_ret0 rfl rfl k

theorem nz_Z_xt {τ τ1 : Nat → Nat} {h g : cz_H} {a b : Nat} (hZ : nz_Z h) (hz : ∀ s l, nzL s = some l → τ s = 27 ∧ τ (qz_P h s 0) = 28) (x : ez_xt τ h τ1 g a b) : nz_Z g := by
  intro s l hl
  obtain ⟨y1, y2, y3⟩ := hZ s l hl
  obtain ⟨z1, z2⟩ := hz s l hl
  have e1 := (x.1 s (by rw [z1]; decide)).2
  have e2 := (x.1 _ (by rw [z2]; decide)).2
  have e3 : qz_P g s 0 = qz_P h s 0 := by unfold qz_P qz_I; rw [e1]
  refine ⟨?_, y2, by rw [e3]; exact y3⟩
  unfold nz_S at *
  rw [e3]
  unfold qz_N qz_I at *
  rw [e2]
  exact y1
theorem rd_takeSpecial_b {g : cz_H} {τ1 : Nat → Nat} {r : Nat} (hB : ez_B τ h) (u193 : τ 193 = 45) (u202 : τ 202 = 48) (u203 : τ 203 = 49) (u720 : τ 720 = 52) (u721 : τ 721 = 53) (u722 : τ 722 = 54) (hs : sz_ok h) (hinj : sz_inj h) (hft : ∀ k, 0 ≤ k → k ≤ 4 → rz_f h k ≤ rz_t h k) (hn : qz_I h 202 1 + 2 ≤ 513) (hZ : nz_Z h) (hz27 : ∀ s l, nzL s = some l → τ s = 27 ∧ τ (qz_P h s 0) = 28) (ts1 : τ 1 = 27) (hr1 : h.1 + 4 ≤ 600192) (hr2 : h.2.1 + 59 ≤ 7302232) (hBg : ez_B τ1 g) (XB : ez_xt τ h τ1 g 4 59) (tr : τ1 r = 6) (z0 : τ r = 0) (er : r = h.1) (kN : ∀ g τ1, ez_B τ1 g → ez_xt τ h τ1 g 4 59 → Q (.inl (some (ez_v (.inl (-1)))), g)) (kS : ∀ g g1 h1 τ1 p, ez_B τ1 g → ez_B τ1 h1 → ez_B τ1 g1 → ez_xt τ h τ1 h1 4 59 → sz_toldR τ1 h1 g1 p p sz_RW → ez_fr (sz_P6 τ1) g1 g → Q (.inl (some (ez_v (.inl 1))), g)) : ez_W (d + 7) cm_179 35 [(1, .inr (.inr (some (r)))), (0, .inr (.inr (some (720))))] [] g Q := by
  have n721 : 7 ≤ qz_N h 721 ∧ qz_N h 721 ≤ 7 := ez_len hB u721 tq_53 rfl
  have n722 : 7 ≤ qz_N h 722 ∧ qz_N h 722 ≤ 7 := ez_len hB u722 tq_54 rfl
  have qh0 := hft 0 (by omega) (by omega)
  have qf0 : 0 ≤ rz_f h 0 ∧ rz_f h 0 ≤ 4096 := ez_aB (i := 0) hB u721 tq_53 rfl rfl (by decide) (by omega) (by omega)
  have qt0 : 0 ≤ rz_t h 0 ∧ rz_t h 0 ≤ 4096 := ez_aB (i := 0) hB u722 tq_54 rfl rfl (by decide) (by omega) (by omega)
  have qh1 := hft 1 (by omega) (by omega)
  have qf1 : 0 ≤ rz_f h 1 ∧ rz_f h 1 ≤ 4096 := ez_aB (i := 1) hB u721 tq_53 rfl rfl (by decide) (by omega) (by omega)
  have qt1 : 0 ≤ rz_t h 1 ∧ rz_t h 1 ≤ 4096 := ez_aB (i := 1) hB u722 tq_54 rfl rfl (by decide) (by omega) (by omega)
  have qh2 := hft 2 (by omega) (by omega)
  have qf2 : 0 ≤ rz_f h 2 ∧ rz_f h 2 ≤ 4096 := ez_aB (i := 2) hB u721 tq_53 rfl rfl (by decide) (by omega) (by omega)
  have qt2 : 0 ≤ rz_t h 2 ∧ rz_t h 2 ≤ 4096 := ez_aB (i := 2) hB u722 tq_54 rfl rfl (by decide) (by omega) (by omega)
  have qh3 := hft 3 (by omega) (by omega)
  have qf3 : 0 ≤ rz_f h 3 ∧ rz_f h 3 ≤ 4096 := ez_aB (i := 3) hB u721 tq_53 rfl rfl (by decide) (by omega) (by omega)
  have qt3 : 0 ≤ rz_t h 3 ∧ rz_t h 3 ≤ 4096 := ez_aB (i := 3) hB u722 tq_54 rfl rfl (by decide) (by omega) (by omega)
  have qh4 := hft 4 (by omega) (by omega)
  have qf4 : 0 ≤ rz_f h 4 ∧ rz_f h 4 ≤ 4096 := ez_aB (i := 4) hB u721 tq_53 rfl rfl (by decide) (by omega) (by omega)
  have qt4 : 0 ≤ rz_t h 4 ∧ rz_t h 4 ≤ 4096 := ez_aB (i := 4) hB u722 tq_54 rfl rfl (by decide) (by omega) (by omega)
  have t720 := (XB.1 _ (by rw [u720]; decide)).1.trans u720
  have t202 := (XB.1 _ (by rw [u202]; decide)).1.trans u202
  have t721 := (XB.1 _ (by rw [u721]; decide)).1.trans u721
  have t722 := (XB.1 _ (by rw [u722]; decide)).1.trans u722
  have t193 := (XB.1 _ (by rw [u193]; decide)).1.trans u193
  have t203 := (XB.1 _ (by rw [u203]; decide)).1.trans u203
  refine ez_go (n := 3) (pc' := 38) (L' := [(1, .inr (.inr (some (r)))), (0, .inr (.inr (some (720))))]) (st' := [.inr (.inr (some (720))), .inr (.inr (some (720))), .inr (.inr (some (r)))]) rfl ?_
  refine ez_gC (p := 721) (tg := 53) hBg t720 rfl rfl tq_52 rfl rfl (fun (t721 : _ = 53) => ?_)
  refine ez_go (n := 1) (pc' := 42) (L' := [(1, .inr (.inr (some (r)))), (0, .inr (.inr (some (720))))]) (st' := [.inl (4), .inr (.inr (some (721))), .inr (.inr (some (720))), .inr (.inr (some (r)))]) rfl ?_
  have n2 : 7 ≤ qz_N g 721 ∧ qz_N g 721 ≤ 7 := ez_len hBg t721 tq_53 rfl
  refine ez_aI hBg t721 rfl tq_53 rfl rfl (by omega) (by omega) (fun (b1 : 0 ≤ qz_I g 721 (4 : Int).toNat) (b1' : qz_I g 721 (4 : Int).toNat ≤ 4096) => ?_)
  refine ez_go (n := 1) (pc' := 44) (L' := [(1, .inr (.inr (some (r)))), (0, .inr (.inr (some (720))))]) (st' := [.inr (.inr (some (720))), .inl (qz_I g 721 (4 : Int).toNat), .inr (.inr (some (720))), .inr (.inr (some (r)))]) rfl ?_
  refine ez_gC (p := 722) (tg := 54) hBg t720 rfl rfl tq_52 rfl rfl (fun (t722 : _ = 54) => ?_)
  refine ez_go (n := 1) (pc' := 48) (L' := [(1, .inr (.inr (some (r)))), (0, .inr (.inr (some (720))))]) (st' := [.inl (4), .inr (.inr (some (722))), .inl (qz_I g 721 (4 : Int).toNat), .inr (.inr (some (720))), .inr (.inr (some (r)))]) rfl ?_
  have n4 : 7 ≤ qz_N g 722 ∧ qz_N g 722 ≤ 7 := ez_len hBg t722 tq_54 rfl
  refine ez_aI hBg t722 rfl tq_54 rfl rfl (by omega) (by omega) (fun (b3 : 0 ≤ qz_I g 722 (4 : Int).toNat) (b3' : qz_I g 722 (4 : Int).toNat ≤ 4096) => ?_)
  obtain ⟨ab5, af5, at5⟩ := XB.bft u193 u721 u722
  have zf5 : qz_I g 721 (4 : Int).toNat = rz_f h 4 := congrFun af5 4
  have zt5 : qz_I g 722 (4 : Int).toNat = rz_t h 4 := congrFun at5 4
  have hz5 : nz_Z g := nz_Z_xt hZ hz27 XB
  refine ez_cv hBg t720 rfl rfl rfl tq_52 rfl rfl rfl (rd_readConditions hBg hz5 ((XB.1 1 (by rw [ts1]; decide)).1.trans ts1) t720 (by omega) (by omega) (by omega) (fun v5 v0 v1 => ez_K1 ?_))
  refine ez_pf hBg tr rfl rfl tq_6 rfl rfl rfl rfl (ez_vdI rfl rfl (by omega) (by omega)) (fun hB6 w7 => ?_)
  refine ez_go (n := 2) (pc' := 57) (L' := [(1, .inr (.inr (some (r)))), (0, .inr (.inr (some (720))))]) (st' := [.inr (.inr (some (720))), .inr (.inr (some (720)))]) rfl ?_
  refine ez_gC (p := 721) (tg := 53) hB6 t720 rfl rfl tq_52 rfl rfl (fun (t721 : _ = 53) => ?_)
  refine ez_go (n := 1) (pc' := 61) (L' := [(1, .inr (.inr (some (r)))), (0, .inr (.inr (some (720))))]) (st' := [.inl (0), .inr (.inr (some (721))), .inr (.inr (some (720)))]) rfl ?_
  have n9 : 7 ≤ qz_N (dz_put g r 0 (ez_v (.inl (v5)))) 721 ∧ qz_N (dz_put g r 0 (ez_v (.inl (v5)))) 721 ≤ 7 := ez_len hB6 t721 tq_53 rfl
  refine ez_aI hB6 t721 rfl tq_53 rfl rfl (by omega) (by omega) (fun (b8 : 0 ≤ qz_I (dz_put g r 0 (ez_v (.inl (v5)))) 721 (0 : Int).toNat) (b8' : qz_I (dz_put g r 0 (ez_v (.inl (v5)))) 721 (0 : Int).toNat ≤ 4096) => ?_)
  refine ez_go (n := 1) (pc' := 63) (L' := [(1, .inr (.inr (some (r)))), (0, .inr (.inr (some (720))))]) (st' := [.inr (.inr (some (720))), .inl (qz_I (dz_put g r 0 (ez_v (.inl (v5)))) 721 (0 : Int).toNat), .inr (.inr (some (720)))]) rfl ?_
  refine ez_gC (p := 722) (tg := 54) hB6 t720 rfl rfl tq_52 rfl rfl (fun (t722 : _ = 54) => ?_)
  refine ez_go (n := 1) (pc' := 67) (L' := [(1, .inr (.inr (some (r)))), (0, .inr (.inr (some (720))))]) (st' := [.inl (0), .inr (.inr (some (722))), .inl (qz_I (dz_put g r 0 (ez_v (.inl (v5)))) 721 (0 : Int).toNat), .inr (.inr (some (720)))]) rfl ?_
  have n11 : 7 ≤ qz_N (dz_put g r 0 (ez_v (.inl (v5)))) 722 ∧ qz_N (dz_put g r 0 (ez_v (.inl (v5)))) 722 ≤ 7 := ez_len hB6 t722 tq_54 rfl
  refine ez_aI hB6 t722 rfl tq_54 rfl rfl (by omega) (by omega) (fun (b10 : 0 ≤ qz_I (dz_put g r 0 (ez_v (.inl (v5)))) 722 (0 : Int).toNat) (b10' : qz_I (dz_put g r 0 (ez_v (.inl (v5)))) 722 (0 : Int).toNat ≤ 4096) => ?_)
  have XF13 := XB.fr (show ez_fr (ez_one r) g (dz_put g r 0 (ez_v (.inl (v5)))) from ((ez_fr.refl (ez_one r) g).put (show Nat.beq r r = true from Nat.beq_refl _) _ _)) z0
  obtain ⟨ab12, af12, at12⟩ := XF13.bft u193 u721 u722
  have zf12 : qz_I (dz_put g r 0 (ez_v (.inl (v5)))) 721 (0 : Int).toNat = rz_f h 0 := congrFun af12 0
  have zt12 : qz_I (dz_put g r 0 (ez_v (.inl (v5)))) 722 (0 : Int).toNat = rz_t h 0 := congrFun at12 0
  have xb12 := rz_code_bd (rz_b (dz_put g r 0 (ez_v (.inl (v5))))) (qz_I (dz_put g r 0 (ez_v (.inl (v5)))) 721 (0 : Int).toNat) (qz_I (dz_put g r 0 (ez_v (.inl (v5)))) 722 (0 : Int).toNat)
  refine ez_cv hB6 t720 rfl rfl rfl tq_52 rfl rfl rfl (rd_readCode hB6 t720 (by omega) (by omega) (by omega) (ez_K1 ?_))
  generalize rz_code (rz_b (dz_put g r 0 (ez_v (.inl (v5))))) (qz_I (dz_put g r 0 (ez_v (.inl (v5)))) 721 (0 : Int).toNat) (qz_I (dz_put g r 0 (ez_v (.inl (v5)))) 722 (0 : Int).toNat) = pt at xb12 ⊢
  refine ez_go (n := 3) (pc' := 74) (L' := [(2, .inl (pt)), (1, .inr (.inr (some (r)))), (0, .inr (.inr (some (720))))]) (st' := [.inl (-1), .inl (pt)]) rfl ?_
  refine ez_icmp rfl rfl ⟨by first | omega | exact (sz_i32 _).1, by first | omega | exact (sz_i32 _).2⟩ ⟨by first | omega | exact (sz_i32 _).1, by first | omega | exact (sz_i32 _).2⟩ (fun (c14 : (pt) = (-1)) => ?_) (fun (c14 : ¬((pt) = (-1))) => ?_)
  · skip
    refine ez_go (n := 1) (pc' := 86) (L' := [(2, .inl (pt)), (1, .inr (.inr (some (r)))), (0, .inr (.inr (some (720))))]) (st' := [.inl (-1)]) rfl ?_
    exact ez_retI rfl rfl (kN (dz_put g r 0 (ez_v (.inl (v5)))) τ1 hB6 (XF13.mono (by omega) (by omega)))
  · skip
    refine ez_go (n := 1) (pc' := 78) (L' := [(2, .inl (pt)), (1, .inr (.inr (some (r)))), (0, .inr (.inr (some (720))))]) (st' := [.inr (.inr (some (r)))]) rfl ?_
    refine ez_gI hB6 tr rfl rfl tq_6 rfl rfl (fun (b15 : -2147483648 ≤ qz_I (dz_put g r 0 (ez_v (.inl (v5)))) r 0) (b15' : qz_I (dz_put g r 0 (ez_v (.inl (v5)))) r 0 ≤ 2147483647) => ?_)
    refine ez_go (n := 1) (pc' := 82) (L' := [(2, .inl (pt)), (1, .inr (.inr (some (r)))), (0, .inr (.inr (some (720))))]) (st' := [.inl (-1), .inl (qz_I (dz_put g r 0 (ez_v (.inl (v5)))) r 0)]) rfl ?_
    refine ez_icmp rfl rfl ⟨by first | omega | exact (sz_i32 _).1, by first | omega | exact (sz_i32 _).2⟩ ⟨by first | omega | exact (sz_i32 _).1, by first | omega | exact (sz_i32 _).2⟩ (fun (c16 : (qz_I (dz_put g r 0 (ez_v (.inl (v5)))) r 0) ≠ (-1)) => ?_) (fun (c16 : ¬((qz_I (dz_put g r 0 (ez_v (.inl (v5)))) r 0) ≠ (-1))) => ?_)
    · skip
      refine ez_go (n := 1) (pc' := 88) (L' := [(2, .inl (pt)), (1, .inr (.inr (some (r)))), (0, .inr (.inr (some (720))))]) (st' := [.inr (.inr (some (r)))]) rfl ?_
      refine ez_gN hB6 tr rfl rfl tq_6 rfl rfl (fun (t17 : qz_I (dz_put g r 0 (ez_v (.inl (v5)))) r 1 = 0) => ?_) (fun (t17 : _ = 5) (t17' : 1 ≤ qz_I (dz_put g r 0 (ez_v (.inl (v5)))) r 1) => ?_)
      · skip
        refine ez_null0 rfl rfl ?_
        refine ez_go (n := 1) (pc' := 109) (L' := [(2, .inl (pt)), (1, .inr (.inr (some (r)))), (0, .inr (.inr (some (720))))]) (st' := [.inl (-1)]) rfl ?_
        exact ez_retI rfl rfl (kN (dz_put g r 0 (ez_v (.inl (v5)))) τ1 hB6 (XF13.mono (by omega) (by omega)))
      · skip
        refine ez_null1 rfl ?_
        refine ez_go (n := 1) (pc' := 95) (L' := [(2, .inl (pt)), (1, .inr (.inr (some (r)))), (0, .inr (.inr (some (720))))]) (st' := [.inr (.inr (some (r)))]) rfl ?_
        refine ez_gN hB6 tr rfl rfl tq_6 rfl rfl (fun (t18 : qz_I (dz_put g r 0 (ez_v (.inl (v5)))) r 2 = 0) => ?_) (fun (t18 : _ = 5) (t18' : 1 ≤ qz_I (dz_put g r 0 (ez_v (.inl (v5)))) r 2) => ?_)
        · skip
          refine ez_null0 rfl rfl ?_
          refine ez_go (n := 1) (pc' := 109) (L' := [(2, .inl (pt)), (1, .inr (.inr (some (r)))), (0, .inr (.inr (some (720))))]) (st' := [.inl (-1)]) rfl ?_
          exact ez_retI rfl rfl (kN (dz_put g r 0 (ez_v (.inl (v5)))) τ1 hB6 (XF13.mono (by omega) (by omega)))
        · skip
          refine ez_null1 rfl ?_
          refine ez_go (n := 1) (pc' := 102) (L' := [(2, .inl (pt)), (1, .inr (.inr (some (r)))), (0, .inr (.inr (some (720))))]) (st' := [.inr (.inr (some (r)))]) rfl ?_
          refine ez_gN hB6 tr rfl rfl tq_6 rfl rfl (fun (t19 : qz_I (dz_put g r 0 (ez_v (.inl (v5)))) r 3 = 0) => ?_) (fun (t19 : _ = 5) (t19' : 1 ≤ qz_I (dz_put g r 0 (ez_v (.inl (v5)))) r 3) => ?_)
          · skip
            refine ez_nonn0 rfl ?_
            refine ez_go (n := 1) (pc' := 109) (L' := [(2, .inl (pt)), (1, .inr (.inr (some (r)))), (0, .inr (.inr (some (720))))]) (st' := [.inl (-1)]) rfl ?_
            exact ez_retI rfl rfl (kN (dz_put g r 0 (ez_v (.inl (v5)))) τ1 hB6 (XF13.mono (by omega) (by omega)))
          · skip
            refine ez_nonn1 rfl rfl ?_
            refine ez_go (n := 1) (pc' := 111) (L' := [(2, .inl (pt)), (1, .inr (.inr (some (r)))), (0, .inr (.inr (some (720))))]) (st' := [.inr (.inr (some (720)))]) rfl ?_
            refine ez_gC (p := 202) (tg := 48) hB6 t720 rfl rfl tq_52 rfl rfl (fun (t202 : _ = 48) => ?_)
            refine ez_go (n := 2) (pc' := 116) (L' := [(2, .inl (pt)), (1, .inr (.inr (some (r)))), (0, .inr (.inr (some (720))))]) (st' := [.inr (.inr (some (r))), .inl (pt), .inr (.inr (some (202)))]) rfl ?_
            obtain ⟨hs1, hi1⟩ := sz_same_ok hB u203 u202 (XF13.1 202 (by rw [u202]; decide)).2 (XF13.1 203 (by rw [u203]; decide)).2 (fun q hq => (XF13.1 q (by rw [hq]; decide)).2) hs hinj
            have cc1 : qz_I (dz_put g r 0 (ez_v (.inl (v5)))) 202 1 = qz_I h 202 1 := XF13.I (by rw [u202]; decide) 1
            obtain ⟨sm1, sm2, sm3⟩ := sz_same hB u203 u202 (g := (dz_put g r 0 (ez_v (.inl (v5))))) (XF13.1 202 (by rw [u202]; decide)).2 (XF13.1 203 (by rw [u203]; decide)).2 (fun q hq => (XF13.1 q (by rw [hq]; decide)).2)
            have bn := sz_R_n1 hB u202
            refine ez_cv hB6 t202 rfl rfl rfl tq_48 rfl rfl rfl (rd_tellSpecial (fun q => τ q ≠ 0) hB6 t202 t203 hs1 hi1 (by omega) (by omega) (by omega) tr (by omega) (fun q q0 tq => ?_) (fun k hk x hx => ?_) (fun ga gb hBb hBa ht hf => ez_K0 ?_))
            · have tq0 : τ q = 6 := (XF13.1 q q0).1.symm.trans tq
              refine ⟨by have := dz_here_lt (hB.1 q q0).1; omega, fun x hx => ?_⟩
              rw [XF13.I q0] at hx
              have := ez_old (cl := 13) hB tq0 tq_6 rfl rfl (by decide) hx
              rw [this.1]; exact this.2
            · have k0 := hk.1
              have k1 := hk.2.1
              rw [sm2 k k0 (by omega)] at hx
              have := ez_old (cl := 4) hB (sz_tag hB u203 k0 (by omega)) tq_4 rfl rfl (by decide) hx
              rw [this.1]; exact this.2
            · skip
              refine ez_go (n := 1) (pc' := 120) (L' := [(2, .inl (pt)), (1, .inr (.inr (some (r)))), (0, .inr (.inr (some (720))))]) (st' := [.inl (1)]) rfl ?_
              exact ez_retI rfl rfl (kS gb ga (dz_put g r 0 (ez_v (.inl (v5)))) τ1 pt hBb hB6 hBa (XF13.mono (by omega) (by omega)) ht hf)
    · skip
      refine ez_go (n := 1) (pc' := 86) (L' := [(2, .inl (pt)), (1, .inr (.inr (some (r)))), (0, .inr (.inr (some (720))))]) (st' := [.inl (-1)]) rfl ?_
      exact ez_retI rfl rfl (kN (dz_put g r 0 (ez_v (.inl (v5)))) τ1 hB6 (XF13.mono (by omega) (by omega)))

theorem rd_takeSpecial (hB : ez_B τ h) (u193 : τ 193 = 45) (u202 : τ 202 = 48) (u203 : τ 203 = 49) (u720 : τ 720 = 52) (u721 : τ 721 = 53) (u722 : τ 722 = 54) (hs : sz_ok h) (hinj : sz_inj h) (hft : ∀ k, 0 ≤ k → k ≤ 4 → rz_f h k ≤ rz_t h k) (hn : qz_I h 202 1 + 2 ≤ 513) (hZ : nz_Z h) (hz27 : ∀ s l, nzL s = some l → τ s = 27 ∧ τ (qz_P h s 0) = 28) (ts1 : τ 1 = 27) (hr1 : h.1 + 4 ≤ 600192) (hr2 : h.2.1 + 59 ≤ 7302232) (kN : ∀ g τ1, ez_B τ1 g → ez_xt τ h τ1 g 4 59 → Q (.inl (some (ez_v (.inl (-1)))), g)) (kS : ∀ g g1 h1 τ1 p, ez_B τ1 g → ez_B τ1 h1 → ez_B τ1 g1 → ez_xt τ h τ1 h1 4 59 → sz_toldR τ1 h1 g1 p p sz_RW → ez_fr (sz_P6 τ1) g1 g → Q (.inl (some (ez_v (.inl 1))), g)) : ez_W (d + 7) cm_179 0 [(0, .inr (.inr (some (720))))] [] h Q := by
  have n721 : 7 ≤ qz_N h 721 ∧ qz_N h 721 ≤ 7 := ez_len hB u721 tq_53 rfl
  have n722 : 7 ≤ qz_N h 722 ∧ qz_N h 722 ≤ 7 := ez_len hB u722 tq_54 rfl
  have qh0 := hft 0 (by omega) (by omega)
  have qf0 : 0 ≤ rz_f h 0 ∧ rz_f h 0 ≤ 4096 := ez_aB (i := 0) hB u721 tq_53 rfl rfl (by decide) (by omega) (by omega)
  have qt0 : 0 ≤ rz_t h 0 ∧ rz_t h 0 ≤ 4096 := ez_aB (i := 0) hB u722 tq_54 rfl rfl (by decide) (by omega) (by omega)
  have qh1 := hft 1 (by omega) (by omega)
  have qf1 : 0 ≤ rz_f h 1 ∧ rz_f h 1 ≤ 4096 := ez_aB (i := 1) hB u721 tq_53 rfl rfl (by decide) (by omega) (by omega)
  have qt1 : 0 ≤ rz_t h 1 ∧ rz_t h 1 ≤ 4096 := ez_aB (i := 1) hB u722 tq_54 rfl rfl (by decide) (by omega) (by omega)
  have qh2 := hft 2 (by omega) (by omega)
  have qf2 : 0 ≤ rz_f h 2 ∧ rz_f h 2 ≤ 4096 := ez_aB (i := 2) hB u721 tq_53 rfl rfl (by decide) (by omega) (by omega)
  have qt2 : 0 ≤ rz_t h 2 ∧ rz_t h 2 ≤ 4096 := ez_aB (i := 2) hB u722 tq_54 rfl rfl (by decide) (by omega) (by omega)
  have qh3 := hft 3 (by omega) (by omega)
  have qf3 : 0 ≤ rz_f h 3 ∧ rz_f h 3 ≤ 4096 := ez_aB (i := 3) hB u721 tq_53 rfl rfl (by decide) (by omega) (by omega)
  have qt3 : 0 ≤ rz_t h 3 ∧ rz_t h 3 ≤ 4096 := ez_aB (i := 3) hB u722 tq_54 rfl rfl (by decide) (by omega) (by omega)
  have qh4 := hft 4 (by omega) (by omega)
  have qf4 : 0 ≤ rz_f h 4 ∧ rz_f h 4 ≤ 4096 := ez_aB (i := 4) hB u721 tq_53 rfl rfl (by decide) (by omega) (by omega)
  have qt4 : 0 ≤ rz_t h 4 ∧ rz_t h 4 ≤ 4096 := ez_aB (i := 4) hB u722 tq_54 rfl rfl (by decide) (by omega) (by omega)
  refine ez_nw' (t := 6) hB rfl rfl rfl tq_6 rfl rfl (by omega) (by show h.2.1 + 5 ≤ 7302232; omega) (fun g1 τ1 p1 hB1 x1 o1 t1 z1 e1 y1 => ?_)
  have x1 : ez_xt τ h τ1 g1 1 5 := x1
  have c1 := x1.2
  have u720n1 := (x1.1 _ (by rw [u720]; decide)).1.trans u720
  have u202n1 := (x1.1 _ (by rw [u202]; decide)).1.trans u202
  have u721n1 := (x1.1 _ (by rw [u721]; decide)).1.trans u721
  have u722n1 := (x1.1 _ (by rw [u722]; decide)).1.trans u722
  have u193n1 := (x1.1 _ (by rw [u193]; decide)).1.trans u193
  have u203n1 := (x1.1 _ (by rw [u203]; decide)).1.trans u203
  refine ez_go (n := 1) (pc' := 4) (L' := [(0, .inr (.inr (some (720))))]) (st' := [.inr (.inr (some (p1))), .inr (.inr (some (p1)))]) rfl ?_
  refine ez_ci hB1.2.1 rfl rfl rfl rfl rfl rfl (rd_Special_init (ez_K0 ?_))
  refine ez_go (n := 4) (pc' := 11) (L' := [(1, .inr (.inr (some (p1)))), (0, .inr (.inr (some (720))))]) (st' := [.inl (1), .inr (.inr (some (720))), .inr (.inr (some (p1)))]) rfl ?_
  obtain ⟨ab2, af2, at2⟩ := x1.bft u193 u721 u722
  have hc2 := x1.2
  refine ez_cv hB1 u720n1 rfl rfl rfl tq_52 rfl rfl rfl (rd_readRowOrNothing hB1 u720n1 u193n1 (by omega) (by omega) (by rw [af2, at2]; exact hft 1 (by omega) (by omega)) (by omega) (by omega) (fun o2 g2 τ2 hB2 x2 ho2 => ez_KA ?_))
  have X2 := x1.trans x2
  rcases o2 with _ | q2
  · skip
    have u720n1k2 := (x2.1 _ (by rw [u720n1]; decide)).1.trans u720n1
    have u202n1k2 := (x2.1 _ (by rw [u202n1]; decide)).1.trans u202n1
    have u721n1k2 := (x2.1 _ (by rw [u721n1]; decide)).1.trans u721n1
    have u722n1k2 := (x2.1 _ (by rw [u722n1]; decide)).1.trans u722n1
    have u193n1k2 := (x2.1 _ (by rw [u193n1]; decide)).1.trans u193n1
    have u203n1k2 := (x2.1 _ (by rw [u203n1]; decide)).1.trans u203n1
    have t1k2 := (x2.1 _ (by rw [t1]; decide)).1.trans t1
    refine ez_pf hB2 t1k2 rfl rfl tq_6 rfl rfl rfl rfl (ez_vdN rfl) (fun hB3 w4 => ?_)
    refine ez_go (n := 3) (pc' := 20) (L' := [(1, .inr (.inr (some (p1)))), (0, .inr (.inr (some (720))))]) (st' := [.inl (2), .inr (.inr (some (720))), .inr (.inr (some (p1)))]) rfl ?_
    have XF6 := X2.fr (show ez_fr (ez_one p1) g2 (dz_put g2 p1 1 (ez_v (.inr (.inr none)))) from ((ez_fr.refl (ez_one p1) g2).put (show Nat.beq p1 p1 = true from Nat.beq_refl _) _ _)) z1
    obtain ⟨ab5, af5, at5⟩ := XF6.bft u193 u721 u722
    have hc5 := XF6.2
    refine ez_cv hB3 u720n1k2 rfl rfl rfl tq_52 rfl rfl rfl (rd_readRowOrNothing hB3 u720n1k2 u193n1k2 (by omega) (by omega) (by rw [af5, at5]; exact hft 2 (by omega) (by omega)) (by omega) (by omega) (fun o5 g5 τ5 hB5 x5 ho5 => ez_KA ?_))
    have X5 := XF6.trans x5
    rcases o5 with _ | q5
    · skip
      have u720n1k2k5 := (x5.1 _ (by rw [u720n1k2]; decide)).1.trans u720n1k2
      have u202n1k2k5 := (x5.1 _ (by rw [u202n1k2]; decide)).1.trans u202n1k2
      have u721n1k2k5 := (x5.1 _ (by rw [u721n1k2]; decide)).1.trans u721n1k2
      have u722n1k2k5 := (x5.1 _ (by rw [u722n1k2]; decide)).1.trans u722n1k2
      have u193n1k2k5 := (x5.1 _ (by rw [u193n1k2]; decide)).1.trans u193n1k2
      have u203n1k2k5 := (x5.1 _ (by rw [u203n1k2]; decide)).1.trans u203n1k2
      have t1k2k5 := (x5.1 _ (by rw [t1k2]; decide)).1.trans t1k2
      refine ez_pf hB5 t1k2k5 rfl rfl tq_6 rfl rfl rfl rfl (ez_vdN rfl) (fun hB7 w8 => ?_)
      refine ez_go (n := 3) (pc' := 29) (L' := [(1, .inr (.inr (some (p1)))), (0, .inr (.inr (some (720))))]) (st' := [.inl (3), .inr (.inr (some (720))), .inr (.inr (some (p1)))]) rfl ?_
      have XF10 := X5.fr (show ez_fr (ez_one p1) g5 (dz_put g5 p1 2 (ez_v (.inr (.inr none)))) from ((ez_fr.refl (ez_one p1) g5).put (show Nat.beq p1 p1 = true from Nat.beq_refl _) _ _)) z1
      obtain ⟨ab9, af9, at9⟩ := XF10.bft u193 u721 u722
      have hc9 := XF10.2
      refine ez_cv hB7 u720n1k2k5 rfl rfl rfl tq_52 rfl rfl rfl (rd_readRowOrNothing hB7 u720n1k2k5 u193n1k2k5 (by omega) (by omega) (by rw [af9, at9]; exact hft 3 (by omega) (by omega)) (by omega) (by omega) (fun o9 g9 τ9 hB9 x9 ho9 => ez_KA ?_))
      have X9 := XF10.trans x9
      rcases o9 with _ | q9
      · skip
        have u720n1k2k5k9 := (x9.1 _ (by rw [u720n1k2k5]; decide)).1.trans u720n1k2k5
        have u202n1k2k5k9 := (x9.1 _ (by rw [u202n1k2k5]; decide)).1.trans u202n1k2k5
        have u721n1k2k5k9 := (x9.1 _ (by rw [u721n1k2k5]; decide)).1.trans u721n1k2k5
        have u722n1k2k5k9 := (x9.1 _ (by rw [u722n1k2k5]; decide)).1.trans u722n1k2k5
        have u193n1k2k5k9 := (x9.1 _ (by rw [u193n1k2k5]; decide)).1.trans u193n1k2k5
        have u203n1k2k5k9 := (x9.1 _ (by rw [u203n1k2k5]; decide)).1.trans u203n1k2k5
        have t1k2k5k9 := (x9.1 _ (by rw [t1k2k5]; decide)).1.trans t1k2k5
        refine ez_pf hB9 t1k2k5k9 rfl rfl tq_6 rfl rfl rfl rfl (ez_vdN rfl) (fun hB11 w12 => ?_)
        have XF13 := X9.fr (show ez_fr (ez_one p1) g9 (dz_put g9 p1 3 (ez_v (.inr (.inr none)))) from ((ez_fr.refl (ez_one p1) g9).put (show Nat.beq p1 p1 = true from Nat.beq_refl _) _ _)) z1
        refine ez_less [(1, .inr (.inr (some (p1)))), (0, .inr (.inr (some (720))))] rfl ⟨rfl, rfl, trivial⟩ ?_
        exact rd_takeSpecial_b hB u193 u202 u203 u720 u721 u722 hs hinj hft hn hZ hz27 ts1 hr1 hr2 hB11 (XF13.mono (by omega) (by omega)) t1k2k5k9 z1 e1 kN kS
      · skip
        have u720n1k2k5k9 := (x9.1 _ (by rw [u720n1k2k5]; decide)).1.trans u720n1k2k5
        have u202n1k2k5k9 := (x9.1 _ (by rw [u202n1k2k5]; decide)).1.trans u202n1k2k5
        have u721n1k2k5k9 := (x9.1 _ (by rw [u721n1k2k5]; decide)).1.trans u721n1k2k5
        have u722n1k2k5k9 := (x9.1 _ (by rw [u722n1k2k5]; decide)).1.trans u722n1k2k5
        have u193n1k2k5k9 := (x9.1 _ (by rw [u193n1k2k5]; decide)).1.trans u193n1k2k5
        have u203n1k2k5k9 := (x9.1 _ (by rw [u203n1k2k5]; decide)).1.trans u203n1k2k5
        have t1k2k5k9 := (x9.1 _ (by rw [t1k2k5]; decide)).1.trans t1k2k5
        have tq9 := (ho9 _ rfl).1
        have lq9 := dz_here_lt (hB9.1 _ (by rw [tq9]; decide)).1
        have lc9 := X9.2
        refine ez_pf hB9 t1k2k5k9 rfl rfl tq_6 rfl rfl rfl rfl (ez_vdR rfl tq9 (by omega) (by omega)) (fun hB14 w15 => ?_)
        have XF16 := X9.fr (show ez_fr (ez_one p1) g9 (dz_put g9 p1 3 (ez_v (.inr (.inr (some (q9)))))) from ((ez_fr.refl (ez_one p1) g9).put (show Nat.beq p1 p1 = true from Nat.beq_refl _) _ _)) z1
        refine ez_less [(1, .inr (.inr (some (p1)))), (0, .inr (.inr (some (720))))] rfl ⟨rfl, rfl, trivial⟩ ?_
        exact rd_takeSpecial_b hB u193 u202 u203 u720 u721 u722 hs hinj hft hn hZ hz27 ts1 hr1 hr2 hB14 (XF16.mono (by omega) (by omega)) t1k2k5k9 z1 e1 kN kS
    · skip
      have u720n1k2k5 := (x5.1 _ (by rw [u720n1k2]; decide)).1.trans u720n1k2
      have u202n1k2k5 := (x5.1 _ (by rw [u202n1k2]; decide)).1.trans u202n1k2
      have u721n1k2k5 := (x5.1 _ (by rw [u721n1k2]; decide)).1.trans u721n1k2
      have u722n1k2k5 := (x5.1 _ (by rw [u722n1k2]; decide)).1.trans u722n1k2
      have u193n1k2k5 := (x5.1 _ (by rw [u193n1k2]; decide)).1.trans u193n1k2
      have u203n1k2k5 := (x5.1 _ (by rw [u203n1k2]; decide)).1.trans u203n1k2
      have t1k2k5 := (x5.1 _ (by rw [t1k2]; decide)).1.trans t1k2
      have tq5 := (ho5 _ rfl).1
      have lq5 := dz_here_lt (hB5.1 _ (by rw [tq5]; decide)).1
      have lc5 := X5.2
      refine ez_pf hB5 t1k2k5 rfl rfl tq_6 rfl rfl rfl rfl (ez_vdR rfl tq5 (by omega) (by omega)) (fun hB17 w18 => ?_)
      refine ez_go (n := 3) (pc' := 29) (L' := [(1, .inr (.inr (some (p1)))), (0, .inr (.inr (some (720))))]) (st' := [.inl (3), .inr (.inr (some (720))), .inr (.inr (some (p1)))]) rfl ?_
      have XF20 := X5.fr (show ez_fr (ez_one p1) g5 (dz_put g5 p1 2 (ez_v (.inr (.inr (some (q5)))))) from ((ez_fr.refl (ez_one p1) g5).put (show Nat.beq p1 p1 = true from Nat.beq_refl _) _ _)) z1
      obtain ⟨ab19, af19, at19⟩ := XF20.bft u193 u721 u722
      have hc19 := XF20.2
      refine ez_cv hB17 u720n1k2k5 rfl rfl rfl tq_52 rfl rfl rfl (rd_readRowOrNothing hB17 u720n1k2k5 u193n1k2k5 (by omega) (by omega) (by rw [af19, at19]; exact hft 3 (by omega) (by omega)) (by omega) (by omega) (fun o19 g19 τ19 hB19 x19 ho19 => ez_KA ?_))
      have X19 := XF20.trans x19
      rcases o19 with _ | q19
      · skip
        have u720n1k2k5k19 := (x19.1 _ (by rw [u720n1k2k5]; decide)).1.trans u720n1k2k5
        have u202n1k2k5k19 := (x19.1 _ (by rw [u202n1k2k5]; decide)).1.trans u202n1k2k5
        have u721n1k2k5k19 := (x19.1 _ (by rw [u721n1k2k5]; decide)).1.trans u721n1k2k5
        have u722n1k2k5k19 := (x19.1 _ (by rw [u722n1k2k5]; decide)).1.trans u722n1k2k5
        have u193n1k2k5k19 := (x19.1 _ (by rw [u193n1k2k5]; decide)).1.trans u193n1k2k5
        have u203n1k2k5k19 := (x19.1 _ (by rw [u203n1k2k5]; decide)).1.trans u203n1k2k5
        have t1k2k5k19 := (x19.1 _ (by rw [t1k2k5]; decide)).1.trans t1k2k5
        have tq5k19 := (x19.1 _ (by rw [tq5]; decide)).1.trans tq5
        refine ez_pf hB19 t1k2k5k19 rfl rfl tq_6 rfl rfl rfl rfl (ez_vdN rfl) (fun hB21 w22 => ?_)
        have XF23 := X19.fr (show ez_fr (ez_one p1) g19 (dz_put g19 p1 3 (ez_v (.inr (.inr none)))) from ((ez_fr.refl (ez_one p1) g19).put (show Nat.beq p1 p1 = true from Nat.beq_refl _) _ _)) z1
        refine ez_less [(1, .inr (.inr (some (p1)))), (0, .inr (.inr (some (720))))] rfl ⟨rfl, rfl, trivial⟩ ?_
        exact rd_takeSpecial_b hB u193 u202 u203 u720 u721 u722 hs hinj hft hn hZ hz27 ts1 hr1 hr2 hB21 (XF23.mono (by omega) (by omega)) t1k2k5k19 z1 e1 kN kS
      · skip
        have u720n1k2k5k19 := (x19.1 _ (by rw [u720n1k2k5]; decide)).1.trans u720n1k2k5
        have u202n1k2k5k19 := (x19.1 _ (by rw [u202n1k2k5]; decide)).1.trans u202n1k2k5
        have u721n1k2k5k19 := (x19.1 _ (by rw [u721n1k2k5]; decide)).1.trans u721n1k2k5
        have u722n1k2k5k19 := (x19.1 _ (by rw [u722n1k2k5]; decide)).1.trans u722n1k2k5
        have u193n1k2k5k19 := (x19.1 _ (by rw [u193n1k2k5]; decide)).1.trans u193n1k2k5
        have u203n1k2k5k19 := (x19.1 _ (by rw [u203n1k2k5]; decide)).1.trans u203n1k2k5
        have t1k2k5k19 := (x19.1 _ (by rw [t1k2k5]; decide)).1.trans t1k2k5
        have tq5k19 := (x19.1 _ (by rw [tq5]; decide)).1.trans tq5
        have tq19 := (ho19 _ rfl).1
        have lq19 := dz_here_lt (hB19.1 _ (by rw [tq19]; decide)).1
        have lc19 := X19.2
        refine ez_pf hB19 t1k2k5k19 rfl rfl tq_6 rfl rfl rfl rfl (ez_vdR rfl tq19 (by omega) (by omega)) (fun hB24 w25 => ?_)
        have XF26 := X19.fr (show ez_fr (ez_one p1) g19 (dz_put g19 p1 3 (ez_v (.inr (.inr (some (q19)))))) from ((ez_fr.refl (ez_one p1) g19).put (show Nat.beq p1 p1 = true from Nat.beq_refl _) _ _)) z1
        refine ez_less [(1, .inr (.inr (some (p1)))), (0, .inr (.inr (some (720))))] rfl ⟨rfl, rfl, trivial⟩ ?_
        exact rd_takeSpecial_b hB u193 u202 u203 u720 u721 u722 hs hinj hft hn hZ hz27 ts1 hr1 hr2 hB24 (XF26.mono (by omega) (by omega)) t1k2k5k19 z1 e1 kN kS
  · skip
    have u720n1k2 := (x2.1 _ (by rw [u720n1]; decide)).1.trans u720n1
    have u202n1k2 := (x2.1 _ (by rw [u202n1]; decide)).1.trans u202n1
    have u721n1k2 := (x2.1 _ (by rw [u721n1]; decide)).1.trans u721n1
    have u722n1k2 := (x2.1 _ (by rw [u722n1]; decide)).1.trans u722n1
    have u193n1k2 := (x2.1 _ (by rw [u193n1]; decide)).1.trans u193n1
    have u203n1k2 := (x2.1 _ (by rw [u203n1]; decide)).1.trans u203n1
    have t1k2 := (x2.1 _ (by rw [t1]; decide)).1.trans t1
    have tq2 := (ho2 _ rfl).1
    have lq2 := dz_here_lt (hB2.1 _ (by rw [tq2]; decide)).1
    have lc2 := X2.2
    refine ez_pf hB2 t1k2 rfl rfl tq_6 rfl rfl rfl rfl (ez_vdR rfl tq2 (by omega) (by omega)) (fun hB27 w28 => ?_)
    refine ez_go (n := 3) (pc' := 20) (L' := [(1, .inr (.inr (some (p1)))), (0, .inr (.inr (some (720))))]) (st' := [.inl (2), .inr (.inr (some (720))), .inr (.inr (some (p1)))]) rfl ?_
    have XF30 := X2.fr (show ez_fr (ez_one p1) g2 (dz_put g2 p1 1 (ez_v (.inr (.inr (some (q2)))))) from ((ez_fr.refl (ez_one p1) g2).put (show Nat.beq p1 p1 = true from Nat.beq_refl _) _ _)) z1
    obtain ⟨ab29, af29, at29⟩ := XF30.bft u193 u721 u722
    have hc29 := XF30.2
    refine ez_cv hB27 u720n1k2 rfl rfl rfl tq_52 rfl rfl rfl (rd_readRowOrNothing hB27 u720n1k2 u193n1k2 (by omega) (by omega) (by rw [af29, at29]; exact hft 2 (by omega) (by omega)) (by omega) (by omega) (fun o29 g29 τ29 hB29 x29 ho29 => ez_KA ?_))
    have X29 := XF30.trans x29
    rcases o29 with _ | q29
    · skip
      have u720n1k2k29 := (x29.1 _ (by rw [u720n1k2]; decide)).1.trans u720n1k2
      have u202n1k2k29 := (x29.1 _ (by rw [u202n1k2]; decide)).1.trans u202n1k2
      have u721n1k2k29 := (x29.1 _ (by rw [u721n1k2]; decide)).1.trans u721n1k2
      have u722n1k2k29 := (x29.1 _ (by rw [u722n1k2]; decide)).1.trans u722n1k2
      have u193n1k2k29 := (x29.1 _ (by rw [u193n1k2]; decide)).1.trans u193n1k2
      have u203n1k2k29 := (x29.1 _ (by rw [u203n1k2]; decide)).1.trans u203n1k2
      have t1k2k29 := (x29.1 _ (by rw [t1k2]; decide)).1.trans t1k2
      have tq2k29 := (x29.1 _ (by rw [tq2]; decide)).1.trans tq2
      refine ez_pf hB29 t1k2k29 rfl rfl tq_6 rfl rfl rfl rfl (ez_vdN rfl) (fun hB31 w32 => ?_)
      refine ez_go (n := 3) (pc' := 29) (L' := [(1, .inr (.inr (some (p1)))), (0, .inr (.inr (some (720))))]) (st' := [.inl (3), .inr (.inr (some (720))), .inr (.inr (some (p1)))]) rfl ?_
      have XF34 := X29.fr (show ez_fr (ez_one p1) g29 (dz_put g29 p1 2 (ez_v (.inr (.inr none)))) from ((ez_fr.refl (ez_one p1) g29).put (show Nat.beq p1 p1 = true from Nat.beq_refl _) _ _)) z1
      obtain ⟨ab33, af33, at33⟩ := XF34.bft u193 u721 u722
      have hc33 := XF34.2
      refine ez_cv hB31 u720n1k2k29 rfl rfl rfl tq_52 rfl rfl rfl (rd_readRowOrNothing hB31 u720n1k2k29 u193n1k2k29 (by omega) (by omega) (by rw [af33, at33]; exact hft 3 (by omega) (by omega)) (by omega) (by omega) (fun o33 g33 τ33 hB33 x33 ho33 => ez_KA ?_))
      have X33 := XF34.trans x33
      rcases o33 with _ | q33
      · skip
        have u720n1k2k29k33 := (x33.1 _ (by rw [u720n1k2k29]; decide)).1.trans u720n1k2k29
        have u202n1k2k29k33 := (x33.1 _ (by rw [u202n1k2k29]; decide)).1.trans u202n1k2k29
        have u721n1k2k29k33 := (x33.1 _ (by rw [u721n1k2k29]; decide)).1.trans u721n1k2k29
        have u722n1k2k29k33 := (x33.1 _ (by rw [u722n1k2k29]; decide)).1.trans u722n1k2k29
        have u193n1k2k29k33 := (x33.1 _ (by rw [u193n1k2k29]; decide)).1.trans u193n1k2k29
        have u203n1k2k29k33 := (x33.1 _ (by rw [u203n1k2k29]; decide)).1.trans u203n1k2k29
        have t1k2k29k33 := (x33.1 _ (by rw [t1k2k29]; decide)).1.trans t1k2k29
        have tq2k29k33 := (x33.1 _ (by rw [tq2k29]; decide)).1.trans tq2k29
        refine ez_pf hB33 t1k2k29k33 rfl rfl tq_6 rfl rfl rfl rfl (ez_vdN rfl) (fun hB35 w36 => ?_)
        have XF37 := X33.fr (show ez_fr (ez_one p1) g33 (dz_put g33 p1 3 (ez_v (.inr (.inr none)))) from ((ez_fr.refl (ez_one p1) g33).put (show Nat.beq p1 p1 = true from Nat.beq_refl _) _ _)) z1
        refine ez_less [(1, .inr (.inr (some (p1)))), (0, .inr (.inr (some (720))))] rfl ⟨rfl, rfl, trivial⟩ ?_
        exact rd_takeSpecial_b hB u193 u202 u203 u720 u721 u722 hs hinj hft hn hZ hz27 ts1 hr1 hr2 hB35 (XF37.mono (by omega) (by omega)) t1k2k29k33 z1 e1 kN kS
      · skip
        have u720n1k2k29k33 := (x33.1 _ (by rw [u720n1k2k29]; decide)).1.trans u720n1k2k29
        have u202n1k2k29k33 := (x33.1 _ (by rw [u202n1k2k29]; decide)).1.trans u202n1k2k29
        have u721n1k2k29k33 := (x33.1 _ (by rw [u721n1k2k29]; decide)).1.trans u721n1k2k29
        have u722n1k2k29k33 := (x33.1 _ (by rw [u722n1k2k29]; decide)).1.trans u722n1k2k29
        have u193n1k2k29k33 := (x33.1 _ (by rw [u193n1k2k29]; decide)).1.trans u193n1k2k29
        have u203n1k2k29k33 := (x33.1 _ (by rw [u203n1k2k29]; decide)).1.trans u203n1k2k29
        have t1k2k29k33 := (x33.1 _ (by rw [t1k2k29]; decide)).1.trans t1k2k29
        have tq2k29k33 := (x33.1 _ (by rw [tq2k29]; decide)).1.trans tq2k29
        have tq33 := (ho33 _ rfl).1
        have lq33 := dz_here_lt (hB33.1 _ (by rw [tq33]; decide)).1
        have lc33 := X33.2
        refine ez_pf hB33 t1k2k29k33 rfl rfl tq_6 rfl rfl rfl rfl (ez_vdR rfl tq33 (by omega) (by omega)) (fun hB38 w39 => ?_)
        have XF40 := X33.fr (show ez_fr (ez_one p1) g33 (dz_put g33 p1 3 (ez_v (.inr (.inr (some (q33)))))) from ((ez_fr.refl (ez_one p1) g33).put (show Nat.beq p1 p1 = true from Nat.beq_refl _) _ _)) z1
        refine ez_less [(1, .inr (.inr (some (p1)))), (0, .inr (.inr (some (720))))] rfl ⟨rfl, rfl, trivial⟩ ?_
        exact rd_takeSpecial_b hB u193 u202 u203 u720 u721 u722 hs hinj hft hn hZ hz27 ts1 hr1 hr2 hB38 (XF40.mono (by omega) (by omega)) t1k2k29k33 z1 e1 kN kS
    · skip
      have u720n1k2k29 := (x29.1 _ (by rw [u720n1k2]; decide)).1.trans u720n1k2
      have u202n1k2k29 := (x29.1 _ (by rw [u202n1k2]; decide)).1.trans u202n1k2
      have u721n1k2k29 := (x29.1 _ (by rw [u721n1k2]; decide)).1.trans u721n1k2
      have u722n1k2k29 := (x29.1 _ (by rw [u722n1k2]; decide)).1.trans u722n1k2
      have u193n1k2k29 := (x29.1 _ (by rw [u193n1k2]; decide)).1.trans u193n1k2
      have u203n1k2k29 := (x29.1 _ (by rw [u203n1k2]; decide)).1.trans u203n1k2
      have t1k2k29 := (x29.1 _ (by rw [t1k2]; decide)).1.trans t1k2
      have tq2k29 := (x29.1 _ (by rw [tq2]; decide)).1.trans tq2
      have tq29 := (ho29 _ rfl).1
      have lq29 := dz_here_lt (hB29.1 _ (by rw [tq29]; decide)).1
      have lc29 := X29.2
      refine ez_pf hB29 t1k2k29 rfl rfl tq_6 rfl rfl rfl rfl (ez_vdR rfl tq29 (by omega) (by omega)) (fun hB41 w42 => ?_)
      refine ez_go (n := 3) (pc' := 29) (L' := [(1, .inr (.inr (some (p1)))), (0, .inr (.inr (some (720))))]) (st' := [.inl (3), .inr (.inr (some (720))), .inr (.inr (some (p1)))]) rfl ?_
      have XF44 := X29.fr (show ez_fr (ez_one p1) g29 (dz_put g29 p1 2 (ez_v (.inr (.inr (some (q29)))))) from ((ez_fr.refl (ez_one p1) g29).put (show Nat.beq p1 p1 = true from Nat.beq_refl _) _ _)) z1
      obtain ⟨ab43, af43, at43⟩ := XF44.bft u193 u721 u722
      have hc43 := XF44.2
      refine ez_cv hB41 u720n1k2k29 rfl rfl rfl tq_52 rfl rfl rfl (rd_readRowOrNothing hB41 u720n1k2k29 u193n1k2k29 (by omega) (by omega) (by rw [af43, at43]; exact hft 3 (by omega) (by omega)) (by omega) (by omega) (fun o43 g43 τ43 hB43 x43 ho43 => ez_KA ?_))
      have X43 := XF44.trans x43
      rcases o43 with _ | q43
      · skip
        have u720n1k2k29k43 := (x43.1 _ (by rw [u720n1k2k29]; decide)).1.trans u720n1k2k29
        have u202n1k2k29k43 := (x43.1 _ (by rw [u202n1k2k29]; decide)).1.trans u202n1k2k29
        have u721n1k2k29k43 := (x43.1 _ (by rw [u721n1k2k29]; decide)).1.trans u721n1k2k29
        have u722n1k2k29k43 := (x43.1 _ (by rw [u722n1k2k29]; decide)).1.trans u722n1k2k29
        have u193n1k2k29k43 := (x43.1 _ (by rw [u193n1k2k29]; decide)).1.trans u193n1k2k29
        have u203n1k2k29k43 := (x43.1 _ (by rw [u203n1k2k29]; decide)).1.trans u203n1k2k29
        have t1k2k29k43 := (x43.1 _ (by rw [t1k2k29]; decide)).1.trans t1k2k29
        have tq2k29k43 := (x43.1 _ (by rw [tq2k29]; decide)).1.trans tq2k29
        have tq29k43 := (x43.1 _ (by rw [tq29]; decide)).1.trans tq29
        refine ez_pf hB43 t1k2k29k43 rfl rfl tq_6 rfl rfl rfl rfl (ez_vdN rfl) (fun hB45 w46 => ?_)
        have XF47 := X43.fr (show ez_fr (ez_one p1) g43 (dz_put g43 p1 3 (ez_v (.inr (.inr none)))) from ((ez_fr.refl (ez_one p1) g43).put (show Nat.beq p1 p1 = true from Nat.beq_refl _) _ _)) z1
        refine ez_less [(1, .inr (.inr (some (p1)))), (0, .inr (.inr (some (720))))] rfl ⟨rfl, rfl, trivial⟩ ?_
        exact rd_takeSpecial_b hB u193 u202 u203 u720 u721 u722 hs hinj hft hn hZ hz27 ts1 hr1 hr2 hB45 (XF47.mono (by omega) (by omega)) t1k2k29k43 z1 e1 kN kS
      · skip
        have u720n1k2k29k43 := (x43.1 _ (by rw [u720n1k2k29]; decide)).1.trans u720n1k2k29
        have u202n1k2k29k43 := (x43.1 _ (by rw [u202n1k2k29]; decide)).1.trans u202n1k2k29
        have u721n1k2k29k43 := (x43.1 _ (by rw [u721n1k2k29]; decide)).1.trans u721n1k2k29
        have u722n1k2k29k43 := (x43.1 _ (by rw [u722n1k2k29]; decide)).1.trans u722n1k2k29
        have u193n1k2k29k43 := (x43.1 _ (by rw [u193n1k2k29]; decide)).1.trans u193n1k2k29
        have u203n1k2k29k43 := (x43.1 _ (by rw [u203n1k2k29]; decide)).1.trans u203n1k2k29
        have t1k2k29k43 := (x43.1 _ (by rw [t1k2k29]; decide)).1.trans t1k2k29
        have tq2k29k43 := (x43.1 _ (by rw [tq2k29]; decide)).1.trans tq2k29
        have tq29k43 := (x43.1 _ (by rw [tq29]; decide)).1.trans tq29
        have tq43 := (ho43 _ rfl).1
        have lq43 := dz_here_lt (hB43.1 _ (by rw [tq43]; decide)).1
        have lc43 := X43.2
        refine ez_pf hB43 t1k2k29k43 rfl rfl tq_6 rfl rfl rfl rfl (ez_vdR rfl tq43 (by omega) (by omega)) (fun hB48 w49 => ?_)
        have XF50 := X43.fr (show ez_fr (ez_one p1) g43 (dz_put g43 p1 3 (ez_v (.inr (.inr (some (q43)))))) from ((ez_fr.refl (ez_one p1) g43).put (show Nat.beq p1 p1 = true from Nat.beq_refl _) _ _)) z1
        refine ez_less [(1, .inr (.inr (some (p1)))), (0, .inr (.inr (some (720))))] rfl ⟨rfl, rfl, trivial⟩ ?_
        exact rd_takeSpecial_b hB u193 u202 u203 u720 u721 u722 hs hinj hft hn hZ hz27 ts1 hr1 hr2 hB48 (XF50.mono (by omega) (by omega)) t1k2k29k43 z1 e1 kN kS

end EzTs
/-! The class: takeEntry. (Written by wip/p2/py/pv25.py.) -/
theorem ez_xt.rt {τ τ1 : Nat → Nat} {h g : cz_H} {a b r t : Nat} (x : ez_xt τ h τ1 g a b) (hr : τ r = 0) : ez_xt τ h (dz_tn τ1 r t) g a b :=
  ⟨fun q hq => ⟨(ez_tn_ne (fun e => by rw [e] at hq; exact hq hr)).trans (x.1 q hq).1, (x.1 q hq).2⟩, x.2⟩
section EzTy
variable {d : Nat} {h : cz_H} {τ : Nat → Nat} {Q : cz_F → Prop}
theorem rd_packAt {x : Int64} {a b : Int} (k : ∀ y : Int64, Q (.inl (some (.inr (.inl y))), h)) : ez_W d cm_101 0 [(0, .inr (.inl (x))), (2, .inl (a)), (3, .inl (b))] [] h Q := by
  refine ez_go (n := 12) (pc' := 13) (L' := [(0, .inr (.inl (x))), (2, .inl (a)), (3, .inl (b))]) (st' := [.inr (.inl ((x) ||| (((Int32.ofInt ((b) + (1))).toInt64) <<< ((Int32.ofInt ((21) * ((2) - (a)))).toInt64 &&& 63))))]) rfl ?_
  exact ez_retL rfl rfl (k _)

theorem rd_takeEntry_l {r e : Nat} (hB : ez_B τ h) (tr : τ r = 5) (kx : ∀ x, ez_W (d + 1) cm_175 74 [(3, .inr (.inl (x))), (2, .inr (.inr (some (e)))), (1, .inr (.inr (some (r)))), (0, .inr (.inr (some (720))))] [] h Q) : ∀ (m : Nat) (i : Int) (x : Int64), m = (qz_N h r - i).toNat → 0 ≤ i → i ≤ qz_N h r → ez_W (d + 1) cm_175 50 [(5, .inl (i)), (3, .inr (.inl (x))), (2, .inr (.inr (some (e)))), (1, .inr (.inr (some (r)))), (0, .inr (.inr (some (720))))] [] h Q := by
  have nn : 0 ≤ qz_N h r ∧ qz_N h r ≤ 18 := ez_len hB tr tq_5 rfl
  intro m
  induction m with
  | zero =>
    intro i x hm i0 i1
    refine ez_go (n := 2) (pc' := 53) (L' := [(5, .inl (i)), (3, .inr (.inl (x))), (2, .inr (.inr (some (e)))), (1, .inr (.inr (some (r)))), (0, .inr (.inr (some (720))))]) (st' := [.inr (.inr (some (r))), .inl (i)]) rfl ?_
    refine ez_al hB tr rfl tq_5 rfl (fun (b1 : 0 ≤ qz_N h r) (b1' : qz_N h r ≤ 18) => ?_)
    refine ez_icmp rfl rfl ⟨by first | omega | exact (sz_i32 _).1, by first | omega | exact (sz_i32 _).2⟩ ⟨by first | omega | exact (sz_i32 _).1, by first | omega | exact (sz_i32 _).2⟩ (fun (c2 : (qz_N h r) ≤ (i)) => ?_) (fun (c2 : ¬((qz_N h r) ≤ (i))) => ?_)
    · skip
      refine ez_less [(3, .inr (.inl (x))), (2, .inr (.inr (some (e)))), (1, .inr (.inr (some (r)))), (0, .inr (.inr (some (720))))] rfl ⟨rfl, rfl, rfl, rfl, trivial⟩ ?_
      exact kx x
    · exfalso; omega
  | succ m ih =>
    intro i x hm i0 i1
    refine ez_go (n := 2) (pc' := 53) (L' := [(5, .inl (i)), (3, .inr (.inl (x))), (2, .inr (.inr (some (e)))), (1, .inr (.inr (some (r)))), (0, .inr (.inr (some (720))))]) (st' := [.inr (.inr (some (r))), .inl (i)]) rfl ?_
    refine ez_al hB tr rfl tq_5 rfl (fun (b1 : 0 ≤ qz_N h r) (b1' : qz_N h r ≤ 18) => ?_)
    refine ez_icmp rfl rfl ⟨by first | omega | exact (sz_i32 _).1, by first | omega | exact (sz_i32 _).2⟩ ⟨by first | omega | exact (sz_i32 _).1, by first | omega | exact (sz_i32 _).2⟩ (fun (c2 : (qz_N h r) ≤ (i)) => ?_) (fun (c2 : ¬((qz_N h r) ≤ (i))) => ?_)
    · exfalso; omega
    · skip
      refine ez_go (n := 4) (pc' := 63) (L' := [(5, .inl (i)), (3, .inr (.inl (x))), (2, .inr (.inr (some (e)))), (1, .inr (.inr (some (r)))), (0, .inr (.inr (some (720))))]) (st' := [.inl (i), .inr (.inr (some (r))), .inl (i), .inr (.inl (x))]) rfl ?_
      have n4 : 0 ≤ qz_N h r ∧ qz_N h r ≤ 18 := ez_len hB tr tq_5 rfl
      refine ez_aI hB tr rfl tq_5 rfl rfl (by omega) (by omega) (fun (b3 : -2147483648 ≤ qz_I h r (i).toNat) (b3' : qz_I h r (i).toNat ≤ 2147483647) => ?_)
      refine ez_cs hB.2.1 rfl rfl rfl rfl rfl (rd_packAt (fun y => ez_KL ?_))
      refine ez_go (n := 3) (pc' := 50) (L' := [(5, .inl (i + 1)), (3, .inr (.inl (y))), (2, .inr (.inr (some (e)))), (1, .inr (.inr (some (r)))), (0, .inr (.inr (some (720))))]) (st' := []) rfl ?_
      refine ez_less [(5, .inl (i + 1)), (3, .inr (.inl (y))), (2, .inr (.inr (some (e)))), (1, .inr (.inr (some (r)))), (0, .inr (.inr (some (720))))] rfl ⟨rfl, rfl, rfl, rfl, rfl, trivial⟩ ?_
      exact ih _ _ (by omega) (by omega) (by omega)
theorem rd_takeEntry (hB : ez_B τ h) (u193 : τ 193 = 45) (u202 : τ 202 = 48) (u203 : τ 203 = 49) (u720 : τ 720 = 52) (u721 : τ 721 = 53) (u722 : τ 722 = 54) (hs : sz_ok h) (hinj : sz_inj h) (hft : ∀ k, 0 ≤ k → k ≤ 1 → rz_f h k ≤ rz_t h k) (hn : qz_I h 202 1 + 2 ≤ 513) (u204 : τ 204 = 50) (u205 : τ 205 = 51) (hE : ∀ i : Nat, (i : Int) < qz_I h 202 4 → 1 ≤ qz_I h 205 i) (hr1 : h.1 + 3 ≤ 600192) (hr2 : h.2.1 + 38 ≤ 7302232) (kN : ∀ g τ1, ez_B τ1 g → ez_xt τ h τ1 g 3 38 → Q (.inl (some (ez_v (.inl (-1)))), g)) (kS : ∀ g h1 τ1 (v : Int), 1 ≤ v → v ≤ 3 → ez_B τ1 g → ez_B τ1 h1 → ez_xt τ h τ1 h1 3 38 → ez_fr nz_PE h1 g → (∀ j, j ≠ 4 → qz_I g 202 j = qz_I h1 202 j) → (∀ i : Nat, (i : Int) < qz_I g 202 4 → 1 ≤ qz_I g 205 i) → Q (.inl (some (ez_v (.inl v))), g)) : ez_W (d + 4) cm_175 0 [(0, .inr (.inr (some (720))))] [] h Q := by
  have n721 : 7 ≤ qz_N h 721 ∧ qz_N h 721 ≤ 7 := ez_len hB u721 tq_53 rfl
  have n722 : 7 ≤ qz_N h 722 ∧ qz_N h 722 ≤ 7 := ez_len hB u722 tq_54 rfl
  have qh0 := hft 0 (by omega) (by omega)
  have qf0 : 0 ≤ rz_f h 0 ∧ rz_f h 0 ≤ 4096 := ez_aB (i := 0) hB u721 tq_53 rfl rfl (by decide) (by omega) (by omega)
  have qt0 : 0 ≤ rz_t h 0 ∧ rz_t h 0 ≤ 4096 := ez_aB (i := 0) hB u722 tq_54 rfl rfl (by decide) (by omega) (by omega)
  have qh1 := hft 1 (by omega) (by omega)
  have qf1 : 0 ≤ rz_f h 1 ∧ rz_f h 1 ≤ 4096 := ez_aB (i := 1) hB u721 tq_53 rfl rfl (by decide) (by omega) (by omega)
  have qt1 : 0 ≤ rz_t h 1 ∧ rz_t h 1 ≤ 4096 := ez_aB (i := 1) hB u722 tq_54 rfl rfl (by decide) (by omega) (by omega)
  refine ez_go (n := 2) (pc' := 2) (L' := [(0, .inr (.inr (some (720))))]) (st' := [.inr (.inr (some (720))), .inr (.inr (some (720)))]) rfl ?_
  refine ez_gC (p := 721) (tg := 53) hB u720 rfl rfl tq_52 rfl rfl (fun (t721 : _ = 53) => ?_)
  refine ez_go (n := 1) (pc' := 6) (L' := [(0, .inr (.inr (some (720))))]) (st' := [.inl (0), .inr (.inr (some (721))), .inr (.inr (some (720)))]) rfl ?_
  have n2 : 7 ≤ qz_N h 721 ∧ qz_N h 721 ≤ 7 := ez_len hB t721 tq_53 rfl
  refine ez_aI hB t721 rfl tq_53 rfl rfl (by omega) (by omega) (fun (b1 : 0 ≤ qz_I h 721 (0 : Int).toNat) (b1' : qz_I h 721 (0 : Int).toNat ≤ 4096) => ?_)
  refine ez_go (n := 1) (pc' := 8) (L' := [(0, .inr (.inr (some (720))))]) (st' := [.inr (.inr (some (720))), .inl (qz_I h 721 (0 : Int).toNat), .inr (.inr (some (720)))]) rfl ?_
  refine ez_gC (p := 722) (tg := 54) hB u720 rfl rfl tq_52 rfl rfl (fun (t722 : _ = 54) => ?_)
  refine ez_go (n := 1) (pc' := 12) (L' := [(0, .inr (.inr (some (720))))]) (st' := [.inl (0), .inr (.inr (some (722))), .inl (qz_I h 721 (0 : Int).toNat), .inr (.inr (some (720)))]) rfl ?_
  have n4 : 7 ≤ qz_N h 722 ∧ qz_N h 722 ≤ 7 := ez_len hB t722 tq_54 rfl
  refine ez_aI hB t722 rfl tq_54 rfl rfl (by omega) (by omega) (fun (b3 : 0 ≤ qz_I h 722 (0 : Int).toNat) (b3' : qz_I h 722 (0 : Int).toNat ≤ 4096) => ?_)
  refine ez_go (n := 1) (pc' := 14) (L' := [(0, .inr (.inr (some (720))))]) (st' := [.inl (3), .inl (qz_I h 722 (0 : Int).toNat), .inl (qz_I h 721 (0 : Int).toNat), .inr (.inr (some (720)))]) rfl ?_
  have xf0 : qz_I h 721 (0 : Int).toNat = rz_f h 0 := rfl
  have xt0 : qz_I h 722 (0 : Int).toNat = rz_t h 0 := rfl
  refine ez_cv hB u720 rfl rfl rfl tq_52 rfl rfl rfl (rd_readRow hB u720 u193 (by omega) (by omega) (by omega) (by omega) (by omega) (by omega) (by omega) (fun g1 τ1 hB1 x1 _ => ez_KA ?_) (fun g1 τ1 vs hB1 x1 up hct1 hct2 _ hN1 _ => ez_KA ?_))
  · skip
    have u720a := (x1.1 _ (by rw [u720]; decide)).1.trans u720
    have u202a := (x1.1 _ (by rw [u202]; decide)).1.trans u202
    have t721a := (x1.1 _ (by rw [t721]; decide)).1.trans t721
    have t722a := (x1.1 _ (by rw [t722]; decide)).1.trans t722
    have u193a := (x1.1 _ (by rw [u193]; decide)).1.trans u193
    have u203a := (x1.1 _ (by rw [u203]; decide)).1.trans u203
    refine ez_go (n := 3) (pc' := 20) (L' := [(1, .inr (.inr none)), (0, .inr (.inr (some (720))))]) (st' := [.inr (.inr (some (720))), .inr (.inr (some (720)))]) rfl ?_
    refine ez_gC (p := 721) (tg := 53) hB1 u720a rfl rfl tq_52 rfl rfl (fun (t721 : _ = 53) => ?_)
    refine ez_go (n := 1) (pc' := 24) (L' := [(1, .inr (.inr none)), (0, .inr (.inr (some (720))))]) (st' := [.inl (1), .inr (.inr (some (721))), .inr (.inr (some (720)))]) rfl ?_
    have n6 : 7 ≤ qz_N g1 721 ∧ qz_N g1 721 ≤ 7 := ez_len hB1 t721 tq_53 rfl
    refine ez_aI hB1 t721 rfl tq_53 rfl rfl (by omega) (by omega) (fun (b5 : 0 ≤ qz_I g1 721 (1 : Int).toNat) (b5' : qz_I g1 721 (1 : Int).toNat ≤ 4096) => ?_)
    refine ez_go (n := 1) (pc' := 26) (L' := [(1, .inr (.inr none)), (0, .inr (.inr (some (720))))]) (st' := [.inr (.inr (some (720))), .inl (qz_I g1 721 (1 : Int).toNat), .inr (.inr (some (720)))]) rfl ?_
    refine ez_gC (p := 722) (tg := 54) hB1 u720a rfl rfl tq_52 rfl rfl (fun (t722 : _ = 54) => ?_)
    refine ez_go (n := 1) (pc' := 30) (L' := [(1, .inr (.inr none)), (0, .inr (.inr (some (720))))]) (st' := [.inl (1), .inr (.inr (some (722))), .inl (qz_I g1 721 (1 : Int).toNat), .inr (.inr (some (720)))]) rfl ?_
    have n8 : 7 ≤ qz_N g1 722 ∧ qz_N g1 722 ≤ 7 := ez_len hB1 t722 tq_54 rfl
    refine ez_aI hB1 t722 rfl tq_54 rfl rfl (by omega) (by omega) (fun (b7 : 0 ≤ qz_I g1 722 (1 : Int).toNat) (b7' : qz_I g1 722 (1 : Int).toNat ≤ 4096) => ?_)
    obtain ⟨ab9, af9, at9⟩ := x1.bft u193 u721 u722
    have zf9 : qz_I g1 721 (1 : Int).toNat = rz_f h 1 := congrFun af9 1
    have zt9 : qz_I g1 722 (1 : Int).toNat = rz_t h 1 := congrFun at9 1
    have hc10 := x1.2
    refine ez_cv hB1 u720a rfl rfl rfl tq_52 rfl rfl rfl (rd_readElements hB1 u720a u193a (by omega) (by omega) (by omega) (by omega) (by omega) (fun o g2 τ2 hB2 x2 ho => ez_KA ?_))
    have X2 := x1.trans x2
    rcases o with _ | e2
    · skip
      have u720ab := (x2.1 _ (by rw [u720a]; decide)).1.trans u720a
      have u202ab := (x2.1 _ (by rw [u202a]; decide)).1.trans u202a
      have t721b := (x2.1 _ (by rw [t721]; decide)).1.trans t721
      have t722b := (x2.1 _ (by rw [t722]; decide)).1.trans t722
      have u193ab := (x2.1 _ (by rw [u193a]; decide)).1.trans u193a
      have u203ab := (x2.1 _ (by rw [u203a]; decide)).1.trans u203a
      refine ez_go (n := 2) (pc' := 36) (L' := [(2, .inr (.inr none)), (1, .inr (.inr none)), (0, .inr (.inr (some (720))))]) (st' := [.inr (.inr none)]) rfl ?_
      refine ez_null0 rfl rfl ?_
      refine ez_go (n := 1) (pc' := 44) (L' := [(2, .inr (.inr none)), (1, .inr (.inr none)), (0, .inr (.inr (some (720))))]) (st' := [.inl (-1)]) rfl ?_
      exact ez_retI rfl rfl (kN g2 τ2 hB2 (X2.mono (by omega) (by omega)))
    · skip
      have u720ab := (x2.1 _ (by rw [u720a]; decide)).1.trans u720a
      have u202ab := (x2.1 _ (by rw [u202a]; decide)).1.trans u202a
      have t721b := (x2.1 _ (by rw [t721]; decide)).1.trans t721
      have t722b := (x2.1 _ (by rw [t722]; decide)).1.trans t722
      have u193ab := (x2.1 _ (by rw [u193a]; decide)).1.trans u193a
      have u203ab := (x2.1 _ (by rw [u203a]; decide)).1.trans u203a
      have te2 := (ho _ rfl).1
      have le2 := dz_here_lt (hB2.1 _ (by rw [te2]; decide)).1
      have c2 := X2.2
      refine ez_go (n := 2) (pc' := 36) (L' := [(2, .inr (.inr (some (e2)))), (1, .inr (.inr none)), (0, .inr (.inr (some (720))))]) (st' := [.inr (.inr none)]) rfl ?_
      refine ez_null0 rfl rfl ?_
      refine ez_go (n := 1) (pc' := 44) (L' := [(2, .inr (.inr (some (e2)))), (1, .inr (.inr none)), (0, .inr (.inr (some (720))))]) (st' := [.inl (-1)]) rfl ?_
      exact ez_retI rfl rfl (kN g2 τ2 hB2 (X2.mono (by omega) (by omega)))
  · skip
    have u720a := (x1.1 _ (by rw [u720]; decide)).1.trans u720
    have u202a := (x1.1 _ (by rw [u202]; decide)).1.trans u202
    have t721a := (x1.1 _ (by rw [t721]; decide)).1.trans t721
    have t722a := (x1.1 _ (by rw [t722]; decide)).1.trans t722
    have u193a := (x1.1 _ (by rw [u193]; decide)).1.trans u193
    have u203a := (x1.1 _ (by rw [u203]; decide)).1.trans u203
    have hn3 : qz_N g1 h.1 ≤ 3 := by omega
    have er1 : ∃ r1, r1 = h.1 := ⟨_, rfl⟩
    obtain ⟨r1, er1⟩ := er1
    rw [← er1] at up hN1 hn3 ⊢
    have hn1 : 1 ≤ qz_N g1 r1 := by omega
    refine ez_go (n := 3) (pc' := 20) (L' := [(1, .inr (.inr (some (r1)))), (0, .inr (.inr (some (720))))]) (st' := [.inr (.inr (some (720))), .inr (.inr (some (720)))]) rfl ?_
    refine ez_gC (p := 721) (tg := 53) hB1 u720a rfl rfl tq_52 rfl rfl (fun (t721 : _ = 53) => ?_)
    refine ez_go (n := 1) (pc' := 24) (L' := [(1, .inr (.inr (some (r1)))), (0, .inr (.inr (some (720))))]) (st' := [.inl (1), .inr (.inr (some (721))), .inr (.inr (some (720)))]) rfl ?_
    have n12 : 7 ≤ qz_N g1 721 ∧ qz_N g1 721 ≤ 7 := ez_len hB1 t721 tq_53 rfl
    refine ez_aI hB1 t721 rfl tq_53 rfl rfl (by omega) (by omega) (fun (b11 : 0 ≤ qz_I g1 721 (1 : Int).toNat) (b11' : qz_I g1 721 (1 : Int).toNat ≤ 4096) => ?_)
    refine ez_go (n := 1) (pc' := 26) (L' := [(1, .inr (.inr (some (r1)))), (0, .inr (.inr (some (720))))]) (st' := [.inr (.inr (some (720))), .inl (qz_I g1 721 (1 : Int).toNat), .inr (.inr (some (720)))]) rfl ?_
    refine ez_gC (p := 722) (tg := 54) hB1 u720a rfl rfl tq_52 rfl rfl (fun (t722 : _ = 54) => ?_)
    refine ez_go (n := 1) (pc' := 30) (L' := [(1, .inr (.inr (some (r1)))), (0, .inr (.inr (some (720))))]) (st' := [.inl (1), .inr (.inr (some (722))), .inl (qz_I g1 721 (1 : Int).toNat), .inr (.inr (some (720)))]) rfl ?_
    have n14 : 7 ≤ qz_N g1 722 ∧ qz_N g1 722 ≤ 7 := ez_len hB1 t722 tq_54 rfl
    refine ez_aI hB1 t722 rfl tq_54 rfl rfl (by omega) (by omega) (fun (b13 : 0 ≤ qz_I g1 722 (1 : Int).toNat) (b13' : qz_I g1 722 (1 : Int).toNat ≤ 4096) => ?_)
    obtain ⟨ab15, af15, at15⟩ := x1.bft u193 u721 u722
    have zf15 : qz_I g1 721 (1 : Int).toNat = rz_f h 1 := congrFun af15 1
    have zt15 : qz_I g1 722 (1 : Int).toNat = rz_t h 1 := congrFun at15 1
    have hc16 := x1.2
    refine ez_cv hB1 u720a rfl rfl rfl tq_52 rfl rfl rfl (rd_readElements hB1 u720a u193a (by omega) (by omega) (by omega) (by omega) (by omega) (fun o g2 τ2 hB2 x2 ho => ez_KA ?_))
    have X2 := x1.trans x2
    rcases o with _ | e2
    · skip
      have u720ab := (x2.1 _ (by rw [u720a]; decide)).1.trans u720a
      have u202ab := (x2.1 _ (by rw [u202a]; decide)).1.trans u202a
      have t721b := (x2.1 _ (by rw [t721]; decide)).1.trans t721
      have t722b := (x2.1 _ (by rw [t722]; decide)).1.trans t722
      have u193ab := (x2.1 _ (by rw [u193a]; decide)).1.trans u193a
      have u203ab := (x2.1 _ (by rw [u203a]; decide)).1.trans u203a
      have upb := (x2.1 _ (by rw [up]; decide)).1.trans up
      refine ez_go (n := 2) (pc' := 36) (L' := [(2, .inr (.inr none)), (1, .inr (.inr (some (r1)))), (0, .inr (.inr (some (720))))]) (st' := [.inr (.inr (some (r1)))]) rfl ?_
      refine ez_null1 rfl ?_
      refine ez_go (n := 1) (pc' := 40) (L' := [(2, .inr (.inr none)), (1, .inr (.inr (some (r1)))), (0, .inr (.inr (some (720))))]) (st' := [.inr (.inr none)]) rfl ?_
      refine ez_nonn0 rfl ?_
      refine ez_go (n := 1) (pc' := 44) (L' := [(2, .inr (.inr none)), (1, .inr (.inr (some (r1)))), (0, .inr (.inr (some (720))))]) (st' := [.inl (-1)]) rfl ?_
      exact ez_retI rfl rfl (kN g2 τ2 hB2 (X2.mono (by omega) (by omega)))
    · skip
      have u720ab := (x2.1 _ (by rw [u720a]; decide)).1.trans u720a
      have u202ab := (x2.1 _ (by rw [u202a]; decide)).1.trans u202a
      have t721b := (x2.1 _ (by rw [t721]; decide)).1.trans t721
      have t722b := (x2.1 _ (by rw [t722]; decide)).1.trans t722
      have u193ab := (x2.1 _ (by rw [u193a]; decide)).1.trans u193a
      have u203ab := (x2.1 _ (by rw [u203a]; decide)).1.trans u203a
      have upb := (x2.1 _ (by rw [up]; decide)).1.trans up
      have te2 := (ho _ rfl).1
      have le2 := dz_here_lt (hB2.1 _ (by rw [te2]; decide)).1
      have c2 := X2.2
      have hN2 : qz_N g2 r1 = qz_N g1 r1 := x2.N (by rw [up]; decide)
      refine ez_go (n := 2) (pc' := 36) (L' := [(2, .inr (.inr (some (e2)))), (1, .inr (.inr (some (r1)))), (0, .inr (.inr (some (720))))]) (st' := [.inr (.inr (some (r1)))]) rfl ?_
      refine ez_null1 rfl ?_
      refine ez_go (n := 1) (pc' := 40) (L' := [(2, .inr (.inr (some (e2)))), (1, .inr (.inr (some (r1)))), (0, .inr (.inr (some (720))))]) (st' := [.inr (.inr (some (e2)))]) rfl ?_
      refine ez_nonn1 rfl rfl ?_
      refine ez_go (n := 4) (pc' := 50) (L' := [(5, .inl (0)), (3, .inr (.inl (Int64.ofInt (0 : Nat)))), (2, .inr (.inr (some (e2)))), (1, .inr (.inr (some (r1)))), (0, .inr (.inr (some (720))))]) (st' := []) rfl ?_
      refine ez_less [(5, .inl (0)), (3, .inr (.inl (Int64.ofInt (0 : Nat)))), (2, .inr (.inr (some (e2)))), (1, .inr (.inr (some (r1)))), (0, .inr (.inr (some (720))))] rfl ⟨rfl, rfl, rfl, rfl, rfl, trivial⟩ ?_
      refine rd_takeEntry_l hB2 upb (fun x => ?_) _ 0 _ rfl (by omega) (by omega)
      refine ez_nw' (t := 8) hB2 rfl rfl rfl tq_8 rfl rfl (by omega) (by show g2.2.1 + 2 ≤ 7302232; omega) (fun g17 τ17 p17 hB17 x17 o17 t17 z17 e17 y17 => ?_)
      have x17 : ez_xt τ2 g2 τ17 g17 1 2 := x17
      have c17 := x17.2
      have u720abn17 := (x17.1 _ (by rw [u720ab]; decide)).1.trans u720ab
      have u202abn17 := (x17.1 _ (by rw [u202ab]; decide)).1.trans u202ab
      have t721bn17 := (x17.1 _ (by rw [t721b]; decide)).1.trans t721b
      have t722bn17 := (x17.1 _ (by rw [t722b]; decide)).1.trans t722b
      have u193abn17 := (x17.1 _ (by rw [u193ab]; decide)).1.trans u193ab
      have u203abn17 := (x17.1 _ (by rw [u203ab]; decide)).1.trans u203ab
      have upbn17 := (x17.1 _ (by rw [upb]; decide)).1.trans upb
      have te2n17 := (x17.1 _ (by rw [te2]; decide)).1.trans te2
      have X3 := X2.trans x17
      have zz : τ p17 = 0 := Classical.byContradiction fun e => by have := dz_here_lt (hB.1 _ e).1; omega
      have hN3 : qz_N g17 r1 = qz_N g2 r1 := x17.N (by rw [upb]; decide)
      refine ez_go (n := 1) (pc' := 78) (L' := [(3, .inr (.inl (x))), (2, .inr (.inr (some (e2)))), (1, .inr (.inr (some (r1)))), (0, .inr (.inr (some (720))))]) (st' := [.inr (.inr (some (p17))), .inr (.inr (some (p17)))]) rfl ?_
      refine ez_ci hB17.2.1 rfl rfl rfl rfl rfl rfl (rd_Entry_init (ez_K0 ?_))
      refine ez_go (n := 3) (pc' := 86) (L' := [(5, .inr (.inr (some (p17)))), (3, .inr (.inl (x))), (2, .inr (.inr (some (e2)))), (1, .inr (.inr (some (r1)))), (0, .inr (.inr (some (720))))]) (st' := [.inr (.inr (some (r1))), .inr (.inr (some (p17)))]) rfl ?_
      refine ez_al hB17 upbn17 rfl tq_5 rfl (fun (b18 : 0 ≤ qz_N g17 r1) (b18' : qz_N g17 r1 ≤ 18) => ?_)
      refine ez_pf hB17 t17 rfl rfl tq_8 rfl rfl rfl rfl (ez_vdI rfl rfl (by omega) (by omega)) (fun hB19 w20 => ?_)
      refine ez_go (n := 2) (pc' := 93) (L' := [(5, .inr (.inr (some (p17)))), (3, .inr (.inl (x))), (2, .inr (.inr (some (e2)))), (1, .inr (.inr (some (r1)))), (0, .inr (.inr (some (720))))]) (st' := [.inr (.inr (some (e2))), .inr (.inr (some (p17)))]) rfl ?_
      refine ez_pf hB19 t17 rfl rfl tq_8 rfl rfl rfl rfl (ez_vdR rfl te2n17 (by omega) (by omega)) (fun hB21 w22 => ?_)
      have XF23 := X3.fr (show ez_fr (ez_one p17) g17 (dz_put (dz_put g17 p17 0 (ez_v (.inl (qz_N g17 r1)))) p17 1 (ez_v (.inr (.inr (some (e2)))))) from (((ez_fr.refl (ez_one p17) g17).put (show Nat.beq p17 p17 = true from Nat.beq_refl _) _ _).put (show Nat.beq p17 p17 = true from Nat.beq_refl _) _ _)) zz
      have hB9 := ez_rtEntry hB21 t17 (by rw [w22]; show (1 : Int) ≤ (e2 : Int) + 1; omega)
      have X9 := XF23.rt (r := p17) (t := 7) zz
      have u720h := (X9.1 _ (by rw [u720]; decide)).1.trans u720
      have u202h := (X9.1 _ (by rw [u202]; decide)).1.trans u202
      have u721h := (X9.1 _ (by rw [u721]; decide)).1.trans u721
      have u722h := (X9.1 _ (by rw [u722]; decide)).1.trans u722
      have u193h := (X9.1 _ (by rw [u193]; decide)).1.trans u193
      have u203h := (X9.1 _ (by rw [u203]; decide)).1.trans u203
      have t9r : dz_tn τ17 p17 7 r1 = 5 := (ez_tn_ne (fun e => by rw [e, t17] at upbn17; cases upbn17)).trans upbn17
      have t9p : dz_tn τ17 p17 7 p17 = 7 := ez_tn_eq
      refine ez_go (n := 1) (pc' := 97) (L' := [(5, .inr (.inr (some (p17)))), (3, .inr (.inl (x))), (2, .inr (.inr (some (e2)))), (1, .inr (.inr (some (r1)))), (0, .inr (.inr (some (720))))]) (st' := [.inr (.inr (some (720)))]) rfl ?_
      refine ez_gC (p := 202) (tg := 48) hB9 u720h rfl rfl tq_52 rfl rfl (fun (t202 : _ = 48) => ?_)
      refine ez_go (n := 2) (pc' := 103) (L' := [(5, .inr (.inr (some (p17)))), (3, .inr (.inl (x))), (2, .inr (.inr (some (e2)))), (1, .inr (.inr (some (r1)))), (0, .inr (.inr (some (720))))]) (st' := [.inr (.inr (some (p17))), .inr (.inl (x)), .inr (.inr (some (202)))]) rfl ?_
      have j202 : ∀ j, qz_I (dz_put (dz_put g17 p17 0 (ez_v (.inl (qz_N g17 r1)))) p17 1 (ez_v (.inr (.inr (some (e2)))))) 202 j = qz_I h 202 j := fun j => X9.I (by rw [u202]; decide) j
      have j205 : ∀ j, qz_I (dz_put (dz_put g17 p17 0 (ez_v (.inl (qz_N g17 r1)))) p17 1 (ez_v (.inr (.inr (some (e2)))))) 205 j = qz_I h 205 j := fun j => X9.I (by rw [u205]; decide) j
      refine ez_cv hB9 t202 rfl rfl rfl tq_48 rfl rfl rfl (rd_tellEntry hB9 t202 ((X9.1 _ (by rw [u204]; decide)).1.trans u204) ((X9.1 _ (by rw [u205]; decide)).1.trans u205) t9p (by omega) (fun i hi => by rw [j202] at hi; rw [j205]; exact hE i hi) (fun g9 hB10 f9 j9 e9 => ez_K0 ?_))
      have hN9 : qz_N g9 r1 = qz_N (dz_put (dz_put g17 p17 0 (ez_v (.inl (qz_N g17 r1)))) p17 1 (ez_v (.inr (.inr (some (e2)))))) r1 := f9.N (by unfold nz_PE; rw [dz_beq_ne (fun e => by rw [e, t202] at t9r; cases t9r), dz_beq_ne (fun e => by rw [e, (X9.1 _ (by rw [u204]; decide)).1.trans u204] at t9r; cases t9r), dz_beq_ne (fun e => by rw [e, (X9.1 _ (by rw [u205]; decide)).1.trans u205] at t9r; cases t9r)]; rfl)
      have hN8 : qz_N (dz_put (dz_put g17 p17 0 (ez_v (.inl (qz_N g17 r1)))) p17 1 (ez_v (.inr (.inr (some (e2)))))) r1 = qz_N g17 r1 := by rw [ez_put_N, ez_put_N]
      refine ez_go (n := 1) (pc' := 107) (L' := [(5, .inr (.inr (some (p17)))), (3, .inr (.inl (x))), (2, .inr (.inr (some (e2)))), (1, .inr (.inr (some (r1)))), (0, .inr (.inr (some (720))))]) (st' := [.inr (.inr (some (r1)))]) rfl ?_
      refine ez_al hB10 t9r rfl tq_5 rfl (fun (b24 : 0 ≤ qz_N g9 r1) (b24' : qz_N g9 r1 ≤ 18) => ?_)
      exact ez_retI rfl rfl (kS g9 (dz_put (dz_put g17 p17 0 (ez_v (.inl (qz_N g17 r1)))) p17 1 (ez_v (.inr (.inr (some (e2)))))) (dz_tn τ17 p17 7) _ (by omega) (by omega) hB10 hB9 (X9.mono (by omega) (by omega)) f9 j9 e9)

end EzTy
