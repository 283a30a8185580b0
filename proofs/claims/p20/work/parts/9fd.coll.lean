/-! COLLATION: the model: key, compare. (Written by wip/p2/py/pvk16.py.) -/
theorem sb_mod (w : Int) : sgb w % 256 = w % 256 := by
  have e : sgb w = w.bmod Int8.size := by unfold sgb; rw [Int32.toInt8_ofInt, Int8.toInt_toInt32, Int8.toInt_ofInt]
  rw [e]
  show w.bmod Int8.size % ((Int8.size : Nat) : Int) = w % ((Int8.size : Nat) : Int)
  exact Int.bmod_emod
theorem sb_inj {x y : Int} (x0 : 0 ≤ x) (x1 : x ≤ 255) (y0 : 0 ≤ y) (y1 : y ≤ 255) : sgb x = sgb y ↔ x = y := by
  have a := sb_mod x; have b := sb_mod y
  exact ⟨fun e => by rw [e] at a; omega, fun e => by rw [e]⟩
theorem ub_sb {x : Int} (x0 : 0 ≤ x) (x1 : x ≤ 255) : (Int32.ofInt (sgb x) &&& Int32.ofInt 255).toInt = x := by
  have a := sb_mod x; have b := sb_bd x
  rw [u_255 _ (by omega) (by omega)]; omega
theorem sb_lo (w : Int) : sgb w = sgb (w % 256) := by
  have a := sb_mod w; have b := sb_mod (w % 256); have c := sb_bd w; have d := sb_bd (w % 256)
  omega
theorem byS_map : ∀ (l : List Int), byS l = (by2 l).map sgb
  | [] => rfl
  | w :: t => by show sgb (w / 256) :: sgb w :: byS t = sgb (w / 256) :: sgb (w % 256) :: (by2 t).map sgb; rw [byS_map t, ← sb_lo]
theorem by2_bd : ∀ {l : List Int}, (∀ w ∈ l, 0 ≤ w ∧ w ≤ 65535) → ∀ x ∈ by2 l, 0 ≤ x ∧ x ≤ 255
  | [], _, x, hx => by cases hx
  | w :: t, h, x, hx => by
    have hw := h w List.mem_cons_self
    rcases List.mem_cons.mp hx with e | hx
    · subst e; omega
    · rcases List.mem_cons.mp hx with e | hx
      · subst e; omega
      · exact by2_bd (fun v hv => h v (List.mem_cons_of_mem _ hv)) x hx
theorem KY_w {W : List eL} (h : wps W) : ∀ (n : Nat) (w : Int), w ∈ KY W n → 0 ≤ w ∧ w ≤ 65535
  | 0, w, hw => by cases hw
  | 1, w, hw => by have := lev_pos h (show w ∈ lev W 0 from hw); omega
  | n + 2, w, hw => by
    rcases List.mem_append.mp (show w ∈ KY W (n + 1) ++ 0 :: lev W (n + 1) from hw) with e | e
    · exact KY_w h (n + 1) w e
    · rcases List.mem_cons.mp e with e | e
      · omega
      · have := lev_pos h e; omega
theorem lcp_st {A B : List Int} {k : Nat} {x y : Int} (hx : A[k]? = some x) (hy : B[k]? = some y) : lcp (A.drop k) (B.drop k) = if x = y then lcp (A.drop (k + 1)) (B.drop (k + 1)) else if x < y then -1 else 1 := by
  have l1 := (List.getElem?_eq_some_iff.mp hx).1
  have l2 := (List.getElem?_eq_some_iff.mp hy).1
  rw [List.getElem?_eq_getElem l1] at hx
  rw [List.getElem?_eq_getElem l2] at hy
  cases hx; cases hy
  rw [List.drop_eq_getElem_cons l1, List.drop_eq_getElem_cons l2]; rfl
theorem lcp_en {A B : List Int} {k : Nat} (h : A.length ≤ k ∨ B.length ≤ k) (h1 : k ≤ A.length) (h2 : k ≤ B.length) : lcp (A.drop k) (B.drop k) = if A.length < B.length then -1 else if B.length < A.length then 1 else 0 := by
  have e1 : (A.drop k).length = A.length - k := List.length_drop
  have e2 : (B.drop k).length = B.length - k := List.length_drop
  match hA : A.drop k, hB : B.drop k with
  | [], [] => rw [hA, List.length_nil] at e1; rw [hB, List.length_nil] at e2; rw [if_neg (by omega), if_neg (by omega)]; rfl
  | [], y :: t => rw [hA, List.length_nil] at e1; rw [hB, List.length_cons] at e2; rw [if_pos (by omega)]; rfl
  | x :: s, [] => rw [hA, List.length_cons] at e1; rw [hB, List.length_nil] at e2; rw [if_neg (by omega), if_pos (by omega)]; rfl
  | x :: s, y :: t => rw [hA, List.length_cons] at e1; rw [hB, List.length_cons] at e2; exfalso; omega
theorem mC.f7 {τ : Nat → Nat} {h g : cz_H} {Ls : List vz} {b : Int} {Cs : List cEo} (m : mC h Cs) (hI : mI τ h Ls b) (f : ez_fr (ez_one 770) h g) (i : ∀ j, j ≠ 0 → qz_I g 770 j = qz_I h 770 j) : mC g Cs := by
  have hB := hI.1
  have hX := hI.2.1
  have t770 : τ 770 = 75 := hX 770 (by decide)
  obtain ⟨tl, tp⟩ := ez_tls hB t770
  have I : ∀ q, τ q ≠ 75 → ∀ j, qz_I g q j = qz_I h q j := fun q hq j => f.I (dz_beq_ne (fun e => hq (by rw [e]; exact t770))) j
  have e11 : ls g = ls h := by unfold ls qz_P; rw [i 11 (by decide)]
  have e12 : lc g = lc h := i 12 (by decide)
  have e9 : po g = po h := by unfold po qz_P; rw [i 9 (by decide)]
  have en : pn g = pn h := i 10 (by decide)
  refine ⟨m.1.trans e12.symm, fun k c hk => ?_⟩
  have hl : (k : Int) < lc h := by have := (List.getElem?_eq_some_iff.mp hk).1; have := m.1; omega
  obtain ⟨t0, t1, t2⟩ := hI.L hl
  rw [e11, show qz_P g (ls h) k = qz_P h (ls h) k by unfold qz_P; rw [I (ls h) (by rw [tl]; decide)]]
  exact (m.2 k c hk).tr (I _ (by rw [t0]; decide) 0) (I _ (by rw [t1]; decide)) (I _ (by rw [t2]; decide)) (Int.le_of_eq en.symm) (fun j _ _ => by unfold pl; rw [e9]; exact I _ (by rw [tp]; decide) _)
theorem zz_f7 {τ : Nat → Nat} {h g : cz_H} (hB : ez_B τ h) (hX : jz_X τ) (f : ez_fr (ez_one 770) h g) (i : ∀ j, j ≠ 0 → qz_I g 770 j = qz_I h 770 j) : zz g = zz h ∧ got g = got h ∧ gke g = gke h := by
  have t770 : τ 770 = 75 := hX 770 (by decide)
  obtain ⟨-, t1, t2, t3, t4, t5⟩ := ez_tg5 hB t770
  have N : ∀ q, τ q ≠ 75 → qz_N g q = qz_N h q := fun q hq => f.N (dz_beq_ne (fun e => hq (by rw [e]; exact t770)))
  have e0 : sk g = sk h := by unfold sk qz_P; rw [i 24 (by decide)]
  have e1 : gel g = gel h := by unfold gel qz_P; rw [i 35 (by decide)]
  have e2 : gfo g = gfo h := by unfold gfo qz_P; rw [i 38 (by decide)]
  have e3 : got g = got h := by unfold got qz_P; rw [i 39 (by decide)]
  have e4 : gke g = gke h := by unfold gke qz_P; rw [i 40 (by decide)]
  refine ⟨?_, e3, e4⟩
  unfold zz; rw [e0, e1, e2, e3, e4, N (sk h) (by rw [t1]; decide), N (gel h) (by rw [t2]; decide), N (gfo h) (by rw [t3]; decide), N (got h) (by rw [t4]; decide), N (gke h) (by rw [t5]; decide)]
theorem nc.sl {τ τ1 : Nat → Nat} {h g : cz_H} (a : nc τ h τ1 g) (hX : jz_X τ) (s : slt h) : slt g := s.k (a.C hX (hX 195 (by decide)) (by decide)) (a.C hX (hX 773 (by decide)) (by decide))
theorem nc.mx {τ τ1 : Nat → Nat} {h g : cz_H} {X : Nat → List Int} (a : nc τ h τ1 g) (hX : jz_X τ) (m : mxs h X) : mxs g X := m.k (fun q hq => by
  by_cases e : q = 782
  · subst e; exact a.C hX (hX 782 (by decide)) (by decide)
  · have t := (mx_tag hX (show q - 774 < 8 by omega)).1
    rw [show 774 + (q - 774) = q by omega] at t
    exact a.C hX t (by decide))
section EzMy
variable {d : Nat} {h : cz_H} {τ : Nat → Nat} {Q : cz_F → Prop} {Ls : List vz} {Cs : List cEo} {X : Nat → List Int} {B C : List Int}
theorem rd_mky_l1 {t st : Int} (hB : ez_B τ h) (hX : jz_X τ) (ky : kyt h B) (bl9 : B.length ≤ 32768) (kx : ∀ g, ez_B τ g → ez_fr (ez_one 772) h g → rsb g 772 (byS B) → ez_W d cm_272 107 [(0, .inr (.inr (some (770)))), (1, .inl (t)), (2, .inl (st)), (3, .inl (1))] [] g Q) : ∀ (m : Nat) (k : Int) (g : cz_H), m = (2 * (B.length : Int) - k).toNat → 0 ≤ k → k ≤ 2 * (B.length : Int) → ez_B τ g → ez_fr (ez_one 772) h g → (∀ (j : Nat) v, (j : Int) < k → (byS B)[j]? = some v → qz_I g 772 j = v) → ez_W d cm_272 78 [(4, .inl (k)), (0, .inr (.inr (some (770)))), (1, .inl (t)), (2, .inl (st)), (3, .inl (1))] [] g Q := by
  have t770 : τ 770 = 75 := hX 770 (by decide)
  have tE := ez_tke hB t770
  have nE : gke h ≠ 772 := fun e => by rw [e, hX 772 (by decide)] at tE; cases tE
  intro m
  induction m with
  | zero =>
    intro k g hm0 k0 k1 hBg hf hd9
    have hj : ∀ j, qz_I g 770 j = qz_I h 770 j := fun j => hf.I rfl j
    have ke : ∀ j, qz_I g (gke h) j = qz_I h (gke h) j := fun j => hf.I (dz_beq_ne nE) j
    have kn : qz_N g (gke h) = qz_N h (gke h) := hf.N (dz_beq_ne nE)
    have kyn := ky.1.2
    refine ez_go (n := 2) (pc' := 81) (L' := [(4, .inl (k)), (0, .inr (.inr (some (770)))), (1, .inl (t)), (2, .inl (st)), (3, .inl (1))]) (st' := [.inr (.inr (some (770))), .inl (k)]) rfl ?_
    refine ez_gI hBg t770 rfl rfl tq_75 rfl rfl (fun (b1 : 0 ≤ qz_I g 770 41) (b1' : qz_I g 770 41 ≤ 300000) => ?_)
    rw [show qz_I g 770 41 = 2 * (B.length : Int) from (hj 41).trans ky.1.1]
    refine ez_icmp rfl rfl ⟨by first | omega | exact (sz_i32 _).1, by first | omega | exact (sz_i32 _).2⟩ ⟨by first | omega | exact (sz_i32 _).1, by first | omega | exact (sz_i32 _).2⟩ (fun (c2 : (2 * (B.length : Int)) ≤ (k)) => ?_) (fun (c2 : ¬((2 * (B.length : Int)) ≤ (k))) => ?_)
    · skip
      refine ez_less [(0, .inr (.inr (some (770)))), (1, .inl (t)), (2, .inl (st)), (3, .inl (1))] rfl ⟨rfl, rfl, rfl, rfl, trivial⟩ ?_
      exact kx g hBg hf (fun j v hv => hd9 j v (by have := (List.getElem?_eq_some_iff.mp hv).1; have := byS_len B; omega) hv)
    · exfalso; omega
  | succ m ih =>
    intro k g hm0 k0 k1 hBg hf hd9
    have hj : ∀ j, qz_I g 770 j = qz_I h 770 j := fun j => hf.I rfl j
    have ke : ∀ j, qz_I g (gke h) j = qz_I h (gke h) j := fun j => hf.I (dz_beq_ne nE) j
    have kn : qz_N g (gke h) = qz_N h (gke h) := hf.N (dz_beq_ne nE)
    have kyn := ky.1.2
    refine ez_go (n := 2) (pc' := 81) (L' := [(4, .inl (k)), (0, .inr (.inr (some (770)))), (1, .inl (t)), (2, .inl (st)), (3, .inl (1))]) (st' := [.inr (.inr (some (770))), .inl (k)]) rfl ?_
    refine ez_gI hBg t770 rfl rfl tq_75 rfl rfl (fun (b1 : 0 ≤ qz_I g 770 41) (b1' : qz_I g 770 41 ≤ 300000) => ?_)
    rw [show qz_I g 770 41 = 2 * (B.length : Int) from (hj 41).trans ky.1.1]
    refine ez_icmp rfl rfl ⟨by first | omega | exact (sz_i32 _).1, by first | omega | exact (sz_i32 _).2⟩ ⟨by first | omega | exact (sz_i32 _).1, by first | omega | exact (sz_i32 _).2⟩ (fun (c2 : (2 * (B.length : Int)) ≤ (k)) => ?_) (fun (c2 : ¬((2 * (B.length : Int)) ≤ (k))) => ?_)
    · exfalso; omega
    · skip
      refine ez_go (n := 1) (pc' := 88) (L' := [(4, .inl (k)), (0, .inr (.inr (some (770)))), (1, .inl (t)), (2, .inl (st)), (3, .inl (1))]) (st' := [.inr (.inr (some (770)))]) rfl ?_
      refine ez_gC (p := 772) (tg := 77) hBg t770 rfl rfl tq_75 rfl rfl (fun (t772 : _ = 77) => ?_)
      refine ez_go (n := 2) (pc' := 94) (L' := [(4, .inl (k)), (0, .inr (.inr (some (770)))), (1, .inl (t)), (2, .inl (st)), (3, .inl (1))]) (st' := [.inr (.inr (some (770))), .inl (k), .inr (.inr (some (772)))]) rfl ?_
      refine ez_gR hBg t770 rfl rfl tq_75 rfl rfl (fun (t3 : _ = 25) (t3' : 1 ≤ qz_I g 770 40) => ?_)
      rw [show qz_P g 770 40 = gke h from by unfold gke qz_P; rw [hj]]
      refine ez_go (n := 1) (pc' := 99) (L' := [(4, .inl (k)), (0, .inr (.inr (some (770)))), (1, .inl (t)), (2, .inl (st)), (3, .inl (1))]) (st' := [.inl (k), .inr (.inr (some ((gke h)))), .inl (k), .inr (.inr (some (772)))]) rfl ?_
      have n5 : 1024 ≤ qz_N g ((gke h)) ∧ qz_N g ((gke h)) ≤ 600100 := ez_len hBg tE tq_25 rfl
      refine ez_aI hBg tE rfl tq_25 rfl rfl (by omega) (by omega) (fun (b4 : -128 ≤ qz_I g ((gke h)) (k).toNat) (b4' : qz_I g ((gke h)) (k).toNat ≤ 127) => ?_)
      have n8 : 65536 ≤ qz_N g 772 ∧ qz_N g 772 ≤ 65536 := ez_len hBg t772 tq_77 rfl
      refine ez_ab hBg t772 rfl tq_77 rfl rfl (by omega) (by omega) (by first | omega | exact (i8_bd _).1) (by first | omega | exact (i8_bd _).2) (fun hB6 w7 => ?_)
      refine ez_go (n := 2) (pc' := 78) (L' := [(4, .inl (k + 1)), (0, .inr (.inr (some (770)))), (1, .inl (t)), (2, .inl (st)), (3, .inl (1))]) (st' := []) rfl ?_
      refine ez_less [(4, .inl (k + 1)), (0, .inr (.inr (some (770)))), (1, .inl (t)), (2, .inl (st)), (3, .inl (1))] rfl ⟨rfl, rfl, rfl, rfl, rfl, trivial⟩ ?_
      have bl := byS_len B
      have l8 : (k).toNat < (byS B).length := by omega
      have hv9 := List.getElem?_eq_getElem l8
      refine ih (k + 1) _ (by omega) (by omega) (by omega) hB6 (hf.put rfl _ _) (fun j v hj9 hv => ?_)
      by_cases e : j = (k).toNat
      · subst e
        rw [w7, rz_rd ⟨by omega, by omega⟩, ke]; exact ky.2 _ v hv
      · rw [ez_put_I (fun w => e w.2)]; exact hd9 j v (by omega) hv

theorem rd_mkey1 {t st : Int} (hB : ez_B τ h) (hX : jz_X τ) (c : qz_I h 770 7 ≠ 0 → nmC τ h Ls) (hm : mC h Cs) (hK : ∀ x, (0 ≤ x ∧ x ≤ 1114111) → 0 ≤ (vF Ls x).1 ∧ (vF Ls x).1 ≤ 254) (hL : ∀ row e, cLK Cs row = some e → (∀ x ∈ e, eok x) ∧ e.length ≤ 18) (rm : rmc h) (dk : got h ≠ gke h) (sl : slt h) (mxh : mxs h X) (tr : ez_rg t) (str : ez_rg st) (kA : (t < 0 ∨ 7 < t ∨ st < 1 ∨ 4 < st) → ∀ g, ez_B τ g → mF h g 1 → Q (.inl (some (ez_v (.inl 0))), g)) (kS : ((0 ≤ t ∧ t ≤ 7) ∧ 1 ≤ st ∧ st ≤ 4) → qz_I h 770 7 = 0 → ∀ g, ez_B τ g → mF h g 2 → Q (.inl (some (ez_v (.inl 0))), g)) (kX : ((0 ≤ t ∧ t ≤ 7) ∧ 1 ≤ st ∧ st ≤ 4) → qz_I h 770 7 ≠ 0 → ∀ h1, ez_B τ h1 → mF h h1 0 → kyN (vF Ls) (X t.toNat) → ∀ g2 τ2, ez_B τ2 g2 → nk τ h1 τ2 g2 → ∀ g, ez_B τ2 g → mF (xc g2 0) g 3 → Q (.inl (some (ez_v (.inl 0))), g)) (kY : ((0 ≤ t ∧ t ≤ 7) ∧ 1 ≤ st ∧ st ≤ 4) → qz_I h 770 7 ≠ 0 → ∀ h1, ez_B τ h1 → mF h h1 0 → ∀ W, kyR (vF Ls) (vE Ls) (cLK Cs) (yD Ls) true (X t.toNat) W → wps W → 32768 < (KY W (lvl true st).toNat).length → ∀ g2 τ2, ez_B τ2 g2 → ng τ h1 τ2 g2 → ∀ g, ez_B τ2 g → mF g2 g 3 → Q (.inl (some (ez_v (.inl 0))), g)) (k1 : ((0 ≤ t ∧ t ≤ 7) ∧ 1 ≤ st ∧ st ≤ 4) → qz_I h 770 7 ≠ 0 → ∀ h1, ez_B τ h1 → mF h h1 0 → ∀ W, kyR (vF Ls) (vE Ls) (cLK Cs) (yD Ls) true (X t.toNat) W → wps W → (KY W (lvl true st).toNat).length ≤ 32768 → ∀ g2 τ2, ez_B τ2 g2 → ng τ h1 τ2 g2 → ∀ g, ez_B τ2 g → ez_fr (nz_P2 770 772) g2 g → (∀ j, j ≠ 4 → qz_I g 770 j = qz_I g2 770 j) → qz_I g 770 4 = 2 * ((KY W (lvl true st).toNat).length : Int) → rsb g 772 (byS (KY W (lvl true st).toNat)) → Q (.inl (some (ez_v (.inl (2 * ((KY W (lvl true st).toNat).length : Int))))), g)) : ez_W (d + 10) cm_272 0 [(0, .inr (.inr (some (770)))), (1, .inl (t)), (2, .inl (st)), (3, .inl (1))] [] h Q := by
  have t770 : τ 770 = 75 := hX 770 (by decide)
  obtain ⟨tr1, tr2⟩ := id tr
  obtain ⟨str1, str2⟩ := id str
  refine ez_go (n := 2) (pc' := 2) (L' := [(0, .inr (.inr (some (770)))), (1, .inl (t)), (2, .inl (st)), (3, .inl (1))]) (st' := [.inl (0), .inr (.inr (some (770)))]) rfl ?_
  refine ez_pf hB t770 rfl rfl tq_75 rfl rfl rfl rfl (ez_vdI rfl rfl (by omega) (by omega)) (fun hB1 w2 => ?_)
  have fP : ez_fr (ez_one 770) h (dz_put h 770 0 (ez_v (.inl (0)))) := (ez_fr.refl (ez_one 770) h).put rfl _ _
  have vP : qz_I (dz_put h 770 0 (ez_v (.inl (0)))) 770 0 = 0 := w2.trans (rz_rd ⟨by omega, by omega⟩)
  have iP : ∀ j, j ≠ 0 → qz_I (dz_put h 770 0 (ez_v (.inl (0)))) 770 j = qz_I h 770 j := fun j hj => ez_put_I (fun w => hj w.2)
  have hP := hB1
  generalize (dz_put h 770 0 (ez_v (.inl (0)))) = h1 at *
  have cP1 := fP.1; have cP2 := fP.2.1
  refine ez_go (n := 2) (pc' := 7) (L' := [(0, .inr (.inr (some (770)))), (1, .inl (t)), (2, .inl (st)), (3, .inl (1))]) (st' := [.inl (t), .inr (.inr (some (770)))]) rfl ?_
  refine ez_cv hP t770 rfl rfl rfl tq_75 rfl rfl rfl (rd_mout (show ez_rg (t) by assumption) (fun o1 => ez_K1 ?_) (fun o1 => ez_K1 ?_))
  · skip
    refine ez_if rfl rfl ⟨by decide, by decide⟩ (fun _ => ?_) (fun (c3 : ¬((1 : Int) ≠ (0))) => absurd c3 (by decide))
    refine ez_go (n := 2) (pc' := 25) (L' := [(0, .inr (.inr (some (770)))), (1, .inl (t)), (2, .inl (st)), (3, .inl (1))]) (st' := [.inl (1), .inr (.inr (some (770)))]) rfl ?_
    refine ez_cv hP t770 rfl rfl rfl tq_75 rfl rfl rfl (rd_mfail hP t770 (by omega) (by omega) (fun gf hBf ff jf vf0 => ez_K1 ?_))
    exact ez_retI rfl rfl (kA (by omega) gf hBf (mF.trans ⟨fP, iP, vP⟩ ⟨ff, jf, vf0⟩))
  · skip
    refine ez_if rfl rfl ⟨by decide, by decide⟩ (fun (c4 : (0 : Int) ≠ (0)) => absurd c4 (by decide)) (fun _ => ?_)
    refine ez_go (n := 2) (pc' := 15) (L' := [(0, .inr (.inr (some (770)))), (1, .inl (t)), (2, .inl (st)), (3, .inl (1))]) (st' := [.inl (1), .inl (st)]) rfl ?_
    refine ez_icmp rfl rfl ⟨by first | omega | exact (sz_i32 _).1, by first | omega | exact (sz_i32 _).2⟩ ⟨by first | omega | exact (sz_i32 _).1, by first | omega | exact (sz_i32 _).2⟩ (fun (c5 : (st) < (1)) => ?_) (fun (c5 : ¬((st) < (1))) => ?_)
    · skip
      refine ez_go (n := 2) (pc' := 25) (L' := [(0, .inr (.inr (some (770)))), (1, .inl (t)), (2, .inl (st)), (3, .inl (1))]) (st' := [.inl (1), .inr (.inr (some (770)))]) rfl ?_
      refine ez_cv hP t770 rfl rfl rfl tq_75 rfl rfl rfl (rd_mfail hP t770 (by omega) (by omega) (fun gf hBf ff jf vf0 => ez_K1 ?_))
      exact ez_retI rfl rfl (kA (by omega) gf hBf (mF.trans ⟨fP, iP, vP⟩ ⟨ff, jf, vf0⟩))
    · skip
      refine ez_go (n := 2) (pc' := 20) (L' := [(0, .inr (.inr (some (770)))), (1, .inl (t)), (2, .inl (st)), (3, .inl (1))]) (st' := [.inl (4), .inl (st)]) rfl ?_
      refine ez_icmp rfl rfl ⟨by first | omega | exact (sz_i32 _).1, by first | omega | exact (sz_i32 _).2⟩ ⟨by first | omega | exact (sz_i32 _).1, by first | omega | exact (sz_i32 _).2⟩ (fun (c6 : (st) ≤ (4)) => ?_) (fun (c6 : ¬((st) ≤ (4))) => ?_)
      · skip
        refine ez_go (n := 1) (pc' := 30) (L' := [(0, .inr (.inr (some (770)))), (1, .inl (t)), (2, .inl (st)), (3, .inl (1))]) (st' := [.inr (.inr (some (770)))]) rfl ?_
        refine ez_gI hP t770 rfl rfl tq_75 rfl rfl (fun (b7 : 0 ≤ qz_I h1 770 7) (b7' : qz_I h1 770 7 ≤ 1) => ?_)
        refine ez_if rfl rfl ⟨by first | omega | exact (sz_i32 _).1, by first | omega | exact (sz_i32 _).2⟩ (fun (c8 : (qz_I h1 770 7) ≠ (0)) => ?_) (fun (c8 : ¬((qz_I h1 770 7) ≠ (0))) => ?_)
        · skip
          have c1 := f7C (c (by rw [← iP 7 (by decide)]; assumption)) hP fP iP
          have hm1 := hm.f7 (c (by rw [← iP 7 (by decide)]; assumption)).1 fP iP
          have z7 := zz_f7 hB hX fP iP
          have rm1 : rmc h1 := ⟨by rw [z7.1, fP.2.1]; exact rm.1, by rw [z7.1, fP.1]; exact rm.2⟩
          have rd1 := rmc_rd hP hX rm1
          have dk1 : got h1 ≠ gke h1 := by rw [z7.2.1, z7.2.2]; exact dk
          have k1P : ∀ q, q ≠ 770 → h1.2.2 q = h.2.2 q := fun q hq => fP.2.2 q (dz_beq_ne hq)
          have sl1 : slt h1 := sl.k (k1P 195 (by decide)) (k1P 773 (by decide))
          have mx1 : mxs h1 X := mxh.k (fun q hq => k1P q (by omega))
          refine ez_go (n := 4) (pc' := 46) (L' := [(0, .inr (.inr (some (770)))), (1, .inl (t)), (2, .inl (st)), (3, .inl (1))]) (st' := [.inl (1), .inl (st), .inl (t), .inr (.inr (some (770)))]) rfl ?_
          have mt := mx1 (t).toNat (by omega)
          refine ez_cv hP t770 rfl rfl rfl tq_75 rfl rfl rfl (rd_kf1 c1 hm1 hK hL rm1 dk1 sl1 (by omega) (by omega) mt.1 mt.2.1 mt.2.2 (by omega) (by omega) (fun W ky W9 WL g2 τ2 B2 n2 kt2 => ez_K0 ?_) (fun kn g2 τ2 B2 nk2 => ez_Kc (xc_exc B2 rfl) rfl ?_))
          · have X2 := n2.1.X hX
            have u770 : τ2 770 = 75 := X2 770 (by decide)
            have kb9 : (KY W (lvl true st).toNat).length ≤ 200000 := KY_bd (by have := lvl_bd (sh := true) (st := st) (by omega) (by omega); omega) WL
            refine ez_go (n := 2) (pc' := 61) (L' := [(0, .inr (.inr (some (770)))), (1, .inl (t)), (2, .inl (st)), (3, .inl (1))]) (st' := [.inr (.inr (some (770)))]) rfl ?_
            refine ez_gI B2 u770 rfl rfl tq_75 rfl rfl (fun (b9 : 0 ≤ qz_I g2 770 41) (b9' : qz_I g2 770 41 ≤ 300000) => ?_)
            rw [show qz_I g2 770 41 = 2 * ((KY W (lvl true st).toNat).length : Int) from kt2.1.1]
            refine ez_ldc (65536) rfl rfl rfl ?_
            refine ez_icmp rfl rfl ⟨by first | omega | exact (sz_i32 _).1, by first | omega | exact (sz_i32 _).2⟩ ⟨by first | omega | exact (sz_i32 _).1, by first | omega | exact (sz_i32 _).2⟩ (fun (c10 : (2 * ((KY W (lvl true st).toNat).length : Int)) ≤ (65536)) => ?_) (fun (c10 : ¬((2 * ((KY W (lvl true st).toNat).length : Int)) ≤ (65536))) => ?_)
            · skip
              refine ez_go (n := 2) (pc' := 78) (L' := [(4, .inl (0)), (0, .inr (.inr (some (770)))), (1, .inl (t)), (2, .inl (st)), (3, .inl (1))]) (st' := []) rfl ?_
              refine ez_less [(4, .inl (0)), (0, .inr (.inr (some (770)))), (1, .inl (t)), (2, .inl (st)), (3, .inl (1))] rfl ⟨rfl, rfl, rfl, rfl, rfl, trivial⟩ ?_
              refine rd_mky_l1 (h := g2) (B := KY W (lvl true st).toNat) B2 X2 kt2 (by omega) (fun g3 B3 f3 r3 => ?_) _ 0 g2 rfl (by omega) (by omega) B2 (ez_fr.refl _ g2) (fun j v hj => by omega)
              refine ez_go (n := 2) (pc' := 109) (L' := [(0, .inr (.inr (some (770)))), (1, .inl (t)), (2, .inl (st)), (3, .inl (1))]) (st' := [.inr (.inr (some (770))), .inr (.inr (some (770)))]) rfl ?_
              refine ez_gI B3 u770 rfl rfl tq_75 rfl rfl (fun (b11 : 0 ≤ qz_I g3 770 41) (b11' : qz_I g3 770 41 ≤ 300000) => ?_)
              rw [show qz_I g3 770 41 = 2 * ((KY W (lvl true st).toNat).length : Int) from (f3.I rfl 41).trans kt2.1.1]
              refine ez_pf B3 u770 rfl rfl tq_75 rfl rfl rfl rfl (ez_vdI rfl rfl (by omega) (by omega)) (fun hB12 w13 => ?_)
              refine ez_go (n := 1) (pc' := 116) (L' := [(0, .inr (.inr (some (770)))), (1, .inl (t)), (2, .inl (st)), (3, .inl (1))]) (st' := [.inr (.inr (some (770)))]) rfl ?_
              refine ez_gI hB12 u770 rfl rfl tq_75 rfl rfl (fun (b14 : 0 ≤ qz_I (dz_put g3 770 4 (ez_v (.inl (2 * ((KY W (lvl true st).toNat).length : Int))))) 770 4) (b14' : qz_I (dz_put g3 770 4 (ez_v (.inl (2 * ((KY W (lvl true st).toNat).length : Int))))) 770 4 ≤ 65536) => ?_)
              have v4 : qz_I (dz_put g3 770 4 (ez_v (.inl (2 * ((KY W (lvl true st).toNat).length : Int))))) 770 4 = 2 * ((KY W (lvl true st).toNat).length : Int) := w13.trans (rz_rd ⟨by omega, by omega⟩)
              rw [show qz_I (dz_put g3 770 4 (ez_v (.inl (2 * ((KY W (lvl true st).toNat).length : Int))))) 770 4 = 2 * ((KY W (lvl true st).toNat).length : Int) from v4]
              refine ez_retI rfl rfl (k1 (by omega) (by rw [← iP 7 (by decide)]; assumption) h1 hP ⟨fP, iP, vP⟩ W ky W9 (by omega) g2 τ2 B2 n2 _ hB12 ((ez_fr_mono f3 (fun z hz => by unfold ez_one at hz; unfold nz_P2; rw [hz]; exact Bool.or_true _)).put (by unfold nz_P2; rfl) _ _) (fun j hj => (ez_put_I (fun w => hj w.2)).trans (f3.I rfl j)) v4 (fun j v hv => (ez_put_I (fun w => absurd w.1 (by decide))).trans (r3 j v hv)))
            · skip
              refine ez_go (n := 2) (pc' := 71) (L' := [(0, .inr (.inr (some (770)))), (1, .inl (t)), (2, .inl (st)), (3, .inl (1))]) (st' := [.inl (3), .inr (.inr (some (770)))]) rfl ?_
              refine ez_cv B2 u770 rfl rfl rfl tq_75 rfl rfl rfl (rd_mfail B2 u770 (by omega) (by omega) (fun gf hBf ff jf vf0 => ez_K1 ?_))
              exact ez_retI rfl rfl (kY (by omega) (by rw [← iP 7 (by decide)]; assumption) h1 hP ⟨fP, iP, vP⟩ W ky W9 (by omega) g2 τ2 B2 n2 gf hBf ⟨ff, jf, vf0⟩)
          · have u770 : τ2 770 = 75 := nk2.X hX 770 (by decide)
            have rm2 := nk2.rm c1.1.1 B2 (hX 770 (by decide)) u770
            have hBx : ez_B τ2 (xc g2 0) := xc_B B2 (by omega) (by omega)
            refine ez_go (n := 3) (pc' := 56) (L' := [(4, .inr (.inr (some (g2.1)))), (0, .inr (.inr (some (770)))), (1, .inl (t)), (2, .inl (st)), (3, .inl (1))]) (st' := [.inl (3), .inr (.inr (some (770)))]) rfl ?_
            refine ez_cv hBx u770 rfl rfl rfl tq_75 rfl rfl rfl (rd_mfail hBx u770 (by omega) (by omega) (fun gf hBf ff jf vf0 => ez_K1 ?_))
            exact ez_retI rfl rfl (kX (by omega) (by rw [← iP 7 (by decide)]; assumption) h1 hP ⟨fP, iP, vP⟩ kn g2 τ2 B2 nk2 gf hBf ⟨ff, jf, vf0⟩)
        · skip
          refine ez_go (n := 2) (pc' := 38) (L' := [(0, .inr (.inr (some (770)))), (1, .inl (t)), (2, .inl (st)), (3, .inl (1))]) (st' := [.inl (2), .inr (.inr (some (770)))]) rfl ?_
          refine ez_cv hP t770 rfl rfl rfl tq_75 rfl rfl rfl (rd_mfail hP t770 (by omega) (by omega) (fun gf hBf ff jf vf0 => ez_K1 ?_))
          exact ez_retI rfl rfl (kS (by omega) (by rw [← iP 7 (by decide)]; omega) gf hBf (mF.trans ⟨fP, iP, vP⟩ ⟨ff, jf, vf0⟩))
      · skip
        refine ez_go (n := 2) (pc' := 25) (L' := [(0, .inr (.inr (some (770)))), (1, .inl (t)), (2, .inl (st)), (3, .inl (1))]) (st' := [.inl (1), .inr (.inr (some (770)))]) rfl ?_
        refine ez_cv hP t770 rfl rfl rfl tq_75 rfl rfl rfl (rd_mfail hP t770 (by omega) (by omega) (fun gf hBf ff jf vf0 => ez_K1 ?_))
        exact ez_retI rfl rfl (kA (by omega) gf hBf (mF.trans ⟨fP, iP, vP⟩ ⟨ff, jf, vf0⟩))

theorem rd_mky_l0 {t st : Int} (hB : ez_B τ h) (hX : jz_X τ) (ky : kyt h B) (bl9 : B.length ≤ 32768) (kx : ∀ g, ez_B τ g → ez_fr (ez_one 772) h g → rsb g 772 (byS B) → ez_W d cm_272 107 [(0, .inr (.inr (some (770)))), (1, .inl (t)), (2, .inl (st)), (3, .inl (0))] [] g Q) : ∀ (m : Nat) (k : Int) (g : cz_H), m = (2 * (B.length : Int) - k).toNat → 0 ≤ k → k ≤ 2 * (B.length : Int) → ez_B τ g → ez_fr (ez_one 772) h g → (∀ (j : Nat) v, (j : Int) < k → (byS B)[j]? = some v → qz_I g 772 j = v) → ez_W d cm_272 78 [(4, .inl (k)), (0, .inr (.inr (some (770)))), (1, .inl (t)), (2, .inl (st)), (3, .inl (0))] [] g Q := by
  have t770 : τ 770 = 75 := hX 770 (by decide)
  have tE := ez_tke hB t770
  have nE : gke h ≠ 772 := fun e => by rw [e, hX 772 (by decide)] at tE; cases tE
  intro m
  induction m with
  | zero =>
    intro k g hm0 k0 k1 hBg hf hd9
    have hj : ∀ j, qz_I g 770 j = qz_I h 770 j := fun j => hf.I rfl j
    have ke : ∀ j, qz_I g (gke h) j = qz_I h (gke h) j := fun j => hf.I (dz_beq_ne nE) j
    have kn : qz_N g (gke h) = qz_N h (gke h) := hf.N (dz_beq_ne nE)
    have kyn := ky.1.2
    refine ez_go (n := 2) (pc' := 81) (L' := [(4, .inl (k)), (0, .inr (.inr (some (770)))), (1, .inl (t)), (2, .inl (st)), (3, .inl (0))]) (st' := [.inr (.inr (some (770))), .inl (k)]) rfl ?_
    refine ez_gI hBg t770 rfl rfl tq_75 rfl rfl (fun (b1 : 0 ≤ qz_I g 770 41) (b1' : qz_I g 770 41 ≤ 300000) => ?_)
    rw [show qz_I g 770 41 = 2 * (B.length : Int) from (hj 41).trans ky.1.1]
    refine ez_icmp rfl rfl ⟨by first | omega | exact (sz_i32 _).1, by first | omega | exact (sz_i32 _).2⟩ ⟨by first | omega | exact (sz_i32 _).1, by first | omega | exact (sz_i32 _).2⟩ (fun (c2 : (2 * (B.length : Int)) ≤ (k)) => ?_) (fun (c2 : ¬((2 * (B.length : Int)) ≤ (k))) => ?_)
    · skip
      refine ez_less [(0, .inr (.inr (some (770)))), (1, .inl (t)), (2, .inl (st)), (3, .inl (0))] rfl ⟨rfl, rfl, rfl, rfl, trivial⟩ ?_
      exact kx g hBg hf (fun j v hv => hd9 j v (by have := (List.getElem?_eq_some_iff.mp hv).1; have := byS_len B; omega) hv)
    · exfalso; omega
  | succ m ih =>
    intro k g hm0 k0 k1 hBg hf hd9
    have hj : ∀ j, qz_I g 770 j = qz_I h 770 j := fun j => hf.I rfl j
    have ke : ∀ j, qz_I g (gke h) j = qz_I h (gke h) j := fun j => hf.I (dz_beq_ne nE) j
    have kn : qz_N g (gke h) = qz_N h (gke h) := hf.N (dz_beq_ne nE)
    have kyn := ky.1.2
    refine ez_go (n := 2) (pc' := 81) (L' := [(4, .inl (k)), (0, .inr (.inr (some (770)))), (1, .inl (t)), (2, .inl (st)), (3, .inl (0))]) (st' := [.inr (.inr (some (770))), .inl (k)]) rfl ?_
    refine ez_gI hBg t770 rfl rfl tq_75 rfl rfl (fun (b1 : 0 ≤ qz_I g 770 41) (b1' : qz_I g 770 41 ≤ 300000) => ?_)
    rw [show qz_I g 770 41 = 2 * (B.length : Int) from (hj 41).trans ky.1.1]
    refine ez_icmp rfl rfl ⟨by first | omega | exact (sz_i32 _).1, by first | omega | exact (sz_i32 _).2⟩ ⟨by first | omega | exact (sz_i32 _).1, by first | omega | exact (sz_i32 _).2⟩ (fun (c2 : (2 * (B.length : Int)) ≤ (k)) => ?_) (fun (c2 : ¬((2 * (B.length : Int)) ≤ (k))) => ?_)
    · exfalso; omega
    · skip
      refine ez_go (n := 1) (pc' := 88) (L' := [(4, .inl (k)), (0, .inr (.inr (some (770)))), (1, .inl (t)), (2, .inl (st)), (3, .inl (0))]) (st' := [.inr (.inr (some (770)))]) rfl ?_
      refine ez_gC (p := 772) (tg := 77) hBg t770 rfl rfl tq_75 rfl rfl (fun (t772 : _ = 77) => ?_)
      refine ez_go (n := 2) (pc' := 94) (L' := [(4, .inl (k)), (0, .inr (.inr (some (770)))), (1, .inl (t)), (2, .inl (st)), (3, .inl (0))]) (st' := [.inr (.inr (some (770))), .inl (k), .inr (.inr (some (772)))]) rfl ?_
      refine ez_gR hBg t770 rfl rfl tq_75 rfl rfl (fun (t3 : _ = 25) (t3' : 1 ≤ qz_I g 770 40) => ?_)
      rw [show qz_P g 770 40 = gke h from by unfold gke qz_P; rw [hj]]
      refine ez_go (n := 1) (pc' := 99) (L' := [(4, .inl (k)), (0, .inr (.inr (some (770)))), (1, .inl (t)), (2, .inl (st)), (3, .inl (0))]) (st' := [.inl (k), .inr (.inr (some ((gke h)))), .inl (k), .inr (.inr (some (772)))]) rfl ?_
      have n5 : 1024 ≤ qz_N g ((gke h)) ∧ qz_N g ((gke h)) ≤ 600100 := ez_len hBg tE tq_25 rfl
      refine ez_aI hBg tE rfl tq_25 rfl rfl (by omega) (by omega) (fun (b4 : -128 ≤ qz_I g ((gke h)) (k).toNat) (b4' : qz_I g ((gke h)) (k).toNat ≤ 127) => ?_)
      have n8 : 65536 ≤ qz_N g 772 ∧ qz_N g 772 ≤ 65536 := ez_len hBg t772 tq_77 rfl
      refine ez_ab hBg t772 rfl tq_77 rfl rfl (by omega) (by omega) (by first | omega | exact (i8_bd _).1) (by first | omega | exact (i8_bd _).2) (fun hB6 w7 => ?_)
      refine ez_go (n := 2) (pc' := 78) (L' := [(4, .inl (k + 1)), (0, .inr (.inr (some (770)))), (1, .inl (t)), (2, .inl (st)), (3, .inl (0))]) (st' := []) rfl ?_
      refine ez_less [(4, .inl (k + 1)), (0, .inr (.inr (some (770)))), (1, .inl (t)), (2, .inl (st)), (3, .inl (0))] rfl ⟨rfl, rfl, rfl, rfl, rfl, trivial⟩ ?_
      have bl := byS_len B
      have l8 : (k).toNat < (byS B).length := by omega
      have hv9 := List.getElem?_eq_getElem l8
      refine ih (k + 1) _ (by omega) (by omega) (by omega) hB6 (hf.put rfl _ _) (fun j v hj9 hv => ?_)
      by_cases e : j = (k).toNat
      · subst e
        rw [w7, rz_rd ⟨by omega, by omega⟩, ke]; exact ky.2 _ v hv
      · rw [ez_put_I (fun w => e w.2)]; exact hd9 j v (by omega) hv

theorem rd_mkey0 {t st : Int} (hB : ez_B τ h) (hX : jz_X τ) (c : qz_I h 770 7 ≠ 0 → nmC τ h Ls) (hm : mC h Cs) (hK : ∀ x, (0 ≤ x ∧ x ≤ 1114111) → 0 ≤ (vF Ls x).1 ∧ (vF Ls x).1 ≤ 254) (hL : ∀ row e, cLK Cs row = some e → (∀ x ∈ e, eok x) ∧ e.length ≤ 18) (rm : rmc h) (dk : got h ≠ gke h) (sl : slt h) (mxh : mxs h X) (tr : ez_rg t) (str : ez_rg st) (kA : (t < 0 ∨ 7 < t ∨ st < 1 ∨ 4 < st) → ∀ g, ez_B τ g → mF h g 1 → Q (.inl (some (ez_v (.inl 0))), g)) (kS : ((0 ≤ t ∧ t ≤ 7) ∧ 1 ≤ st ∧ st ≤ 4) → qz_I h 770 7 = 0 → ∀ g, ez_B τ g → mF h g 2 → Q (.inl (some (ez_v (.inl 0))), g)) (kX : ((0 ≤ t ∧ t ≤ 7) ∧ 1 ≤ st ∧ st ≤ 4) → qz_I h 770 7 ≠ 0 → ∀ h1, ez_B τ h1 → mF h h1 0 → kyN (vF Ls) (X t.toNat) → ∀ g2 τ2, ez_B τ2 g2 → nk τ h1 τ2 g2 → ∀ g, ez_B τ2 g → mF (xc g2 0) g 3 → Q (.inl (some (ez_v (.inl 0))), g)) (kY : ((0 ≤ t ∧ t ≤ 7) ∧ 1 ≤ st ∧ st ≤ 4) → qz_I h 770 7 ≠ 0 → ∀ h1, ez_B τ h1 → mF h h1 0 → ∀ W, kyR (vF Ls) (vE Ls) (cLK Cs) (yD Ls) false (X t.toNat) W → wps W → 32768 < (KY W (lvl false st).toNat).length → ∀ g2 τ2, ez_B τ2 g2 → ng τ h1 τ2 g2 → ∀ g, ez_B τ2 g → mF g2 g 3 → Q (.inl (some (ez_v (.inl 0))), g)) (k1 : ((0 ≤ t ∧ t ≤ 7) ∧ 1 ≤ st ∧ st ≤ 4) → qz_I h 770 7 ≠ 0 → ∀ h1, ez_B τ h1 → mF h h1 0 → ∀ W, kyR (vF Ls) (vE Ls) (cLK Cs) (yD Ls) false (X t.toNat) W → wps W → (KY W (lvl false st).toNat).length ≤ 32768 → ∀ g2 τ2, ez_B τ2 g2 → ng τ h1 τ2 g2 → ∀ g, ez_B τ2 g → ez_fr (nz_P2 770 772) g2 g → (∀ j, j ≠ 4 → qz_I g 770 j = qz_I g2 770 j) → qz_I g 770 4 = 2 * ((KY W (lvl false st).toNat).length : Int) → rsb g 772 (byS (KY W (lvl false st).toNat)) → Q (.inl (some (ez_v (.inl (2 * ((KY W (lvl false st).toNat).length : Int))))), g)) : ez_W (d + 10) cm_272 0 [(0, .inr (.inr (some (770)))), (1, .inl (t)), (2, .inl (st)), (3, .inl (0))] [] h Q := by
  have t770 : τ 770 = 75 := hX 770 (by decide)
  obtain ⟨tr1, tr2⟩ := id tr
  obtain ⟨str1, str2⟩ := id str
  refine ez_go (n := 2) (pc' := 2) (L' := [(0, .inr (.inr (some (770)))), (1, .inl (t)), (2, .inl (st)), (3, .inl (0))]) (st' := [.inl (0), .inr (.inr (some (770)))]) rfl ?_
  refine ez_pf hB t770 rfl rfl tq_75 rfl rfl rfl rfl (ez_vdI rfl rfl (by omega) (by omega)) (fun hB1 w2 => ?_)
  have fP : ez_fr (ez_one 770) h (dz_put h 770 0 (ez_v (.inl (0)))) := (ez_fr.refl (ez_one 770) h).put rfl _ _
  have vP : qz_I (dz_put h 770 0 (ez_v (.inl (0)))) 770 0 = 0 := w2.trans (rz_rd ⟨by omega, by omega⟩)
  have iP : ∀ j, j ≠ 0 → qz_I (dz_put h 770 0 (ez_v (.inl (0)))) 770 j = qz_I h 770 j := fun j hj => ez_put_I (fun w => hj w.2)
  have hP := hB1
  generalize (dz_put h 770 0 (ez_v (.inl (0)))) = h1 at *
  have cP1 := fP.1; have cP2 := fP.2.1
  refine ez_go (n := 2) (pc' := 7) (L' := [(0, .inr (.inr (some (770)))), (1, .inl (t)), (2, .inl (st)), (3, .inl (0))]) (st' := [.inl (t), .inr (.inr (some (770)))]) rfl ?_
  refine ez_cv hP t770 rfl rfl rfl tq_75 rfl rfl rfl (rd_mout (show ez_rg (t) by assumption) (fun o1 => ez_K1 ?_) (fun o1 => ez_K1 ?_))
  · skip
    refine ez_if rfl rfl ⟨by decide, by decide⟩ (fun _ => ?_) (fun (c3 : ¬((1 : Int) ≠ (0))) => absurd c3 (by decide))
    refine ez_go (n := 2) (pc' := 25) (L' := [(0, .inr (.inr (some (770)))), (1, .inl (t)), (2, .inl (st)), (3, .inl (0))]) (st' := [.inl (1), .inr (.inr (some (770)))]) rfl ?_
    refine ez_cv hP t770 rfl rfl rfl tq_75 rfl rfl rfl (rd_mfail hP t770 (by omega) (by omega) (fun gf hBf ff jf vf0 => ez_K1 ?_))
    exact ez_retI rfl rfl (kA (by omega) gf hBf (mF.trans ⟨fP, iP, vP⟩ ⟨ff, jf, vf0⟩))
  · skip
    refine ez_if rfl rfl ⟨by decide, by decide⟩ (fun (c4 : (0 : Int) ≠ (0)) => absurd c4 (by decide)) (fun _ => ?_)
    refine ez_go (n := 2) (pc' := 15) (L' := [(0, .inr (.inr (some (770)))), (1, .inl (t)), (2, .inl (st)), (3, .inl (0))]) (st' := [.inl (1), .inl (st)]) rfl ?_
    refine ez_icmp rfl rfl ⟨by first | omega | exact (sz_i32 _).1, by first | omega | exact (sz_i32 _).2⟩ ⟨by first | omega | exact (sz_i32 _).1, by first | omega | exact (sz_i32 _).2⟩ (fun (c5 : (st) < (1)) => ?_) (fun (c5 : ¬((st) < (1))) => ?_)
    · skip
      refine ez_go (n := 2) (pc' := 25) (L' := [(0, .inr (.inr (some (770)))), (1, .inl (t)), (2, .inl (st)), (3, .inl (0))]) (st' := [.inl (1), .inr (.inr (some (770)))]) rfl ?_
      refine ez_cv hP t770 rfl rfl rfl tq_75 rfl rfl rfl (rd_mfail hP t770 (by omega) (by omega) (fun gf hBf ff jf vf0 => ez_K1 ?_))
      exact ez_retI rfl rfl (kA (by omega) gf hBf (mF.trans ⟨fP, iP, vP⟩ ⟨ff, jf, vf0⟩))
    · skip
      refine ez_go (n := 2) (pc' := 20) (L' := [(0, .inr (.inr (some (770)))), (1, .inl (t)), (2, .inl (st)), (3, .inl (0))]) (st' := [.inl (4), .inl (st)]) rfl ?_
      refine ez_icmp rfl rfl ⟨by first | omega | exact (sz_i32 _).1, by first | omega | exact (sz_i32 _).2⟩ ⟨by first | omega | exact (sz_i32 _).1, by first | omega | exact (sz_i32 _).2⟩ (fun (c6 : (st) ≤ (4)) => ?_) (fun (c6 : ¬((st) ≤ (4))) => ?_)
      · skip
        refine ez_go (n := 1) (pc' := 30) (L' := [(0, .inr (.inr (some (770)))), (1, .inl (t)), (2, .inl (st)), (3, .inl (0))]) (st' := [.inr (.inr (some (770)))]) rfl ?_
        refine ez_gI hP t770 rfl rfl tq_75 rfl rfl (fun (b7 : 0 ≤ qz_I h1 770 7) (b7' : qz_I h1 770 7 ≤ 1) => ?_)
        refine ez_if rfl rfl ⟨by first | omega | exact (sz_i32 _).1, by first | omega | exact (sz_i32 _).2⟩ (fun (c8 : (qz_I h1 770 7) ≠ (0)) => ?_) (fun (c8 : ¬((qz_I h1 770 7) ≠ (0))) => ?_)
        · skip
          have c1 := f7C (c (by rw [← iP 7 (by decide)]; assumption)) hP fP iP
          have hm1 := hm.f7 (c (by rw [← iP 7 (by decide)]; assumption)).1 fP iP
          have z7 := zz_f7 hB hX fP iP
          have rm1 : rmc h1 := ⟨by rw [z7.1, fP.2.1]; exact rm.1, by rw [z7.1, fP.1]; exact rm.2⟩
          have rd1 := rmc_rd hP hX rm1
          have dk1 : got h1 ≠ gke h1 := by rw [z7.2.1, z7.2.2]; exact dk
          have k1P : ∀ q, q ≠ 770 → h1.2.2 q = h.2.2 q := fun q hq => fP.2.2 q (dz_beq_ne hq)
          have sl1 : slt h1 := sl.k (k1P 195 (by decide)) (k1P 773 (by decide))
          have mx1 : mxs h1 X := mxh.k (fun q hq => k1P q (by omega))
          refine ez_go (n := 4) (pc' := 46) (L' := [(0, .inr (.inr (some (770)))), (1, .inl (t)), (2, .inl (st)), (3, .inl (0))]) (st' := [.inl (0), .inl (st), .inl (t), .inr (.inr (some (770)))]) rfl ?_
          have mt := mx1 (t).toNat (by omega)
          refine ez_cv hP t770 rfl rfl rfl tq_75 rfl rfl rfl (rd_kf0 c1 hm1 hK hL rm1 dk1 sl1 (by omega) (by omega) mt.1 mt.2.1 mt.2.2 (by omega) (by omega) (fun W ky W9 WL g2 τ2 B2 n2 kt2 => ez_K0 ?_) (fun kn g2 τ2 B2 nk2 => ez_Kc (xc_exc B2 rfl) rfl ?_))
          · have X2 := n2.1.X hX
            have u770 : τ2 770 = 75 := X2 770 (by decide)
            have kb9 : (KY W (lvl false st).toNat).length ≤ 200000 := KY_bd (by have := lvl_bd (sh := false) (st := st) (by omega) (by omega); omega) WL
            refine ez_go (n := 2) (pc' := 61) (L' := [(0, .inr (.inr (some (770)))), (1, .inl (t)), (2, .inl (st)), (3, .inl (0))]) (st' := [.inr (.inr (some (770)))]) rfl ?_
            refine ez_gI B2 u770 rfl rfl tq_75 rfl rfl (fun (b9 : 0 ≤ qz_I g2 770 41) (b9' : qz_I g2 770 41 ≤ 300000) => ?_)
            rw [show qz_I g2 770 41 = 2 * ((KY W (lvl false st).toNat).length : Int) from kt2.1.1]
            refine ez_ldc (65536) rfl rfl rfl ?_
            refine ez_icmp rfl rfl ⟨by first | omega | exact (sz_i32 _).1, by first | omega | exact (sz_i32 _).2⟩ ⟨by first | omega | exact (sz_i32 _).1, by first | omega | exact (sz_i32 _).2⟩ (fun (c10 : (2 * ((KY W (lvl false st).toNat).length : Int)) ≤ (65536)) => ?_) (fun (c10 : ¬((2 * ((KY W (lvl false st).toNat).length : Int)) ≤ (65536))) => ?_)
            · skip
              refine ez_go (n := 2) (pc' := 78) (L' := [(4, .inl (0)), (0, .inr (.inr (some (770)))), (1, .inl (t)), (2, .inl (st)), (3, .inl (0))]) (st' := []) rfl ?_
              refine ez_less [(4, .inl (0)), (0, .inr (.inr (some (770)))), (1, .inl (t)), (2, .inl (st)), (3, .inl (0))] rfl ⟨rfl, rfl, rfl, rfl, rfl, trivial⟩ ?_
              refine rd_mky_l0 (h := g2) (B := KY W (lvl false st).toNat) B2 X2 kt2 (by omega) (fun g3 B3 f3 r3 => ?_) _ 0 g2 rfl (by omega) (by omega) B2 (ez_fr.refl _ g2) (fun j v hj => by omega)
              refine ez_go (n := 2) (pc' := 109) (L' := [(0, .inr (.inr (some (770)))), (1, .inl (t)), (2, .inl (st)), (3, .inl (0))]) (st' := [.inr (.inr (some (770))), .inr (.inr (some (770)))]) rfl ?_
              refine ez_gI B3 u770 rfl rfl tq_75 rfl rfl (fun (b11 : 0 ≤ qz_I g3 770 41) (b11' : qz_I g3 770 41 ≤ 300000) => ?_)
              rw [show qz_I g3 770 41 = 2 * ((KY W (lvl false st).toNat).length : Int) from (f3.I rfl 41).trans kt2.1.1]
              refine ez_pf B3 u770 rfl rfl tq_75 rfl rfl rfl rfl (ez_vdI rfl rfl (by omega) (by omega)) (fun hB12 w13 => ?_)
              refine ez_go (n := 1) (pc' := 116) (L' := [(0, .inr (.inr (some (770)))), (1, .inl (t)), (2, .inl (st)), (3, .inl (0))]) (st' := [.inr (.inr (some (770)))]) rfl ?_
              refine ez_gI hB12 u770 rfl rfl tq_75 rfl rfl (fun (b14 : 0 ≤ qz_I (dz_put g3 770 4 (ez_v (.inl (2 * ((KY W (lvl false st).toNat).length : Int))))) 770 4) (b14' : qz_I (dz_put g3 770 4 (ez_v (.inl (2 * ((KY W (lvl false st).toNat).length : Int))))) 770 4 ≤ 65536) => ?_)
              have v4 : qz_I (dz_put g3 770 4 (ez_v (.inl (2 * ((KY W (lvl false st).toNat).length : Int))))) 770 4 = 2 * ((KY W (lvl false st).toNat).length : Int) := w13.trans (rz_rd ⟨by omega, by omega⟩)
              rw [show qz_I (dz_put g3 770 4 (ez_v (.inl (2 * ((KY W (lvl false st).toNat).length : Int))))) 770 4 = 2 * ((KY W (lvl false st).toNat).length : Int) from v4]
              refine ez_retI rfl rfl (k1 (by omega) (by rw [← iP 7 (by decide)]; assumption) h1 hP ⟨fP, iP, vP⟩ W ky W9 (by omega) g2 τ2 B2 n2 _ hB12 ((ez_fr_mono f3 (fun z hz => by unfold ez_one at hz; unfold nz_P2; rw [hz]; exact Bool.or_true _)).put (by unfold nz_P2; rfl) _ _) (fun j hj => (ez_put_I (fun w => hj w.2)).trans (f3.I rfl j)) v4 (fun j v hv => (ez_put_I (fun w => absurd w.1 (by decide))).trans (r3 j v hv)))
            · skip
              refine ez_go (n := 2) (pc' := 71) (L' := [(0, .inr (.inr (some (770)))), (1, .inl (t)), (2, .inl (st)), (3, .inl (0))]) (st' := [.inl (3), .inr (.inr (some (770)))]) rfl ?_
              refine ez_cv B2 u770 rfl rfl rfl tq_75 rfl rfl rfl (rd_mfail B2 u770 (by omega) (by omega) (fun gf hBf ff jf vf0 => ez_K1 ?_))
              exact ez_retI rfl rfl (kY (by omega) (by rw [← iP 7 (by decide)]; assumption) h1 hP ⟨fP, iP, vP⟩ W ky W9 (by omega) g2 τ2 B2 n2 gf hBf ⟨ff, jf, vf0⟩)
          · have u770 : τ2 770 = 75 := nk2.X hX 770 (by decide)
            have rm2 := nk2.rm c1.1.1 B2 (hX 770 (by decide)) u770
            have hBx : ez_B τ2 (xc g2 0) := xc_B B2 (by omega) (by omega)
            refine ez_go (n := 3) (pc' := 56) (L' := [(4, .inr (.inr (some (g2.1)))), (0, .inr (.inr (some (770)))), (1, .inl (t)), (2, .inl (st)), (3, .inl (0))]) (st' := [.inl (3), .inr (.inr (some (770)))]) rfl ?_
            refine ez_cv hBx u770 rfl rfl rfl tq_75 rfl rfl rfl (rd_mfail hBx u770 (by omega) (by omega) (fun gf hBf ff jf vf0 => ez_K1 ?_))
            exact ez_retI rfl rfl (kX (by omega) (by rw [← iP 7 (by decide)]; assumption) h1 hP ⟨fP, iP, vP⟩ kn g2 τ2 B2 nk2 gf hBf ⟨ff, jf, vf0⟩)
        · skip
          refine ez_go (n := 2) (pc' := 38) (L' := [(0, .inr (.inr (some (770)))), (1, .inl (t)), (2, .inl (st)), (3, .inl (0))]) (st' := [.inl (2), .inr (.inr (some (770)))]) rfl ?_
          refine ez_cv hP t770 rfl rfl rfl tq_75 rfl rfl rfl (rd_mfail hP t770 (by omega) (by omega) (fun gf hBf ff jf vf0 => ez_K1 ?_))
          exact ez_retI rfl rfl (kS (by omega) (by rw [← iP 7 (by decide)]; omega) gf hBf (mF.trans ⟨fP, iP, vP⟩ ⟨ff, jf, vf0⟩))
      · skip
        refine ez_go (n := 2) (pc' := 25) (L' := [(0, .inr (.inr (some (770)))), (1, .inl (t)), (2, .inl (st)), (3, .inl (0))]) (st' := [.inl (1), .inr (.inr (some (770)))]) rfl ?_
        refine ez_cv hP t770 rfl rfl rfl tq_75 rfl rfl rfl (rd_mfail hP t770 (by omega) (by omega) (fun gf hBf ff jf vf0 => ez_K1 ?_))
        exact ez_retI rfl rfl (kA (by omega) gf hBf (mF.trans ⟨fP, iP, vP⟩ ⟨ff, jf, vf0⟩))

theorem rd_mcm_l1 {t u9 st n9 : Int} {p : Nat} (hB : ez_B τ h) (t770 : τ 770 = 75) (tp : τ p = 25) (ra : rsb h p (byS B)) (np : 2 * (B.length : Int) ≤ qz_N h p) (ky : kyt h C) (hb1 : ∀ w ∈ B, 0 ≤ w ∧ w ≤ 65535) (hb2 : ∀ w ∈ C, 0 ≤ w ∧ w ≤ 65535) (n9e : n9 = 2 * (B.length : Int)) (b9 : B.length ≤ 200000) (c9 : C.length ≤ 200000) (kx : Q (.inl (some (ez_v (.inl (lcp (by2 B) (by2 C))))), h)) : ∀ (m : Nat) (k : Int), m = (2 * (B.length : Int) - k).toNat → 0 ≤ k → k ≤ 2 * (B.length : Int) → k ≤ 2 * (C.length : Int) → lcp (by2 B) (by2 C) = lcp ((by2 B).drop k.toNat) ((by2 C).drop k.toNat) → ez_W d cm_238 95 [(7, .inl (k)), (6, .inl (n9)), (5, .inr (.inr (some (p)))), (0, .inr (.inr (some (770)))), (1, .inl (t)), (2, .inl (u9)), (3, .inl (st)), (4, .inl (1))] [] h Q := by
  have tE := ez_tke hB t770
  intro m
  induction m with
  | zero =>
    intro k hm0 k0 k1 k2 hE
    have kyn := ky.1.2
    refine ez_go (n := 2) (pc' := 99) (L' := [(7, .inl (k)), (6, .inl (n9)), (5, .inr (.inr (some (p)))), (0, .inr (.inr (some (770)))), (1, .inl (t)), (2, .inl (u9)), (3, .inl (st)), (4, .inl (1))]) (st' := [.inl (n9), .inl (k)]) rfl ?_
    refine ez_icmp rfl rfl ⟨by first | omega | exact (sz_i32 _).1, by first | omega | exact (sz_i32 _).2⟩ ⟨by first | omega | exact (sz_i32 _).1, by first | omega | exact (sz_i32 _).2⟩ (fun (c1 : (n9) ≤ (k)) => ?_) (fun (c1 : ¬((n9) ≤ (k))) => ?_)
    · skip
      refine ez_go (n := 2) (pc' := 164) (L' := [(7, .inl (k)), (6, .inl (n9)), (5, .inr (.inr (some (p)))), (0, .inr (.inr (some (770)))), (1, .inl (t)), (2, .inl (u9)), (3, .inl (st)), (4, .inl (1))]) (st' := [.inr (.inr (some (770))), .inl (n9)]) rfl ?_
      refine ez_gI hB t770 rfl rfl tq_75 rfl rfl (fun (b2 : 0 ≤ qz_I h 770 41) (b2' : qz_I h 770 41 ≤ 300000) => ?_)
      rw [show qz_I h 770 41 = 2 * (C.length : Int) from ky.1.1]
      refine ez_icmp rfl rfl ⟨by first | omega | exact (sz_i32 _).1, by first | omega | exact (sz_i32 _).2⟩ ⟨by first | omega | exact (sz_i32 _).1, by first | omega | exact (sz_i32 _).2⟩ (fun (c3 : (2 * (C.length : Int)) ≤ (n9)) => ?_) (fun (c3 : ¬((2 * (C.length : Int)) ≤ (n9))) => ?_)
      · skip
        refine ez_go (n := 2) (pc' := 177) (L' := [(7, .inl (k)), (6, .inl (n9)), (5, .inr (.inr (some (p)))), (0, .inr (.inr (some (770)))), (1, .inl (t)), (2, .inl (u9)), (3, .inl (st)), (4, .inl (1))]) (st' := [.inr (.inr (some (770))), .inl (n9)]) rfl ?_
        refine ez_gI hB t770 rfl rfl tq_75 rfl rfl (fun (b4 : 0 ≤ qz_I h 770 41) (b4' : qz_I h 770 41 ≤ 300000) => ?_)
        rw [show qz_I h 770 41 = 2 * (C.length : Int) from ky.1.1]
        refine ez_icmp rfl rfl ⟨by first | omega | exact (sz_i32 _).1, by first | omega | exact (sz_i32 _).2⟩ ⟨by first | omega | exact (sz_i32 _).1, by first | omega | exact (sz_i32 _).2⟩ (fun (c5 : (n9) ≤ (2 * (C.length : Int))) => ?_) (fun (c5 : ¬((n9) ≤ (2 * (C.length : Int)))) => ?_)
        · skip
          refine ez_go (n := 1) (pc' := 188) (L' := [(7, .inl (k)), (6, .inl (n9)), (5, .inr (.inr (some (p)))), (0, .inr (.inr (some (770)))), (1, .inl (t)), (2, .inl (u9)), (3, .inl (st)), (4, .inl (1))]) (st' := [.inl (0)]) rfl ?_
          have l2A := by2_len B; have l2C := by2_len C
          have ls := lcp_en (A := by2 B) (B := by2 C) (k := k.toNat) (by omega) (by omega) (by omega)
          rw [if_neg (by omega), if_neg (by omega), ← hE] at ls
          rw [ls] at kx
          exact ez_retI rfl rfl kx
        · skip
          refine ez_go (n := 2) (pc' := 188) (L' := [(7, .inl (k)), (6, .inl (n9)), (5, .inr (.inr (some (p)))), (0, .inr (.inr (some (770)))), (1, .inl (t)), (2, .inl (u9)), (3, .inl (st)), (4, .inl (1))]) (st' := [.inl (1)]) rfl ?_
          have l2A := by2_len B; have l2C := by2_len C
          have ls := lcp_en (A := by2 B) (B := by2 C) (k := k.toNat) (by omega) (by omega) (by omega)
          rw [if_neg (by omega), if_pos (by omega), ← hE] at ls
          rw [ls] at kx
          exact ez_retI rfl rfl kx
      · skip
        refine ez_go (n := 2) (pc' := 188) (L' := [(7, .inl (k)), (6, .inl (n9)), (5, .inr (.inr (some (p)))), (0, .inr (.inr (some (770)))), (1, .inl (t)), (2, .inl (u9)), (3, .inl (st)), (4, .inl (1))]) (st' := [.inl (-1)]) rfl ?_
        have l2A := by2_len B; have l2C := by2_len C
        have ls := lcp_en (A := by2 B) (B := by2 C) (k := k.toNat) (by omega) (by omega) (by omega)
        rw [if_pos (by omega), ← hE] at ls
        rw [ls] at kx
        exact ez_retI rfl rfl kx
    · skip
      refine ez_go (n := 2) (pc' := 105) (L' := [(7, .inl (k)), (6, .inl (n9)), (5, .inr (.inr (some (p)))), (0, .inr (.inr (some (770)))), (1, .inl (t)), (2, .inl (u9)), (3, .inl (st)), (4, .inl (1))]) (st' := [.inr (.inr (some (770))), .inl (k)]) rfl ?_
      refine ez_gI hB t770 rfl rfl tq_75 rfl rfl (fun (b6 : 0 ≤ qz_I h 770 41) (b6' : qz_I h 770 41 ≤ 300000) => ?_)
      rw [show qz_I h 770 41 = 2 * (C.length : Int) from ky.1.1]
      refine ez_icmp rfl rfl ⟨by first | omega | exact (sz_i32 _).1, by first | omega | exact (sz_i32 _).2⟩ ⟨by first | omega | exact (sz_i32 _).1, by first | omega | exact (sz_i32 _).2⟩ (fun (c7 : (2 * (C.length : Int)) ≤ (k)) => ?_) (fun (c7 : ¬((2 * (C.length : Int)) ≤ (k))) => ?_)
      · skip
        refine ez_go (n := 2) (pc' := 164) (L' := [(7, .inl (k)), (6, .inl (n9)), (5, .inr (.inr (some (p)))), (0, .inr (.inr (some (770)))), (1, .inl (t)), (2, .inl (u9)), (3, .inl (st)), (4, .inl (1))]) (st' := [.inr (.inr (some (770))), .inl (n9)]) rfl ?_
        refine ez_gI hB t770 rfl rfl tq_75 rfl rfl (fun (b8 : 0 ≤ qz_I h 770 41) (b8' : qz_I h 770 41 ≤ 300000) => ?_)
        rw [show qz_I h 770 41 = 2 * (C.length : Int) from ky.1.1]
        refine ez_icmp rfl rfl ⟨by first | omega | exact (sz_i32 _).1, by first | omega | exact (sz_i32 _).2⟩ ⟨by first | omega | exact (sz_i32 _).1, by first | omega | exact (sz_i32 _).2⟩ (fun (c9 : (2 * (C.length : Int)) ≤ (n9)) => ?_) (fun (c9 : ¬((2 * (C.length : Int)) ≤ (n9))) => ?_)
        · skip
          refine ez_go (n := 2) (pc' := 177) (L' := [(7, .inl (k)), (6, .inl (n9)), (5, .inr (.inr (some (p)))), (0, .inr (.inr (some (770)))), (1, .inl (t)), (2, .inl (u9)), (3, .inl (st)), (4, .inl (1))]) (st' := [.inr (.inr (some (770))), .inl (n9)]) rfl ?_
          refine ez_gI hB t770 rfl rfl tq_75 rfl rfl (fun (b10 : 0 ≤ qz_I h 770 41) (b10' : qz_I h 770 41 ≤ 300000) => ?_)
          rw [show qz_I h 770 41 = 2 * (C.length : Int) from ky.1.1]
          refine ez_icmp rfl rfl ⟨by first | omega | exact (sz_i32 _).1, by first | omega | exact (sz_i32 _).2⟩ ⟨by first | omega | exact (sz_i32 _).1, by first | omega | exact (sz_i32 _).2⟩ (fun (c11 : (n9) ≤ (2 * (C.length : Int))) => ?_) (fun (c11 : ¬((n9) ≤ (2 * (C.length : Int)))) => ?_)
          · skip
            refine ez_go (n := 1) (pc' := 188) (L' := [(7, .inl (k)), (6, .inl (n9)), (5, .inr (.inr (some (p)))), (0, .inr (.inr (some (770)))), (1, .inl (t)), (2, .inl (u9)), (3, .inl (st)), (4, .inl (1))]) (st' := [.inl (0)]) rfl ?_
            have l2A := by2_len B; have l2C := by2_len C
            have ls := lcp_en (A := by2 B) (B := by2 C) (k := k.toNat) (by omega) (by omega) (by omega)
            rw [if_neg (by omega), if_neg (by omega), ← hE] at ls
            rw [ls] at kx
            exact ez_retI rfl rfl kx
          · skip
            refine ez_go (n := 2) (pc' := 188) (L' := [(7, .inl (k)), (6, .inl (n9)), (5, .inr (.inr (some (p)))), (0, .inr (.inr (some (770)))), (1, .inl (t)), (2, .inl (u9)), (3, .inl (st)), (4, .inl (1))]) (st' := [.inl (1)]) rfl ?_
            have l2A := by2_len B; have l2C := by2_len C
            have ls := lcp_en (A := by2 B) (B := by2 C) (k := k.toNat) (by omega) (by omega) (by omega)
            rw [if_neg (by omega), if_pos (by omega), ← hE] at ls
            rw [ls] at kx
            exact ez_retI rfl rfl kx
        · skip
          refine ez_go (n := 2) (pc' := 188) (L' := [(7, .inl (k)), (6, .inl (n9)), (5, .inr (.inr (some (p)))), (0, .inr (.inr (some (770)))), (1, .inl (t)), (2, .inl (u9)), (3, .inl (st)), (4, .inl (1))]) (st' := [.inl (-1)]) rfl ?_
          have l2A := by2_len B; have l2C := by2_len C
          have ls := lcp_en (A := by2 B) (B := by2 C) (k := k.toNat) (by omega) (by omega) (by omega)
          rw [if_pos (by omega), ← hE] at ls
          rw [ls] at kx
          exact ez_retI rfl rfl kx
      · skip
        refine ez_go (n := 2) (pc' := 115) (L' := [(7, .inl (k)), (6, .inl (n9)), (5, .inr (.inr (some (p)))), (0, .inr (.inr (some (770)))), (1, .inl (t)), (2, .inl (u9)), (3, .inl (st)), (4, .inl (1))]) (st' := [.inl (k), .inr (.inr (some (p)))]) rfl ?_
        have n13 : 1024 ≤ qz_N h p ∧ qz_N h p ≤ 600100 := ez_len hB tp tq_25 rfl
        refine ez_aI hB tp rfl tq_25 rfl rfl (by omega) (by omega) (fun (b12 : -128 ≤ qz_I h p (k).toNat) (b12' : qz_I h p (k).toNat ≤ 127) => ?_)
        have lA := byS_len B; have lC := byS_len C; have l2A := by2_len B; have l2C := by2_len C
        have jA : (k).toNat < (by2 B).length := by omega
        have jC : (k).toNat < (by2 C).length := by omega
        have xA := List.getElem?_eq_getElem jA
        have xC := List.getElem?_eq_getElem jC
        have bA := by2_bd hb1 _ (List.getElem_mem jA)
        have bC := by2_bd hb2 _ (List.getElem_mem jC)
        have sA := sb_bd (by2 B)[(k).toNat]; have sC := sb_bd (by2 C)[(k).toNat]
        have eA : qz_I h p (k).toNat = sgb (by2 B)[(k).toNat] := ra _ _ (by rw [byS_map, List.getElem?_map, xA]; rfl)
        have eC : qz_I h (gke h) (k).toNat = sgb (by2 C)[(k).toNat] := ky.2 _ _ (by rw [byS_map, List.getElem?_map, xC]; rfl)
        have ls := lcp_st xA xC
        rw [show qz_I h p (k).toNat = sgb (by2 B)[(k).toNat] from eA]
        refine ez_go (n := 1) (pc' := 117) (L' := [(7, .inl (k)), (6, .inl (n9)), (5, .inr (.inr (some (p)))), (0, .inr (.inr (some (770)))), (1, .inl (t)), (2, .inl (u9)), (3, .inl (st)), (4, .inl (1))]) (st' := [.inr (.inr (some (770))), .inl (sgb (by2 B)[(k).toNat])]) rfl ?_
        refine ez_gR hB t770 rfl rfl tq_75 rfl rfl (fun (t14 : _ = 25) (t14' : 1 ≤ qz_I h 770 40) => ?_)
        rw [show qz_P h 770 40 = gke h from rfl]
        refine ez_go (n := 1) (pc' := 122) (L' := [(7, .inl (k)), (6, .inl (n9)), (5, .inr (.inr (some (p)))), (0, .inr (.inr (some (770)))), (1, .inl (t)), (2, .inl (u9)), (3, .inl (st)), (4, .inl (1))]) (st' := [.inl (k), .inr (.inr (some ((gke h)))), .inl (sgb (by2 B)[(k).toNat])]) rfl ?_
        have n16 : 1024 ≤ qz_N h ((gke h)) ∧ qz_N h ((gke h)) ≤ 600100 := ez_len hB tE tq_25 rfl
        refine ez_aI hB tE rfl tq_25 rfl rfl (by omega) (by omega) (fun (b15 : -128 ≤ qz_I h ((gke h)) (k).toNat) (b15' : qz_I h ((gke h)) (k).toNat ≤ 127) => ?_)
        rw [show qz_I h ((gke h)) (k).toNat = sgb (by2 C)[(k).toNat] from eC]
        refine ez_icmp rfl rfl ⟨by first | omega | exact (sz_i32 _).1, by first | omega | exact (sz_i32 _).2⟩ ⟨by first | omega | exact (sz_i32 _).1, by first | omega | exact (sz_i32 _).2⟩ (fun (c17 : (sgb (by2 B)[(k).toNat]) = (sgb (by2 C)[(k).toNat])) => ?_) (fun (c17 : ¬((sgb (by2 B)[(k).toNat]) = (sgb (by2 C)[(k).toNat]))) => ?_)
        · skip
          refine ez_go (n := 2) (pc' := 95) (L' := [(7, .inl (k + 1)), (6, .inl (n9)), (5, .inr (.inr (some (p)))), (0, .inr (.inr (some (770)))), (1, .inl (t)), (2, .inl (u9)), (3, .inl (st)), (4, .inl (1))]) (st' := []) rfl ?_
          exfalso; omega
        · skip
          refine ez_go (n := 2) (pc' := 130) (L' := [(7, .inl (k)), (6, .inl (n9)), (5, .inr (.inr (some (p)))), (0, .inr (.inr (some (770)))), (1, .inl (t)), (2, .inl (u9)), (3, .inl (st)), (4, .inl (1))]) (st' := [.inl (k), .inr (.inr (some (p)))]) rfl ?_
          have n19 : 1024 ≤ qz_N h p ∧ qz_N h p ≤ 600100 := ez_len hB tp tq_25 rfl
          refine ez_aI hB tp rfl tq_25 rfl rfl (by omega) (by omega) (fun (b18 : -128 ≤ qz_I h p (k).toNat) (b18' : qz_I h p (k).toNat ≤ 127) => ?_)
          rw [show qz_I h p (k).toNat = sgb (by2 B)[(k).toNat] from eA]
          refine ez_go (n := 3) (pc' := 136) (L' := [(7, .inl (k)), (6, .inl (n9)), (5, .inr (.inr (some (p)))), (0, .inr (.inr (some (770)))), (1, .inl (t)), (2, .inl (u9)), (3, .inl (st)), (4, .inl (1))]) (st' := [.inr (.inr (some (770))), .inl ((Int32.ofInt (sgb (by2 B)[(k).toNat]) &&& Int32.ofInt (255)).toInt)]) rfl ?_
          refine ez_gR hB t770 rfl rfl tq_75 rfl rfl (fun (t20 : _ = 25) (t20' : 1 ≤ qz_I h 770 40) => ?_)
          rw [show qz_P h 770 40 = gke h from rfl]
          refine ez_go (n := 1) (pc' := 141) (L' := [(7, .inl (k)), (6, .inl (n9)), (5, .inr (.inr (some (p)))), (0, .inr (.inr (some (770)))), (1, .inl (t)), (2, .inl (u9)), (3, .inl (st)), (4, .inl (1))]) (st' := [.inl (k), .inr (.inr (some ((gke h)))), .inl ((Int32.ofInt (sgb (by2 B)[(k).toNat]) &&& Int32.ofInt (255)).toInt)]) rfl ?_
          have n22 : 1024 ≤ qz_N h ((gke h)) ∧ qz_N h ((gke h)) ≤ 600100 := ez_len hB tE tq_25 rfl
          refine ez_aI hB tE rfl tq_25 rfl rfl (by omega) (by omega) (fun (b21 : -128 ≤ qz_I h ((gke h)) (k).toNat) (b21' : qz_I h ((gke h)) (k).toNat ≤ 127) => ?_)
          rw [show qz_I h ((gke h)) (k).toNat = sgb (by2 C)[(k).toNat] from eC]
          refine ez_go (n := 2) (pc' := 146) (L' := [(7, .inl (k)), (6, .inl (n9)), (5, .inr (.inr (some (p)))), (0, .inr (.inr (some (770)))), (1, .inl (t)), (2, .inl (u9)), (3, .inl (st)), (4, .inl (1))]) (st' := [.inl ((Int32.ofInt (sgb (by2 C)[(k).toNat]) &&& Int32.ofInt (255)).toInt), .inl ((Int32.ofInt (sgb (by2 B)[(k).toNat]) &&& Int32.ofInt (255)).toInt)]) rfl ?_
          rw [ub_sb (x := (by2 C)[(k).toNat]) (by omega) (by omega)]
          refine ez_icmp rfl rfl ⟨by first | omega | exact (sz_i32 _).1, by first | omega | exact (sz_i32 _).2⟩ ⟨by first | omega | exact (sz_i32 _).1, by first | omega | exact (sz_i32 _).2⟩ (fun (c23 : ((by2 C)[(k).toNat]) ≤ ((Int32.ofInt (sgb (by2 B)[(k).toNat]) &&& Int32.ofInt (255)).toInt)) => ?_) (fun (c23 : ¬(((by2 C)[(k).toNat]) ≤ ((Int32.ofInt (sgb (by2 B)[(k).toNat]) &&& Int32.ofInt (255)).toInt))) => ?_)
          · skip
            refine ez_go (n := 1) (pc' := 154) (L' := [(7, .inl (k)), (6, .inl (n9)), (5, .inr (.inr (some (p)))), (0, .inr (.inr (some (770)))), (1, .inl (t)), (2, .inl (u9)), (3, .inl (st)), (4, .inl (1))]) (st' := [.inl (1)]) rfl ?_
            have ubB9 := ub_sb (x := (by2 B)[(k).toNat]) bA.1 bA.2
            have nxy : (by2 B)[(k).toNat] ≠ (by2 C)[(k).toNat] := fun e => by have := congrArg sgb e; omega
            rw [if_neg nxy, if_neg (by omega)] at ls
            rw [show lcp ((by2 B).drop k.toNat) ((by2 C).drop k.toNat) = lcp (by2 B) (by2 C) from hE.symm] at ls
            rw [ls] at kx
            exact ez_retI rfl rfl kx
          · skip
            refine ez_go (n := 2) (pc' := 154) (L' := [(7, .inl (k)), (6, .inl (n9)), (5, .inr (.inr (some (p)))), (0, .inr (.inr (some (770)))), (1, .inl (t)), (2, .inl (u9)), (3, .inl (st)), (4, .inl (1))]) (st' := [.inl (-1)]) rfl ?_
            have ubB9 := ub_sb (x := (by2 B)[(k).toNat]) bA.1 bA.2
            have nxy : (by2 B)[(k).toNat] ≠ (by2 C)[(k).toNat] := fun e => by have := congrArg sgb e; omega
            rw [if_neg nxy, if_pos (by omega)] at ls
            rw [show lcp ((by2 B).drop k.toNat) ((by2 C).drop k.toNat) = lcp (by2 B) (by2 C) from hE.symm] at ls
            rw [ls] at kx
            exact ez_retI rfl rfl kx
  | succ m ih =>
    intro k hm0 k0 k1 k2 hE
    have kyn := ky.1.2
    refine ez_go (n := 2) (pc' := 99) (L' := [(7, .inl (k)), (6, .inl (n9)), (5, .inr (.inr (some (p)))), (0, .inr (.inr (some (770)))), (1, .inl (t)), (2, .inl (u9)), (3, .inl (st)), (4, .inl (1))]) (st' := [.inl (n9), .inl (k)]) rfl ?_
    refine ez_icmp rfl rfl ⟨by first | omega | exact (sz_i32 _).1, by first | omega | exact (sz_i32 _).2⟩ ⟨by first | omega | exact (sz_i32 _).1, by first | omega | exact (sz_i32 _).2⟩ (fun (c1 : (n9) ≤ (k)) => ?_) (fun (c1 : ¬((n9) ≤ (k))) => ?_)
    · skip
      refine ez_go (n := 2) (pc' := 164) (L' := [(7, .inl (k)), (6, .inl (n9)), (5, .inr (.inr (some (p)))), (0, .inr (.inr (some (770)))), (1, .inl (t)), (2, .inl (u9)), (3, .inl (st)), (4, .inl (1))]) (st' := [.inr (.inr (some (770))), .inl (n9)]) rfl ?_
      refine ez_gI hB t770 rfl rfl tq_75 rfl rfl (fun (b2 : 0 ≤ qz_I h 770 41) (b2' : qz_I h 770 41 ≤ 300000) => ?_)
      rw [show qz_I h 770 41 = 2 * (C.length : Int) from ky.1.1]
      refine ez_icmp rfl rfl ⟨by first | omega | exact (sz_i32 _).1, by first | omega | exact (sz_i32 _).2⟩ ⟨by first | omega | exact (sz_i32 _).1, by first | omega | exact (sz_i32 _).2⟩ (fun (c3 : (2 * (C.length : Int)) ≤ (n9)) => ?_) (fun (c3 : ¬((2 * (C.length : Int)) ≤ (n9))) => ?_)
      · skip
        refine ez_go (n := 2) (pc' := 177) (L' := [(7, .inl (k)), (6, .inl (n9)), (5, .inr (.inr (some (p)))), (0, .inr (.inr (some (770)))), (1, .inl (t)), (2, .inl (u9)), (3, .inl (st)), (4, .inl (1))]) (st' := [.inr (.inr (some (770))), .inl (n9)]) rfl ?_
        refine ez_gI hB t770 rfl rfl tq_75 rfl rfl (fun (b4 : 0 ≤ qz_I h 770 41) (b4' : qz_I h 770 41 ≤ 300000) => ?_)
        rw [show qz_I h 770 41 = 2 * (C.length : Int) from ky.1.1]
        refine ez_icmp rfl rfl ⟨by first | omega | exact (sz_i32 _).1, by first | omega | exact (sz_i32 _).2⟩ ⟨by first | omega | exact (sz_i32 _).1, by first | omega | exact (sz_i32 _).2⟩ (fun (c5 : (n9) ≤ (2 * (C.length : Int))) => ?_) (fun (c5 : ¬((n9) ≤ (2 * (C.length : Int)))) => ?_)
        · skip
          refine ez_go (n := 1) (pc' := 188) (L' := [(7, .inl (k)), (6, .inl (n9)), (5, .inr (.inr (some (p)))), (0, .inr (.inr (some (770)))), (1, .inl (t)), (2, .inl (u9)), (3, .inl (st)), (4, .inl (1))]) (st' := [.inl (0)]) rfl ?_
          have l2A := by2_len B; have l2C := by2_len C
          have ls := lcp_en (A := by2 B) (B := by2 C) (k := k.toNat) (by omega) (by omega) (by omega)
          rw [if_neg (by omega), if_neg (by omega), ← hE] at ls
          rw [ls] at kx
          exact ez_retI rfl rfl kx
        · skip
          refine ez_go (n := 2) (pc' := 188) (L' := [(7, .inl (k)), (6, .inl (n9)), (5, .inr (.inr (some (p)))), (0, .inr (.inr (some (770)))), (1, .inl (t)), (2, .inl (u9)), (3, .inl (st)), (4, .inl (1))]) (st' := [.inl (1)]) rfl ?_
          have l2A := by2_len B; have l2C := by2_len C
          have ls := lcp_en (A := by2 B) (B := by2 C) (k := k.toNat) (by omega) (by omega) (by omega)
          rw [if_neg (by omega), if_pos (by omega), ← hE] at ls
          rw [ls] at kx
          exact ez_retI rfl rfl kx
      · skip
        refine ez_go (n := 2) (pc' := 188) (L' := [(7, .inl (k)), (6, .inl (n9)), (5, .inr (.inr (some (p)))), (0, .inr (.inr (some (770)))), (1, .inl (t)), (2, .inl (u9)), (3, .inl (st)), (4, .inl (1))]) (st' := [.inl (-1)]) rfl ?_
        have l2A := by2_len B; have l2C := by2_len C
        have ls := lcp_en (A := by2 B) (B := by2 C) (k := k.toNat) (by omega) (by omega) (by omega)
        rw [if_pos (by omega), ← hE] at ls
        rw [ls] at kx
        exact ez_retI rfl rfl kx
    · skip
      refine ez_go (n := 2) (pc' := 105) (L' := [(7, .inl (k)), (6, .inl (n9)), (5, .inr (.inr (some (p)))), (0, .inr (.inr (some (770)))), (1, .inl (t)), (2, .inl (u9)), (3, .inl (st)), (4, .inl (1))]) (st' := [.inr (.inr (some (770))), .inl (k)]) rfl ?_
      refine ez_gI hB t770 rfl rfl tq_75 rfl rfl (fun (b6 : 0 ≤ qz_I h 770 41) (b6' : qz_I h 770 41 ≤ 300000) => ?_)
      rw [show qz_I h 770 41 = 2 * (C.length : Int) from ky.1.1]
      refine ez_icmp rfl rfl ⟨by first | omega | exact (sz_i32 _).1, by first | omega | exact (sz_i32 _).2⟩ ⟨by first | omega | exact (sz_i32 _).1, by first | omega | exact (sz_i32 _).2⟩ (fun (c7 : (2 * (C.length : Int)) ≤ (k)) => ?_) (fun (c7 : ¬((2 * (C.length : Int)) ≤ (k))) => ?_)
      · skip
        refine ez_go (n := 2) (pc' := 164) (L' := [(7, .inl (k)), (6, .inl (n9)), (5, .inr (.inr (some (p)))), (0, .inr (.inr (some (770)))), (1, .inl (t)), (2, .inl (u9)), (3, .inl (st)), (4, .inl (1))]) (st' := [.inr (.inr (some (770))), .inl (n9)]) rfl ?_
        refine ez_gI hB t770 rfl rfl tq_75 rfl rfl (fun (b8 : 0 ≤ qz_I h 770 41) (b8' : qz_I h 770 41 ≤ 300000) => ?_)
        rw [show qz_I h 770 41 = 2 * (C.length : Int) from ky.1.1]
        refine ez_icmp rfl rfl ⟨by first | omega | exact (sz_i32 _).1, by first | omega | exact (sz_i32 _).2⟩ ⟨by first | omega | exact (sz_i32 _).1, by first | omega | exact (sz_i32 _).2⟩ (fun (c9 : (2 * (C.length : Int)) ≤ (n9)) => ?_) (fun (c9 : ¬((2 * (C.length : Int)) ≤ (n9))) => ?_)
        · skip
          refine ez_go (n := 2) (pc' := 177) (L' := [(7, .inl (k)), (6, .inl (n9)), (5, .inr (.inr (some (p)))), (0, .inr (.inr (some (770)))), (1, .inl (t)), (2, .inl (u9)), (3, .inl (st)), (4, .inl (1))]) (st' := [.inr (.inr (some (770))), .inl (n9)]) rfl ?_
          refine ez_gI hB t770 rfl rfl tq_75 rfl rfl (fun (b10 : 0 ≤ qz_I h 770 41) (b10' : qz_I h 770 41 ≤ 300000) => ?_)
          rw [show qz_I h 770 41 = 2 * (C.length : Int) from ky.1.1]
          refine ez_icmp rfl rfl ⟨by first | omega | exact (sz_i32 _).1, by first | omega | exact (sz_i32 _).2⟩ ⟨by first | omega | exact (sz_i32 _).1, by first | omega | exact (sz_i32 _).2⟩ (fun (c11 : (n9) ≤ (2 * (C.length : Int))) => ?_) (fun (c11 : ¬((n9) ≤ (2 * (C.length : Int)))) => ?_)
          · skip
            refine ez_go (n := 1) (pc' := 188) (L' := [(7, .inl (k)), (6, .inl (n9)), (5, .inr (.inr (some (p)))), (0, .inr (.inr (some (770)))), (1, .inl (t)), (2, .inl (u9)), (3, .inl (st)), (4, .inl (1))]) (st' := [.inl (0)]) rfl ?_
            have l2A := by2_len B; have l2C := by2_len C
            have ls := lcp_en (A := by2 B) (B := by2 C) (k := k.toNat) (by omega) (by omega) (by omega)
            rw [if_neg (by omega), if_neg (by omega), ← hE] at ls
            rw [ls] at kx
            exact ez_retI rfl rfl kx
          · skip
            refine ez_go (n := 2) (pc' := 188) (L' := [(7, .inl (k)), (6, .inl (n9)), (5, .inr (.inr (some (p)))), (0, .inr (.inr (some (770)))), (1, .inl (t)), (2, .inl (u9)), (3, .inl (st)), (4, .inl (1))]) (st' := [.inl (1)]) rfl ?_
            have l2A := by2_len B; have l2C := by2_len C
            have ls := lcp_en (A := by2 B) (B := by2 C) (k := k.toNat) (by omega) (by omega) (by omega)
            rw [if_neg (by omega), if_pos (by omega), ← hE] at ls
            rw [ls] at kx
            exact ez_retI rfl rfl kx
        · skip
          refine ez_go (n := 2) (pc' := 188) (L' := [(7, .inl (k)), (6, .inl (n9)), (5, .inr (.inr (some (p)))), (0, .inr (.inr (some (770)))), (1, .inl (t)), (2, .inl (u9)), (3, .inl (st)), (4, .inl (1))]) (st' := [.inl (-1)]) rfl ?_
          have l2A := by2_len B; have l2C := by2_len C
          have ls := lcp_en (A := by2 B) (B := by2 C) (k := k.toNat) (by omega) (by omega) (by omega)
          rw [if_pos (by omega), ← hE] at ls
          rw [ls] at kx
          exact ez_retI rfl rfl kx
      · skip
        refine ez_go (n := 2) (pc' := 115) (L' := [(7, .inl (k)), (6, .inl (n9)), (5, .inr (.inr (some (p)))), (0, .inr (.inr (some (770)))), (1, .inl (t)), (2, .inl (u9)), (3, .inl (st)), (4, .inl (1))]) (st' := [.inl (k), .inr (.inr (some (p)))]) rfl ?_
        have n13 : 1024 ≤ qz_N h p ∧ qz_N h p ≤ 600100 := ez_len hB tp tq_25 rfl
        refine ez_aI hB tp rfl tq_25 rfl rfl (by omega) (by omega) (fun (b12 : -128 ≤ qz_I h p (k).toNat) (b12' : qz_I h p (k).toNat ≤ 127) => ?_)
        have lA := byS_len B; have lC := byS_len C; have l2A := by2_len B; have l2C := by2_len C
        have jA : (k).toNat < (by2 B).length := by omega
        have jC : (k).toNat < (by2 C).length := by omega
        have xA := List.getElem?_eq_getElem jA
        have xC := List.getElem?_eq_getElem jC
        have bA := by2_bd hb1 _ (List.getElem_mem jA)
        have bC := by2_bd hb2 _ (List.getElem_mem jC)
        have sA := sb_bd (by2 B)[(k).toNat]; have sC := sb_bd (by2 C)[(k).toNat]
        have eA : qz_I h p (k).toNat = sgb (by2 B)[(k).toNat] := ra _ _ (by rw [byS_map, List.getElem?_map, xA]; rfl)
        have eC : qz_I h (gke h) (k).toNat = sgb (by2 C)[(k).toNat] := ky.2 _ _ (by rw [byS_map, List.getElem?_map, xC]; rfl)
        have ls := lcp_st xA xC
        rw [show qz_I h p (k).toNat = sgb (by2 B)[(k).toNat] from eA]
        refine ez_go (n := 1) (pc' := 117) (L' := [(7, .inl (k)), (6, .inl (n9)), (5, .inr (.inr (some (p)))), (0, .inr (.inr (some (770)))), (1, .inl (t)), (2, .inl (u9)), (3, .inl (st)), (4, .inl (1))]) (st' := [.inr (.inr (some (770))), .inl (sgb (by2 B)[(k).toNat])]) rfl ?_
        refine ez_gR hB t770 rfl rfl tq_75 rfl rfl (fun (t14 : _ = 25) (t14' : 1 ≤ qz_I h 770 40) => ?_)
        rw [show qz_P h 770 40 = gke h from rfl]
        refine ez_go (n := 1) (pc' := 122) (L' := [(7, .inl (k)), (6, .inl (n9)), (5, .inr (.inr (some (p)))), (0, .inr (.inr (some (770)))), (1, .inl (t)), (2, .inl (u9)), (3, .inl (st)), (4, .inl (1))]) (st' := [.inl (k), .inr (.inr (some ((gke h)))), .inl (sgb (by2 B)[(k).toNat])]) rfl ?_
        have n16 : 1024 ≤ qz_N h ((gke h)) ∧ qz_N h ((gke h)) ≤ 600100 := ez_len hB tE tq_25 rfl
        refine ez_aI hB tE rfl tq_25 rfl rfl (by omega) (by omega) (fun (b15 : -128 ≤ qz_I h ((gke h)) (k).toNat) (b15' : qz_I h ((gke h)) (k).toNat ≤ 127) => ?_)
        rw [show qz_I h ((gke h)) (k).toNat = sgb (by2 C)[(k).toNat] from eC]
        refine ez_icmp rfl rfl ⟨by first | omega | exact (sz_i32 _).1, by first | omega | exact (sz_i32 _).2⟩ ⟨by first | omega | exact (sz_i32 _).1, by first | omega | exact (sz_i32 _).2⟩ (fun (c17 : (sgb (by2 B)[(k).toNat]) = (sgb (by2 C)[(k).toNat])) => ?_) (fun (c17 : ¬((sgb (by2 B)[(k).toNat]) = (sgb (by2 C)[(k).toNat]))) => ?_)
        · skip
          refine ez_go (n := 2) (pc' := 95) (L' := [(7, .inl (k + 1)), (6, .inl (n9)), (5, .inr (.inr (some (p)))), (0, .inr (.inr (some (770)))), (1, .inl (t)), (2, .inl (u9)), (3, .inl (st)), (4, .inl (1))]) (st' := []) rfl ?_
          refine ez_less [(7, .inl (k + 1)), (6, .inl (n9)), (5, .inr (.inr (some (p)))), (0, .inr (.inr (some (770)))), (1, .inl (t)), (2, .inl (u9)), (3, .inl (st)), (4, .inl (1))] rfl ⟨rfl, rfl, rfl, rfl, rfl, rfl, rfl, rfl, trivial⟩ ?_
          have exy := (sb_inj bA.1 bA.2 bC.1 bC.2).mp (by omega)
          rw [if_pos exy] at ls
          exact ih (k + 1) (by omega) (by omega) (by omega) (by omega) (by rw [hE, ls, show (k + 1).toNat = k.toNat + 1 by omega])
        · skip
          refine ez_go (n := 2) (pc' := 130) (L' := [(7, .inl (k)), (6, .inl (n9)), (5, .inr (.inr (some (p)))), (0, .inr (.inr (some (770)))), (1, .inl (t)), (2, .inl (u9)), (3, .inl (st)), (4, .inl (1))]) (st' := [.inl (k), .inr (.inr (some (p)))]) rfl ?_
          have n19 : 1024 ≤ qz_N h p ∧ qz_N h p ≤ 600100 := ez_len hB tp tq_25 rfl
          refine ez_aI hB tp rfl tq_25 rfl rfl (by omega) (by omega) (fun (b18 : -128 ≤ qz_I h p (k).toNat) (b18' : qz_I h p (k).toNat ≤ 127) => ?_)
          rw [show qz_I h p (k).toNat = sgb (by2 B)[(k).toNat] from eA]
          refine ez_go (n := 3) (pc' := 136) (L' := [(7, .inl (k)), (6, .inl (n9)), (5, .inr (.inr (some (p)))), (0, .inr (.inr (some (770)))), (1, .inl (t)), (2, .inl (u9)), (3, .inl (st)), (4, .inl (1))]) (st' := [.inr (.inr (some (770))), .inl ((Int32.ofInt (sgb (by2 B)[(k).toNat]) &&& Int32.ofInt (255)).toInt)]) rfl ?_
          refine ez_gR hB t770 rfl rfl tq_75 rfl rfl (fun (t20 : _ = 25) (t20' : 1 ≤ qz_I h 770 40) => ?_)
          rw [show qz_P h 770 40 = gke h from rfl]
          refine ez_go (n := 1) (pc' := 141) (L' := [(7, .inl (k)), (6, .inl (n9)), (5, .inr (.inr (some (p)))), (0, .inr (.inr (some (770)))), (1, .inl (t)), (2, .inl (u9)), (3, .inl (st)), (4, .inl (1))]) (st' := [.inl (k), .inr (.inr (some ((gke h)))), .inl ((Int32.ofInt (sgb (by2 B)[(k).toNat]) &&& Int32.ofInt (255)).toInt)]) rfl ?_
          have n22 : 1024 ≤ qz_N h ((gke h)) ∧ qz_N h ((gke h)) ≤ 600100 := ez_len hB tE tq_25 rfl
          refine ez_aI hB tE rfl tq_25 rfl rfl (by omega) (by omega) (fun (b21 : -128 ≤ qz_I h ((gke h)) (k).toNat) (b21' : qz_I h ((gke h)) (k).toNat ≤ 127) => ?_)
          rw [show qz_I h ((gke h)) (k).toNat = sgb (by2 C)[(k).toNat] from eC]
          refine ez_go (n := 2) (pc' := 146) (L' := [(7, .inl (k)), (6, .inl (n9)), (5, .inr (.inr (some (p)))), (0, .inr (.inr (some (770)))), (1, .inl (t)), (2, .inl (u9)), (3, .inl (st)), (4, .inl (1))]) (st' := [.inl ((Int32.ofInt (sgb (by2 C)[(k).toNat]) &&& Int32.ofInt (255)).toInt), .inl ((Int32.ofInt (sgb (by2 B)[(k).toNat]) &&& Int32.ofInt (255)).toInt)]) rfl ?_
          rw [ub_sb (x := (by2 C)[(k).toNat]) (by omega) (by omega)]
          refine ez_icmp rfl rfl ⟨by first | omega | exact (sz_i32 _).1, by first | omega | exact (sz_i32 _).2⟩ ⟨by first | omega | exact (sz_i32 _).1, by first | omega | exact (sz_i32 _).2⟩ (fun (c23 : ((by2 C)[(k).toNat]) ≤ ((Int32.ofInt (sgb (by2 B)[(k).toNat]) &&& Int32.ofInt (255)).toInt)) => ?_) (fun (c23 : ¬(((by2 C)[(k).toNat]) ≤ ((Int32.ofInt (sgb (by2 B)[(k).toNat]) &&& Int32.ofInt (255)).toInt))) => ?_)
          · skip
            refine ez_go (n := 1) (pc' := 154) (L' := [(7, .inl (k)), (6, .inl (n9)), (5, .inr (.inr (some (p)))), (0, .inr (.inr (some (770)))), (1, .inl (t)), (2, .inl (u9)), (3, .inl (st)), (4, .inl (1))]) (st' := [.inl (1)]) rfl ?_
            have ubB9 := ub_sb (x := (by2 B)[(k).toNat]) bA.1 bA.2
            have nxy : (by2 B)[(k).toNat] ≠ (by2 C)[(k).toNat] := fun e => by have := congrArg sgb e; omega
            rw [if_neg nxy, if_neg (by omega)] at ls
            rw [show lcp ((by2 B).drop k.toNat) ((by2 C).drop k.toNat) = lcp (by2 B) (by2 C) from hE.symm] at ls
            rw [ls] at kx
            exact ez_retI rfl rfl kx
          · skip
            refine ez_go (n := 2) (pc' := 154) (L' := [(7, .inl (k)), (6, .inl (n9)), (5, .inr (.inr (some (p)))), (0, .inr (.inr (some (770)))), (1, .inl (t)), (2, .inl (u9)), (3, .inl (st)), (4, .inl (1))]) (st' := [.inl (-1)]) rfl ?_
            have ubB9 := ub_sb (x := (by2 B)[(k).toNat]) bA.1 bA.2
            have nxy : (by2 B)[(k).toNat] ≠ (by2 C)[(k).toNat] := fun e => by have := congrArg sgb e; omega
            rw [if_neg nxy, if_pos (by omega)] at ls
            rw [show lcp ((by2 B).drop k.toNat) ((by2 C).drop k.toNat) = lcp (by2 B) (by2 C) from hE.symm] at ls
            rw [ls] at kx
            exact ez_retI rfl rfl kx

theorem rd_mcmp1 {t u9 st : Int} (hB : ez_B τ h) (hX : jz_X τ) (c : qz_I h 770 7 ≠ 0 → nmC τ h Ls) (hm : mC h Cs) (hK : ∀ x, (0 ≤ x ∧ x ≤ 1114111) → 0 ≤ (vF Ls x).1 ∧ (vF Ls x).1 ≤ 254) (hL : ∀ row e, cLK Cs row = some e → (∀ x ∈ e, eok x) ∧ e.length ≤ 18) (rm : rmc h) (dk : got h ≠ gke h) (sl : slt h) (mxh : mxs h X) (tr : ez_rg t) (u9r : ez_rg u9) (str : ez_rg st) (kA : (t < 0 ∨ 7 < t ∨ u9 < 0 ∨ 7 < u9 ∨ st < 1 ∨ 4 < st) → ∀ g, ez_B τ g → mF h g 1 → Q (.inl (some (ez_v (.inl 0))), g)) (kS : ((0 ≤ t ∧ t ≤ 7) ∧ (0 ≤ u9 ∧ u9 ≤ 7) ∧ 1 ≤ st ∧ st ≤ 4) → qz_I h 770 7 = 0 → ∀ g, ez_B τ g → mF h g 2 → Q (.inl (some (ez_v (.inl 0))), g)) (kX : ((0 ≤ t ∧ t ≤ 7) ∧ (0 ≤ u9 ∧ u9 ≤ 7) ∧ 1 ≤ st ∧ st ≤ 4) → qz_I h 770 7 ≠ 0 → ∀ h1, ez_B τ h1 → mF h h1 0 → (kyN (vF Ls) (X t.toNat) ∨ (∃ W, kyR (vF Ls) (vE Ls) (cLK Cs) (yD Ls) true (X t.toNat) W) ∧ kyN (vF Ls) (X u9.toNat)) → ∀ g2 τ2, ez_B τ2 g2 → nc τ h1 τ2 g2 → got g2 ≠ gke g2 → ∀ g, ez_B τ2 g → mF (xc g2 0) g 3 → Q (.inl (some (ez_v (.inl 0))), g)) (k1 : ((0 ≤ t ∧ t ≤ 7) ∧ (0 ≤ u9 ∧ u9 ≤ 7) ∧ 1 ≤ st ∧ st ≤ 4) → qz_I h 770 7 ≠ 0 → ∀ h1, ez_B τ h1 → mF h h1 0 → ∀ W V, kyR (vF Ls) (vE Ls) (cLK Cs) (yD Ls) true (X t.toNat) W → kyR (vF Ls) (vE Ls) (cLK Cs) (yD Ls) true (X u9.toNat) V → wps W → wps V → ∀ g τ2, ez_B τ2 g → nc τ h1 τ2 g → got g ≠ gke g → Q (.inl (some (ez_v (.inl (lvc W V (lvl true st).toNat)))), g)) : ez_W (d + 10) cm_238 0 [(0, .inr (.inr (some (770)))), (1, .inl (t)), (2, .inl (u9)), (3, .inl (st)), (4, .inl (1))] [] h Q := by
  have t770 : τ 770 = 75 := hX 770 (by decide)
  obtain ⟨tr1, tr2⟩ := id tr
  obtain ⟨u9r1, u9r2⟩ := id u9r
  obtain ⟨str1, str2⟩ := id str
  refine ez_go (n := 2) (pc' := 2) (L' := [(0, .inr (.inr (some (770)))), (1, .inl (t)), (2, .inl (u9)), (3, .inl (st)), (4, .inl (1))]) (st' := [.inl (0), .inr (.inr (some (770)))]) rfl ?_
  refine ez_pf hB t770 rfl rfl tq_75 rfl rfl rfl rfl (ez_vdI rfl rfl (by omega) (by omega)) (fun hB1 w2 => ?_)
  have fP : ez_fr (ez_one 770) h (dz_put h 770 0 (ez_v (.inl (0)))) := (ez_fr.refl (ez_one 770) h).put rfl _ _
  have vP : qz_I (dz_put h 770 0 (ez_v (.inl (0)))) 770 0 = 0 := w2.trans (rz_rd ⟨by omega, by omega⟩)
  have iP : ∀ j, j ≠ 0 → qz_I (dz_put h 770 0 (ez_v (.inl (0)))) 770 j = qz_I h 770 j := fun j hj => ez_put_I (fun w => hj w.2)
  have hP := hB1
  generalize (dz_put h 770 0 (ez_v (.inl (0)))) = h1 at *
  have cP1 := fP.1; have cP2 := fP.2.1
  refine ez_go (n := 2) (pc' := 7) (L' := [(0, .inr (.inr (some (770)))), (1, .inl (t)), (2, .inl (u9)), (3, .inl (st)), (4, .inl (1))]) (st' := [.inl (t), .inr (.inr (some (770)))]) rfl ?_
  refine ez_cv hP t770 rfl rfl rfl tq_75 rfl rfl rfl (rd_mout (show ez_rg (t) by assumption) (fun o1 => ez_K1 ?_) (fun o1 => ez_K1 ?_))
  · skip
    refine ez_if rfl rfl ⟨by decide, by decide⟩ (fun _ => ?_) (fun (c3 : ¬((1 : Int) ≠ (0))) => absurd c3 (by decide))
    refine ez_go (n := 2) (pc' := 33) (L' := [(0, .inr (.inr (some (770)))), (1, .inl (t)), (2, .inl (u9)), (3, .inl (st)), (4, .inl (1))]) (st' := [.inl (1), .inr (.inr (some (770)))]) rfl ?_
    refine ez_cv hP t770 rfl rfl rfl tq_75 rfl rfl rfl (rd_mfail hP t770 (by omega) (by omega) (fun gf hBf ff jf vf0 => ez_K1 ?_))
    exact ez_retI rfl rfl (kA (by omega) gf hBf (mF.trans ⟨fP, iP, vP⟩ ⟨ff, jf, vf0⟩))
  · skip
    refine ez_if rfl rfl ⟨by decide, by decide⟩ (fun (c4 : (0 : Int) ≠ (0)) => absurd c4 (by decide)) (fun _ => ?_)
    refine ez_go (n := 2) (pc' := 15) (L' := [(0, .inr (.inr (some (770)))), (1, .inl (t)), (2, .inl (u9)), (3, .inl (st)), (4, .inl (1))]) (st' := [.inl (u9), .inr (.inr (some (770)))]) rfl ?_
    refine ez_cv hP t770 rfl rfl rfl tq_75 rfl rfl rfl (rd_mout (show ez_rg (u9) by assumption) (fun o2 => ez_K1 ?_) (fun o2 => ez_K1 ?_))
    · skip
      refine ez_if rfl rfl ⟨by decide, by decide⟩ (fun _ => ?_) (fun (c5 : ¬((1 : Int) ≠ (0))) => absurd c5 (by decide))
      refine ez_go (n := 2) (pc' := 33) (L' := [(0, .inr (.inr (some (770)))), (1, .inl (t)), (2, .inl (u9)), (3, .inl (st)), (4, .inl (1))]) (st' := [.inl (1), .inr (.inr (some (770)))]) rfl ?_
      refine ez_cv hP t770 rfl rfl rfl tq_75 rfl rfl rfl (rd_mfail hP t770 (by omega) (by omega) (fun gf hBf ff jf vf0 => ez_K1 ?_))
      exact ez_retI rfl rfl (kA (by omega) gf hBf (mF.trans ⟨fP, iP, vP⟩ ⟨ff, jf, vf0⟩))
    · skip
      refine ez_if rfl rfl ⟨by decide, by decide⟩ (fun (c6 : (0 : Int) ≠ (0)) => absurd c6 (by decide)) (fun _ => ?_)
      refine ez_go (n := 2) (pc' := 23) (L' := [(0, .inr (.inr (some (770)))), (1, .inl (t)), (2, .inl (u9)), (3, .inl (st)), (4, .inl (1))]) (st' := [.inl (1), .inl (st)]) rfl ?_
      refine ez_icmp rfl rfl ⟨by first | omega | exact (sz_i32 _).1, by first | omega | exact (sz_i32 _).2⟩ ⟨by first | omega | exact (sz_i32 _).1, by first | omega | exact (sz_i32 _).2⟩ (fun (c7 : (st) < (1)) => ?_) (fun (c7 : ¬((st) < (1))) => ?_)
      · skip
        refine ez_go (n := 2) (pc' := 33) (L' := [(0, .inr (.inr (some (770)))), (1, .inl (t)), (2, .inl (u9)), (3, .inl (st)), (4, .inl (1))]) (st' := [.inl (1), .inr (.inr (some (770)))]) rfl ?_
        refine ez_cv hP t770 rfl rfl rfl tq_75 rfl rfl rfl (rd_mfail hP t770 (by omega) (by omega) (fun gf hBf ff jf vf0 => ez_K1 ?_))
        exact ez_retI rfl rfl (kA (by omega) gf hBf (mF.trans ⟨fP, iP, vP⟩ ⟨ff, jf, vf0⟩))
      · skip
        refine ez_go (n := 2) (pc' := 28) (L' := [(0, .inr (.inr (some (770)))), (1, .inl (t)), (2, .inl (u9)), (3, .inl (st)), (4, .inl (1))]) (st' := [.inl (4), .inl (st)]) rfl ?_
        refine ez_icmp rfl rfl ⟨by first | omega | exact (sz_i32 _).1, by first | omega | exact (sz_i32 _).2⟩ ⟨by first | omega | exact (sz_i32 _).1, by first | omega | exact (sz_i32 _).2⟩ (fun (c8 : (st) ≤ (4)) => ?_) (fun (c8 : ¬((st) ≤ (4))) => ?_)
        · skip
          refine ez_go (n := 1) (pc' := 38) (L' := [(0, .inr (.inr (some (770)))), (1, .inl (t)), (2, .inl (u9)), (3, .inl (st)), (4, .inl (1))]) (st' := [.inr (.inr (some (770)))]) rfl ?_
          refine ez_gI hP t770 rfl rfl tq_75 rfl rfl (fun (b9 : 0 ≤ qz_I h1 770 7) (b9' : qz_I h1 770 7 ≤ 1) => ?_)
          refine ez_if rfl rfl ⟨by first | omega | exact (sz_i32 _).1, by first | omega | exact (sz_i32 _).2⟩ (fun (c10 : (qz_I h1 770 7) ≠ (0)) => ?_) (fun (c10 : ¬((qz_I h1 770 7) ≠ (0))) => ?_)
          · skip
            have c1 := f7C (c (by rw [← iP 7 (by decide)]; assumption)) hP fP iP
            have hm1 := hm.f7 (c (by rw [← iP 7 (by decide)]; assumption)).1 fP iP
            have z7 := zz_f7 hB hX fP iP
            have rm1 : rmc h1 := ⟨by rw [z7.1, fP.2.1]; exact rm.1, by rw [z7.1, fP.1]; exact rm.2⟩
            have rd1 := rmc_rd hP hX rm1
            have dk1 : got h1 ≠ gke h1 := by rw [z7.2.1, z7.2.2]; exact dk
            have k1P : ∀ q, q ≠ 770 → h1.2.2 q = h.2.2 q := fun q hq => fP.2.2 q (dz_beq_ne hq)
            have sl1 : slt h1 := sl.k (k1P 195 (by decide)) (k1P 773 (by decide))
            have mx1 : mxs h1 X := mxh.k (fun q hq => k1P q (by omega))
            have lb := lvl_bd (sh := true) (st := st) (by omega) (by omega)
            refine ez_go (n := 4) (pc' := 55) (L' := [(0, .inr (.inr (some (770)))), (1, .inl (t)), (2, .inl (u9)), (3, .inl (st)), (4, .inl (1))]) (st' := [.inl (1), .inl (st), .inl (t), .inr (.inr (some (770)))]) rfl ?_
            have mt := mx1 (t).toNat (by omega)
            refine ez_cv hP t770 rfl rfl rfl tq_75 rfl rfl rfl (rd_kf1 c1 hm1 hK hL rm1 dk1 sl1 (by omega) (by omega) mt.1 mt.2.1 mt.2.2 (by omega) (by omega) (fun W ky W9 WL g2 τ2 B2 n2 kt2 => ez_K0 ?_) (fun kn g2 τ2 B2 nk2 => ez_Kc (xc_exc B2 rfl) rfl ?_))
            · have X2 := n2.1.X hX
              have u770 : τ2 770 = 75 := X2 770 (by decide)
              have kb9 : (KY W (lvl true st).toNat).length ≤ 200000 := KY_bd (by omega) WL
              have tk2 := (ez_tg5 B2 u770)
              have pb39 : 1 ≤ qz_I g2 770 39 ∧ qz_I g2 770 39 ≤ 1000000 := ez_fB (cl := 11) (k := 39) B2 u770 tq_75 rfl rfl (by decide)
              have pb40 : 1 ≤ qz_I g2 770 40 ∧ qz_I g2 770 40 ≤ 1000000 := ez_fB (cl := 11) (k := 40) B2 u770 tq_75 rfl rfl (by decide)
              have pe39 := tk2.1.2.2.2.1
              have pe40 := tk2.1.2.2.2.2
              refine ez_go (n := 1) (pc' := 59) (L' := [(0, .inr (.inr (some (770)))), (1, .inl (t)), (2, .inl (u9)), (3, .inl (st)), (4, .inl (1))]) (st' := [.inr (.inr (some (770)))]) rfl ?_
              refine ez_gR B2 u770 rfl rfl tq_75 rfl rfl (fun (t11 : _ = 25) (t11' : 1 ≤ qz_I g2 770 40) => ?_)
              rw [show qz_P g2 770 40 = gke g2 from rfl]
              refine ez_go (n := 2) (pc' := 65) (L' := [(5, .inr (.inr (some ((gke g2))))), (0, .inr (.inr (some (770)))), (1, .inl (t)), (2, .inl (u9)), (3, .inl (st)), (4, .inl (1))]) (st' := [.inr (.inr (some (770)))]) rfl ?_
              refine ez_gI B2 u770 rfl rfl tq_75 rfl rfl (fun (b12 : 0 ≤ qz_I g2 770 41) (b12' : qz_I g2 770 41 ≤ 300000) => ?_)
              rw [show qz_I g2 770 41 = 2 * ((KY W (lvl true st).toNat).length : Int) from kt2.1.1]
              refine ez_go (n := 3) (pc' := 72) (L' := [(6, .inl (2 * ((KY W (lvl true st).toNat).length : Int))), (5, .inr (.inr (some ((gke g2))))), (0, .inr (.inr (some (770)))), (1, .inl (t)), (2, .inl (u9)), (3, .inl (st)), (4, .inl (1))]) (st' := [.inr (.inr (some (770))), .inr (.inr (some (770)))]) rfl ?_
              refine ez_gR B2 u770 rfl rfl tq_75 rfl rfl (fun (t13 : _ = 25) (t13' : 1 ≤ qz_I g2 770 39) => ?_)
              rw [show qz_P g2 770 39 = got g2 from rfl]
              refine ez_pf B2 u770 rfl rfl tq_75 rfl rfl rfl rfl (ez_vdR rfl tk2.2.2.2.2.1 (by omega) (by omega)) (fun hB14 w15 => ?_)
              refine ez_go (n := 2) (pc' := 81) (L' := [(6, .inl (2 * ((KY W (lvl true st).toNat).length : Int))), (5, .inr (.inr (some ((gke g2))))), (0, .inr (.inr (some (770)))), (1, .inl (t)), (2, .inl (u9)), (3, .inl (st)), (4, .inl (1))]) (st' := [.inr (.inr (some ((gke g2)))), .inr (.inr (some (770)))]) rfl ?_
              refine ez_pf hB14 u770 rfl rfl tq_75 rfl rfl rfl rfl (ez_vdR rfl tk2.2.2.2.2.2 (by omega) (by omega)) (fun hB16 w17 => ?_)
              have p40 : qz_I (dz_put (dz_put g2 770 40 (ez_v (.inr (.inr (some ((got g2))))))) 770 39 (ez_v (.inr (.inr (some ((gke g2))))))) 770 40 = (got g2 : Int) + 1 := (ez_put_I (fun w => absurd w.2 (by decide))).trans w15
              have p39 : qz_I (dz_put (dz_put g2 770 40 (ez_v (.inr (.inr (some ((got g2))))))) 770 39 (ez_v (.inr (.inr (some ((gke g2))))))) 770 39 = (gke g2 : Int) + 1 := w17
              have oj3 : ∀ j, j ≠ 39 → j ≠ 40 → qz_I (dz_put (dz_put g2 770 40 (ez_v (.inr (.inr (some ((got g2))))))) 770 39 (ez_v (.inr (.inr (some ((gke g2))))))) 770 j = qz_I g2 770 j := fun j a b => (ez_put_I (fun w => a w.2)).trans (ez_put_I (fun w => b w.2))
              have c3c : ∀ q, q ≠ 770 → ((dz_put (dz_put g2 770 40 (ez_v (.inr (.inr (some ((got g2))))))) 770 39 (ez_v (.inr (.inr (some ((gke g2)))))))).2.2 q = g2.2.2 q := fun q hq => by rw [qz_put_at _ _ _ _ hq, qz_put_at _ _ _ _ hq]
              have r31 : ((dz_put (dz_put g2 770 40 (ez_v (.inr (.inr (some ((got g2))))))) 770 39 (ez_v (.inr (.inr (some ((gke g2)))))))).1 = g2.1 := rfl
              have r32 : ((dz_put (dz_put g2 770 40 (ez_v (.inr (.inr (some ((got g2))))))) 770 39 (ez_v (.inr (.inr (some ((gke g2)))))))).2.1 = g2.2.1 := rfl
              have B3 := hB16
              generalize (dz_put (dz_put g2 770 40 (ez_v (.inr (.inr (some ((got g2))))))) 770 39 (ez_v (.inr (.inr (some ((gke g2))))))) = g3 at *
              have ot3 : got g3 = gke g2 := by unfold got qz_P; rw [p39]; omega
              have ke3 : gke g3 = got g2 := by unfold gke qz_P; rw [p40]; omega
              have dk3 : got g3 ≠ gke g3 := by rw [ot3, ke3]; exact (n2.dk hP hX dk1).symm
              have s23 : nc τ2 g2 τ2 g3 := by
                obtain ⟨-, q1, q2, q3, q4, q5⟩ := tk2
                have N3 : ∀ q, τ2 q ≠ 75 → qz_N g3 q = qz_N g2 q := fun q hq => by unfold qz_N; rw [c3c q (fun e => hq (by rw [e]; exact u770))]
                have p0 : sk g3 = sk g2 := by unfold sk qz_P; rw [oj3 24 (by decide) (by decide)]
                have p1 : gel g3 = gel g2 := by unfold gel qz_P; rw [oj3 35 (by decide) (by decide)]
                have p2 : gfo g3 = gfo g2 := by unfold gfo qz_P; rw [oj3 38 (by decide) (by decide)]
                have ez : zz g3 = zz g2 := by
                  unfold zz; rw [p0, p1, p2, ot3, ke3, N3 (sk g2) (by rw [q1]; decide), N3 (gel g2) (by rw [q2]; decide), N3 (gfo g2) (by rw [q3]; decide), N3 (got g2) (by rw [q4]; decide), N3 (gke g2) (by rw [q5]; decide)]; omega
                refine ⟨fun q _ => ⟨rfl, fun a _ _ => c3c q a⟩, fun q a b => absurd a b, fun j hj => oj3 j (fun e => by rw [e] at hj; exact absurd hj (by decide)) (fun e => by rw [e] at hj; exact absurd hj (by decide)), by rw [ez, r31, r32]; omega, by omega, fun w => ?_, fun w => ?_⟩
                · rw [oj3 25 (by decide) (by decide), p0, N3 (sk g2) (by rw [q1]; decide)]; exact w
                · rw [oj3 36 (by decide) (by decide), p1, N3 (gel g2) (by rw [q2]; decide)]; exact w
              refine ez_go (n := 4) (pc' := 89) (L' := [(6, .inl (2 * ((KY W (lvl true st).toNat).length : Int))), (5, .inr (.inr (some ((gke g2))))), (0, .inr (.inr (some (770)))), (1, .inl (t)), (2, .inl (u9)), (3, .inl (st)), (4, .inl (1))]) (st' := [.inl (1), .inl (st), .inl (u9), .inr (.inr (some (770)))]) rfl ?_
              have a23 := n2.1.trans s23
              have c3 := c1.c a23 B3
              have hm3 := a23.mCx c1.1 hm1
              have rm3 := a23.rm rm1
              have rd3 := rmc_rd B3 X2 rm3
              have sl3 := a23.sl hX sl1
              have mt3 := a23.mx hX mx1 (u9).toNat (by omega)
              refine ez_cv B3 u770 rfl rfl rfl tq_75 rfl rfl rfl (rd_kf1 c3 hm3 hK hL rm3 dk3 sl3 (by omega) (by omega) mt3.1 mt3.2.1 mt3.2.2 (by omega) (by omega) (fun V kv V9 VL g4 τ4 B4 n4 kt4 => ez_K0 ?_) (fun kn g4 τ4 B4 nk4 => ez_Kc (xc_exc B4 rfl) rfl ?_))
              · have X4 := n4.1.X X2
                have v770 : τ4 770 = 75 := X4 770 (by decide)
                have kb8 : (KY V (lvl true st).toNat).length ≤ 200000 := KY_bd (by omega) VL
                have tp2 : τ2 (gke g2) = 25 := tk2.2.2.2.2.2
                have tp4 : τ4 (gke g2) = 25 := (n4.1.1 _ (by rw [tp2]; decide)).1.trans tp2
                have cp4 : g4.2.2 (gke g2) = g2.2.2 (gke g2) := by have w := n4.2.2.2; rw [ot3] at w; exact w.trans (c3c _ (fun e => by rw [e, u770] at tp2; cases tp2))
                have ra4 : rsb g4 (gke g2) (byS (KY W (lvl true st).toNat)) := fun j v hv => by rw [show qz_I g4 (gke g2) j = qz_I g2 (gke g2) j by unfold qz_I; rw [cp4]]; exact kt2.2 j v hv
                have np4 : 2 * ((KY W (lvl true st).toNat).length : Int) ≤ qz_N g4 (gke g2) := by rw [show qz_N g4 (gke g2) = qz_N g2 (gke g2) by unfold qz_N; rw [cp4]]; exact kt2.1.2
                refine ez_go (n := 2) (pc' := 95) (L' := [(7, .inl (0)), (6, .inl (2 * ((KY W (lvl true st).toNat).length : Int))), (5, .inr (.inr (some ((gke g2))))), (0, .inr (.inr (some (770)))), (1, .inl (t)), (2, .inl (u9)), (3, .inl (st)), (4, .inl (1))]) (st' := []) rfl ?_
                refine ez_less [(7, .inl (0)), (6, .inl (2 * ((KY W (lvl true st).toNat).length : Int))), (5, .inr (.inr (some ((gke g2))))), (0, .inr (.inr (some (770)))), (1, .inl (t)), (2, .inl (u9)), (3, .inl (st)), (4, .inl (1))] rfl ⟨rfl, rfl, rfl, rfl, rfl, rfl, rfl, rfl, trivial⟩ ?_
                refine rd_mcm_l1 (h := g4) (B := KY W (lvl true st).toNat) (C := KY V (lvl true st).toNat) B4 v770 tp4 ra4 np4 kt4 (KY_w W9 _) (KY_w V9 _) rfl (by omega) (by omega) ?_ _ 0 rfl (by omega) (by omega) (by omega) (by rw [show (0 : Int).toNat = 0 from rfl, List.drop_zero, List.drop_zero])
                rw [lcp_by, KY_lvc W9 V9 _ (by omega)]
                exact k1 (by omega) (by rw [← iP 7 (by decide)]; assumption) h1 hP ⟨fP, iP, vP⟩ W V ky kv W9 V9 g4 τ4 B4 (a23.trans n4.1) (n4.dk B3 X2 dk3)
              · have v770 : τ4 770 = 75 := nk4.X X2 770 (by decide)
                have rm4 := nk4.rm B3 B4 (X2 770 (by decide)) v770
                have hBx : ez_B τ4 (xc g4 0) := xc_B B4 (by omega) (by omega)
                refine ez_go (n := 3) (pc' := 193) (L' := [(5, .inr (.inr (some (g4.1)))), (6, .inl (2 * ((KY W (lvl true st).toNat).length : Int))), (0, .inr (.inr (some (770)))), (1, .inl (t)), (2, .inl (u9)), (3, .inl (st)), (4, .inl (1))]) (st' := [.inl (3), .inr (.inr (some (770)))]) rfl ?_
                refine ez_cv hBx v770 rfl rfl rfl tq_75 rfl rfl rfl (rd_mfail hBx v770 (by omega) (by omega) (fun gf hBf ff jf vf0 => ez_K1 ?_))
                exact ez_retI rfl rfl (kX (by omega) (by rw [← iP 7 (by decide)]; assumption) h1 hP ⟨fP, iP, vP⟩ (Or.inr ⟨⟨W, ky⟩, kn⟩) g4 τ4 B4 (a23.trans (nc.ofk B3 X2 nk4)) (by rw [(show got g4 = got g3 by unfold got qz_P; rw [nk4.2.2.1 39 (by decide) (by decide) (by decide)]), (show gke g4 = gke g3 by unfold gke qz_P; rw [nk4.2.2.1 40 (by decide) (by decide) (by decide)])]; exact dk3) gf hBf ⟨ff, jf, vf0⟩)
            · have v770 : τ2 770 = 75 := nk2.X hX 770 (by decide)
              have rm2 := nk2.rm c1.1.1 B2 (hX 770 (by decide)) v770
              have hBx : ez_B τ2 (xc g2 0) := xc_B B2 (by omega) (by omega)
              refine ez_go (n := 3) (pc' := 193) (L' := [(5, .inr (.inr (some (g2.1)))), (0, .inr (.inr (some (770)))), (1, .inl (t)), (2, .inl (u9)), (3, .inl (st)), (4, .inl (1))]) (st' := [.inl (3), .inr (.inr (some (770)))]) rfl ?_
              refine ez_cv hBx v770 rfl rfl rfl tq_75 rfl rfl rfl (rd_mfail hBx v770 (by omega) (by omega) (fun gf hBf ff jf vf0 => ez_K1 ?_))
              exact ez_retI rfl rfl (kX (by omega) (by rw [← iP 7 (by decide)]; assumption) h1 hP ⟨fP, iP, vP⟩ (Or.inl kn) g2 τ2 B2 (nc.ofk hP hX nk2) (by rw [(show got g2 = got h1 by unfold got qz_P; rw [nk2.2.2.1 39 (by decide) (by decide) (by decide)]), (show gke g2 = gke h1 by unfold gke qz_P; rw [nk2.2.2.1 40 (by decide) (by decide) (by decide)])]; exact dk1) gf hBf ⟨ff, jf, vf0⟩)
          · skip
            refine ez_go (n := 2) (pc' := 46) (L' := [(0, .inr (.inr (some (770)))), (1, .inl (t)), (2, .inl (u9)), (3, .inl (st)), (4, .inl (1))]) (st' := [.inl (2), .inr (.inr (some (770)))]) rfl ?_
            refine ez_cv hP t770 rfl rfl rfl tq_75 rfl rfl rfl (rd_mfail hP t770 (by omega) (by omega) (fun gf hBf ff jf vf0 => ez_K1 ?_))
            exact ez_retI rfl rfl (kS (by omega) (by rw [← iP 7 (by decide)]; omega) gf hBf (mF.trans ⟨fP, iP, vP⟩ ⟨ff, jf, vf0⟩))
        · skip
          refine ez_go (n := 2) (pc' := 33) (L' := [(0, .inr (.inr (some (770)))), (1, .inl (t)), (2, .inl (u9)), (3, .inl (st)), (4, .inl (1))]) (st' := [.inl (1), .inr (.inr (some (770)))]) rfl ?_
          refine ez_cv hP t770 rfl rfl rfl tq_75 rfl rfl rfl (rd_mfail hP t770 (by omega) (by omega) (fun gf hBf ff jf vf0 => ez_K1 ?_))
          exact ez_retI rfl rfl (kA (by omega) gf hBf (mF.trans ⟨fP, iP, vP⟩ ⟨ff, jf, vf0⟩))

theorem rd_mcm_l0 {t u9 st n9 : Int} {p : Nat} (hB : ez_B τ h) (t770 : τ 770 = 75) (tp : τ p = 25) (ra : rsb h p (byS B)) (np : 2 * (B.length : Int) ≤ qz_N h p) (ky : kyt h C) (hb1 : ∀ w ∈ B, 0 ≤ w ∧ w ≤ 65535) (hb2 : ∀ w ∈ C, 0 ≤ w ∧ w ≤ 65535) (n9e : n9 = 2 * (B.length : Int)) (b9 : B.length ≤ 200000) (c9 : C.length ≤ 200000) (kx : Q (.inl (some (ez_v (.inl (lcp (by2 B) (by2 C))))), h)) : ∀ (m : Nat) (k : Int), m = (2 * (B.length : Int) - k).toNat → 0 ≤ k → k ≤ 2 * (B.length : Int) → k ≤ 2 * (C.length : Int) → lcp (by2 B) (by2 C) = lcp ((by2 B).drop k.toNat) ((by2 C).drop k.toNat) → ez_W d cm_238 95 [(7, .inl (k)), (6, .inl (n9)), (5, .inr (.inr (some (p)))), (0, .inr (.inr (some (770)))), (1, .inl (t)), (2, .inl (u9)), (3, .inl (st)), (4, .inl (0))] [] h Q := by
  have tE := ez_tke hB t770
  intro m
  induction m with
  | zero =>
    intro k hm0 k0 k1 k2 hE
    have kyn := ky.1.2
    refine ez_go (n := 2) (pc' := 99) (L' := [(7, .inl (k)), (6, .inl (n9)), (5, .inr (.inr (some (p)))), (0, .inr (.inr (some (770)))), (1, .inl (t)), (2, .inl (u9)), (3, .inl (st)), (4, .inl (0))]) (st' := [.inl (n9), .inl (k)]) rfl ?_
    refine ez_icmp rfl rfl ⟨by first | omega | exact (sz_i32 _).1, by first | omega | exact (sz_i32 _).2⟩ ⟨by first | omega | exact (sz_i32 _).1, by first | omega | exact (sz_i32 _).2⟩ (fun (c1 : (n9) ≤ (k)) => ?_) (fun (c1 : ¬((n9) ≤ (k))) => ?_)
    · skip
      refine ez_go (n := 2) (pc' := 164) (L' := [(7, .inl (k)), (6, .inl (n9)), (5, .inr (.inr (some (p)))), (0, .inr (.inr (some (770)))), (1, .inl (t)), (2, .inl (u9)), (3, .inl (st)), (4, .inl (0))]) (st' := [.inr (.inr (some (770))), .inl (n9)]) rfl ?_
      refine ez_gI hB t770 rfl rfl tq_75 rfl rfl (fun (b2 : 0 ≤ qz_I h 770 41) (b2' : qz_I h 770 41 ≤ 300000) => ?_)
      rw [show qz_I h 770 41 = 2 * (C.length : Int) from ky.1.1]
      refine ez_icmp rfl rfl ⟨by first | omega | exact (sz_i32 _).1, by first | omega | exact (sz_i32 _).2⟩ ⟨by first | omega | exact (sz_i32 _).1, by first | omega | exact (sz_i32 _).2⟩ (fun (c3 : (2 * (C.length : Int)) ≤ (n9)) => ?_) (fun (c3 : ¬((2 * (C.length : Int)) ≤ (n9))) => ?_)
      · skip
        refine ez_go (n := 2) (pc' := 177) (L' := [(7, .inl (k)), (6, .inl (n9)), (5, .inr (.inr (some (p)))), (0, .inr (.inr (some (770)))), (1, .inl (t)), (2, .inl (u9)), (3, .inl (st)), (4, .inl (0))]) (st' := [.inr (.inr (some (770))), .inl (n9)]) rfl ?_
        refine ez_gI hB t770 rfl rfl tq_75 rfl rfl (fun (b4 : 0 ≤ qz_I h 770 41) (b4' : qz_I h 770 41 ≤ 300000) => ?_)
        rw [show qz_I h 770 41 = 2 * (C.length : Int) from ky.1.1]
        refine ez_icmp rfl rfl ⟨by first | omega | exact (sz_i32 _).1, by first | omega | exact (sz_i32 _).2⟩ ⟨by first | omega | exact (sz_i32 _).1, by first | omega | exact (sz_i32 _).2⟩ (fun (c5 : (n9) ≤ (2 * (C.length : Int))) => ?_) (fun (c5 : ¬((n9) ≤ (2 * (C.length : Int)))) => ?_)
        · skip
          refine ez_go (n := 1) (pc' := 188) (L' := [(7, .inl (k)), (6, .inl (n9)), (5, .inr (.inr (some (p)))), (0, .inr (.inr (some (770)))), (1, .inl (t)), (2, .inl (u9)), (3, .inl (st)), (4, .inl (0))]) (st' := [.inl (0)]) rfl ?_
          have l2A := by2_len B; have l2C := by2_len C
          have ls := lcp_en (A := by2 B) (B := by2 C) (k := k.toNat) (by omega) (by omega) (by omega)
          rw [if_neg (by omega), if_neg (by omega), ← hE] at ls
          rw [ls] at kx
          exact ez_retI rfl rfl kx
        · skip
          refine ez_go (n := 2) (pc' := 188) (L' := [(7, .inl (k)), (6, .inl (n9)), (5, .inr (.inr (some (p)))), (0, .inr (.inr (some (770)))), (1, .inl (t)), (2, .inl (u9)), (3, .inl (st)), (4, .inl (0))]) (st' := [.inl (1)]) rfl ?_
          have l2A := by2_len B; have l2C := by2_len C
          have ls := lcp_en (A := by2 B) (B := by2 C) (k := k.toNat) (by omega) (by omega) (by omega)
          rw [if_neg (by omega), if_pos (by omega), ← hE] at ls
          rw [ls] at kx
          exact ez_retI rfl rfl kx
      · skip
        refine ez_go (n := 2) (pc' := 188) (L' := [(7, .inl (k)), (6, .inl (n9)), (5, .inr (.inr (some (p)))), (0, .inr (.inr (some (770)))), (1, .inl (t)), (2, .inl (u9)), (3, .inl (st)), (4, .inl (0))]) (st' := [.inl (-1)]) rfl ?_
        have l2A := by2_len B; have l2C := by2_len C
        have ls := lcp_en (A := by2 B) (B := by2 C) (k := k.toNat) (by omega) (by omega) (by omega)
        rw [if_pos (by omega), ← hE] at ls
        rw [ls] at kx
        exact ez_retI rfl rfl kx
    · skip
      refine ez_go (n := 2) (pc' := 105) (L' := [(7, .inl (k)), (6, .inl (n9)), (5, .inr (.inr (some (p)))), (0, .inr (.inr (some (770)))), (1, .inl (t)), (2, .inl (u9)), (3, .inl (st)), (4, .inl (0))]) (st' := [.inr (.inr (some (770))), .inl (k)]) rfl ?_
      refine ez_gI hB t770 rfl rfl tq_75 rfl rfl (fun (b6 : 0 ≤ qz_I h 770 41) (b6' : qz_I h 770 41 ≤ 300000) => ?_)
      rw [show qz_I h 770 41 = 2 * (C.length : Int) from ky.1.1]
      refine ez_icmp rfl rfl ⟨by first | omega | exact (sz_i32 _).1, by first | omega | exact (sz_i32 _).2⟩ ⟨by first | omega | exact (sz_i32 _).1, by first | omega | exact (sz_i32 _).2⟩ (fun (c7 : (2 * (C.length : Int)) ≤ (k)) => ?_) (fun (c7 : ¬((2 * (C.length : Int)) ≤ (k))) => ?_)
      · skip
        refine ez_go (n := 2) (pc' := 164) (L' := [(7, .inl (k)), (6, .inl (n9)), (5, .inr (.inr (some (p)))), (0, .inr (.inr (some (770)))), (1, .inl (t)), (2, .inl (u9)), (3, .inl (st)), (4, .inl (0))]) (st' := [.inr (.inr (some (770))), .inl (n9)]) rfl ?_
        refine ez_gI hB t770 rfl rfl tq_75 rfl rfl (fun (b8 : 0 ≤ qz_I h 770 41) (b8' : qz_I h 770 41 ≤ 300000) => ?_)
        rw [show qz_I h 770 41 = 2 * (C.length : Int) from ky.1.1]
        refine ez_icmp rfl rfl ⟨by first | omega | exact (sz_i32 _).1, by first | omega | exact (sz_i32 _).2⟩ ⟨by first | omega | exact (sz_i32 _).1, by first | omega | exact (sz_i32 _).2⟩ (fun (c9 : (2 * (C.length : Int)) ≤ (n9)) => ?_) (fun (c9 : ¬((2 * (C.length : Int)) ≤ (n9))) => ?_)
        · skip
          refine ez_go (n := 2) (pc' := 177) (L' := [(7, .inl (k)), (6, .inl (n9)), (5, .inr (.inr (some (p)))), (0, .inr (.inr (some (770)))), (1, .inl (t)), (2, .inl (u9)), (3, .inl (st)), (4, .inl (0))]) (st' := [.inr (.inr (some (770))), .inl (n9)]) rfl ?_
          refine ez_gI hB t770 rfl rfl tq_75 rfl rfl (fun (b10 : 0 ≤ qz_I h 770 41) (b10' : qz_I h 770 41 ≤ 300000) => ?_)
          rw [show qz_I h 770 41 = 2 * (C.length : Int) from ky.1.1]
          refine ez_icmp rfl rfl ⟨by first | omega | exact (sz_i32 _).1, by first | omega | exact (sz_i32 _).2⟩ ⟨by first | omega | exact (sz_i32 _).1, by first | omega | exact (sz_i32 _).2⟩ (fun (c11 : (n9) ≤ (2 * (C.length : Int))) => ?_) (fun (c11 : ¬((n9) ≤ (2 * (C.length : Int)))) => ?_)
          · skip
            refine ez_go (n := 1) (pc' := 188) (L' := [(7, .inl (k)), (6, .inl (n9)), (5, .inr (.inr (some (p)))), (0, .inr (.inr (some (770)))), (1, .inl (t)), (2, .inl (u9)), (3, .inl (st)), (4, .inl (0))]) (st' := [.inl (0)]) rfl ?_
            have l2A := by2_len B; have l2C := by2_len C
            have ls := lcp_en (A := by2 B) (B := by2 C) (k := k.toNat) (by omega) (by omega) (by omega)
            rw [if_neg (by omega), if_neg (by omega), ← hE] at ls
            rw [ls] at kx
            exact ez_retI rfl rfl kx
          · skip
            refine ez_go (n := 2) (pc' := 188) (L' := [(7, .inl (k)), (6, .inl (n9)), (5, .inr (.inr (some (p)))), (0, .inr (.inr (some (770)))), (1, .inl (t)), (2, .inl (u9)), (3, .inl (st)), (4, .inl (0))]) (st' := [.inl (1)]) rfl ?_
            have l2A := by2_len B; have l2C := by2_len C
            have ls := lcp_en (A := by2 B) (B := by2 C) (k := k.toNat) (by omega) (by omega) (by omega)
            rw [if_neg (by omega), if_pos (by omega), ← hE] at ls
            rw [ls] at kx
            exact ez_retI rfl rfl kx
        · skip
          refine ez_go (n := 2) (pc' := 188) (L' := [(7, .inl (k)), (6, .inl (n9)), (5, .inr (.inr (some (p)))), (0, .inr (.inr (some (770)))), (1, .inl (t)), (2, .inl (u9)), (3, .inl (st)), (4, .inl (0))]) (st' := [.inl (-1)]) rfl ?_
          have l2A := by2_len B; have l2C := by2_len C
          have ls := lcp_en (A := by2 B) (B := by2 C) (k := k.toNat) (by omega) (by omega) (by omega)
          rw [if_pos (by omega), ← hE] at ls
          rw [ls] at kx
          exact ez_retI rfl rfl kx
      · skip
        refine ez_go (n := 2) (pc' := 115) (L' := [(7, .inl (k)), (6, .inl (n9)), (5, .inr (.inr (some (p)))), (0, .inr (.inr (some (770)))), (1, .inl (t)), (2, .inl (u9)), (3, .inl (st)), (4, .inl (0))]) (st' := [.inl (k), .inr (.inr (some (p)))]) rfl ?_
        have n13 : 1024 ≤ qz_N h p ∧ qz_N h p ≤ 600100 := ez_len hB tp tq_25 rfl
        refine ez_aI hB tp rfl tq_25 rfl rfl (by omega) (by omega) (fun (b12 : -128 ≤ qz_I h p (k).toNat) (b12' : qz_I h p (k).toNat ≤ 127) => ?_)
        have lA := byS_len B; have lC := byS_len C; have l2A := by2_len B; have l2C := by2_len C
        have jA : (k).toNat < (by2 B).length := by omega
        have jC : (k).toNat < (by2 C).length := by omega
        have xA := List.getElem?_eq_getElem jA
        have xC := List.getElem?_eq_getElem jC
        have bA := by2_bd hb1 _ (List.getElem_mem jA)
        have bC := by2_bd hb2 _ (List.getElem_mem jC)
        have sA := sb_bd (by2 B)[(k).toNat]; have sC := sb_bd (by2 C)[(k).toNat]
        have eA : qz_I h p (k).toNat = sgb (by2 B)[(k).toNat] := ra _ _ (by rw [byS_map, List.getElem?_map, xA]; rfl)
        have eC : qz_I h (gke h) (k).toNat = sgb (by2 C)[(k).toNat] := ky.2 _ _ (by rw [byS_map, List.getElem?_map, xC]; rfl)
        have ls := lcp_st xA xC
        rw [show qz_I h p (k).toNat = sgb (by2 B)[(k).toNat] from eA]
        refine ez_go (n := 1) (pc' := 117) (L' := [(7, .inl (k)), (6, .inl (n9)), (5, .inr (.inr (some (p)))), (0, .inr (.inr (some (770)))), (1, .inl (t)), (2, .inl (u9)), (3, .inl (st)), (4, .inl (0))]) (st' := [.inr (.inr (some (770))), .inl (sgb (by2 B)[(k).toNat])]) rfl ?_
        refine ez_gR hB t770 rfl rfl tq_75 rfl rfl (fun (t14 : _ = 25) (t14' : 1 ≤ qz_I h 770 40) => ?_)
        rw [show qz_P h 770 40 = gke h from rfl]
        refine ez_go (n := 1) (pc' := 122) (L' := [(7, .inl (k)), (6, .inl (n9)), (5, .inr (.inr (some (p)))), (0, .inr (.inr (some (770)))), (1, .inl (t)), (2, .inl (u9)), (3, .inl (st)), (4, .inl (0))]) (st' := [.inl (k), .inr (.inr (some ((gke h)))), .inl (sgb (by2 B)[(k).toNat])]) rfl ?_
        have n16 : 1024 ≤ qz_N h ((gke h)) ∧ qz_N h ((gke h)) ≤ 600100 := ez_len hB tE tq_25 rfl
        refine ez_aI hB tE rfl tq_25 rfl rfl (by omega) (by omega) (fun (b15 : -128 ≤ qz_I h ((gke h)) (k).toNat) (b15' : qz_I h ((gke h)) (k).toNat ≤ 127) => ?_)
        rw [show qz_I h ((gke h)) (k).toNat = sgb (by2 C)[(k).toNat] from eC]
        refine ez_icmp rfl rfl ⟨by first | omega | exact (sz_i32 _).1, by first | omega | exact (sz_i32 _).2⟩ ⟨by first | omega | exact (sz_i32 _).1, by first | omega | exact (sz_i32 _).2⟩ (fun (c17 : (sgb (by2 B)[(k).toNat]) = (sgb (by2 C)[(k).toNat])) => ?_) (fun (c17 : ¬((sgb (by2 B)[(k).toNat]) = (sgb (by2 C)[(k).toNat]))) => ?_)
        · skip
          refine ez_go (n := 2) (pc' := 95) (L' := [(7, .inl (k + 1)), (6, .inl (n9)), (5, .inr (.inr (some (p)))), (0, .inr (.inr (some (770)))), (1, .inl (t)), (2, .inl (u9)), (3, .inl (st)), (4, .inl (0))]) (st' := []) rfl ?_
          exfalso; omega
        · skip
          refine ez_go (n := 2) (pc' := 130) (L' := [(7, .inl (k)), (6, .inl (n9)), (5, .inr (.inr (some (p)))), (0, .inr (.inr (some (770)))), (1, .inl (t)), (2, .inl (u9)), (3, .inl (st)), (4, .inl (0))]) (st' := [.inl (k), .inr (.inr (some (p)))]) rfl ?_
          have n19 : 1024 ≤ qz_N h p ∧ qz_N h p ≤ 600100 := ez_len hB tp tq_25 rfl
          refine ez_aI hB tp rfl tq_25 rfl rfl (by omega) (by omega) (fun (b18 : -128 ≤ qz_I h p (k).toNat) (b18' : qz_I h p (k).toNat ≤ 127) => ?_)
          rw [show qz_I h p (k).toNat = sgb (by2 B)[(k).toNat] from eA]
          refine ez_go (n := 3) (pc' := 136) (L' := [(7, .inl (k)), (6, .inl (n9)), (5, .inr (.inr (some (p)))), (0, .inr (.inr (some (770)))), (1, .inl (t)), (2, .inl (u9)), (3, .inl (st)), (4, .inl (0))]) (st' := [.inr (.inr (some (770))), .inl ((Int32.ofInt (sgb (by2 B)[(k).toNat]) &&& Int32.ofInt (255)).toInt)]) rfl ?_
          refine ez_gR hB t770 rfl rfl tq_75 rfl rfl (fun (t20 : _ = 25) (t20' : 1 ≤ qz_I h 770 40) => ?_)
          rw [show qz_P h 770 40 = gke h from rfl]
          refine ez_go (n := 1) (pc' := 141) (L' := [(7, .inl (k)), (6, .inl (n9)), (5, .inr (.inr (some (p)))), (0, .inr (.inr (some (770)))), (1, .inl (t)), (2, .inl (u9)), (3, .inl (st)), (4, .inl (0))]) (st' := [.inl (k), .inr (.inr (some ((gke h)))), .inl ((Int32.ofInt (sgb (by2 B)[(k).toNat]) &&& Int32.ofInt (255)).toInt)]) rfl ?_
          have n22 : 1024 ≤ qz_N h ((gke h)) ∧ qz_N h ((gke h)) ≤ 600100 := ez_len hB tE tq_25 rfl
          refine ez_aI hB tE rfl tq_25 rfl rfl (by omega) (by omega) (fun (b21 : -128 ≤ qz_I h ((gke h)) (k).toNat) (b21' : qz_I h ((gke h)) (k).toNat ≤ 127) => ?_)
          rw [show qz_I h ((gke h)) (k).toNat = sgb (by2 C)[(k).toNat] from eC]
          refine ez_go (n := 2) (pc' := 146) (L' := [(7, .inl (k)), (6, .inl (n9)), (5, .inr (.inr (some (p)))), (0, .inr (.inr (some (770)))), (1, .inl (t)), (2, .inl (u9)), (3, .inl (st)), (4, .inl (0))]) (st' := [.inl ((Int32.ofInt (sgb (by2 C)[(k).toNat]) &&& Int32.ofInt (255)).toInt), .inl ((Int32.ofInt (sgb (by2 B)[(k).toNat]) &&& Int32.ofInt (255)).toInt)]) rfl ?_
          rw [ub_sb (x := (by2 C)[(k).toNat]) (by omega) (by omega)]
          refine ez_icmp rfl rfl ⟨by first | omega | exact (sz_i32 _).1, by first | omega | exact (sz_i32 _).2⟩ ⟨by first | omega | exact (sz_i32 _).1, by first | omega | exact (sz_i32 _).2⟩ (fun (c23 : ((by2 C)[(k).toNat]) ≤ ((Int32.ofInt (sgb (by2 B)[(k).toNat]) &&& Int32.ofInt (255)).toInt)) => ?_) (fun (c23 : ¬(((by2 C)[(k).toNat]) ≤ ((Int32.ofInt (sgb (by2 B)[(k).toNat]) &&& Int32.ofInt (255)).toInt))) => ?_)
          · skip
            refine ez_go (n := 1) (pc' := 154) (L' := [(7, .inl (k)), (6, .inl (n9)), (5, .inr (.inr (some (p)))), (0, .inr (.inr (some (770)))), (1, .inl (t)), (2, .inl (u9)), (3, .inl (st)), (4, .inl (0))]) (st' := [.inl (1)]) rfl ?_
            have ubB9 := ub_sb (x := (by2 B)[(k).toNat]) bA.1 bA.2
            have nxy : (by2 B)[(k).toNat] ≠ (by2 C)[(k).toNat] := fun e => by have := congrArg sgb e; omega
            rw [if_neg nxy, if_neg (by omega)] at ls
            rw [show lcp ((by2 B).drop k.toNat) ((by2 C).drop k.toNat) = lcp (by2 B) (by2 C) from hE.symm] at ls
            rw [ls] at kx
            exact ez_retI rfl rfl kx
          · skip
            refine ez_go (n := 2) (pc' := 154) (L' := [(7, .inl (k)), (6, .inl (n9)), (5, .inr (.inr (some (p)))), (0, .inr (.inr (some (770)))), (1, .inl (t)), (2, .inl (u9)), (3, .inl (st)), (4, .inl (0))]) (st' := [.inl (-1)]) rfl ?_
            have ubB9 := ub_sb (x := (by2 B)[(k).toNat]) bA.1 bA.2
            have nxy : (by2 B)[(k).toNat] ≠ (by2 C)[(k).toNat] := fun e => by have := congrArg sgb e; omega
            rw [if_neg nxy, if_pos (by omega)] at ls
            rw [show lcp ((by2 B).drop k.toNat) ((by2 C).drop k.toNat) = lcp (by2 B) (by2 C) from hE.symm] at ls
            rw [ls] at kx
            exact ez_retI rfl rfl kx
  | succ m ih =>
    intro k hm0 k0 k1 k2 hE
    have kyn := ky.1.2
    refine ez_go (n := 2) (pc' := 99) (L' := [(7, .inl (k)), (6, .inl (n9)), (5, .inr (.inr (some (p)))), (0, .inr (.inr (some (770)))), (1, .inl (t)), (2, .inl (u9)), (3, .inl (st)), (4, .inl (0))]) (st' := [.inl (n9), .inl (k)]) rfl ?_
    refine ez_icmp rfl rfl ⟨by first | omega | exact (sz_i32 _).1, by first | omega | exact (sz_i32 _).2⟩ ⟨by first | omega | exact (sz_i32 _).1, by first | omega | exact (sz_i32 _).2⟩ (fun (c1 : (n9) ≤ (k)) => ?_) (fun (c1 : ¬((n9) ≤ (k))) => ?_)
    · skip
      refine ez_go (n := 2) (pc' := 164) (L' := [(7, .inl (k)), (6, .inl (n9)), (5, .inr (.inr (some (p)))), (0, .inr (.inr (some (770)))), (1, .inl (t)), (2, .inl (u9)), (3, .inl (st)), (4, .inl (0))]) (st' := [.inr (.inr (some (770))), .inl (n9)]) rfl ?_
      refine ez_gI hB t770 rfl rfl tq_75 rfl rfl (fun (b2 : 0 ≤ qz_I h 770 41) (b2' : qz_I h 770 41 ≤ 300000) => ?_)
      rw [show qz_I h 770 41 = 2 * (C.length : Int) from ky.1.1]
      refine ez_icmp rfl rfl ⟨by first | omega | exact (sz_i32 _).1, by first | omega | exact (sz_i32 _).2⟩ ⟨by first | omega | exact (sz_i32 _).1, by first | omega | exact (sz_i32 _).2⟩ (fun (c3 : (2 * (C.length : Int)) ≤ (n9)) => ?_) (fun (c3 : ¬((2 * (C.length : Int)) ≤ (n9))) => ?_)
      · skip
        refine ez_go (n := 2) (pc' := 177) (L' := [(7, .inl (k)), (6, .inl (n9)), (5, .inr (.inr (some (p)))), (0, .inr (.inr (some (770)))), (1, .inl (t)), (2, .inl (u9)), (3, .inl (st)), (4, .inl (0))]) (st' := [.inr (.inr (some (770))), .inl (n9)]) rfl ?_
        refine ez_gI hB t770 rfl rfl tq_75 rfl rfl (fun (b4 : 0 ≤ qz_I h 770 41) (b4' : qz_I h 770 41 ≤ 300000) => ?_)
        rw [show qz_I h 770 41 = 2 * (C.length : Int) from ky.1.1]
        refine ez_icmp rfl rfl ⟨by first | omega | exact (sz_i32 _).1, by first | omega | exact (sz_i32 _).2⟩ ⟨by first | omega | exact (sz_i32 _).1, by first | omega | exact (sz_i32 _).2⟩ (fun (c5 : (n9) ≤ (2 * (C.length : Int))) => ?_) (fun (c5 : ¬((n9) ≤ (2 * (C.length : Int)))) => ?_)
        · skip
          refine ez_go (n := 1) (pc' := 188) (L' := [(7, .inl (k)), (6, .inl (n9)), (5, .inr (.inr (some (p)))), (0, .inr (.inr (some (770)))), (1, .inl (t)), (2, .inl (u9)), (3, .inl (st)), (4, .inl (0))]) (st' := [.inl (0)]) rfl ?_
          have l2A := by2_len B; have l2C := by2_len C
          have ls := lcp_en (A := by2 B) (B := by2 C) (k := k.toNat) (by omega) (by omega) (by omega)
          rw [if_neg (by omega), if_neg (by omega), ← hE] at ls
          rw [ls] at kx
          exact ez_retI rfl rfl kx
        · skip
          refine ez_go (n := 2) (pc' := 188) (L' := [(7, .inl (k)), (6, .inl (n9)), (5, .inr (.inr (some (p)))), (0, .inr (.inr (some (770)))), (1, .inl (t)), (2, .inl (u9)), (3, .inl (st)), (4, .inl (0))]) (st' := [.inl (1)]) rfl ?_
          have l2A := by2_len B; have l2C := by2_len C
          have ls := lcp_en (A := by2 B) (B := by2 C) (k := k.toNat) (by omega) (by omega) (by omega)
          rw [if_neg (by omega), if_pos (by omega), ← hE] at ls
          rw [ls] at kx
          exact ez_retI rfl rfl kx
      · skip
        refine ez_go (n := 2) (pc' := 188) (L' := [(7, .inl (k)), (6, .inl (n9)), (5, .inr (.inr (some (p)))), (0, .inr (.inr (some (770)))), (1, .inl (t)), (2, .inl (u9)), (3, .inl (st)), (4, .inl (0))]) (st' := [.inl (-1)]) rfl ?_
        have l2A := by2_len B; have l2C := by2_len C
        have ls := lcp_en (A := by2 B) (B := by2 C) (k := k.toNat) (by omega) (by omega) (by omega)
        rw [if_pos (by omega), ← hE] at ls
        rw [ls] at kx
        exact ez_retI rfl rfl kx
    · skip
      refine ez_go (n := 2) (pc' := 105) (L' := [(7, .inl (k)), (6, .inl (n9)), (5, .inr (.inr (some (p)))), (0, .inr (.inr (some (770)))), (1, .inl (t)), (2, .inl (u9)), (3, .inl (st)), (4, .inl (0))]) (st' := [.inr (.inr (some (770))), .inl (k)]) rfl ?_
      refine ez_gI hB t770 rfl rfl tq_75 rfl rfl (fun (b6 : 0 ≤ qz_I h 770 41) (b6' : qz_I h 770 41 ≤ 300000) => ?_)
      rw [show qz_I h 770 41 = 2 * (C.length : Int) from ky.1.1]
      refine ez_icmp rfl rfl ⟨by first | omega | exact (sz_i32 _).1, by first | omega | exact (sz_i32 _).2⟩ ⟨by first | omega | exact (sz_i32 _).1, by first | omega | exact (sz_i32 _).2⟩ (fun (c7 : (2 * (C.length : Int)) ≤ (k)) => ?_) (fun (c7 : ¬((2 * (C.length : Int)) ≤ (k))) => ?_)
      · skip
        refine ez_go (n := 2) (pc' := 164) (L' := [(7, .inl (k)), (6, .inl (n9)), (5, .inr (.inr (some (p)))), (0, .inr (.inr (some (770)))), (1, .inl (t)), (2, .inl (u9)), (3, .inl (st)), (4, .inl (0))]) (st' := [.inr (.inr (some (770))), .inl (n9)]) rfl ?_
        refine ez_gI hB t770 rfl rfl tq_75 rfl rfl (fun (b8 : 0 ≤ qz_I h 770 41) (b8' : qz_I h 770 41 ≤ 300000) => ?_)
        rw [show qz_I h 770 41 = 2 * (C.length : Int) from ky.1.1]
        refine ez_icmp rfl rfl ⟨by first | omega | exact (sz_i32 _).1, by first | omega | exact (sz_i32 _).2⟩ ⟨by first | omega | exact (sz_i32 _).1, by first | omega | exact (sz_i32 _).2⟩ (fun (c9 : (2 * (C.length : Int)) ≤ (n9)) => ?_) (fun (c9 : ¬((2 * (C.length : Int)) ≤ (n9))) => ?_)
        · skip
          refine ez_go (n := 2) (pc' := 177) (L' := [(7, .inl (k)), (6, .inl (n9)), (5, .inr (.inr (some (p)))), (0, .inr (.inr (some (770)))), (1, .inl (t)), (2, .inl (u9)), (3, .inl (st)), (4, .inl (0))]) (st' := [.inr (.inr (some (770))), .inl (n9)]) rfl ?_
          refine ez_gI hB t770 rfl rfl tq_75 rfl rfl (fun (b10 : 0 ≤ qz_I h 770 41) (b10' : qz_I h 770 41 ≤ 300000) => ?_)
          rw [show qz_I h 770 41 = 2 * (C.length : Int) from ky.1.1]
          refine ez_icmp rfl rfl ⟨by first | omega | exact (sz_i32 _).1, by first | omega | exact (sz_i32 _).2⟩ ⟨by first | omega | exact (sz_i32 _).1, by first | omega | exact (sz_i32 _).2⟩ (fun (c11 : (n9) ≤ (2 * (C.length : Int))) => ?_) (fun (c11 : ¬((n9) ≤ (2 * (C.length : Int)))) => ?_)
          · skip
            refine ez_go (n := 1) (pc' := 188) (L' := [(7, .inl (k)), (6, .inl (n9)), (5, .inr (.inr (some (p)))), (0, .inr (.inr (some (770)))), (1, .inl (t)), (2, .inl (u9)), (3, .inl (st)), (4, .inl (0))]) (st' := [.inl (0)]) rfl ?_
            have l2A := by2_len B; have l2C := by2_len C
            have ls := lcp_en (A := by2 B) (B := by2 C) (k := k.toNat) (by omega) (by omega) (by omega)
            rw [if_neg (by omega), if_neg (by omega), ← hE] at ls
            rw [ls] at kx
            exact ez_retI rfl rfl kx
          · skip
            refine ez_go (n := 2) (pc' := 188) (L' := [(7, .inl (k)), (6, .inl (n9)), (5, .inr (.inr (some (p)))), (0, .inr (.inr (some (770)))), (1, .inl (t)), (2, .inl (u9)), (3, .inl (st)), (4, .inl (0))]) (st' := [.inl (1)]) rfl ?_
            have l2A := by2_len B; have l2C := by2_len C
            have ls := lcp_en (A := by2 B) (B := by2 C) (k := k.toNat) (by omega) (by omega) (by omega)
            rw [if_neg (by omega), if_pos (by omega), ← hE] at ls
            rw [ls] at kx
            exact ez_retI rfl rfl kx
        · skip
          refine ez_go (n := 2) (pc' := 188) (L' := [(7, .inl (k)), (6, .inl (n9)), (5, .inr (.inr (some (p)))), (0, .inr (.inr (some (770)))), (1, .inl (t)), (2, .inl (u9)), (3, .inl (st)), (4, .inl (0))]) (st' := [.inl (-1)]) rfl ?_
          have l2A := by2_len B; have l2C := by2_len C
          have ls := lcp_en (A := by2 B) (B := by2 C) (k := k.toNat) (by omega) (by omega) (by omega)
          rw [if_pos (by omega), ← hE] at ls
          rw [ls] at kx
          exact ez_retI rfl rfl kx
      · skip
        refine ez_go (n := 2) (pc' := 115) (L' := [(7, .inl (k)), (6, .inl (n9)), (5, .inr (.inr (some (p)))), (0, .inr (.inr (some (770)))), (1, .inl (t)), (2, .inl (u9)), (3, .inl (st)), (4, .inl (0))]) (st' := [.inl (k), .inr (.inr (some (p)))]) rfl ?_
        have n13 : 1024 ≤ qz_N h p ∧ qz_N h p ≤ 600100 := ez_len hB tp tq_25 rfl
        refine ez_aI hB tp rfl tq_25 rfl rfl (by omega) (by omega) (fun (b12 : -128 ≤ qz_I h p (k).toNat) (b12' : qz_I h p (k).toNat ≤ 127) => ?_)
        have lA := byS_len B; have lC := byS_len C; have l2A := by2_len B; have l2C := by2_len C
        have jA : (k).toNat < (by2 B).length := by omega
        have jC : (k).toNat < (by2 C).length := by omega
        have xA := List.getElem?_eq_getElem jA
        have xC := List.getElem?_eq_getElem jC
        have bA := by2_bd hb1 _ (List.getElem_mem jA)
        have bC := by2_bd hb2 _ (List.getElem_mem jC)
        have sA := sb_bd (by2 B)[(k).toNat]; have sC := sb_bd (by2 C)[(k).toNat]
        have eA : qz_I h p (k).toNat = sgb (by2 B)[(k).toNat] := ra _ _ (by rw [byS_map, List.getElem?_map, xA]; rfl)
        have eC : qz_I h (gke h) (k).toNat = sgb (by2 C)[(k).toNat] := ky.2 _ _ (by rw [byS_map, List.getElem?_map, xC]; rfl)
        have ls := lcp_st xA xC
        rw [show qz_I h p (k).toNat = sgb (by2 B)[(k).toNat] from eA]
        refine ez_go (n := 1) (pc' := 117) (L' := [(7, .inl (k)), (6, .inl (n9)), (5, .inr (.inr (some (p)))), (0, .inr (.inr (some (770)))), (1, .inl (t)), (2, .inl (u9)), (3, .inl (st)), (4, .inl (0))]) (st' := [.inr (.inr (some (770))), .inl (sgb (by2 B)[(k).toNat])]) rfl ?_
        refine ez_gR hB t770 rfl rfl tq_75 rfl rfl (fun (t14 : _ = 25) (t14' : 1 ≤ qz_I h 770 40) => ?_)
        rw [show qz_P h 770 40 = gke h from rfl]
        refine ez_go (n := 1) (pc' := 122) (L' := [(7, .inl (k)), (6, .inl (n9)), (5, .inr (.inr (some (p)))), (0, .inr (.inr (some (770)))), (1, .inl (t)), (2, .inl (u9)), (3, .inl (st)), (4, .inl (0))]) (st' := [.inl (k), .inr (.inr (some ((gke h)))), .inl (sgb (by2 B)[(k).toNat])]) rfl ?_
        have n16 : 1024 ≤ qz_N h ((gke h)) ∧ qz_N h ((gke h)) ≤ 600100 := ez_len hB tE tq_25 rfl
        refine ez_aI hB tE rfl tq_25 rfl rfl (by omega) (by omega) (fun (b15 : -128 ≤ qz_I h ((gke h)) (k).toNat) (b15' : qz_I h ((gke h)) (k).toNat ≤ 127) => ?_)
        rw [show qz_I h ((gke h)) (k).toNat = sgb (by2 C)[(k).toNat] from eC]
        refine ez_icmp rfl rfl ⟨by first | omega | exact (sz_i32 _).1, by first | omega | exact (sz_i32 _).2⟩ ⟨by first | omega | exact (sz_i32 _).1, by first | omega | exact (sz_i32 _).2⟩ (fun (c17 : (sgb (by2 B)[(k).toNat]) = (sgb (by2 C)[(k).toNat])) => ?_) (fun (c17 : ¬((sgb (by2 B)[(k).toNat]) = (sgb (by2 C)[(k).toNat]))) => ?_)
        · skip
          refine ez_go (n := 2) (pc' := 95) (L' := [(7, .inl (k + 1)), (6, .inl (n9)), (5, .inr (.inr (some (p)))), (0, .inr (.inr (some (770)))), (1, .inl (t)), (2, .inl (u9)), (3, .inl (st)), (4, .inl (0))]) (st' := []) rfl ?_
          refine ez_less [(7, .inl (k + 1)), (6, .inl (n9)), (5, .inr (.inr (some (p)))), (0, .inr (.inr (some (770)))), (1, .inl (t)), (2, .inl (u9)), (3, .inl (st)), (4, .inl (0))] rfl ⟨rfl, rfl, rfl, rfl, rfl, rfl, rfl, rfl, trivial⟩ ?_
          have exy := (sb_inj bA.1 bA.2 bC.1 bC.2).mp (by omega)
          rw [if_pos exy] at ls
          exact ih (k + 1) (by omega) (by omega) (by omega) (by omega) (by rw [hE, ls, show (k + 1).toNat = k.toNat + 1 by omega])
        · skip
          refine ez_go (n := 2) (pc' := 130) (L' := [(7, .inl (k)), (6, .inl (n9)), (5, .inr (.inr (some (p)))), (0, .inr (.inr (some (770)))), (1, .inl (t)), (2, .inl (u9)), (3, .inl (st)), (4, .inl (0))]) (st' := [.inl (k), .inr (.inr (some (p)))]) rfl ?_
          have n19 : 1024 ≤ qz_N h p ∧ qz_N h p ≤ 600100 := ez_len hB tp tq_25 rfl
          refine ez_aI hB tp rfl tq_25 rfl rfl (by omega) (by omega) (fun (b18 : -128 ≤ qz_I h p (k).toNat) (b18' : qz_I h p (k).toNat ≤ 127) => ?_)
          rw [show qz_I h p (k).toNat = sgb (by2 B)[(k).toNat] from eA]
          refine ez_go (n := 3) (pc' := 136) (L' := [(7, .inl (k)), (6, .inl (n9)), (5, .inr (.inr (some (p)))), (0, .inr (.inr (some (770)))), (1, .inl (t)), (2, .inl (u9)), (3, .inl (st)), (4, .inl (0))]) (st' := [.inr (.inr (some (770))), .inl ((Int32.ofInt (sgb (by2 B)[(k).toNat]) &&& Int32.ofInt (255)).toInt)]) rfl ?_
          refine ez_gR hB t770 rfl rfl tq_75 rfl rfl (fun (t20 : _ = 25) (t20' : 1 ≤ qz_I h 770 40) => ?_)
          rw [show qz_P h 770 40 = gke h from rfl]
          refine ez_go (n := 1) (pc' := 141) (L' := [(7, .inl (k)), (6, .inl (n9)), (5, .inr (.inr (some (p)))), (0, .inr (.inr (some (770)))), (1, .inl (t)), (2, .inl (u9)), (3, .inl (st)), (4, .inl (0))]) (st' := [.inl (k), .inr (.inr (some ((gke h)))), .inl ((Int32.ofInt (sgb (by2 B)[(k).toNat]) &&& Int32.ofInt (255)).toInt)]) rfl ?_
          have n22 : 1024 ≤ qz_N h ((gke h)) ∧ qz_N h ((gke h)) ≤ 600100 := ez_len hB tE tq_25 rfl
          refine ez_aI hB tE rfl tq_25 rfl rfl (by omega) (by omega) (fun (b21 : -128 ≤ qz_I h ((gke h)) (k).toNat) (b21' : qz_I h ((gke h)) (k).toNat ≤ 127) => ?_)
          rw [show qz_I h ((gke h)) (k).toNat = sgb (by2 C)[(k).toNat] from eC]
          refine ez_go (n := 2) (pc' := 146) (L' := [(7, .inl (k)), (6, .inl (n9)), (5, .inr (.inr (some (p)))), (0, .inr (.inr (some (770)))), (1, .inl (t)), (2, .inl (u9)), (3, .inl (st)), (4, .inl (0))]) (st' := [.inl ((Int32.ofInt (sgb (by2 C)[(k).toNat]) &&& Int32.ofInt (255)).toInt), .inl ((Int32.ofInt (sgb (by2 B)[(k).toNat]) &&& Int32.ofInt (255)).toInt)]) rfl ?_
          rw [ub_sb (x := (by2 C)[(k).toNat]) (by omega) (by omega)]
          refine ez_icmp rfl rfl ⟨by first | omega | exact (sz_i32 _).1, by first | omega | exact (sz_i32 _).2⟩ ⟨by first | omega | exact (sz_i32 _).1, by first | omega | exact (sz_i32 _).2⟩ (fun (c23 : ((by2 C)[(k).toNat]) ≤ ((Int32.ofInt (sgb (by2 B)[(k).toNat]) &&& Int32.ofInt (255)).toInt)) => ?_) (fun (c23 : ¬(((by2 C)[(k).toNat]) ≤ ((Int32.ofInt (sgb (by2 B)[(k).toNat]) &&& Int32.ofInt (255)).toInt))) => ?_)
          · skip
            refine ez_go (n := 1) (pc' := 154) (L' := [(7, .inl (k)), (6, .inl (n9)), (5, .inr (.inr (some (p)))), (0, .inr (.inr (some (770)))), (1, .inl (t)), (2, .inl (u9)), (3, .inl (st)), (4, .inl (0))]) (st' := [.inl (1)]) rfl ?_
            have ubB9 := ub_sb (x := (by2 B)[(k).toNat]) bA.1 bA.2
            have nxy : (by2 B)[(k).toNat] ≠ (by2 C)[(k).toNat] := fun e => by have := congrArg sgb e; omega
            rw [if_neg nxy, if_neg (by omega)] at ls
            rw [show lcp ((by2 B).drop k.toNat) ((by2 C).drop k.toNat) = lcp (by2 B) (by2 C) from hE.symm] at ls
            rw [ls] at kx
            exact ez_retI rfl rfl kx
          · skip
            refine ez_go (n := 2) (pc' := 154) (L' := [(7, .inl (k)), (6, .inl (n9)), (5, .inr (.inr (some (p)))), (0, .inr (.inr (some (770)))), (1, .inl (t)), (2, .inl (u9)), (3, .inl (st)), (4, .inl (0))]) (st' := [.inl (-1)]) rfl ?_
            have ubB9 := ub_sb (x := (by2 B)[(k).toNat]) bA.1 bA.2
            have nxy : (by2 B)[(k).toNat] ≠ (by2 C)[(k).toNat] := fun e => by have := congrArg sgb e; omega
            rw [if_neg nxy, if_pos (by omega)] at ls
            rw [show lcp ((by2 B).drop k.toNat) ((by2 C).drop k.toNat) = lcp (by2 B) (by2 C) from hE.symm] at ls
            rw [ls] at kx
            exact ez_retI rfl rfl kx

theorem rd_mcmp0 {t u9 st : Int} (hB : ez_B τ h) (hX : jz_X τ) (c : qz_I h 770 7 ≠ 0 → nmC τ h Ls) (hm : mC h Cs) (hK : ∀ x, (0 ≤ x ∧ x ≤ 1114111) → 0 ≤ (vF Ls x).1 ∧ (vF Ls x).1 ≤ 254) (hL : ∀ row e, cLK Cs row = some e → (∀ x ∈ e, eok x) ∧ e.length ≤ 18) (rm : rmc h) (dk : got h ≠ gke h) (sl : slt h) (mxh : mxs h X) (tr : ez_rg t) (u9r : ez_rg u9) (str : ez_rg st) (kA : (t < 0 ∨ 7 < t ∨ u9 < 0 ∨ 7 < u9 ∨ st < 1 ∨ 4 < st) → ∀ g, ez_B τ g → mF h g 1 → Q (.inl (some (ez_v (.inl 0))), g)) (kS : ((0 ≤ t ∧ t ≤ 7) ∧ (0 ≤ u9 ∧ u9 ≤ 7) ∧ 1 ≤ st ∧ st ≤ 4) → qz_I h 770 7 = 0 → ∀ g, ez_B τ g → mF h g 2 → Q (.inl (some (ez_v (.inl 0))), g)) (kX : ((0 ≤ t ∧ t ≤ 7) ∧ (0 ≤ u9 ∧ u9 ≤ 7) ∧ 1 ≤ st ∧ st ≤ 4) → qz_I h 770 7 ≠ 0 → ∀ h1, ez_B τ h1 → mF h h1 0 → (kyN (vF Ls) (X t.toNat) ∨ (∃ W, kyR (vF Ls) (vE Ls) (cLK Cs) (yD Ls) false (X t.toNat) W) ∧ kyN (vF Ls) (X u9.toNat)) → ∀ g2 τ2, ez_B τ2 g2 → nc τ h1 τ2 g2 → got g2 ≠ gke g2 → ∀ g, ez_B τ2 g → mF (xc g2 0) g 3 → Q (.inl (some (ez_v (.inl 0))), g)) (k1 : ((0 ≤ t ∧ t ≤ 7) ∧ (0 ≤ u9 ∧ u9 ≤ 7) ∧ 1 ≤ st ∧ st ≤ 4) → qz_I h 770 7 ≠ 0 → ∀ h1, ez_B τ h1 → mF h h1 0 → ∀ W V, kyR (vF Ls) (vE Ls) (cLK Cs) (yD Ls) false (X t.toNat) W → kyR (vF Ls) (vE Ls) (cLK Cs) (yD Ls) false (X u9.toNat) V → wps W → wps V → ∀ g τ2, ez_B τ2 g → nc τ h1 τ2 g → got g ≠ gke g → Q (.inl (some (ez_v (.inl (lvc W V (lvl false st).toNat)))), g)) : ez_W (d + 10) cm_238 0 [(0, .inr (.inr (some (770)))), (1, .inl (t)), (2, .inl (u9)), (3, .inl (st)), (4, .inl (0))] [] h Q := by
  have t770 : τ 770 = 75 := hX 770 (by decide)
  obtain ⟨tr1, tr2⟩ := id tr
  obtain ⟨u9r1, u9r2⟩ := id u9r
  obtain ⟨str1, str2⟩ := id str
  refine ez_go (n := 2) (pc' := 2) (L' := [(0, .inr (.inr (some (770)))), (1, .inl (t)), (2, .inl (u9)), (3, .inl (st)), (4, .inl (0))]) (st' := [.inl (0), .inr (.inr (some (770)))]) rfl ?_
  refine ez_pf hB t770 rfl rfl tq_75 rfl rfl rfl rfl (ez_vdI rfl rfl (by omega) (by omega)) (fun hB1 w2 => ?_)
  have fP : ez_fr (ez_one 770) h (dz_put h 770 0 (ez_v (.inl (0)))) := (ez_fr.refl (ez_one 770) h).put rfl _ _
  have vP : qz_I (dz_put h 770 0 (ez_v (.inl (0)))) 770 0 = 0 := w2.trans (rz_rd ⟨by omega, by omega⟩)
  have iP : ∀ j, j ≠ 0 → qz_I (dz_put h 770 0 (ez_v (.inl (0)))) 770 j = qz_I h 770 j := fun j hj => ez_put_I (fun w => hj w.2)
  have hP := hB1
  generalize (dz_put h 770 0 (ez_v (.inl (0)))) = h1 at *
  have cP1 := fP.1; have cP2 := fP.2.1
  refine ez_go (n := 2) (pc' := 7) (L' := [(0, .inr (.inr (some (770)))), (1, .inl (t)), (2, .inl (u9)), (3, .inl (st)), (4, .inl (0))]) (st' := [.inl (t), .inr (.inr (some (770)))]) rfl ?_
  refine ez_cv hP t770 rfl rfl rfl tq_75 rfl rfl rfl (rd_mout (show ez_rg (t) by assumption) (fun o1 => ez_K1 ?_) (fun o1 => ez_K1 ?_))
  · skip
    refine ez_if rfl rfl ⟨by decide, by decide⟩ (fun _ => ?_) (fun (c3 : ¬((1 : Int) ≠ (0))) => absurd c3 (by decide))
    refine ez_go (n := 2) (pc' := 33) (L' := [(0, .inr (.inr (some (770)))), (1, .inl (t)), (2, .inl (u9)), (3, .inl (st)), (4, .inl (0))]) (st' := [.inl (1), .inr (.inr (some (770)))]) rfl ?_
    refine ez_cv hP t770 rfl rfl rfl tq_75 rfl rfl rfl (rd_mfail hP t770 (by omega) (by omega) (fun gf hBf ff jf vf0 => ez_K1 ?_))
    exact ez_retI rfl rfl (kA (by omega) gf hBf (mF.trans ⟨fP, iP, vP⟩ ⟨ff, jf, vf0⟩))
  · skip
    refine ez_if rfl rfl ⟨by decide, by decide⟩ (fun (c4 : (0 : Int) ≠ (0)) => absurd c4 (by decide)) (fun _ => ?_)
    refine ez_go (n := 2) (pc' := 15) (L' := [(0, .inr (.inr (some (770)))), (1, .inl (t)), (2, .inl (u9)), (3, .inl (st)), (4, .inl (0))]) (st' := [.inl (u9), .inr (.inr (some (770)))]) rfl ?_
    refine ez_cv hP t770 rfl rfl rfl tq_75 rfl rfl rfl (rd_mout (show ez_rg (u9) by assumption) (fun o2 => ez_K1 ?_) (fun o2 => ez_K1 ?_))
    · skip
      refine ez_if rfl rfl ⟨by decide, by decide⟩ (fun _ => ?_) (fun (c5 : ¬((1 : Int) ≠ (0))) => absurd c5 (by decide))
      refine ez_go (n := 2) (pc' := 33) (L' := [(0, .inr (.inr (some (770)))), (1, .inl (t)), (2, .inl (u9)), (3, .inl (st)), (4, .inl (0))]) (st' := [.inl (1), .inr (.inr (some (770)))]) rfl ?_
      refine ez_cv hP t770 rfl rfl rfl tq_75 rfl rfl rfl (rd_mfail hP t770 (by omega) (by omega) (fun gf hBf ff jf vf0 => ez_K1 ?_))
      exact ez_retI rfl rfl (kA (by omega) gf hBf (mF.trans ⟨fP, iP, vP⟩ ⟨ff, jf, vf0⟩))
    · skip
      refine ez_if rfl rfl ⟨by decide, by decide⟩ (fun (c6 : (0 : Int) ≠ (0)) => absurd c6 (by decide)) (fun _ => ?_)
      refine ez_go (n := 2) (pc' := 23) (L' := [(0, .inr (.inr (some (770)))), (1, .inl (t)), (2, .inl (u9)), (3, .inl (st)), (4, .inl (0))]) (st' := [.inl (1), .inl (st)]) rfl ?_
      refine ez_icmp rfl rfl ⟨by first | omega | exact (sz_i32 _).1, by first | omega | exact (sz_i32 _).2⟩ ⟨by first | omega | exact (sz_i32 _).1, by first | omega | exact (sz_i32 _).2⟩ (fun (c7 : (st) < (1)) => ?_) (fun (c7 : ¬((st) < (1))) => ?_)
      · skip
        refine ez_go (n := 2) (pc' := 33) (L' := [(0, .inr (.inr (some (770)))), (1, .inl (t)), (2, .inl (u9)), (3, .inl (st)), (4, .inl (0))]) (st' := [.inl (1), .inr (.inr (some (770)))]) rfl ?_
        refine ez_cv hP t770 rfl rfl rfl tq_75 rfl rfl rfl (rd_mfail hP t770 (by omega) (by omega) (fun gf hBf ff jf vf0 => ez_K1 ?_))
        exact ez_retI rfl rfl (kA (by omega) gf hBf (mF.trans ⟨fP, iP, vP⟩ ⟨ff, jf, vf0⟩))
      · skip
        refine ez_go (n := 2) (pc' := 28) (L' := [(0, .inr (.inr (some (770)))), (1, .inl (t)), (2, .inl (u9)), (3, .inl (st)), (4, .inl (0))]) (st' := [.inl (4), .inl (st)]) rfl ?_
        refine ez_icmp rfl rfl ⟨by first | omega | exact (sz_i32 _).1, by first | omega | exact (sz_i32 _).2⟩ ⟨by first | omega | exact (sz_i32 _).1, by first | omega | exact (sz_i32 _).2⟩ (fun (c8 : (st) ≤ (4)) => ?_) (fun (c8 : ¬((st) ≤ (4))) => ?_)
        · skip
          refine ez_go (n := 1) (pc' := 38) (L' := [(0, .inr (.inr (some (770)))), (1, .inl (t)), (2, .inl (u9)), (3, .inl (st)), (4, .inl (0))]) (st' := [.inr (.inr (some (770)))]) rfl ?_
          refine ez_gI hP t770 rfl rfl tq_75 rfl rfl (fun (b9 : 0 ≤ qz_I h1 770 7) (b9' : qz_I h1 770 7 ≤ 1) => ?_)
          refine ez_if rfl rfl ⟨by first | omega | exact (sz_i32 _).1, by first | omega | exact (sz_i32 _).2⟩ (fun (c10 : (qz_I h1 770 7) ≠ (0)) => ?_) (fun (c10 : ¬((qz_I h1 770 7) ≠ (0))) => ?_)
          · skip
            have c1 := f7C (c (by rw [← iP 7 (by decide)]; assumption)) hP fP iP
            have hm1 := hm.f7 (c (by rw [← iP 7 (by decide)]; assumption)).1 fP iP
            have z7 := zz_f7 hB hX fP iP
            have rm1 : rmc h1 := ⟨by rw [z7.1, fP.2.1]; exact rm.1, by rw [z7.1, fP.1]; exact rm.2⟩
            have rd1 := rmc_rd hP hX rm1
            have dk1 : got h1 ≠ gke h1 := by rw [z7.2.1, z7.2.2]; exact dk
            have k1P : ∀ q, q ≠ 770 → h1.2.2 q = h.2.2 q := fun q hq => fP.2.2 q (dz_beq_ne hq)
            have sl1 : slt h1 := sl.k (k1P 195 (by decide)) (k1P 773 (by decide))
            have mx1 : mxs h1 X := mxh.k (fun q hq => k1P q (by omega))
            have lb := lvl_bd (sh := false) (st := st) (by omega) (by omega)
            refine ez_go (n := 4) (pc' := 55) (L' := [(0, .inr (.inr (some (770)))), (1, .inl (t)), (2, .inl (u9)), (3, .inl (st)), (4, .inl (0))]) (st' := [.inl (0), .inl (st), .inl (t), .inr (.inr (some (770)))]) rfl ?_
            have mt := mx1 (t).toNat (by omega)
            refine ez_cv hP t770 rfl rfl rfl tq_75 rfl rfl rfl (rd_kf0 c1 hm1 hK hL rm1 dk1 sl1 (by omega) (by omega) mt.1 mt.2.1 mt.2.2 (by omega) (by omega) (fun W ky W9 WL g2 τ2 B2 n2 kt2 => ez_K0 ?_) (fun kn g2 τ2 B2 nk2 => ez_Kc (xc_exc B2 rfl) rfl ?_))
            · have X2 := n2.1.X hX
              have u770 : τ2 770 = 75 := X2 770 (by decide)
              have kb9 : (KY W (lvl false st).toNat).length ≤ 200000 := KY_bd (by omega) WL
              have tk2 := (ez_tg5 B2 u770)
              have pb39 : 1 ≤ qz_I g2 770 39 ∧ qz_I g2 770 39 ≤ 1000000 := ez_fB (cl := 11) (k := 39) B2 u770 tq_75 rfl rfl (by decide)
              have pb40 : 1 ≤ qz_I g2 770 40 ∧ qz_I g2 770 40 ≤ 1000000 := ez_fB (cl := 11) (k := 40) B2 u770 tq_75 rfl rfl (by decide)
              have pe39 := tk2.1.2.2.2.1
              have pe40 := tk2.1.2.2.2.2
              refine ez_go (n := 1) (pc' := 59) (L' := [(0, .inr (.inr (some (770)))), (1, .inl (t)), (2, .inl (u9)), (3, .inl (st)), (4, .inl (0))]) (st' := [.inr (.inr (some (770)))]) rfl ?_
              refine ez_gR B2 u770 rfl rfl tq_75 rfl rfl (fun (t11 : _ = 25) (t11' : 1 ≤ qz_I g2 770 40) => ?_)
              rw [show qz_P g2 770 40 = gke g2 from rfl]
              refine ez_go (n := 2) (pc' := 65) (L' := [(5, .inr (.inr (some ((gke g2))))), (0, .inr (.inr (some (770)))), (1, .inl (t)), (2, .inl (u9)), (3, .inl (st)), (4, .inl (0))]) (st' := [.inr (.inr (some (770)))]) rfl ?_
              refine ez_gI B2 u770 rfl rfl tq_75 rfl rfl (fun (b12 : 0 ≤ qz_I g2 770 41) (b12' : qz_I g2 770 41 ≤ 300000) => ?_)
              rw [show qz_I g2 770 41 = 2 * ((KY W (lvl false st).toNat).length : Int) from kt2.1.1]
              refine ez_go (n := 3) (pc' := 72) (L' := [(6, .inl (2 * ((KY W (lvl false st).toNat).length : Int))), (5, .inr (.inr (some ((gke g2))))), (0, .inr (.inr (some (770)))), (1, .inl (t)), (2, .inl (u9)), (3, .inl (st)), (4, .inl (0))]) (st' := [.inr (.inr (some (770))), .inr (.inr (some (770)))]) rfl ?_
              refine ez_gR B2 u770 rfl rfl tq_75 rfl rfl (fun (t13 : _ = 25) (t13' : 1 ≤ qz_I g2 770 39) => ?_)
              rw [show qz_P g2 770 39 = got g2 from rfl]
              refine ez_pf B2 u770 rfl rfl tq_75 rfl rfl rfl rfl (ez_vdR rfl tk2.2.2.2.2.1 (by omega) (by omega)) (fun hB14 w15 => ?_)
              refine ez_go (n := 2) (pc' := 81) (L' := [(6, .inl (2 * ((KY W (lvl false st).toNat).length : Int))), (5, .inr (.inr (some ((gke g2))))), (0, .inr (.inr (some (770)))), (1, .inl (t)), (2, .inl (u9)), (3, .inl (st)), (4, .inl (0))]) (st' := [.inr (.inr (some ((gke g2)))), .inr (.inr (some (770)))]) rfl ?_
              refine ez_pf hB14 u770 rfl rfl tq_75 rfl rfl rfl rfl (ez_vdR rfl tk2.2.2.2.2.2 (by omega) (by omega)) (fun hB16 w17 => ?_)
              have p40 : qz_I (dz_put (dz_put g2 770 40 (ez_v (.inr (.inr (some ((got g2))))))) 770 39 (ez_v (.inr (.inr (some ((gke g2))))))) 770 40 = (got g2 : Int) + 1 := (ez_put_I (fun w => absurd w.2 (by decide))).trans w15
              have p39 : qz_I (dz_put (dz_put g2 770 40 (ez_v (.inr (.inr (some ((got g2))))))) 770 39 (ez_v (.inr (.inr (some ((gke g2))))))) 770 39 = (gke g2 : Int) + 1 := w17
              have oj3 : ∀ j, j ≠ 39 → j ≠ 40 → qz_I (dz_put (dz_put g2 770 40 (ez_v (.inr (.inr (some ((got g2))))))) 770 39 (ez_v (.inr (.inr (some ((gke g2))))))) 770 j = qz_I g2 770 j := fun j a b => (ez_put_I (fun w => a w.2)).trans (ez_put_I (fun w => b w.2))
              have c3c : ∀ q, q ≠ 770 → ((dz_put (dz_put g2 770 40 (ez_v (.inr (.inr (some ((got g2))))))) 770 39 (ez_v (.inr (.inr (some ((gke g2)))))))).2.2 q = g2.2.2 q := fun q hq => by rw [qz_put_at _ _ _ _ hq, qz_put_at _ _ _ _ hq]
              have r31 : ((dz_put (dz_put g2 770 40 (ez_v (.inr (.inr (some ((got g2))))))) 770 39 (ez_v (.inr (.inr (some ((gke g2)))))))).1 = g2.1 := rfl
              have r32 : ((dz_put (dz_put g2 770 40 (ez_v (.inr (.inr (some ((got g2))))))) 770 39 (ez_v (.inr (.inr (some ((gke g2)))))))).2.1 = g2.2.1 := rfl
              have B3 := hB16
              generalize (dz_put (dz_put g2 770 40 (ez_v (.inr (.inr (some ((got g2))))))) 770 39 (ez_v (.inr (.inr (some ((gke g2))))))) = g3 at *
              have ot3 : got g3 = gke g2 := by unfold got qz_P; rw [p39]; omega
              have ke3 : gke g3 = got g2 := by unfold gke qz_P; rw [p40]; omega
              have dk3 : got g3 ≠ gke g3 := by rw [ot3, ke3]; exact (n2.dk hP hX dk1).symm
              have s23 : nc τ2 g2 τ2 g3 := by
                obtain ⟨-, q1, q2, q3, q4, q5⟩ := tk2
                have N3 : ∀ q, τ2 q ≠ 75 → qz_N g3 q = qz_N g2 q := fun q hq => by unfold qz_N; rw [c3c q (fun e => hq (by rw [e]; exact u770))]
                have p0 : sk g3 = sk g2 := by unfold sk qz_P; rw [oj3 24 (by decide) (by decide)]
                have p1 : gel g3 = gel g2 := by unfold gel qz_P; rw [oj3 35 (by decide) (by decide)]
                have p2 : gfo g3 = gfo g2 := by unfold gfo qz_P; rw [oj3 38 (by decide) (by decide)]
                have ez : zz g3 = zz g2 := by
                  unfold zz; rw [p0, p1, p2, ot3, ke3, N3 (sk g2) (by rw [q1]; decide), N3 (gel g2) (by rw [q2]; decide), N3 (gfo g2) (by rw [q3]; decide), N3 (got g2) (by rw [q4]; decide), N3 (gke g2) (by rw [q5]; decide)]; omega
                refine ⟨fun q _ => ⟨rfl, fun a _ _ => c3c q a⟩, fun q a b => absurd a b, fun j hj => oj3 j (fun e => by rw [e] at hj; exact absurd hj (by decide)) (fun e => by rw [e] at hj; exact absurd hj (by decide)), by rw [ez, r31, r32]; omega, by omega, fun w => ?_, fun w => ?_⟩
                · rw [oj3 25 (by decide) (by decide), p0, N3 (sk g2) (by rw [q1]; decide)]; exact w
                · rw [oj3 36 (by decide) (by decide), p1, N3 (gel g2) (by rw [q2]; decide)]; exact w
              refine ez_go (n := 4) (pc' := 89) (L' := [(6, .inl (2 * ((KY W (lvl false st).toNat).length : Int))), (5, .inr (.inr (some ((gke g2))))), (0, .inr (.inr (some (770)))), (1, .inl (t)), (2, .inl (u9)), (3, .inl (st)), (4, .inl (0))]) (st' := [.inl (0), .inl (st), .inl (u9), .inr (.inr (some (770)))]) rfl ?_
              have a23 := n2.1.trans s23
              have c3 := c1.c a23 B3
              have hm3 := a23.mCx c1.1 hm1
              have rm3 := a23.rm rm1
              have rd3 := rmc_rd B3 X2 rm3
              have sl3 := a23.sl hX sl1
              have mt3 := a23.mx hX mx1 (u9).toNat (by omega)
              refine ez_cv B3 u770 rfl rfl rfl tq_75 rfl rfl rfl (rd_kf0 c3 hm3 hK hL rm3 dk3 sl3 (by omega) (by omega) mt3.1 mt3.2.1 mt3.2.2 (by omega) (by omega) (fun V kv V9 VL g4 τ4 B4 n4 kt4 => ez_K0 ?_) (fun kn g4 τ4 B4 nk4 => ez_Kc (xc_exc B4 rfl) rfl ?_))
              · have X4 := n4.1.X X2
                have v770 : τ4 770 = 75 := X4 770 (by decide)
                have kb8 : (KY V (lvl false st).toNat).length ≤ 200000 := KY_bd (by omega) VL
                have tp2 : τ2 (gke g2) = 25 := tk2.2.2.2.2.2
                have tp4 : τ4 (gke g2) = 25 := (n4.1.1 _ (by rw [tp2]; decide)).1.trans tp2
                have cp4 : g4.2.2 (gke g2) = g2.2.2 (gke g2) := by have w := n4.2.2.2; rw [ot3] at w; exact w.trans (c3c _ (fun e => by rw [e, u770] at tp2; cases tp2))
                have ra4 : rsb g4 (gke g2) (byS (KY W (lvl false st).toNat)) := fun j v hv => by rw [show qz_I g4 (gke g2) j = qz_I g2 (gke g2) j by unfold qz_I; rw [cp4]]; exact kt2.2 j v hv
                have np4 : 2 * ((KY W (lvl false st).toNat).length : Int) ≤ qz_N g4 (gke g2) := by rw [show qz_N g4 (gke g2) = qz_N g2 (gke g2) by unfold qz_N; rw [cp4]]; exact kt2.1.2
                refine ez_go (n := 2) (pc' := 95) (L' := [(7, .inl (0)), (6, .inl (2 * ((KY W (lvl false st).toNat).length : Int))), (5, .inr (.inr (some ((gke g2))))), (0, .inr (.inr (some (770)))), (1, .inl (t)), (2, .inl (u9)), (3, .inl (st)), (4, .inl (0))]) (st' := []) rfl ?_
                refine ez_less [(7, .inl (0)), (6, .inl (2 * ((KY W (lvl false st).toNat).length : Int))), (5, .inr (.inr (some ((gke g2))))), (0, .inr (.inr (some (770)))), (1, .inl (t)), (2, .inl (u9)), (3, .inl (st)), (4, .inl (0))] rfl ⟨rfl, rfl, rfl, rfl, rfl, rfl, rfl, rfl, trivial⟩ ?_
                refine rd_mcm_l0 (h := g4) (B := KY W (lvl false st).toNat) (C := KY V (lvl false st).toNat) B4 v770 tp4 ra4 np4 kt4 (KY_w W9 _) (KY_w V9 _) rfl (by omega) (by omega) ?_ _ 0 rfl (by omega) (by omega) (by omega) (by rw [show (0 : Int).toNat = 0 from rfl, List.drop_zero, List.drop_zero])
                rw [lcp_by, KY_lvc W9 V9 _ (by omega)]
                exact k1 (by omega) (by rw [← iP 7 (by decide)]; assumption) h1 hP ⟨fP, iP, vP⟩ W V ky kv W9 V9 g4 τ4 B4 (a23.trans n4.1) (n4.dk B3 X2 dk3)
              · have v770 : τ4 770 = 75 := nk4.X X2 770 (by decide)
                have rm4 := nk4.rm B3 B4 (X2 770 (by decide)) v770
                have hBx : ez_B τ4 (xc g4 0) := xc_B B4 (by omega) (by omega)
                refine ez_go (n := 3) (pc' := 193) (L' := [(5, .inr (.inr (some (g4.1)))), (6, .inl (2 * ((KY W (lvl false st).toNat).length : Int))), (0, .inr (.inr (some (770)))), (1, .inl (t)), (2, .inl (u9)), (3, .inl (st)), (4, .inl (0))]) (st' := [.inl (3), .inr (.inr (some (770)))]) rfl ?_
                refine ez_cv hBx v770 rfl rfl rfl tq_75 rfl rfl rfl (rd_mfail hBx v770 (by omega) (by omega) (fun gf hBf ff jf vf0 => ez_K1 ?_))
                exact ez_retI rfl rfl (kX (by omega) (by rw [← iP 7 (by decide)]; assumption) h1 hP ⟨fP, iP, vP⟩ (Or.inr ⟨⟨W, ky⟩, kn⟩) g4 τ4 B4 (a23.trans (nc.ofk B3 X2 nk4)) (by rw [(show got g4 = got g3 by unfold got qz_P; rw [nk4.2.2.1 39 (by decide) (by decide) (by decide)]), (show gke g4 = gke g3 by unfold gke qz_P; rw [nk4.2.2.1 40 (by decide) (by decide) (by decide)])]; exact dk3) gf hBf ⟨ff, jf, vf0⟩)
            · have v770 : τ2 770 = 75 := nk2.X hX 770 (by decide)
              have rm2 := nk2.rm c1.1.1 B2 (hX 770 (by decide)) v770
              have hBx : ez_B τ2 (xc g2 0) := xc_B B2 (by omega) (by omega)
              refine ez_go (n := 3) (pc' := 193) (L' := [(5, .inr (.inr (some (g2.1)))), (0, .inr (.inr (some (770)))), (1, .inl (t)), (2, .inl (u9)), (3, .inl (st)), (4, .inl (0))]) (st' := [.inl (3), .inr (.inr (some (770)))]) rfl ?_
              refine ez_cv hBx v770 rfl rfl rfl tq_75 rfl rfl rfl (rd_mfail hBx v770 (by omega) (by omega) (fun gf hBf ff jf vf0 => ez_K1 ?_))
              exact ez_retI rfl rfl (kX (by omega) (by rw [← iP 7 (by decide)]; assumption) h1 hP ⟨fP, iP, vP⟩ (Or.inl kn) g2 τ2 B2 (nc.ofk hP hX nk2) (by rw [(show got g2 = got h1 by unfold got qz_P; rw [nk2.2.2.1 39 (by decide) (by decide) (by decide)]), (show gke g2 = gke h1 by unfold gke qz_P; rw [nk2.2.2.1 40 (by decide) (by decide) (by decide)])]; exact dk1) gf hBf ⟨ff, jf, vf0⟩)
          · skip
            refine ez_go (n := 2) (pc' := 46) (L' := [(0, .inr (.inr (some (770)))), (1, .inl (t)), (2, .inl (u9)), (3, .inl (st)), (4, .inl (0))]) (st' := [.inl (2), .inr (.inr (some (770)))]) rfl ?_
            refine ez_cv hP t770 rfl rfl rfl tq_75 rfl rfl rfl (rd_mfail hP t770 (by omega) (by omega) (fun gf hBf ff jf vf0 => ez_K1 ?_))
            exact ez_retI rfl rfl (kS (by omega) (by rw [← iP 7 (by decide)]; omega) gf hBf (mF.trans ⟨fP, iP, vP⟩ ⟨ff, jf, vf0⟩))
        · skip
          refine ez_go (n := 2) (pc' := 33) (L' := [(0, .inr (.inr (some (770)))), (1, .inl (t)), (2, .inl (u9)), (3, .inl (st)), (4, .inl (0))]) (st' := [.inl (1), .inr (.inr (some (770)))]) rfl ?_
          refine ez_cv hP t770 rfl rfl rfl tq_75 rfl rfl rfl (rd_mfail hP t770 (by omega) (by omega) (fun gf hBf ff jf vf0 => ez_K1 ?_))
          exact ez_retI rfl rfl (kA (by omega) gf hBf (mF.trans ⟨fP, iP, vP⟩ ⟨ff, jf, vf0⟩))

end EzMy

/-! COLLATION: LINES of kind 4: what they tell, and the class's entries. -/
theorem rw_p9 {b : Int → Int} {m s t : Int} {vs : List Int} (h : rz_rw b m s t = some vs) : ptl vs ∧ 1 ≤ vs.length := by
  unfold rz_rw at h
  split at h
  · rename_i w
    exact ⟨rz_row_bd _ _ _ _ _ h, by rw [rz_row_len _ _ _ _ _ h]; exact w.1⟩
  · cases h
theorem ez_oldA {τ : Nat → Nat} {h : cz_H} (hB : ez_B τ h) {r t : Nat} {ti : dz_I} {lo hi : Int} {tg md : Nat} (hτ : τ r = t) (hti : tz_T t = some ti) (hb : (Nat.beq ti.1 1 && Nat.blt ti.2.1 11) = true) (hD : dz_nth ti.2.2.2.2 0 = some (3, lo, hi, tg, md)) (hm : md ≠ 2) {i : Nat} (h1 : (i : Int) < qz_N h r) {x : Nat} (hx : qz_I h r i = (x : Int) + 1) : τ x = tg ∧ tg ≠ 0 := by
  obtain ⟨n, f, o1, o2, o3, o4, -, o6⟩ := ez_arr hB hτ hti hb hD
  rw [o3] at h1
  obtain ⟨g1, g2⟩ := o6 i (by omega)
  obtain ⟨-, h2⟩ := ez_slR g1 g2 rfl hm (by omega)
  have e : qz_P h r i = x := by unfold qz_P; omega
  rw [e] at h2
  exact h2
/-- an entry's cells, tags aside -/
def entU (h : cz_H) (v : Int) (a : List Int × List eL) : Prop := ∃ z w : Nat, v = (z : Int) + 1 ∧ qz_I h z 0 = (a.1.length : Int) ∧ qz_I h z 1 = (w : Int) + 1 ∧ qz_N h w = (a.2.length : Int) ∧ (∀ (j : Nat) e, a.2[j]? = some e → qz_I h w j = (Int64.ofInt (eP e)).toInt) ∧ (∀ e ∈ a.2, eok e) ∧ 1 ≤ a.2.length ∧ a.2.length ≤ 18
def cErU (h : cz_H) (LK : List Int → Option (List eL)) (R : List (List Int × List eL)) : Prop := (R.length : Int) = qz_I h 202 4 ∧ (∀ (i : Nat) a, R[i]? = some a → rowk a.1 ∧ qz_I h 204 i = pkN a.1 ∧ entU h (qz_I h 205 i) a ∧ LK a.1 = some a.2) ∧ (∀ (i j : Nat) a b, i < j → R[i]? = some a → R[j]? = some b → pkN a.1 < pkN b.1) ∧ ∀ row e, LK row = some e → ∃ i : Nat, R[i]? = some (row, e)
theorem cEr.u {τ : Nat → Nat} {h : cz_H} {LK : List Int → Option (List eL)} {R : List (List Int × List eL)} (c : cEr τ h LK R) : cErU h LK R := by
  refine ⟨c.1, fun i a ha => ?_, c.2.2⟩
  obtain ⟨d1, d2, ⟨z, w, x1, x2, x3, x4, x5, x6⟩, d4⟩ := c.2.1 i a ha
  exact ⟨d1, d2, ⟨z, w, x1, x3, x4, x6⟩, d4⟩
theorem cErU.t {τ : Nat → Nat} {h : cz_H} {LK : List Int → Option (List eL)} {R : List (List Int × List eL)} (c : cErU h LK R) (hB : ez_B τ h) (hX : jz_X τ) : cEr τ h LK R := by
  have t205 : τ 205 = 51 := hX 205 (by decide)
  have t202 : τ 202 = 48 := hX 202 (by decide)
  have nn : 256 ≤ qz_N h 205 ∧ qz_N h 205 ≤ 256 := ez_len hB t205 tq_51 rfl
  have bn : 0 ≤ qz_I h 202 4 ∧ qz_I h 202 4 ≤ 256 := ez_fB (cl := 2) (k := 4) hB t202 tq_48 rfl rfl (by decide)
  refine ⟨c.1, fun i a ha => ?_, c.2.2⟩
  obtain ⟨d1, d2, ⟨z, w, x1, x3, x4, x6⟩, d4⟩ := c.2.1 i a ha
  have il := (List.getElem?_eq_some_iff.mp ha).1
  have cn := c.1
  have tz := (ez_oldA hB t205 tq_51 rfl rfl (by decide) (i := i) (by omega) x1).1
  have tw := (ez_old (cl := 14) (k := 1) hB tz tq_7 rfl rfl (by decide) x4).1
  exact ⟨d1, d2, ⟨z, w, x1, tz, x3, x4, tw, x6⟩, d4⟩
/-- an element as it is written -/
theorem e_eP {p s t va : Int} (p0 : 0 ≤ p) (p1 : p ≤ 65535) (s0 : 0 ≤ s) (s1 : s ≤ 65535) (t0 : 0 ≤ t) (t1 : t ≤ 65535) (v0 : 0 ≤ va) (v1 : va ≤ 1) : (((Int32.ofInt p).toInt64 <<< ((Int32.ofInt 48).toInt64 &&& 63) ||| (Int32.ofInt s).toInt64 <<< ((Int32.ofInt 32).toInt64 &&& 63)) ||| (Int32.ofInt t).toInt64 <<< ((Int32.ofInt 16).toInt64 &&& 63)) ||| (Int32.ofInt va).toInt64 = Int64.ofInt (eP (va, p, s, t)) := by
  apply uv_inj
  rw [uv_or, uv_or, uv_or, uv_shl48, uv_shl32, uv_shl16, uv_i2l p0 (by omega), uv_i2l s0 (by omega), uv_i2l t0 (by omega), uv_i2l v0 (by omega), uv_of (n := eP (va, p, s, t)) (by show 0 ≤ p * 281474976710656 + s * 4294967296 + t * 65536 + va; omega) (by show p * 281474976710656 + s * 4294967296 + t * 65536 + va < 18446744073709551616; omega)]
  rw [show p.toNat * 281474976710656 % 18446744073709551616 = p.toNat * 281474976710656 from Nat.mod_eq_of_lt (by omega), show s.toNat * 4294967296 % 18446744073709551616 = s.toNat * 4294967296 from Nat.mod_eq_of_lt (by omega), show t.toNat * 65536 % 18446744073709551616 = t.toNat * 65536 from Nat.mod_eq_of_lt (by omega)]
  rw [or_add48 (by omega), show p.toNat * 281474976710656 + s.toNat * 4294967296 = (p.toNat * 65536 + s.toNat) * 4294967296 by omega, or_add32 (by omega), show (p.toNat * 65536 + s.toNat) * 4294967296 + t.toNat * 65536 = ((p.toNat * 65536 + s.toNat) * 65536 + t.toNat) * 65536 by omega, or_add16 (by omega)]
  show _ = (p * 281474976710656 + s * 4294967296 + t * 65536 + va).toNat
  omega
noncomputable def nz_v1 (b : Int → Int) (a : Int) : eL := (if b (a + 1) = 42 then 1 else 0, rz_hex b 4 (a + 2) 0, rz_hex b 4 (a + 7) 0, rz_hex b 4 (a + 12) 0)
noncomputable def nz_ev (b : Int → Int) (stop : Int) : Nat → Int → List eL
  | 0, _ => []
  | m + 1, a => nz_v1 b a :: nz_ev b stop m (rz_skip b (stop - (a + 17)).toNat (a + 17))
theorem nz_ev_len (b : Int → Int) (stop : Int) : ∀ m a, (nz_ev b stop m a).length = m
  | 0, _ => rfl
  | m + 1, a => by show (nz_ev b stop m _).length + 1 = m + 1; rw [nz_ev_len b stop m]
theorem nz_hx4 {b : Int → Int} {a : Int} (h : rz_hex b 4 a 0 ≠ -1) : 0 ≤ rz_hex b 4 a 0 ∧ rz_hex b 4 a 0 ≤ 65535 := by
  have := rz_hex_bd b 4 a 0 1 (by decide) (by decide) (by decide)
  rw [show (1 : Int) * 16 ^ 4 = 65536 by decide] at this
  omega
theorem nz_v1_ok {b : Int → Int} {a : Int} (h : nz_e1 b a) : eok (nz_v1 b a) := by
  obtain ⟨-, h1, h2, h3⟩ := h
  refine ⟨?_, nz_hx4 h1, nz_hx4 h2, nz_hx4 h3⟩
  show 0 ≤ (if b (a + 1) = 42 then (1 : Int) else 0) ∧ (if b (a + 1) = 42 then (1 : Int) else 0) ≤ 1
  split <;> decide
theorem nz_ev_ok (b : Int → Int) (stop : Int) : ∀ m a, nz_el b stop m a → ∀ e ∈ nz_ev b stop m a, eok e
  | 0, _, _, e, he => by cases he
  | m + 1, a, h, e, he => by
    rcases List.mem_cons.mp he with w | w
    · rw [w]; exact nz_v1_ok h.2.1
    · exact nz_ev_ok b stop m _ h.2.2 e w
/-- elements in an array of longs -/
def elr (h : cz_H) (p : Nat) (es : List eL) : Prop := qz_N h p = (es.length : Int) ∧ ∀ (j : Nat) e, es[j]? = some e → qz_I h p j = (Int64.ofInt (eP e)).toInt
/-- a LINE of kind 4, as both sides read it -/
def lnG (b : Int → Int) (n : Int) (vs : List Int) (es : List eL) : Prop := ∃ A q, rz_A b n 2 A ∧ rz_rw b 3 (rz_ff b A 0) (rz_tt b A 0) = some vs ∧ nz_el b (rz_tt b A 1) q (rz_ff b A 1) ∧ (1 ≤ q ∧ q ≤ 18) ∧ es = nz_ev b (rz_tt b A 1) q (rz_ff b A 1)
theorem lnG_u {b : Int → Int} {n : Int} {vs us : List Int} {es fs : List eL} (x : lnG b n vs es) (y : lnG b n us fs) : vs = us ∧ es = fs := by
  obtain ⟨A, q, a1, a2, a3, a4, a5⟩ := x
  obtain ⟨C, r, c1, c2, c3, c4, c5⟩ := y
  have e := rz_A_uniq a1 c1
  subst e
  have e := nz_el_u _ _ _ _ _ a3 c3
  subst e
  rw [a2] at c2
  cases c2
  exact ⟨rfl, a5.trans c5.symm⟩
def lnc (b : Int → Int) (n kd : Int) (c : cEo) : Prop := (kd = 4 ∧ ∃ vs es, lnG b n vs es ∧ c = some (vs, es)) ∨ ((¬ (kd = 4 ∧ ∃ vs es, lnG b n vs es)) ∧ c = none)
theorem lnc_u {b : Int → Int} {n kd : Int} {c e : cEo} (x : lnc b n kd c) (y : lnc b n kd e) : c = e := by
  rcases x with ⟨x0, vs, es, x1, x2⟩ | ⟨x1, x2⟩ <;> rcases y with ⟨y0, us, fs, y1, y2⟩ | ⟨y1, y2⟩
  · obtain ⟨e1, e2⟩ := lnG_u x1 y1
    rw [x2, y2, e1, e2]
  · exact absurd ⟨x0, vs, es, x1⟩ y1
  · exact absurd ⟨y0, us, fs, y1⟩ x1
  · rw [x2, y2]
theorem lnc_o {b : Int → Int} {n kd : Int} (h : kd ≠ 4) : lnc b n kd none := Or.inr ⟨fun w => h w.1, rfl⟩
/-- the entry of a row is another -/
theorem cEr.set {τ : Nat → Nat} {h g : cz_H} {LK : List Int → Option (List eL)} {R : List (List Int × List eL)} (c : cEr τ h LK R) {v r : Nat} {row : List Int} {e0 e : List eL} (hv : R[v]? = some (row, e0)) (c2 : qz_I g 202 4 = qz_I h 202 4) (c4 : ∀ i, qz_I g 204 i = qz_I h 204 i) (c5 : ∀ i, i ≠ v → qz_I g 205 i = qz_I h 205 i) (cv : qz_I g 205 v = (r : Int) + 1) (en : ent τ g ((r : Int) + 1) (row, e)) (ek : ∀ q, τ q = 7 ∨ τ q = 9 → g.2.2 q = h.2.2 q) : cEr τ g (lk1 LK (some (row, e))) (R.set v (row, e)) := by
  have vl := (List.getElem?_eq_some_iff.mp hv).1
  have gt : ∀ i a, (R.set v (row, e))[i]? = some a → (i = v ∧ a = (row, e)) ∨ (i ≠ v ∧ R[i]? = some a) := fun i a ha => by
    by_cases w : i = v
    · subst w; rw [List.getElem?_set_self vl] at ha; cases ha; exact Or.inl ⟨rfl, rfl⟩
    · rw [List.getElem?_set_ne (fun q => w q.symm)] at ha; exact Or.inr ⟨w, ha⟩
  have nm : ∀ i a, i ≠ v → R[i]? = some a → a.1 ≠ row := fun i a w ha q => by
    rcases Nat.lt_or_gt_of_ne w with l | l
    · have := c.2.2.1 i v a _ l ha hv; rw [q] at this; exact absurd this (Int.lt_irrefl _)
    · have := c.2.2.1 v i _ a l hv ha; rw [q] at this; exact absurd this (Int.lt_irrefl _)
  refine ⟨by rw [List.length_set, c2]; exact c.1, fun i a ha => ?_, fun i j a b ij ha hb => ?_, fun rw9 f hf => ?_⟩
  · rcases gt i a ha with ⟨w1, w2⟩ | ⟨w1, w2⟩
    · subst w1; subst w2
      obtain ⟨d1, d2, -, -⟩ := c.2.1 i _ hv
      exact ⟨d1, (c4 i).trans d2, by rw [cv]; exact en, lk1_y⟩
    · obtain ⟨d1, d2, d3, d4⟩ := c.2.1 i a w2
      exact ⟨d1, (c4 i).trans d2, by rw [c5 i w1]; exact d3.tr (fun q hq => ⟨rfl, ek q hq⟩), by rw [lk1_n (fun f q => by cases q; exact nm i a w1 w2 rfl)]; exact d4⟩
  · rcases gt i a ha with ⟨w1, w2⟩ | ⟨w1, w2⟩ <;> rcases gt j b hb with ⟨y1, y2⟩ | ⟨y1, y2⟩
    · omega
    · subst w1; subst w2; exact (show pkN row < pkN b.1 from c.2.2.1 i j (row, e0) b ij hv y2)
    · subst y1; subst y2; exact (show pkN a.1 < pkN row from c.2.2.1 i j a (row, e0) ij w2 hv)
    · exact c.2.2.1 i j a b ij w2 y2
  · by_cases w : rw9 = row
    · subst w; rw [lk1_y] at hf; cases hf; exact ⟨v, List.getElem?_set_self vl⟩
    · rw [lk1_n (fun f q => by cases q; exact w rfl)] at hf
      obtain ⟨i, hi⟩ := c.2.2.2 _ _ hf
      have iv : i ≠ v := fun q => by rw [q, hv] at hi; cases hi; exact w rfl
      exact ⟨i, by rw [List.getElem?_set_ne (fun q => iv q.symm)]; exact hi⟩
/-- an entry more -/
theorem cEr.ins {τ : Nat → Nat} {h g : cz_H} {LK : List Int → Option (List eL)} {R : List (List Int × List eL)} (c : cEr τ h LK R) {v r : Nat} {row : List Int} {e : List eL} (rk : rowk row) (hv : v ≤ R.length) (lo : ∀ i a, i < v → R[i]? = some a → pkN a.1 < pkN row) (hi : ∀ i a, v ≤ i → R[i]? = some a → pkN row < pkN a.1) (c2 : qz_I g 202 4 = qz_I h 202 4 + 1) (c4 : ∀ i, i < v → qz_I g 204 i = qz_I h 204 i) (c4' : ∀ i, v < i → i ≤ R.length → qz_I g 204 i = qz_I h 204 (i - 1)) (c4v : qz_I g 204 v = pkN row) (c5 : ∀ i, i < v → qz_I g 205 i = qz_I h 205 i) (c5' : ∀ i, v < i → i ≤ R.length → qz_I g 205 i = qz_I h 205 (i - 1)) (cv : qz_I g 205 v = (r : Int) + 1) (en : ent τ g ((r : Int) + 1) (row, e)) (ek : ∀ q, τ q = 7 ∨ τ q = 9 → g.2.2 q = h.2.2 q) : cEr τ g (lk1 LK (some (row, e))) (R.take v ++ (row, e) :: R.drop v) := by
  have tl : (R.take v).length = v := by rw [List.length_take]; omega
  have gt : ∀ i a, (R.take v ++ (row, e) :: R.drop v)[i]? = some a → (i < v ∧ R[i]? = some a) ∨ (i = v ∧ a = (row, e)) ∨ (v < i ∧ R[i - 1]? = some a) := fun i a ha => by
    by_cases w : i < v
    · rw [List.getElem?_append_left (by omega), List.getElem?_take, if_pos w] at ha; exact Or.inl ⟨w, ha⟩
    · rw [List.getElem?_append_right (by omega), tl] at ha
      by_cases w2 : i = v
      · rw [show i - v = 0 by omega] at ha; cases ha; exact Or.inr (Or.inl ⟨w2, rfl⟩)
      · rw [show i - v = (i - v - 1) + 1 by omega, List.getElem?_cons_succ, List.getElem?_drop, show v + (i - v - 1) = i - 1 by omega] at ha; exact Or.inr (Or.inr ⟨by omega, ha⟩)
  have tg : ∀ i a, R[i]? = some a → ∃ j : Nat, (R.take v ++ (row, e) :: R.drop v)[j]? = some a := fun i a ha => by
    by_cases w : i < v
    · exact ⟨i, by rw [List.getElem?_append_left (by omega), List.getElem?_take, if_pos w]; exact ha⟩
    · refine ⟨i + 1, ?_⟩
      rw [List.getElem?_append_right (by omega), tl, show i + 1 - v = (i - v) + 1 by omega, List.getElem?_cons_succ, List.getElem?_drop, show v + (i - v) = i by omega]; exact ha
  have nm : ∀ (i : Nat) (a : List Int × List eL), R[i]? = some a → a.1 ≠ row := fun i a ha q => by
    by_cases w : i < v
    · have := lo i a w ha; rw [q] at this; exact absurd this (Int.lt_irrefl _)
    · have := hi i a (by omega) ha; rw [q] at this; exact absurd this (Int.lt_irrefl _)
  have old : ∀ (i : Nat) (a : List Int × List eL), R[i]? = some a → ∀ x y : Int, x = qz_I h 204 i → y = qz_I h 205 i → rowk a.1 ∧ x = pkN a.1 ∧ ent τ g y a ∧ lk1 LK (some (row, e)) a.1 = some a.2 := fun i a ha x y hx hy => by
    obtain ⟨d1, d2, d3, d4⟩ := c.2.1 i a ha
    exact ⟨d1, hx.trans d2, by rw [hy]; exact d3.tr (fun q hq => ⟨rfl, ek q hq⟩), by rw [lk1_n (fun f q => by cases q; exact nm i a ha rfl)]; exact d4⟩
  refine ⟨?_, fun i a ha => ?_, fun i j a b ij ha hb => ?_, fun rw9 f hf => ?_⟩
  · rw [List.length_append, List.length_cons, tl, List.length_drop, c2]; have := c.1; omega
  · rcases gt i a ha with ⟨w1, w2⟩ | ⟨w1, w2⟩ | ⟨w1, w2⟩
    · exact old i a w2 _ _ (c4 i w1) (c5 i w1)
    · subst w1; subst w2; exact ⟨rk, c4v, by rw [cv]; exact en, lk1_y⟩
    · have il := (List.getElem?_eq_some_iff.mp w2).1
      exact old (i - 1) a w2 _ _ (c4' i w1 (by omega)) (c5' i w1 (by omega))
  · rcases gt i a ha with ⟨w1, w2⟩ | ⟨w1, w2⟩ | ⟨w1, w2⟩ <;> rcases gt j b hb with ⟨y1, y2⟩ | ⟨y1, y2⟩ | ⟨y1, y2⟩
    · exact c.2.2.1 i j a b ij w2 y2
    · subst y2; exact lo i a w1 w2
    · exact c.2.2.1 i (j - 1) a b (by omega) w2 y2
    · omega
    · omega
    · subst w2; exact hi (j - 1) b (by omega) y2
    · omega
    · omega
    · exact c.2.2.1 (i - 1) (j - 1) a b (by omega) w2 y2
  · by_cases w : rw9 = row
    · subst w; rw [lk1_y] at hf; cases hf
      exact ⟨v, by rw [List.getElem?_append_right (by omega), tl, Nat.sub_self]; rfl⟩
    · rw [lk1_n (fun f q => by cases q; exact w rfl)] at hf
      obtain ⟨i, hi⟩ := c.2.2.2 _ _ hf
      exact tg i _ hi

/-! COLLATION: the class: elements as they are read, tellEntry. (Written by wip/p2/py/pvk17.py.) -/
section EzKh
variable {d : Nat} {h : cz_H} {τ : Nat → Nat} {Q : cz_F → Prop} {LK : List Int → Option (List eL)} {R : List (List Int × List eL)} {row : List Int} {e : List eL}
theorem rd_rElK_b {a va fr : Int} (hB : ez_B τ h) (t720 : τ 720 = 52) (a0 : 0 ≤ a) (a1 : a + 17 ≤ 4096) (v01 : va = 0 ∨ va = 1) (f01 : fr = 0 ∨ fr = 1) (hfr : fr = 1 ↔ nz_fr (rz_b h) a) (he : nz_e1 (rz_b h) a) (hva : va = if rz_b h (a + 1) = 42 then 1 else 0) (k : Q (.inl (some (.inr (.inl (Int64.ofInt (eP (nz_v1 (rz_b h) a)))))), h)) : ez_W (d + 1) cm_163 95 [(3, .inl (fr)), (2, .inl (va)), (0, .inr (.inr (some (720)))), (1, .inl (a))] [] h Q := by
  refine ez_go (n := 7) (pc' := 103) (L' := [(3, .inl (fr)), (2, .inl (va)), (0, .inr (.inr (some (720)))), (1, .inl (a))]) (st' := [.inl ((a) + (6)), .inl ((a) + (2)), .inr (.inr (some (720)))]) rfl ?_
  have hx1 := rz_hex_bd (rz_b h) ((a) + (6) - ((a) + (2))).toNat ((a) + (2)) 0 1 (by omega) (by omega) (by omega)
  refine ez_cv hB t720 rfl rfl rfl tq_52 rfl rfl rfl (rd_readHex hB t720 (by omega) (by omega) (by omega) (ez_K1 ?_))
  rw [show ((a) + (6) - ((a) + (2))).toNat = 4 by omega] at hx1 ⊢
  obtain ⟨v2, ev2⟩ : ∃ v2, v2 = rz_hex (rz_b h) 4 ((a) + (2)) 0 := ⟨_, rfl⟩
  rw [← ev2] at hx1 ⊢
  refine ez_go (n := 8) (pc' := 117) (L' := [(4, .inl (v2)), (3, .inl (fr)), (2, .inl (va)), (0, .inr (.inr (some (720)))), (1, .inl (a))]) (st' := [.inl ((a) + (11)), .inl ((a) + (7)), .inr (.inr (some (720)))]) rfl ?_
  have hx3 := rz_hex_bd (rz_b h) ((a) + (11) - ((a) + (7))).toNat ((a) + (7)) 0 1 (by omega) (by omega) (by omega)
  refine ez_cv hB t720 rfl rfl rfl tq_52 rfl rfl rfl (rd_readHex hB t720 (by omega) (by omega) (by omega) (ez_K1 ?_))
  rw [show ((a) + (11) - ((a) + (7))).toNat = 4 by omega] at hx3 ⊢
  obtain ⟨v4, ev4⟩ : ∃ v4, v4 = rz_hex (rz_b h) 4 ((a) + (7)) 0 := ⟨_, rfl⟩
  rw [← ev4] at hx3 ⊢
  refine ez_go (n := 8) (pc' := 131) (L' := [(5, .inl (v4)), (4, .inl (v2)), (3, .inl (fr)), (2, .inl (va)), (0, .inr (.inr (some (720)))), (1, .inl (a))]) (st' := [.inl ((a) + (16)), .inl ((a) + (12)), .inr (.inr (some (720)))]) rfl ?_
  have hx5 := rz_hex_bd (rz_b h) ((a) + (16) - ((a) + (12))).toNat ((a) + (12)) 0 1 (by omega) (by omega) (by omega)
  refine ez_cv hB t720 rfl rfl rfl tq_52 rfl rfl rfl (rd_readHex hB t720 (by omega) (by omega) (by omega) (ez_K1 ?_))
  rw [show ((a) + (16) - ((a) + (12))).toNat = 4 by omega] at hx5 ⊢
  obtain ⟨v6, ev6⟩ : ∃ v6, v6 = rz_hex (rz_b h) 4 ((a) + (12)) 0 := ⟨_, rfl⟩
  rw [← ev6] at hx5 ⊢
  refine ez_go (n := 2) (pc' := 137) (L' := [(6, .inl (v6)), (5, .inl (v4)), (4, .inl (v2)), (3, .inl (fr)), (2, .inl (va)), (0, .inr (.inr (some (720)))), (1, .inl (a))]) (st' := [.inl (fr)]) rfl ?_
  refine ez_if rfl rfl ⟨by first | omega | exact (sz_i32 _).1, by first | omega | exact (sz_i32 _).2⟩ (fun (c7 : (fr) = (0)) => ?_) (fun (c7 : ¬((fr) = (0))) => ?_)
  · skip
    refine ez_ldc2 (-1) rfl rfl rfl ?_
    have w1 := hfr.mpr he.1
    have bv2 := nz_hx4 he.2.1; rw [← ev2] at bv2
    have bv4 := nz_hx4 he.2.2.1; rw [← ev4] at bv4
    have bv6 := nz_hx4 he.2.2.2; rw [← ev6] at bv6
    exfalso; omega
  · skip
    refine ez_go (n := 2) (pc' := 143) (L' := [(6, .inl (v6)), (5, .inl (v4)), (4, .inl (v2)), (3, .inl (fr)), (2, .inl (va)), (0, .inr (.inr (some (720)))), (1, .inl (a))]) (st' := [.inl (-1), .inl (v2)]) rfl ?_
    refine ez_icmp rfl rfl ⟨by first | omega | exact (sz_i32 _).1, by first | omega | exact (sz_i32 _).2⟩ ⟨by first | omega | exact (sz_i32 _).1, by first | omega | exact (sz_i32 _).2⟩ (fun (c8 : (v2) = (-1)) => ?_) (fun (c8 : ¬((v2) = (-1))) => ?_)
    · skip
      refine ez_ldc2 (-1) rfl rfl rfl ?_
      have w1 := hfr.mpr he.1
      have bv2 := nz_hx4 he.2.1; rw [← ev2] at bv2
      have bv4 := nz_hx4 he.2.2.1; rw [← ev4] at bv4
      have bv6 := nz_hx4 he.2.2.2; rw [← ev6] at bv6
      exfalso; omega
    · skip
      refine ez_go (n := 2) (pc' := 149) (L' := [(6, .inl (v6)), (5, .inl (v4)), (4, .inl (v2)), (3, .inl (fr)), (2, .inl (va)), (0, .inr (.inr (some (720)))), (1, .inl (a))]) (st' := [.inl (-1), .inl (v4)]) rfl ?_
      refine ez_icmp rfl rfl ⟨by first | omega | exact (sz_i32 _).1, by first | omega | exact (sz_i32 _).2⟩ ⟨by first | omega | exact (sz_i32 _).1, by first | omega | exact (sz_i32 _).2⟩ (fun (c9 : (v4) = (-1)) => ?_) (fun (c9 : ¬((v4) = (-1))) => ?_)
      · skip
        refine ez_ldc2 (-1) rfl rfl rfl ?_
        have w1 := hfr.mpr he.1
        have bv2 := nz_hx4 he.2.1; rw [← ev2] at bv2
        have bv4 := nz_hx4 he.2.2.1; rw [← ev4] at bv4
        have bv6 := nz_hx4 he.2.2.2; rw [← ev6] at bv6
        exfalso; omega
      · skip
        refine ez_go (n := 2) (pc' := 155) (L' := [(6, .inl (v6)), (5, .inl (v4)), (4, .inl (v2)), (3, .inl (fr)), (2, .inl (va)), (0, .inr (.inr (some (720)))), (1, .inl (a))]) (st' := [.inl (-1), .inl (v6)]) rfl ?_
        refine ez_icmp rfl rfl ⟨by first | omega | exact (sz_i32 _).1, by first | omega | exact (sz_i32 _).2⟩ ⟨by first | omega | exact (sz_i32 _).1, by first | omega | exact (sz_i32 _).2⟩ (fun (c10 : (v6) ≠ (-1)) => ?_) (fun (c10 : ¬((v6) ≠ (-1))) => ?_)
        · skip
          refine ez_go (n := 15) (pc' := 183) (L' := [(6, .inl (v6)), (5, .inl (v4)), (4, .inl (v2)), (3, .inl (fr)), (2, .inl (va)), (0, .inr (.inr (some (720)))), (1, .inl (a))]) (st' := [.inl (va), .inr (.inl (((((Int32.ofInt (v2)).toInt64) <<< ((Int32.ofInt (48)).toInt64 &&& 63)) ||| (((Int32.ofInt (v4)).toInt64) <<< ((Int32.ofInt (32)).toInt64 &&& 63))) ||| (((Int32.ofInt (v6)).toInt64) <<< ((Int32.ofInt (16)).toInt64 &&& 63))))]) rfl ?_
          refine ez_if rfl rfl ⟨by first | omega | exact (sz_i32 _).1, by first | omega | exact (sz_i32 _).2⟩ (fun (c11 : (va) = (0)) => ?_) (fun (c11 : ¬((va) = (0))) => ?_)
          · skip
            refine ez_go (n := 3) (pc' := 193) (L' := [(6, .inl (v6)), (5, .inl (v4)), (4, .inl (v2)), (3, .inl (fr)), (2, .inl (va)), (0, .inr (.inr (some (720)))), (1, .inl (a))]) (st' := [.inr (.inl ((((((Int32.ofInt (v2)).toInt64) <<< ((Int32.ofInt (48)).toInt64 &&& 63)) ||| (((Int32.ofInt (v4)).toInt64) <<< ((Int32.ofInt (32)).toInt64 &&& 63))) ||| (((Int32.ofInt (v6)).toInt64) <<< ((Int32.ofInt (16)).toInt64 &&& 63))) ||| ((Int32.ofInt (0)).toInt64)))]) rfl ?_
            have w1 := hfr.mpr he.1
            have bv2 := nz_hx4 he.2.1; rw [← ev2] at bv2
            have bv4 := nz_hx4 he.2.2.1; rw [← ev4] at bv4
            have bv6 := nz_hx4 he.2.2.2; rw [← ev6] at bv6
            rw [e_eP (va := 0) bv2.1 bv2.2 bv4.1 bv4.2 bv6.1 bv6.2 (by omega) (by omega)]
            have ev : ((0 : Int), v2, v4, v6) = nz_v1 (rz_b h) a := by unfold nz_v1; rw [ev2, ev4, ev6, ← hva, show va = 0 by omega]
            rw [ev]
            exact ez_retL rfl rfl k
          · skip
            refine ez_go (n := 4) (pc' := 193) (L' := [(6, .inl (v6)), (5, .inl (v4)), (4, .inl (v2)), (3, .inl (fr)), (2, .inl (va)), (0, .inr (.inr (some (720)))), (1, .inl (a))]) (st' := [.inr (.inl ((((((Int32.ofInt (v2)).toInt64) <<< ((Int32.ofInt (48)).toInt64 &&& 63)) ||| (((Int32.ofInt (v4)).toInt64) <<< ((Int32.ofInt (32)).toInt64 &&& 63))) ||| (((Int32.ofInt (v6)).toInt64) <<< ((Int32.ofInt (16)).toInt64 &&& 63))) ||| ((Int32.ofInt (1)).toInt64)))]) rfl ?_
            have w1 := hfr.mpr he.1
            have bv2 := nz_hx4 he.2.1; rw [← ev2] at bv2
            have bv4 := nz_hx4 he.2.2.1; rw [← ev4] at bv4
            have bv6 := nz_hx4 he.2.2.2; rw [← ev6] at bv6
            rw [e_eP (va := 1) bv2.1 bv2.2 bv4.1 bv4.2 bv6.1 bv6.2 (by omega) (by omega)]
            have ev : ((1 : Int), v2, v4, v6) = nz_v1 (rz_b h) a := by unfold nz_v1; rw [ev2, ev4, ev6, ← hva, show va = 1 by omega]
            rw [ev]
            exact ez_retL rfl rfl k
        · skip
          refine ez_ldc2 (-1) rfl rfl rfl ?_
          have w1 := hfr.mpr he.1
          have bv2 := nz_hx4 he.2.1; rw [← ev2] at bv2
          have bv4 := nz_hx4 he.2.2.1; rw [← ev4] at bv4
          have bv6 := nz_hx4 he.2.2.2; rw [← ev6] at bv6
          exfalso; omega

theorem rd_rElK {a : Int} (hB : ez_B τ h) (t720 : τ 720 = 52) (a0 : 0 ≤ a) (a1 : a + 17 ≤ 4096) (he : nz_e1 (rz_b h) a) (k : Q (.inl (some (.inr (.inl (Int64.ofInt (eP (nz_v1 (rz_b h) a)))))), h)) : ez_W (d + 1) cm_163 0 [(0, .inr (.inr (some (720)))), (1, .inl (a))] [] h Q := by
  refine ez_go (n := 1) (pc' := 1) (L' := [(0, .inr (.inr (some (720)))), (1, .inl (a))]) (st' := [.inr (.inr (some (720)))]) rfl ?_
  refine ez_gC (p := 193) (tg := 45) hB t720 rfl rfl tq_52 rfl rfl (fun (t193 : _ = 45) => ?_)
  refine ez_go (n := 3) (pc' := 7) (L' := [(0, .inr (.inr (some (720)))), (1, .inl (a))]) (st' := [.inl ((a) + (1)), .inr (.inr (some (193)))]) rfl ?_
  have n2 : 4096 ≤ qz_N h 193 ∧ qz_N h 193 ≤ 4096 := ez_len hB t193 tq_45 rfl
  refine ez_aI hB t193 rfl tq_45 rfl rfl (by omega) (by omega) (fun (b1 : -128 ≤ qz_I h 193 ((a) + (1)).toNat) (b1' : qz_I h 193 ((a) + (1)).toNat ≤ 127) => ?_)
  refine ez_go (n := 1) (pc' := 10) (L' := [(0, .inr (.inr (some (720)))), (1, .inl (a))]) (st' := [.inl (42), .inl (qz_I h 193 ((a) + (1)).toNat)]) rfl ?_
  refine ez_icmp rfl rfl ⟨by first | omega | exact (sz_i32 _).1, by first | omega | exact (sz_i32 _).2⟩ ⟨by first | omega | exact (sz_i32 _).1, by first | omega | exact (sz_i32 _).2⟩ (fun (c3 : (qz_I h 193 ((a) + (1)).toNat) ≠ (42)) => ?_) (fun (c3 : ¬((qz_I h 193 ((a) + (1)).toNat) ≠ (42))) => ?_)
  · skip
    refine ez_go (n := 3) (pc' := 20) (L' := [(2, .inl (0)), (0, .inr (.inr (some (720)))), (1, .inl (a))]) (st' := [.inr (.inr (some (720)))]) rfl ?_
    refine ez_gC (p := 193) (tg := 45) hB t720 rfl rfl tq_52 rfl rfl (fun (t193 : _ = 45) => ?_)
    refine ez_go (n := 1) (pc' := 24) (L' := [(2, .inl (0)), (0, .inr (.inr (some (720)))), (1, .inl (a))]) (st' := [.inl (a), .inr (.inr (some (193)))]) rfl ?_
    have n5 : 4096 ≤ qz_N h 193 ∧ qz_N h 193 ≤ 4096 := ez_len hB t193 tq_45 rfl
    refine ez_aI hB t193 rfl tq_45 rfl rfl (by omega) (by omega) (fun (b4 : -128 ≤ qz_I h 193 (a).toNat) (b4' : qz_I h 193 (a).toNat ≤ 127) => ?_)
    refine ez_go (n := 1) (pc' := 27) (L' := [(2, .inl (0)), (0, .inr (.inr (some (720)))), (1, .inl (a))]) (st' := [.inl (91), .inl (qz_I h 193 (a).toNat)]) rfl ?_
    refine ez_icmp rfl rfl ⟨by first | omega | exact (sz_i32 _).1, by first | omega | exact (sz_i32 _).2⟩ ⟨by first | omega | exact (sz_i32 _).1, by first | omega | exact (sz_i32 _).2⟩ (fun (c6 : (qz_I h 193 (a).toNat) ≠ (91)) => ?_) (fun (c6 : ¬((qz_I h 193 (a).toNat) ≠ (91))) => ?_)
    · skip
      refine ez_go (n := 2) (pc' := 95) (L' := [(3, .inl (0)), (2, .inl (0)), (0, .inr (.inr (some (720)))), (1, .inl (a))]) (st' := []) rfl ?_
      refine ez_less [(3, .inl (0)), (2, .inl (0)), (0, .inr (.inr (some (720)))), (1, .inl (a))] rfl ⟨rfl, rfl, rfl, rfl, trivial⟩ ?_
      exact rd_rElK_b hB t720 a0 a1 (by decide) (by decide) (by unfold nz_fr rz_b; omega) he (by unfold rz_b; rw [if_neg (by omega)]) k
    · skip
      refine ez_go (n := 1) (pc' := 31) (L' := [(2, .inl (0)), (0, .inr (.inr (some (720)))), (1, .inl (a))]) (st' := [.inl (0)]) rfl ?_
      refine ez_if rfl rfl ⟨by decide, by decide⟩ (fun (c7 : (0 : Int) ≠ (0)) => absurd c7 (by decide)) (fun _ => ?_)
      refine ez_go (n := 1) (pc' := 35) (L' := [(2, .inl (0)), (0, .inr (.inr (some (720)))), (1, .inl (a))]) (st' := [.inr (.inr (some (720)))]) rfl ?_
      refine ez_gC (p := 193) (tg := 45) hB t720 rfl rfl tq_52 rfl rfl (fun (t193 : _ = 45) => ?_)
      refine ez_go (n := 3) (pc' := 41) (L' := [(2, .inl (0)), (0, .inr (.inr (some (720)))), (1, .inl (a))]) (st' := [.inl ((a) + (1)), .inr (.inr (some (193)))]) rfl ?_
      have n9 : 4096 ≤ qz_N h 193 ∧ qz_N h 193 ≤ 4096 := ez_len hB t193 tq_45 rfl
      refine ez_aI hB t193 rfl tq_45 rfl rfl (by omega) (by omega) (fun (b8 : -128 ≤ qz_I h 193 ((a) + (1)).toNat) (b8' : qz_I h 193 ((a) + (1)).toNat ≤ 127) => ?_)
      refine ez_go (n := 1) (pc' := 44) (L' := [(2, .inl (0)), (0, .inr (.inr (some (720)))), (1, .inl (a))]) (st' := [.inl (46), .inl (qz_I h 193 ((a) + (1)).toNat)]) rfl ?_
      refine ez_icmp rfl rfl ⟨by first | omega | exact (sz_i32 _).1, by first | omega | exact (sz_i32 _).2⟩ ⟨by first | omega | exact (sz_i32 _).1, by first | omega | exact (sz_i32 _).2⟩ (fun (c10 : (qz_I h 193 ((a) + (1)).toNat) ≠ (46)) => ?_) (fun (c10 : ¬((qz_I h 193 ((a) + (1)).toNat) ≠ (46))) => ?_)
      · skip
        refine ez_go (n := 2) (pc' := 95) (L' := [(3, .inl (0)), (2, .inl (0)), (0, .inr (.inr (some (720)))), (1, .inl (a))]) (st' := []) rfl ?_
        refine ez_less [(3, .inl (0)), (2, .inl (0)), (0, .inr (.inr (some (720)))), (1, .inl (a))] rfl ⟨rfl, rfl, rfl, rfl, trivial⟩ ?_
        exact rd_rElK_b hB t720 a0 a1 (by decide) (by decide) (by unfold nz_fr rz_b; omega) he (by unfold rz_b; rw [if_neg (by omega)]) k
      · skip
        refine ez_go (n := 1) (pc' := 48) (L' := [(2, .inl (0)), (0, .inr (.inr (some (720)))), (1, .inl (a))]) (st' := [.inr (.inr (some (720)))]) rfl ?_
        refine ez_gC (p := 193) (tg := 45) hB t720 rfl rfl tq_52 rfl rfl (fun (t193 : _ = 45) => ?_)
        refine ez_go (n := 3) (pc' := 55) (L' := [(2, .inl (0)), (0, .inr (.inr (some (720)))), (1, .inl (a))]) (st' := [.inl ((a) + (6)), .inr (.inr (some (193)))]) rfl ?_
        have n12 : 4096 ≤ qz_N h 193 ∧ qz_N h 193 ≤ 4096 := ez_len hB t193 tq_45 rfl
        refine ez_aI hB t193 rfl tq_45 rfl rfl (by omega) (by omega) (fun (b11 : -128 ≤ qz_I h 193 ((a) + (6)).toNat) (b11' : qz_I h 193 ((a) + (6)).toNat ≤ 127) => ?_)
        refine ez_go (n := 1) (pc' := 58) (L' := [(2, .inl (0)), (0, .inr (.inr (some (720)))), (1, .inl (a))]) (st' := [.inl (46), .inl (qz_I h 193 ((a) + (6)).toNat)]) rfl ?_
        refine ez_icmp rfl rfl ⟨by first | omega | exact (sz_i32 _).1, by first | omega | exact (sz_i32 _).2⟩ ⟨by first | omega | exact (sz_i32 _).1, by first | omega | exact (sz_i32 _).2⟩ (fun (c13 : (qz_I h 193 ((a) + (6)).toNat) ≠ (46)) => ?_) (fun (c13 : ¬((qz_I h 193 ((a) + (6)).toNat) ≠ (46))) => ?_)
        · skip
          refine ez_go (n := 2) (pc' := 95) (L' := [(3, .inl (0)), (2, .inl (0)), (0, .inr (.inr (some (720)))), (1, .inl (a))]) (st' := []) rfl ?_
          refine ez_less [(3, .inl (0)), (2, .inl (0)), (0, .inr (.inr (some (720)))), (1, .inl (a))] rfl ⟨rfl, rfl, rfl, rfl, trivial⟩ ?_
          exact rd_rElK_b hB t720 a0 a1 (by decide) (by decide) (by unfold nz_fr rz_b; omega) he (by unfold rz_b; rw [if_neg (by omega)]) k
        · skip
          refine ez_go (n := 1) (pc' := 62) (L' := [(2, .inl (0)), (0, .inr (.inr (some (720)))), (1, .inl (a))]) (st' := [.inr (.inr (some (720)))]) rfl ?_
          refine ez_gC (p := 193) (tg := 45) hB t720 rfl rfl tq_52 rfl rfl (fun (t193 : _ = 45) => ?_)
          refine ez_go (n := 3) (pc' := 69) (L' := [(2, .inl (0)), (0, .inr (.inr (some (720)))), (1, .inl (a))]) (st' := [.inl ((a) + (11)), .inr (.inr (some (193)))]) rfl ?_
          have n15 : 4096 ≤ qz_N h 193 ∧ qz_N h 193 ≤ 4096 := ez_len hB t193 tq_45 rfl
          refine ez_aI hB t193 rfl tq_45 rfl rfl (by omega) (by omega) (fun (b14 : -128 ≤ qz_I h 193 ((a) + (11)).toNat) (b14' : qz_I h 193 ((a) + (11)).toNat ≤ 127) => ?_)
          refine ez_go (n := 1) (pc' := 72) (L' := [(2, .inl (0)), (0, .inr (.inr (some (720)))), (1, .inl (a))]) (st' := [.inl (46), .inl (qz_I h 193 ((a) + (11)).toNat)]) rfl ?_
          refine ez_icmp rfl rfl ⟨by first | omega | exact (sz_i32 _).1, by first | omega | exact (sz_i32 _).2⟩ ⟨by first | omega | exact (sz_i32 _).1, by first | omega | exact (sz_i32 _).2⟩ (fun (c16 : (qz_I h 193 ((a) + (11)).toNat) ≠ (46)) => ?_) (fun (c16 : ¬((qz_I h 193 ((a) + (11)).toNat) ≠ (46))) => ?_)
          · skip
            refine ez_go (n := 2) (pc' := 95) (L' := [(3, .inl (0)), (2, .inl (0)), (0, .inr (.inr (some (720)))), (1, .inl (a))]) (st' := []) rfl ?_
            refine ez_less [(3, .inl (0)), (2, .inl (0)), (0, .inr (.inr (some (720)))), (1, .inl (a))] rfl ⟨rfl, rfl, rfl, rfl, trivial⟩ ?_
            exact rd_rElK_b hB t720 a0 a1 (by decide) (by decide) (by unfold nz_fr rz_b; omega) he (by unfold rz_b; rw [if_neg (by omega)]) k
          · skip
            refine ez_go (n := 1) (pc' := 76) (L' := [(2, .inl (0)), (0, .inr (.inr (some (720)))), (1, .inl (a))]) (st' := [.inr (.inr (some (720)))]) rfl ?_
            refine ez_gC (p := 193) (tg := 45) hB t720 rfl rfl tq_52 rfl rfl (fun (t193 : _ = 45) => ?_)
            refine ez_go (n := 3) (pc' := 83) (L' := [(2, .inl (0)), (0, .inr (.inr (some (720)))), (1, .inl (a))]) (st' := [.inl ((a) + (16)), .inr (.inr (some (193)))]) rfl ?_
            have n18 : 4096 ≤ qz_N h 193 ∧ qz_N h 193 ≤ 4096 := ez_len hB t193 tq_45 rfl
            refine ez_aI hB t193 rfl tq_45 rfl rfl (by omega) (by omega) (fun (b17 : -128 ≤ qz_I h 193 ((a) + (16)).toNat) (b17' : qz_I h 193 ((a) + (16)).toNat ≤ 127) => ?_)
            refine ez_go (n := 1) (pc' := 86) (L' := [(2, .inl (0)), (0, .inr (.inr (some (720)))), (1, .inl (a))]) (st' := [.inl (93), .inl (qz_I h 193 ((a) + (16)).toNat)]) rfl ?_
            refine ez_icmp rfl rfl ⟨by first | omega | exact (sz_i32 _).1, by first | omega | exact (sz_i32 _).2⟩ ⟨by first | omega | exact (sz_i32 _).1, by first | omega | exact (sz_i32 _).2⟩ (fun (c19 : (qz_I h 193 ((a) + (16)).toNat) ≠ (93)) => ?_) (fun (c19 : ¬((qz_I h 193 ((a) + (16)).toNat) ≠ (93))) => ?_)
            · skip
              refine ez_go (n := 2) (pc' := 95) (L' := [(3, .inl (0)), (2, .inl (0)), (0, .inr (.inr (some (720)))), (1, .inl (a))]) (st' := []) rfl ?_
              refine ez_less [(3, .inl (0)), (2, .inl (0)), (0, .inr (.inr (some (720)))), (1, .inl (a))] rfl ⟨rfl, rfl, rfl, rfl, trivial⟩ ?_
              exact rd_rElK_b hB t720 a0 a1 (by decide) (by decide) (by unfold nz_fr rz_b; omega) he (by unfold rz_b; rw [if_neg (by omega)]) k
            · skip
              refine ez_go (n := 3) (pc' := 95) (L' := [(3, .inl (1)), (2, .inl (0)), (0, .inr (.inr (some (720)))), (1, .inl (a))]) (st' := []) rfl ?_
              refine ez_less [(3, .inl (1)), (2, .inl (0)), (0, .inr (.inr (some (720)))), (1, .inl (a))] rfl ⟨rfl, rfl, rfl, rfl, trivial⟩ ?_
              exact rd_rElK_b hB t720 a0 a1 (by decide) (by decide) (by unfold nz_fr rz_b; omega) he (by unfold rz_b; rw [if_neg (by omega)]) k
  · skip
    refine ez_go (n := 4) (pc' := 20) (L' := [(2, .inl (1)), (0, .inr (.inr (some (720)))), (1, .inl (a))]) (st' := [.inr (.inr (some (720)))]) rfl ?_
    refine ez_gC (p := 193) (tg := 45) hB t720 rfl rfl tq_52 rfl rfl (fun (t193 : _ = 45) => ?_)
    refine ez_go (n := 1) (pc' := 24) (L' := [(2, .inl (1)), (0, .inr (.inr (some (720)))), (1, .inl (a))]) (st' := [.inl (a), .inr (.inr (some (193)))]) rfl ?_
    have n21 : 4096 ≤ qz_N h 193 ∧ qz_N h 193 ≤ 4096 := ez_len hB t193 tq_45 rfl
    refine ez_aI hB t193 rfl tq_45 rfl rfl (by omega) (by omega) (fun (b20 : -128 ≤ qz_I h 193 (a).toNat) (b20' : qz_I h 193 (a).toNat ≤ 127) => ?_)
    refine ez_go (n := 1) (pc' := 27) (L' := [(2, .inl (1)), (0, .inr (.inr (some (720)))), (1, .inl (a))]) (st' := [.inl (91), .inl (qz_I h 193 (a).toNat)]) rfl ?_
    refine ez_icmp rfl rfl ⟨by first | omega | exact (sz_i32 _).1, by first | omega | exact (sz_i32 _).2⟩ ⟨by first | omega | exact (sz_i32 _).1, by first | omega | exact (sz_i32 _).2⟩ (fun (c22 : (qz_I h 193 (a).toNat) ≠ (91)) => ?_) (fun (c22 : ¬((qz_I h 193 (a).toNat) ≠ (91))) => ?_)
    · skip
      refine ez_go (n := 2) (pc' := 95) (L' := [(3, .inl (0)), (2, .inl (1)), (0, .inr (.inr (some (720)))), (1, .inl (a))]) (st' := []) rfl ?_
      refine ez_less [(3, .inl (0)), (2, .inl (1)), (0, .inr (.inr (some (720)))), (1, .inl (a))] rfl ⟨rfl, rfl, rfl, rfl, trivial⟩ ?_
      exact rd_rElK_b hB t720 a0 a1 (by decide) (by decide) (by unfold nz_fr rz_b; omega) he (by unfold rz_b; rw [if_pos (by omega)]) k
    · skip
      refine ez_go (n := 1) (pc' := 31) (L' := [(2, .inl (1)), (0, .inr (.inr (some (720)))), (1, .inl (a))]) (st' := [.inl (1)]) rfl ?_
      refine ez_if rfl rfl ⟨by decide, by decide⟩ (fun _ => ?_) (fun (c23 : ¬((1 : Int) ≠ (0))) => absurd c23 (by decide))
      refine ez_go (n := 1) (pc' := 48) (L' := [(2, .inl (1)), (0, .inr (.inr (some (720)))), (1, .inl (a))]) (st' := [.inr (.inr (some (720)))]) rfl ?_
      refine ez_gC (p := 193) (tg := 45) hB t720 rfl rfl tq_52 rfl rfl (fun (t193 : _ = 45) => ?_)
      refine ez_go (n := 3) (pc' := 55) (L' := [(2, .inl (1)), (0, .inr (.inr (some (720)))), (1, .inl (a))]) (st' := [.inl ((a) + (6)), .inr (.inr (some (193)))]) rfl ?_
      have n25 : 4096 ≤ qz_N h 193 ∧ qz_N h 193 ≤ 4096 := ez_len hB t193 tq_45 rfl
      refine ez_aI hB t193 rfl tq_45 rfl rfl (by omega) (by omega) (fun (b24 : -128 ≤ qz_I h 193 ((a) + (6)).toNat) (b24' : qz_I h 193 ((a) + (6)).toNat ≤ 127) => ?_)
      refine ez_go (n := 1) (pc' := 58) (L' := [(2, .inl (1)), (0, .inr (.inr (some (720)))), (1, .inl (a))]) (st' := [.inl (46), .inl (qz_I h 193 ((a) + (6)).toNat)]) rfl ?_
      refine ez_icmp rfl rfl ⟨by first | omega | exact (sz_i32 _).1, by first | omega | exact (sz_i32 _).2⟩ ⟨by first | omega | exact (sz_i32 _).1, by first | omega | exact (sz_i32 _).2⟩ (fun (c26 : (qz_I h 193 ((a) + (6)).toNat) ≠ (46)) => ?_) (fun (c26 : ¬((qz_I h 193 ((a) + (6)).toNat) ≠ (46))) => ?_)
      · skip
        refine ez_go (n := 2) (pc' := 95) (L' := [(3, .inl (0)), (2, .inl (1)), (0, .inr (.inr (some (720)))), (1, .inl (a))]) (st' := []) rfl ?_
        refine ez_less [(3, .inl (0)), (2, .inl (1)), (0, .inr (.inr (some (720)))), (1, .inl (a))] rfl ⟨rfl, rfl, rfl, rfl, trivial⟩ ?_
        exact rd_rElK_b hB t720 a0 a1 (by decide) (by decide) (by unfold nz_fr rz_b; omega) he (by unfold rz_b; rw [if_pos (by omega)]) k
      · skip
        refine ez_go (n := 1) (pc' := 62) (L' := [(2, .inl (1)), (0, .inr (.inr (some (720)))), (1, .inl (a))]) (st' := [.inr (.inr (some (720)))]) rfl ?_
        refine ez_gC (p := 193) (tg := 45) hB t720 rfl rfl tq_52 rfl rfl (fun (t193 : _ = 45) => ?_)
        refine ez_go (n := 3) (pc' := 69) (L' := [(2, .inl (1)), (0, .inr (.inr (some (720)))), (1, .inl (a))]) (st' := [.inl ((a) + (11)), .inr (.inr (some (193)))]) rfl ?_
        have n28 : 4096 ≤ qz_N h 193 ∧ qz_N h 193 ≤ 4096 := ez_len hB t193 tq_45 rfl
        refine ez_aI hB t193 rfl tq_45 rfl rfl (by omega) (by omega) (fun (b27 : -128 ≤ qz_I h 193 ((a) + (11)).toNat) (b27' : qz_I h 193 ((a) + (11)).toNat ≤ 127) => ?_)
        refine ez_go (n := 1) (pc' := 72) (L' := [(2, .inl (1)), (0, .inr (.inr (some (720)))), (1, .inl (a))]) (st' := [.inl (46), .inl (qz_I h 193 ((a) + (11)).toNat)]) rfl ?_
        refine ez_icmp rfl rfl ⟨by first | omega | exact (sz_i32 _).1, by first | omega | exact (sz_i32 _).2⟩ ⟨by first | omega | exact (sz_i32 _).1, by first | omega | exact (sz_i32 _).2⟩ (fun (c29 : (qz_I h 193 ((a) + (11)).toNat) ≠ (46)) => ?_) (fun (c29 : ¬((qz_I h 193 ((a) + (11)).toNat) ≠ (46))) => ?_)
        · skip
          refine ez_go (n := 2) (pc' := 95) (L' := [(3, .inl (0)), (2, .inl (1)), (0, .inr (.inr (some (720)))), (1, .inl (a))]) (st' := []) rfl ?_
          refine ez_less [(3, .inl (0)), (2, .inl (1)), (0, .inr (.inr (some (720)))), (1, .inl (a))] rfl ⟨rfl, rfl, rfl, rfl, trivial⟩ ?_
          exact rd_rElK_b hB t720 a0 a1 (by decide) (by decide) (by unfold nz_fr rz_b; omega) he (by unfold rz_b; rw [if_pos (by omega)]) k
        · skip
          refine ez_go (n := 1) (pc' := 76) (L' := [(2, .inl (1)), (0, .inr (.inr (some (720)))), (1, .inl (a))]) (st' := [.inr (.inr (some (720)))]) rfl ?_
          refine ez_gC (p := 193) (tg := 45) hB t720 rfl rfl tq_52 rfl rfl (fun (t193 : _ = 45) => ?_)
          refine ez_go (n := 3) (pc' := 83) (L' := [(2, .inl (1)), (0, .inr (.inr (some (720)))), (1, .inl (a))]) (st' := [.inl ((a) + (16)), .inr (.inr (some (193)))]) rfl ?_
          have n31 : 4096 ≤ qz_N h 193 ∧ qz_N h 193 ≤ 4096 := ez_len hB t193 tq_45 rfl
          refine ez_aI hB t193 rfl tq_45 rfl rfl (by omega) (by omega) (fun (b30 : -128 ≤ qz_I h 193 ((a) + (16)).toNat) (b30' : qz_I h 193 ((a) + (16)).toNat ≤ 127) => ?_)
          refine ez_go (n := 1) (pc' := 86) (L' := [(2, .inl (1)), (0, .inr (.inr (some (720)))), (1, .inl (a))]) (st' := [.inl (93), .inl (qz_I h 193 ((a) + (16)).toNat)]) rfl ?_
          refine ez_icmp rfl rfl ⟨by first | omega | exact (sz_i32 _).1, by first | omega | exact (sz_i32 _).2⟩ ⟨by first | omega | exact (sz_i32 _).1, by first | omega | exact (sz_i32 _).2⟩ (fun (c32 : (qz_I h 193 ((a) + (16)).toNat) ≠ (93)) => ?_) (fun (c32 : ¬((qz_I h 193 ((a) + (16)).toNat) ≠ (93))) => ?_)
          · skip
            refine ez_go (n := 2) (pc' := 95) (L' := [(3, .inl (0)), (2, .inl (1)), (0, .inr (.inr (some (720)))), (1, .inl (a))]) (st' := []) rfl ?_
            refine ez_less [(3, .inl (0)), (2, .inl (1)), (0, .inr (.inr (some (720)))), (1, .inl (a))] rfl ⟨rfl, rfl, rfl, rfl, trivial⟩ ?_
            exact rd_rElK_b hB t720 a0 a1 (by decide) (by decide) (by unfold nz_fr rz_b; omega) he (by unfold rz_b; rw [if_pos (by omega)]) k
          · skip
            refine ez_go (n := 3) (pc' := 95) (L' := [(3, .inl (1)), (2, .inl (1)), (0, .inr (.inr (some (720)))), (1, .inl (a))]) (st' := []) rfl ?_
            refine ez_less [(3, .inl (1)), (2, .inl (1)), (0, .inr (.inr (some (720)))), (1, .inl (a))] rfl ⟨rfl, rfl, rfl, rfl, trivial⟩ ?_
            exact rd_rElK_b hB t720 a0 a1 (by decide) (by decide) (by unfold nz_fr rz_b; omega) he (by unfold rz_b; rw [if_pos (by omega)]) k

theorem rd_rElsK_l {bg en n : Int} {p : Nat} {tot : List eL} (t720 : τ 720 = 52) (tp : τ p = 9) (hp : 1000 ≤ p ∨ p ≠ 193) (b0 : 0 ≤ bg) (be : bg ≤ en) (e1 : en ≤ 4096) (n1 : n ≤ 18) (kk : ∀ g, ez_B τ g → ez_fr (ez_one p) h g → elr g p tot → Q (.inl (some (.inr (.inr (some p)))), g)) : ∀ (m : Nat) (k a : Int) (g : cz_H) (pre : List eL), 0 ≤ a → 0 ≤ k → n = k + (m : Int) → ez_B τ g → ez_fr (ez_one p) h g → qz_N g p = n → nz_el (rz_b h) en m a → (pre.length : Int) = k → tot = pre ++ nz_ev (rz_b h) en m a → (∀ (j : Nat) e, pre[j]? = some e → qz_I g p j = (Int64.ofInt (eP e)).toInt) → ez_W (d + 2) cm_164 31 [(6, .inl (k)), (5, .inl (a)), (4, .inr (.inr (some (p)))), (3, .inl (n)), (0, .inr (.inr (some (720)))), (1, .inl (bg)), (2, .inl (en))] [] g Q := by
  intro m
  induction m with
  | zero =>
    intro k a g pre a0 k0 hk hB hf hN hel hpl htot hcell
    refine ez_go (n := 2) (pc' := 34) (L' := [(6, .inl (k)), (5, .inl (a)), (4, .inr (.inr (some (p)))), (3, .inl (n)), (0, .inr (.inr (some (720)))), (1, .inl (bg)), (2, .inl (en))]) (st' := [.inl (n), .inl (k)]) rfl ?_
    refine ez_icmp rfl rfl ⟨by first | omega | exact (sz_i32 _).1, by first | omega | exact (sz_i32 _).2⟩ ⟨by first | omega | exact (sz_i32 _).1, by first | omega | exact (sz_i32 _).2⟩ (fun (c1 : (n) ≤ (k)) => ?_) (fun (c1 : ¬((n) ≤ (k))) => ?_)
    · skip
      refine ez_go (n := 1) (pc' := 68) (L' := [(6, .inl (k)), (5, .inl (a)), (4, .inr (.inr (some (p)))), (3, .inl (n)), (0, .inr (.inr (some (720)))), (1, .inl (bg)), (2, .inl (en))]) (st' := [.inr (.inr (some (p)))]) rfl ?_
      rw [show nz_ev (rz_b h) en 0 a = [] from rfl, List.append_nil] at htot
      subst htot
      exact ez_retA rfl rfl rfl (kk g hB hf ⟨by omega, hcell⟩)
    · exfalso; omega
  | succ m ih =>
    intro k a g pre a0 k0 hk hB hf hN hel hpl htot hcell
    refine ez_go (n := 2) (pc' := 34) (L' := [(6, .inl (k)), (5, .inl (a)), (4, .inr (.inr (some (p)))), (3, .inl (n)), (0, .inr (.inr (some (720)))), (1, .inl (bg)), (2, .inl (en))]) (st' := [.inl (n), .inl (k)]) rfl ?_
    refine ez_icmp rfl rfl ⟨by first | omega | exact (sz_i32 _).1, by first | omega | exact (sz_i32 _).2⟩ ⟨by first | omega | exact (sz_i32 _).1, by first | omega | exact (sz_i32 _).2⟩ (fun (c1 : (n) ≤ (k)) => ?_) (fun (c1 : ¬((n) ≤ (k))) => ?_)
    · exfalso; omega
    · skip
      refine ez_go (n := 4) (pc' := 44) (L' := [(6, .inl (k)), (5, .inl (a)), (4, .inr (.inr (some (p)))), (3, .inl (n)), (0, .inr (.inr (some (720)))), (1, .inl (bg)), (2, .inl (en))]) (st' := [.inl (a), .inr (.inr (some (720))), .inl (k), .inr (.inr (some (p)))]) rfl ?_
      have hel1 := hel.1
      have hbg : rz_b g = rz_b h := rz_b_fr hf (dz_beq_ne (by omega))
      refine ez_cv hB t720 rfl rfl rfl tq_52 rfl rfl rfl (rd_rElK hB t720 (by omega) (by omega) (by rw [hbg]; exact hel.2.1) (ez_KL ?_))
      rw [hbg]
      have n4 : 1 ≤ qz_N g p ∧ qz_N g p ≤ 18 := ez_len hB tp tq_9 rfl
      refine ez_as hB tp rfl tq_9 rfl rfl (by omega) (by omega) ez_vdJ (fun hB2 w3 => ?_)
      refine ez_go (n := 5) (pc' := 55) (L' := [(6, .inl (k)), (5, .inl (a)), (4, .inr (.inr (some (p)))), (3, .inl (n)), (0, .inr (.inr (some (720)))), (1, .inl (bg)), (2, .inl (en))]) (st' := [.inl (en), .inl ((a) + (17)), .inr (.inr (some (720)))]) rfl ?_
      have hb1 : rz_b (dz_put g p (k).toNat (ez_v (.inr (.inl (Int64.ofInt (eP (nz_v1 (rz_b h) a))))))) = rz_b h := rz_b_fr (hf.put (show Nat.beq p p = true from Nat.beq_refl p) _ _) (dz_beq_ne (by omega))
      have xs := rz_skip_le (rz_b h) (en - (a + 17)).toNat (a + 17)
      refine ez_cv hB2 t720 rfl rfl rfl tq_52 rfl rfl rfl (rd_skipBlanks hB2 t720 (by omega) (by omega) (by omega) (ez_K1 ?_))
      rw [hb1]
      refine ez_go (n := 3) (pc' := 31) (L' := [(6, .inl (k + 1)), (5, .inl (rz_skip (rz_b h) (en - (a + 17)).toNat (a + 17))), (4, .inr (.inr (some (p)))), (3, .inl (n)), (0, .inr (.inr (some (720)))), (1, .inl (bg)), (2, .inl (en))]) (st' := []) rfl ?_
      refine ez_less [(6, .inl (k + 1)), (5, .inl (rz_skip (rz_b h) (en - (a + 17)).toNat (a + 17))), (4, .inr (.inr (some (p)))), (3, .inl (n)), (0, .inr (.inr (some (720)))), (1, .inl (bg)), (2, .inl (en))] rfl ⟨rfl, rfl, rfl, rfl, rfl, rfl, rfl, trivial⟩ ?_
      refine ih _ _ _ (pre ++ [nz_v1 (rz_b h) a]) (by omega) (by omega) (by omega) hB2 (hf.put (show Nat.beq p p = true from Nat.beq_refl p) _ _) (by rw [ez_put_N]; exact hN) hel.2.2 (by rw [List.length_append, List.length_singleton]; omega) (by rw [htot, List.append_assoc]; rfl) (fun j e hj => ?_)
      by_cases c : j < pre.length
      · rw [List.getElem?_append_left c] at hj
        rw [ez_put_I (fun w => by have := w.2; omega)]; exact hcell j e hj
      · rw [List.getElem?_append_right (by omega)] at hj
        have e0 : j - pre.length = 0 := Classical.byContradiction fun q => by rw [List.getElem?_eq_none (by rw [List.length_singleton]; omega)] at hj; cases hj
        rw [e0] at hj; cases hj
        rw [show j = (k).toNat by omega]; exact w3
theorem rd_rElsK {bg en : Int} (hB : ez_B τ h) (t720 : τ 720 = 52) (t193 : τ 193 = 45) (b0 : 0 ≤ bg) (be : bg ≤ en) (e1 : en ≤ 4096) (hr1 : h.1 + 1 ≤ 600192) (hr2 : h.2.1 + 18 ≤ 7302232) (k : ∀ o g τ1, ez_B τ1 g → ez_xt τ h τ1 g 1 18 → (∀ p, o = some p → (τ1 p = 9 ∧ τ p = 0) ∧ ∃ q, nz_el (rz_b h) en q bg ∧ (1 ≤ q ∧ q ≤ 18) ∧ elr g p (nz_ev (rz_b h) en q bg)) → (o = none ↔ ¬ nz_els (rz_b h) bg en) → Q (.inl (some (.inr (.inr o))), g)) : ez_W (d + 3) cm_164 0 [(0, .inr (.inr (some (720)))), (1, .inl (bg)), (2, .inl (en))] [] h Q := by
  refine ez_go (n := 3) (pc' := 3) (L' := [(0, .inr (.inr (some (720)))), (1, .inl (bg)), (2, .inl (en))]) (st' := [.inl (en), .inl (bg), .inr (.inr (some (720)))]) rfl ?_
  refine ez_cv hB t720 rfl rfl rfl tq_52 rfl rfl rfl (rd_countElements hB t720 b0 be e1 (fun hno => ez_K1 ?_) (fun q hq => ez_K1 ?_))
  · skip
    refine ez_go (n := 3) (pc' := 9) (L' := [(3, .inl (-1)), (0, .inr (.inr (some (720)))), (1, .inl (bg)), (2, .inl (en))]) (st' := [.inl (1), .inl (-1)]) rfl ?_
    refine ez_icmp rfl rfl ⟨by decide, by decide⟩ ⟨by decide, by decide⟩ (fun _ => ?_) (fun (c1 : ¬((-1 : Int) < (1))) => absurd c1 (by decide))
    refine ez_go (n := 1) (pc' := 19) (L' := [(3, .inl (-1)), (0, .inr (.inr (some (720)))), (1, .inl (bg)), (2, .inl (en))]) (st' := [.inr (.inr none)]) rfl ?_
    exact ez_retA rfl rfl rfl (k none h τ hB (ez_xt.refl _ _ _ _) (fun p w => by cases w) ⟨fun _ w => by obtain ⟨q9, w1, w2⟩ := w; first | exact hno ⟨q9, w2⟩ | (have := nz_el_u _ _ _ _ _ hq w2; omega), fun _ => rfl⟩)
  · skip
    have hql := nz_el_le _ _ _ _ hq
    refine ez_go (n := 3) (pc' := 9) (L' := [(3, .inl ((q : Int))), (0, .inr (.inr (some (720)))), (1, .inl (bg)), (2, .inl (en))]) (st' := [.inl (1), .inl ((q : Int))]) rfl ?_
    refine ez_icmp rfl rfl ⟨by first | omega | exact (sz_i32 _).1, by first | omega | exact (sz_i32 _).2⟩ ⟨by first | omega | exact (sz_i32 _).1, by first | omega | exact (sz_i32 _).2⟩ (fun (c2 : ((q : Int)) < (1)) => ?_) (fun (c2 : ¬(((q : Int)) < (1))) => ?_)
    · skip
      refine ez_go (n := 1) (pc' := 19) (L' := [(3, .inl ((q : Int))), (0, .inr (.inr (some (720)))), (1, .inl (bg)), (2, .inl (en))]) (st' := [.inr (.inr none)]) rfl ?_
      exact ez_retA rfl rfl rfl (k none h τ hB (ez_xt.refl _ _ _ _) (fun p w => by cases w) ⟨fun _ w => by obtain ⟨q9, w1, w2⟩ := w; first | exact hno ⟨q9, w2⟩ | (have := nz_el_u _ _ _ _ _ hq w2; omega), fun _ => rfl⟩)
    · skip
      refine ez_go (n := 2) (pc' := 15) (L' := [(3, .inl ((q : Int))), (0, .inr (.inr (some (720)))), (1, .inl (bg)), (2, .inl (en))]) (st' := [.inl (18), .inl ((q : Int))]) rfl ?_
      refine ez_icmp rfl rfl ⟨by first | omega | exact (sz_i32 _).1, by first | omega | exact (sz_i32 _).2⟩ ⟨by first | omega | exact (sz_i32 _).1, by first | omega | exact (sz_i32 _).2⟩ (fun (c3 : ((q : Int)) ≤ (18)) => ?_) (fun (c3 : ¬(((q : Int)) ≤ (18))) => ?_)
      · skip
        refine ez_go (n := 1) (pc' := 21) (L' := [(3, .inl ((q : Int))), (0, .inr (.inr (some (720)))), (1, .inl (bg)), (2, .inl (en))]) (st' := [.inl ((q : Int))]) rfl ?_
        refine ez_nA' (t := 9) hB rfl rfl rfl tq_9 rfl rfl (by omega) (by show (1 : Int) ≤ _; omega) (by show _ ≤ (18 : Int); omega) (by omega) (by omega) (by omega) (fun g4 τ4 p4 hB4 x4 o4 t4 z4 e4 N4 y4 => ?_)
        have c4 := x4.2
        have t720n4 := (x4.1 _ (by rw [t720]; decide)).1.trans t720
        refine ez_go (n := 5) (pc' := 31) (L' := [(6, .inl (0)), (5, .inl (bg)), (4, .inr (.inr (some (p4)))), (3, .inl ((q : Int))), (0, .inr (.inr (some (720)))), (1, .inl (bg)), (2, .inl (en))]) (st' := []) rfl ?_
        refine ez_less [(6, .inl (0)), (5, .inl (bg)), (4, .inr (.inr (some (p4)))), (3, .inl ((q : Int))), (0, .inr (.inr (some (720)))), (1, .inl (bg)), (2, .inl (en))] rfl ⟨rfl, rfl, rfl, rfl, rfl, rfl, rfl, trivial⟩ ?_
        have h193 : p4 ≠ 193 := fun e => by rw [e, t193] at z4; cases z4
        have hb9 : rz_b g4 = rz_b h := funext fun i => x4.I (by rw [t193]; decide) _
        exact rd_rElsK_l (h := g4) (tot := nz_ev (rz_b h) en q bg) t720n4 t4 (Or.inr h193) b0 be e1 (by omega) (fun g hB9 hf er => k (some _) g _ hB9 (((x4.fr hf z4)).mono (by omega) (by omega)) (fun p w => by cases w; exact ⟨⟨t4, z4⟩, q, hq, ⟨by omega, by omega⟩, er⟩) ⟨fun w => (by cases w), fun w => absurd ⟨q, ⟨by omega, by omega⟩, hq⟩ w⟩) q 0 bg _ [] (by omega) (by omega) (by omega) hB4 (ez_fr.refl _ _) N4 (by rw [hb9]; exact hq) rfl (by rw [hb9]; rfl) (fun j e hj => by cases hj)
      · skip
        refine ez_go (n := 1) (pc' := 19) (L' := [(3, .inl ((q : Int))), (0, .inr (.inr (some (720)))), (1, .inl (bg)), (2, .inl (en))]) (st' := [.inr (.inr none)]) rfl ?_
        exact ez_retA rfl rfl rfl (k none h τ hB (ez_xt.refl _ _ _ _) (fun p w => by cases w) ⟨fun _ w => by obtain ⟨q9, w1, w2⟩ := w; first | exact hno ⟨q9, w2⟩ | (have := nz_el_u _ _ _ _ _ hq w2; omega), fun _ => rfl⟩)

theorem rd_tEnK_e {s : Int64} {r : Nat} {pl : Int} {g : cz_H} (t202 : τ 202 = 48) (t204 : τ 204 = 50) (t205 : τ 205 = 51) (tr : τ r = 7) (hr : (r : Int) + 1 ≤ 1000000) (c : cEr τ h LK R) (rk : rowk row) (hs : (uv s : Int) = pkN row) (en : ent τ h ((r : Int) + 1) (row, e)) (n1 : R.length < 256) (p0 : 0 ≤ pl) (p1 : pl ≤ (R.length : Int)) (lo : ∀ i a, i < pl.toNat → R[i]? = some a → pkN a.1 < pkN row) (hi : ∀ i a, pl.toNat ≤ i → R[i]? = some a → pkN row < pkN a.1) (kk : ∀ g R2, ez_B τ g → ez_fr nz_PE h g → cEr τ g (lk1 LK (some (row, e))) R2 → R2.length ≤ R.length + 1 → (∀ j, j ≠ 4 → qz_I g 202 j = qz_I h 202 j) → Q (.inl none, g)) (hBg : ez_B τ g) (hf : ez_fr nz_PE h g) (hj0 : ∀ j, j ≠ 4 → qz_I g 202 j = qz_I h 202 j) (hc : qz_I g 202 4 = (R.length : Int)) (hv4 : (∀ k : Nat, k ≤ R.length → qz_I g 204 k = if pl < (k : Int) then qz_I h 204 (k - 1) else qz_I h 204 k)) (hv5 : (∀ k : Nat, k ≤ R.length → qz_I g 205 k = if pl < (k : Int) then qz_I h 205 (k - 1) else qz_I h 205 k)) : ez_W d cm_104 106 [(5, .inl (pl)), (4, .inl (pl)), (0, .inr (.inr (some (202)))), (1, .inr (.inl (s))), (3, .inr (.inr (some (r))))] [] g Q := by
  have ek : ∀ {k : cz_H}, ez_fr nz_PE h k → ∀ q, τ q = 7 ∨ τ q = 9 → k.2.2 q = h.2.2 q := fun {k} f q hq => f.2.2 q (by unfold nz_PE; rw [dz_beq_ne (fun y => by rw [y, t202] at hq; omega), dz_beq_ne (fun y => by rw [y, t204] at hq; omega), dz_beq_ne (fun y => by rw [y, t205] at hq; omega)]; rfl)
  refine ez_go (n := 1) (pc' := 107) (L' := [(5, .inl (pl)), (4, .inl (pl)), (0, .inr (.inr (some (202)))), (1, .inr (.inl (s))), (3, .inr (.inr (some (r))))]) (st' := [.inr (.inr (some (202)))]) rfl ?_
  refine ez_gC (p := 204) (tg := 50) hBg t202 rfl rfl tq_48 rfl rfl (fun (t204 : _ = 50) => ?_)
  refine ez_go (n := 2) (pc' := 113) (L' := [(5, .inl (pl)), (4, .inl (pl)), (0, .inr (.inr (some (202)))), (1, .inr (.inl (s))), (3, .inr (.inr (some (r))))]) (st' := [.inr (.inl (s)), .inl (pl), .inr (.inr (some (204)))]) rfl ?_
  have n3 : 256 ≤ qz_N g 204 ∧ qz_N g 204 ≤ 256 := ez_len hBg t204 tq_50 rfl
  refine ez_as hBg t204 rfl tq_50 rfl rfl (by omega) (by omega) ez_vdJ (fun hB1 w2 => ?_)
  refine ez_go (n := 1) (pc' := 115) (L' := [(5, .inl (pl)), (4, .inl (pl)), (0, .inr (.inr (some (202)))), (1, .inr (.inl (s))), (3, .inr (.inr (some (r))))]) (st' := [.inr (.inr (some (202)))]) rfl ?_
  refine ez_gC (p := 205) (tg := 51) hB1 t202 rfl rfl tq_48 rfl rfl (fun (t205 : _ = 51) => ?_)
  refine ez_go (n := 2) (pc' := 121) (L' := [(5, .inl (pl)), (4, .inl (pl)), (0, .inr (.inr (some (202)))), (1, .inr (.inl (s))), (3, .inr (.inr (some (r))))]) (st' := [.inr (.inr (some (r))), .inl (pl), .inr (.inr (some (205)))]) rfl ?_
  have n6 : 256 ≤ qz_N (dz_put g 204 (pl).toNat (ez_v (.inr (.inl (s))))) 205 ∧ qz_N (dz_put g 204 (pl).toNat (ez_v (.inr (.inl (s))))) 205 ≤ 256 := ez_len hB1 t205 tq_51 rfl
  refine ez_aa hB1 t205 tr rfl tq_51 tq_7 rfl rfl rfl (by omega) (by omega) (ez_vdR rfl tr (by omega) (by omega)) (fun hB4 w5 => ?_)
  refine ez_go (n := 2) (pc' := 124) (L' := [(5, .inl (pl)), (4, .inl (pl)), (0, .inr (.inr (some (202)))), (1, .inr (.inl (s))), (3, .inr (.inr (some (r))))]) (st' := [.inr (.inr (some (202))), .inr (.inr (some (202)))]) rfl ?_
  refine ez_gI hB4 t202 rfl rfl tq_48 rfl rfl (fun (b7 : 0 ≤ qz_I (dz_put (dz_put g 204 (pl).toNat (ez_v (.inr (.inl (s))))) 205 (pl).toNat (ez_v (.inr (.inr (some (r)))))) 202 4) (b7' : qz_I (dz_put (dz_put g 204 (pl).toNat (ez_v (.inr (.inl (s))))) 205 (pl).toNat (ez_v (.inr (.inr (some (r)))))) 202 4 ≤ 256) => ?_)
  have hcn : qz_I (dz_put (dz_put g 204 (pl).toNat (ez_v (.inr (.inl (s))))) 205 (pl).toNat (ez_v (.inr (.inr (some (r)))))) 202 4 = (R.length : Int) := by rw [ez_put_I (by omega), ez_put_I (by omega)]; exact hc
  refine ez_go (n := 2) (pc' := 129) (L' := [(5, .inl (pl)), (4, .inl (pl)), (0, .inr (.inr (some (202)))), (1, .inr (.inl (s))), (3, .inr (.inr (some (r))))]) (st' := [.inl ((qz_I (dz_put (dz_put g 204 (pl).toNat (ez_v (.inr (.inl (s))))) 205 (pl).toNat (ez_v (.inr (.inr (some (r)))))) 202 4) + (1)), .inr (.inr (some (202)))]) rfl ?_
  refine ez_pf hB4 t202 rfl rfl tq_48 rfl rfl rfl rfl (ez_vdI rfl rfl (by omega) (by omega)) (fun hB8 w9 => ?_)
  have bp := pkN_bd rk
  have cn : qz_I (dz_put (dz_put (dz_put g 204 (pl).toNat (ez_v (.inr (.inl (s))))) 205 (pl).toNat (ez_v (.inr (.inr (some (r)))))) 202 4 (ez_v (.inl ((qz_I (dz_put (dz_put g 204 (pl).toNat (ez_v (.inr (.inl (s))))) 205 (pl).toNat (ez_v (.inr (.inr (some (r)))))) 202 4) + (1))))) 202 4 = qz_I h 202 4 + 1 := by rw [w9, rz_rd ⟨by omega, by omega⟩, hcn]; have := c.1; omega
  have fg : ez_fr nz_PE h (dz_put (dz_put (dz_put g 204 (pl).toNat (ez_v (.inr (.inl (s))))) 205 (pl).toNat (ez_v (.inr (.inr (some (r)))))) 202 4 (ez_v (.inl ((qz_I (dz_put (dz_put g 204 (pl).toNat (ez_v (.inr (.inl (s))))) 205 (pl).toNat (ez_v (.inr (.inr (some (r)))))) 202 4) + (1))))) := (((hf.put (show nz_PE 204 = true from rfl) _ _).put (show nz_PE 205 = true from rfl) _ _).put (show nz_PE 202 = true from rfl) _ _)
  have i4 : ∀ k, k ≠ pl.toNat → qz_I (dz_put (dz_put (dz_put g 204 (pl).toNat (ez_v (.inr (.inl (s))))) 205 (pl).toNat (ez_v (.inr (.inr (some (r)))))) 202 4 (ez_v (.inl ((qz_I (dz_put (dz_put g 204 (pl).toNat (ez_v (.inr (.inl (s))))) 205 (pl).toNat (ez_v (.inr (.inr (some (r)))))) 202 4) + (1))))) 204 k = qz_I g 204 k := fun k hk => by rw [ez_put_I (by omega), ez_put_I (by omega), ez_put_I (fun w => hk w.2)]
  have i5 : ∀ k, k ≠ pl.toNat → qz_I (dz_put (dz_put (dz_put g 204 (pl).toNat (ez_v (.inr (.inl (s))))) 205 (pl).toNat (ez_v (.inr (.inr (some (r)))))) 202 4 (ez_v (.inl ((qz_I (dz_put (dz_put g 204 (pl).toNat (ez_v (.inr (.inl (s))))) 205 (pl).toNat (ez_v (.inr (.inr (some (r)))))) 202 4) + (1))))) 205 k = qz_I g 205 k := fun k hk => by rw [ez_put_I (by omega), ez_put_I (fun w => hk w.2), ez_put_I (by omega)]
  have v4 : qz_I (dz_put (dz_put (dz_put g 204 (pl).toNat (ez_v (.inr (.inl (s))))) 205 (pl).toNat (ez_v (.inr (.inr (some (r)))))) 202 4 (ez_v (.inl ((qz_I (dz_put (dz_put g 204 (pl).toNat (ez_v (.inr (.inl (s))))) 205 (pl).toNat (ez_v (.inr (.inr (some (r)))))) 202 4) + (1))))) 204 pl.toNat = pkN row := by rw [ez_put_I (by omega), ez_put_I (by omega), w2, show dz_n (ez_v (.inr (.inl s))) = s.toInt from rfl, uv_toInt (by omega)]; exact hs
  have v5 : qz_I (dz_put (dz_put (dz_put g 204 (pl).toNat (ez_v (.inr (.inl (s))))) 205 (pl).toNat (ez_v (.inr (.inr (some (r)))))) 202 4 (ez_v (.inl ((qz_I (dz_put (dz_put g 204 (pl).toNat (ez_v (.inr (.inl (s))))) 205 (pl).toNat (ez_v (.inr (.inr (some (r)))))) 202 4) + (1))))) 205 pl.toNat = (r : Int) + 1 := by rw [ez_put_I (by omega), w5]
  have j2 : ∀ j, j ≠ 4 → qz_I (dz_put (dz_put (dz_put g 204 (pl).toNat (ez_v (.inr (.inl (s))))) 205 (pl).toNat (ez_v (.inr (.inr (some (r)))))) 202 4 (ez_v (.inl ((qz_I (dz_put (dz_put g 204 (pl).toNat (ez_v (.inr (.inl (s))))) 205 (pl).toNat (ez_v (.inr (.inr (some (r)))))) 202 4) + (1))))) 202 j = qz_I h 202 j := fun j hj => by rw [ez_put_I (fun w => hj w.2), ez_put_I (by omega), ez_put_I (by omega)]; exact hj0 j hj
  have hB9 := hB8
  generalize (dz_put (dz_put (dz_put g 204 (pl).toNat (ez_v (.inr (.inl (s))))) 205 (pl).toNat (ez_v (.inr (.inr (some (r)))))) 202 4 (ez_v (.inl ((qz_I (dz_put (dz_put g 204 (pl).toNat (ez_v (.inr (.inl (s))))) 205 (pl).toNat (ez_v (.inr (.inr (some (r)))))) 202 4) + (1))))) = g9 at *
  refine ez_ret0 rfl rfl (kk g9 _ hB9 fg (c.ins (v := pl.toNat) (r := r) (e := e) rk (by omega) lo hi cn (fun i hi9 => ?_) (fun i i1 i2 => ?_) v4 (fun i hi9 => ?_) (fun i i1 i2 => ?_) v5 (en.tr (fun q hq => ⟨rfl, ek fg q hq⟩)) (ek fg)) ?_ j2)
  · rw [i4 i (by omega), hv4 i (by omega), if_neg (by omega)]
  · rw [i4 i (by omega), hv4 i (by omega), if_pos (by omega)]
  · rw [i5 i (by omega), hv5 i (by omega), if_neg (by omega)]
  · rw [i5 i (by omega), hv5 i (by omega), if_pos (by omega)]
  · rw [List.length_append, List.length_cons, List.length_take, List.length_drop]; omega

theorem rd_tEnK_l {s : Int64} {r : Nat} {pl : Int} (t202 : τ 202 = 48) (t204 : τ 204 = 50) (t205 : τ 205 = 51) (tr : τ r = 7) (hr : (r : Int) + 1 ≤ 1000000) (c : cEr τ h LK R) (rk : rowk row) (hs : (uv s : Int) = pkN row) (en : ent τ h ((r : Int) + 1) (row, e)) (n1 : R.length < 256) (p0 : 0 ≤ pl) (p1 : pl ≤ (R.length : Int)) (lo : ∀ i a, i < pl.toNat → R[i]? = some a → pkN a.1 < pkN row) (hi : ∀ i a, pl.toNat ≤ i → R[i]? = some a → pkN row < pkN a.1) (kk : ∀ g R2, ez_B τ g → ez_fr nz_PE h g → cEr τ g (lk1 LK (some (row, e))) R2 → R2.length ≤ R.length + 1 → (∀ j, j ≠ 4 → qz_I g 202 j = qz_I h 202 j) → Q (.inl none, g)) : ∀ (m : Nat) (i : Int) (g : cz_H), m = (i - pl).toNat → pl ≤ i → i ≤ (R.length : Int) → ez_B τ g → ez_fr nz_PE h g → (∀ j, j ≠ 4 → qz_I g 202 j = qz_I h 202 j) → qz_I g 202 4 = (R.length : Int) → (∀ k : Nat, k ≤ R.length → qz_I g 204 k = if i < (k : Int) then qz_I h 204 (k - 1) else qz_I h 204 k) → (∀ k : Nat, k ≤ R.length → qz_I g 205 k = if i < (k : Int) then qz_I h 205 (k - 1) else qz_I h 205 k) → ez_W d cm_104 61 [(5, .inl (i)), (4, .inl (pl)), (0, .inr (.inr (some (202)))), (1, .inr (.inl (s))), (3, .inr (.inr (some (r))))] [] g Q := by
  have hE : ∀ k : Nat, k < R.length → 1 ≤ qz_I h 205 k := fun k hk => by
    obtain ⟨-, -, ⟨z, w, x1, -⟩, -⟩ := c.2.1 k _ (List.getElem?_eq_getElem hk)
    omega
  intro m
  induction m with
  | zero =>
    intro i g hm a1 a2 hBg hf hj0 hc hv4 hv5
    refine ez_go (n := 2) (pc' := 65) (L' := [(5, .inl (i)), (4, .inl (pl)), (0, .inr (.inr (some (202)))), (1, .inr (.inl (s))), (3, .inr (.inr (some (r))))]) (st' := [.inl (pl), .inl (i)]) rfl ?_
    refine ez_icmp rfl rfl ⟨by first | omega | exact (sz_i32 _).1, by first | omega | exact (sz_i32 _).2⟩ ⟨by first | omega | exact (sz_i32 _).1, by first | omega | exact (sz_i32 _).2⟩ (fun (c1 : (i) ≤ (pl)) => ?_) (fun (c1 : ¬((i) ≤ (pl))) => ?_)
    · skip
      have e9 : i = pl := by omega
      subst e9
      exact rd_tEnK_e t202 t204 t205 tr hr c rk hs en n1 p0 p1 lo hi kk hBg hf hj0 hc hv4 hv5
    · exfalso; omega
  | succ m ih =>
    intro i g hm a1 a2 hBg hf hj0 hc hv4 hv5
    refine ez_go (n := 2) (pc' := 65) (L' := [(5, .inl (i)), (4, .inl (pl)), (0, .inr (.inr (some (202)))), (1, .inr (.inl (s))), (3, .inr (.inr (some (r))))]) (st' := [.inl (pl), .inl (i)]) rfl ?_
    refine ez_icmp rfl rfl ⟨by first | omega | exact (sz_i32 _).1, by first | omega | exact (sz_i32 _).2⟩ ⟨by first | omega | exact (sz_i32 _).1, by first | omega | exact (sz_i32 _).2⟩ (fun (c1 : (i) ≤ (pl)) => ?_) (fun (c1 : ¬((i) ≤ (pl))) => ?_)
    · exfalso; omega
    · skip
      refine ez_go (n := 1) (pc' := 69) (L' := [(5, .inl (i)), (4, .inl (pl)), (0, .inr (.inr (some (202)))), (1, .inr (.inl (s))), (3, .inr (.inr (some (r))))]) (st' := [.inr (.inr (some (202)))]) rfl ?_
      refine ez_gC (p := 204) (tg := 50) hBg t202 rfl rfl tq_48 rfl rfl (fun (t204 : _ = 50) => ?_)
      refine ez_go (n := 2) (pc' := 75) (L' := [(5, .inl (i)), (4, .inl (pl)), (0, .inr (.inr (some (202)))), (1, .inr (.inl (s))), (3, .inr (.inr (some (r))))]) (st' := [.inr (.inr (some (202))), .inl (i), .inr (.inr (some (204)))]) rfl ?_
      refine ez_gC (p := 204) (tg := 50) hBg t202 rfl rfl tq_48 rfl rfl (fun (t204 : _ = 50) => ?_)
      refine ez_go (n := 3) (pc' := 82) (L' := [(5, .inl (i)), (4, .inl (pl)), (0, .inr (.inr (some (202)))), (1, .inr (.inl (s))), (3, .inr (.inr (some (r))))]) (st' := [.inl ((i) - (1)), .inr (.inr (some (204))), .inl (i), .inr (.inr (some (204)))]) rfl ?_
      have n2 : 256 ≤ qz_N g 204 ∧ qz_N g 204 ≤ 256 := ez_len hBg t204 tq_50 rfl
      refine ez_aL hBg t204 rfl tq_50 rfl rfl (by omega) (by omega) ?_
      have n5 : 256 ≤ qz_N g 204 ∧ qz_N g 204 ≤ 256 := ez_len hBg t204 tq_50 rfl
      refine ez_as hBg t204 rfl tq_50 rfl rfl (by omega) (by omega) ez_vdJ (fun hB3 w4 => ?_)
      refine ez_go (n := 1) (pc' := 85) (L' := [(5, .inl (i)), (4, .inl (pl)), (0, .inr (.inr (some (202)))), (1, .inr (.inl (s))), (3, .inr (.inr (some (r))))]) (st' := [.inr (.inr (some (202)))]) rfl ?_
      refine ez_gC (p := 205) (tg := 51) hB3 t202 rfl rfl tq_48 rfl rfl (fun (t205 : _ = 51) => ?_)
      refine ez_go (n := 2) (pc' := 91) (L' := [(5, .inl (i)), (4, .inl (pl)), (0, .inr (.inr (some (202)))), (1, .inr (.inl (s))), (3, .inr (.inr (some (r))))]) (st' := [.inr (.inr (some (202))), .inl (i), .inr (.inr (some (205)))]) rfl ?_
      refine ez_gC (p := 205) (tg := 51) hB3 t202 rfl rfl tq_48 rfl rfl (fun (t205 : _ = 51) => ?_)
      refine ez_go (n := 3) (pc' := 98) (L' := [(5, .inl (i)), (4, .inl (pl)), (0, .inr (.inr (some (202)))), (1, .inr (.inl (s))), (3, .inr (.inr (some (r))))]) (st' := [.inl ((i) - (1)), .inr (.inr (some (205))), .inl (i), .inr (.inr (some (205)))]) rfl ?_
      have n7 : 256 ≤ qz_N (dz_put g 204 (i).toNat (ez_v (.inr (.inl (Int64.ofInt (qz_I g 204 ((i) - (1)).toNat)))))) 205 ∧ qz_N (dz_put g 204 (i).toNat (ez_v (.inr (.inl (Int64.ofInt (qz_I g 204 ((i) - (1)).toNat)))))) 205 ≤ 256 := ez_len hB3 t205 tq_51 rfl
      have y8 : 1 ≤ qz_I (dz_put g 204 (i).toNat (ez_v (.inr (.inl (Int64.ofInt (qz_I g 204 ((i) - (1)).toNat)))))) 205 ((i) - (1)).toNat := (by rw [ez_put_I (by omega), hv5 _ (by omega), if_neg (by omega)]; exact hE _ (by omega))
      have y9 : 0 ≤ qz_I (dz_put g 204 (i).toNat (ez_v (.inr (.inl (Int64.ofInt (qz_I g 204 ((i) - (1)).toNat)))))) 205 ((i) - (1)).toNat ∧ qz_I (dz_put g 204 (i).toNat (ez_v (.inr (.inl (Int64.ofInt (qz_I g 204 ((i) - (1)).toNat)))))) 205 ((i) - (1)).toNat ≤ 1000000 := ez_aB hB3 t205 tq_51 rfl rfl (by decide) (by omega) (by omega)
      have y9' : ((qz_P (dz_put g 204 (i).toNat (ez_v (.inr (.inl (Int64.ofInt (qz_I g 204 ((i) - (1)).toNat)))))) 205 ((i) - (1)).toNat : Nat) : Int) + 1 = qz_I (dz_put g 204 (i).toNat (ez_v (.inr (.inl (Int64.ofInt (qz_I g 204 ((i) - (1)).toNat)))))) 205 ((i) - (1)).toNat := by unfold qz_P; omega
      refine ez_aR hB3 t205 rfl tq_51 rfl rfl (by omega) (by omega) (by omega) (fun (t6 : _ = 7) => ?_)
      have n12 : 256 ≤ qz_N (dz_put g 204 (i).toNat (ez_v (.inr (.inl (Int64.ofInt (qz_I g 204 ((i) - (1)).toNat)))))) 205 ∧ qz_N (dz_put g 204 (i).toNat (ez_v (.inr (.inl (Int64.ofInt (qz_I g 204 ((i) - (1)).toNat)))))) 205 ≤ 256 := ez_len hB3 t205 tq_51 rfl
      refine ez_aa hB3 t205 t6 rfl tq_51 tq_7 rfl rfl rfl (by omega) (by omega) (ez_vdR rfl t6 (by omega) (by omega)) (fun hB10 w11 => ?_)
      refine ez_go (n := 2) (pc' := 61) (L' := [(5, .inl (i + (-1))), (4, .inl (pl)), (0, .inr (.inr (some (202)))), (1, .inr (.inl (s))), (3, .inr (.inr (some (r))))]) (st' := []) rfl ?_
      refine ez_less [(5, .inl (i + (-1))), (4, .inl (pl)), (0, .inr (.inr (some (202)))), (1, .inr (.inl (s))), (3, .inr (.inr (some (r))))] rfl ⟨rfl, rfl, rfl, rfl, rfl, trivial⟩ ?_
      have il : (i - 1).toNat < R.length := by omega
      have ra := List.getElem?_eq_getElem il
      obtain ⟨d1, d2, -, -⟩ := c.2.1 _ _ ra
      have bp := pkN_bd d1
      have q4 : qz_I g 204 (i - 1).toNat = qz_I h 204 (i - 1).toNat := by rw [hv4 _ (by omega), if_neg (by omega)]
      have q5 : qz_I g 205 (i - 1).toNat = qz_I h 205 (i - 1).toNat := by rw [hv5 _ (by omega), if_neg (by omega)]
      have n5 : 1 ≤ qz_I h 205 (i - 1).toNat := hE _ il
      refine ih (i + (-1)) _ (by omega) (by omega) (by omega) hB10 ((hf.put (show nz_PE 204 = true from rfl) _ _).put (show nz_PE 205 = true from rfl) _ _) (fun j hj => by rw [ez_put_I (by omega), ez_put_I (by omega)]; exact hj0 j hj) (by rw [ez_put_I (by omega), ez_put_I (by omega)]; exact hc) (fun k hk => ?_) (fun k hk => ?_)
      · by_cases y : k = i.toNat
        · subst y
          rw [if_pos (by omega), ez_put_I (by omega), w4, show ((i).toNat - 1) = (i - 1).toNat by omega, show dz_n (ez_v (.inr (.inl (Int64.ofInt (qz_I g 204 (i - 1).toNat))))) = (Int64.ofInt (qz_I g 204 (i - 1).toNat)).toInt from rfl, q4, d2]
          exact Int64.toInt_ofInt_of_le (by omega) (by omega)
        · rw [ez_put_I (by omega), ez_put_I (fun w => y w.2), hv4 k hk]
          by_cases y2 : i < (k : Int)
          · rw [if_pos y2, if_pos (by omega)]
          · rw [if_neg y2, if_neg (by omega)]
      · by_cases y : k = i.toNat
        · subst y
          rw [if_pos (by omega), w11, show ((i).toNat - 1) = (i - 1).toNat by omega]
          show ((qz_P _ 205 ((i) - (1)).toNat : Nat) : Int) + 1 = _
          unfold qz_P; rw [ez_put_I (by omega), show ((i) - (1)).toNat = (i - 1).toNat from rfl, q5]; omega
        · rw [ez_put_I (fun w => y w.2), ez_put_I (by omega), hv5 k hk]
          by_cases y2 : i < (k : Int)
          · rw [if_pos y2, if_pos (by omega)]
          · rw [if_neg y2, if_neg (by omega)]
theorem rd_tEnK {s : Int64} {r : Nat} (hB : ez_B τ h) (t202 : τ 202 = 48) (t204 : τ 204 = 50) (t205 : τ 205 = 51) (tr : τ r = 7) (hr : (r : Int) + 1 ≤ 1000000) (c : cEr τ h LK R) (rk : rowk row) (hs : (uv s : Int) = pkN row) (en : ent τ h ((r : Int) + 1) (row, e)) (n1 : R.length < 256) (kk : ∀ g R2, ez_B τ g → ez_fr nz_PE h g → cEr τ g (lk1 LK (some (row, e))) R2 → R2.length ≤ R.length + 1 → (∀ j, j ≠ 4 → qz_I g 202 j = qz_I h 202 j) → Q (.inl none, g)) : ez_W (d + 1) cm_104 0 [(0, .inr (.inr (some (202)))), (1, .inr (.inl (s))), (3, .inr (.inr (some (r))))] [] h Q := by
  have ek : ∀ {k : cz_H}, ez_fr nz_PE h k → ∀ q, τ q = 7 ∨ τ q = 9 → k.2.2 q = h.2.2 q := fun {k} f q hq => f.2.2 q (by unfold nz_PE; rw [dz_beq_ne (fun y => by rw [y, t202] at hq; omega), dz_beq_ne (fun y => by rw [y, t204] at hq; omega), dz_beq_ne (fun y => by rw [y, t205] at hq; omega)]; rfl)
  refine ez_go (n := 2) (pc' := 2) (L' := [(0, .inr (.inr (some (202)))), (1, .inr (.inl (s))), (3, .inr (.inr (some (r))))]) (st' := [.inr (.inr (some (202))), .inr (.inl (s))]) rfl ?_
  refine ez_gC (p := 204) (tg := 50) hB t202 rfl rfl tq_48 rfl rfl (fun (t204 : _ = 50) => ?_)
  refine ez_go (n := 1) (pc' := 6) (L' := [(0, .inr (.inr (some (202)))), (1, .inr (.inl (s))), (3, .inr (.inr (some (r))))]) (st' := [.inr (.inr (some (202))), .inr (.inr (some (204))), .inr (.inl (s))]) rfl ?_
  refine ez_gI hB t202 rfl rfl tq_48 rfl rfl (fun (b1 : 0 ≤ qz_I h 202 4) (b1' : qz_I h 202 4 ≤ 256) => ?_)
  refine ez_cs hB.2.1 rfl rfl rfl rfl rfl (rd_placeOfR hB t204 (by omega) (by omega) (fun pl p0 p1 va vb => ez_K1 ?_))
  have cn := c.1
  have bx := pkN_bd rk
  have at9 : ∀ j a, R[j]? = some a → (0 ≤ pkN a.1 ∧ pkN a.1 < 9223372036854775808) ∧ qz_I h 204 j = pkN a.1 := fun j a ha => by
    obtain ⟨d1, d2, -⟩ := c.2.1 j _ ha
    have := pkN_bd d1
    exact ⟨⟨by omega, by omega⟩, d2⟩
  have lo : ∀ i a, i < pl.toNat → R[i]? = some a → pkN a.1 < pkN row := fun i a hi ha => by
    have q := va.resolve_left (by omega)
    obtain ⟨b, hb⟩ : ∃ b, R[(pl - 1).toNat]? = some b := ⟨_, List.getElem?_eq_getElem (by omega)⟩
    obtain ⟨y1, y2⟩ := at9 _ _ hb
    rw [y2] at q
    have q := (i64lt y1.1 y1.2 hs bx.2).mp q
    by_cases w : i = (pl - 1).toNat
    · subst w; rw [hb] at ha; cases ha; exact q
    · have := c.2.2.1 i (pl - 1).toNat a b (by omega) ha hb; omega
  have hi0 : ∀ i a, pl.toNat ≤ i → R[i]? = some a → ¬ pkN a.1 < pkN row := fun i a hi ha => by
    have il := (List.getElem?_eq_some_iff.mp ha).1
    have q := vb.resolve_left (by omega)
    obtain ⟨b, hb⟩ : ∃ b, R[pl.toNat]? = some b := ⟨_, List.getElem?_eq_getElem (by omega)⟩
    obtain ⟨y1, y2⟩ := at9 _ _ hb
    rw [y2] at q
    have q : ¬ pkN b.1 < pkN row := fun w => q ((i64lt y1.1 y1.2 hs bx.2).mpr w)
    by_cases w : i = pl.toNat
    · subst w; rw [hb] at ha; cases ha; exact q
    · have := c.2.2.1 pl.toNat i b a (by omega) hb ha; omega
  refine ez_go (n := 3) (pc' := 17) (L' := [(4, .inl (pl)), (0, .inr (.inr (some (202)))), (1, .inr (.inl (s))), (3, .inr (.inr (some (r))))]) (st' := [.inr (.inr (some (202))), .inl (pl)]) rfl ?_
  refine ez_gI hB t202 rfl rfl tq_48 rfl rfl (fun (b2 : 0 ≤ qz_I h 202 4) (b2' : qz_I h 202 4 ≤ 256) => ?_)
  refine ez_icmp rfl rfl ⟨by first | omega | exact (sz_i32 _).1, by first | omega | exact (sz_i32 _).2⟩ ⟨by first | omega | exact (sz_i32 _).1, by first | omega | exact (sz_i32 _).2⟩ (fun (c3 : (qz_I h 202 4) ≤ (pl)) => ?_) (fun (c3 : ¬((qz_I h 202 4) ≤ (pl))) => ?_)
  · skip
    refine ez_go (n := 1) (pc' := 45) (L' := [(4, .inl (pl)), (0, .inr (.inr (some (202)))), (1, .inr (.inl (s))), (3, .inr (.inr (some (r))))]) (st' := [.inr (.inr (some (202)))]) rfl ?_
    refine ez_gI hB t202 rfl rfl tq_48 rfl rfl (fun (b4 : 0 ≤ qz_I h 202 4) (b4' : qz_I h 202 4 ≤ 256) => ?_)
    refine ez_go (n := 1) (pc' := 51) (L' := [(4, .inl (pl)), (0, .inr (.inr (some (202)))), (1, .inr (.inl (s))), (3, .inr (.inr (some (r))))]) (st' := [.inl (256), .inl (qz_I h 202 4)]) rfl ?_
    refine ez_icmp rfl rfl ⟨by first | omega | exact (sz_i32 _).1, by first | omega | exact (sz_i32 _).2⟩ ⟨by first | omega | exact (sz_i32 _).1, by first | omega | exact (sz_i32 _).2⟩ (fun (c5 : (qz_I h 202 4) < (256)) => ?_) (fun (c5 : ¬((qz_I h 202 4) < (256))) => ?_)
    · skip
      refine ez_go (n := 1) (pc' := 56) (L' := [(4, .inl (pl)), (0, .inr (.inr (some (202)))), (1, .inr (.inl (s))), (3, .inr (.inr (some (r))))]) (st' := [.inr (.inr (some (202)))]) rfl ?_
      refine ez_gI hB t202 rfl rfl tq_48 rfl rfl (fun (b6 : 0 ≤ qz_I h 202 4) (b6' : qz_I h 202 4 ≤ 256) => ?_)
      refine ez_go (n := 1) (pc' := 61) (L' := [(5, .inl (qz_I h 202 4)), (4, .inl (pl)), (0, .inr (.inr (some (202)))), (1, .inr (.inl (s))), (3, .inr (.inr (some (r))))]) (st' := []) rfl ?_
      have hi : ∀ i a, pl.toNat ≤ i → R[i]? = some a → pkN row < pkN a.1 := fun i a hi9 ha => by have il := (List.getElem?_eq_some_iff.mp ha).1; omega
      refine ez_less [(5, .inl (qz_I h 202 4)), (4, .inl (pl)), (0, .inr (.inr (some (202)))), (1, .inr (.inl (s))), (3, .inr (.inr (some (r))))] rfl ⟨rfl, rfl, rfl, rfl, rfl, trivial⟩ ?_
      rw [← cn]
      exact rd_tEnK_l t202 t204 t205 tr hr c rk hs en n1 p0 (by omega) lo hi kk _ _ h rfl (by omega) (by omega) hB (ez_fr.refl _ _) (fun _ _ => rfl) cn.symm (fun k hk => by rw [if_neg (by omega)]) (fun k hk => by rw [if_neg (by omega)])
    · skip
      exfalso; omega
  · skip
    refine ez_go (n := 1) (pc' := 24) (L' := [(4, .inl (pl)), (0, .inr (.inr (some (202)))), (1, .inr (.inl (s))), (3, .inr (.inr (some (r))))]) (st' := [.inr (.inr (some (202)))]) rfl ?_
    refine ez_gC (p := 204) (tg := 50) hB t202 rfl rfl tq_48 rfl rfl (fun (t204 : _ = 50) => ?_)
    refine ez_go (n := 1) (pc' := 29) (L' := [(4, .inl (pl)), (0, .inr (.inr (some (202)))), (1, .inr (.inl (s))), (3, .inr (.inr (some (r))))]) (st' := [.inl (pl), .inr (.inr (some (204)))]) rfl ?_
    have n7 : 256 ≤ qz_N h 204 ∧ qz_N h 204 ≤ 256 := ez_len hB t204 tq_50 rfl
    refine ez_aL hB t204 rfl tq_50 rfl rfl (by omega) (by omega) ?_
    refine ez_go (n := 2) (pc' := 32) (L' := [(4, .inl (pl)), (0, .inr (.inr (some (202)))), (1, .inr (.inl (s))), (3, .inr (.inr (some (r))))]) (st' := [.inl ((lg_cmp (Int64.ofInt (qz_I h 204 (pl).toNat)) (s)).toInt)]) rfl ?_
    have zc := nz_ceq (Int64.ofInt (qz_I h 204 (pl).toNat)) s
    refine ez_if rfl rfl ⟨by first | omega | exact (sz_i32 _).1, by first | omega | exact (sz_i32 _).2⟩ (fun (c8 : ((lg_cmp (Int64.ofInt (qz_I h 204 (pl).toNat)) (s)).toInt) ≠ (0)) => ?_) (fun (c8 : ¬(((lg_cmp (Int64.ofInt (qz_I h 204 (pl).toNat)) (s)).toInt) ≠ (0))) => ?_)
    · skip
      refine ez_go (n := 1) (pc' := 45) (L' := [(4, .inl (pl)), (0, .inr (.inr (some (202)))), (1, .inr (.inl (s))), (3, .inr (.inr (some (r))))]) (st' := [.inr (.inr (some (202)))]) rfl ?_
      refine ez_gI hB t202 rfl rfl tq_48 rfl rfl (fun (b9 : 0 ≤ qz_I h 202 4) (b9' : qz_I h 202 4 ≤ 256) => ?_)
      refine ez_go (n := 1) (pc' := 51) (L' := [(4, .inl (pl)), (0, .inr (.inr (some (202)))), (1, .inr (.inl (s))), (3, .inr (.inr (some (r))))]) (st' := [.inl (256), .inl (qz_I h 202 4)]) rfl ?_
      refine ez_icmp rfl rfl ⟨by first | omega | exact (sz_i32 _).1, by first | omega | exact (sz_i32 _).2⟩ ⟨by first | omega | exact (sz_i32 _).1, by first | omega | exact (sz_i32 _).2⟩ (fun (c10 : (qz_I h 202 4) < (256)) => ?_) (fun (c10 : ¬((qz_I h 202 4) < (256))) => ?_)
      · skip
        refine ez_go (n := 1) (pc' := 56) (L' := [(4, .inl (pl)), (0, .inr (.inr (some (202)))), (1, .inr (.inl (s))), (3, .inr (.inr (some (r))))]) (st' := [.inr (.inr (some (202)))]) rfl ?_
        refine ez_gI hB t202 rfl rfl tq_48 rfl rfl (fun (b11 : 0 ≤ qz_I h 202 4) (b11' : qz_I h 202 4 ≤ 256) => ?_)
        refine ez_go (n := 1) (pc' := 61) (L' := [(5, .inl (qz_I h 202 4)), (4, .inl (pl)), (0, .inr (.inr (some (202)))), (1, .inr (.inl (s))), (3, .inr (.inr (some (r))))]) (st' := []) rfl ?_
        have hi : ∀ i a, pl.toNat ≤ i → R[i]? = some a → pkN row < pkN a.1 := fun i a hi9 ha => by
          have q := hi0 i a hi9 ha
          have il := (List.getElem?_eq_some_iff.mp ha).1
          have ne : pkN a.1 ≠ pkN row := fun w => by
            obtain ⟨b, hb⟩ : ∃ b, R[pl.toNat]? = some b := ⟨_, List.getElem?_eq_getElem (by omega)⟩
            have q2 := hi0 _ _ (Nat.le_refl _) hb
            by_cases y : i = pl.toNat
            · subst y
              obtain ⟨y1, y2⟩ := at9 _ _ ha
              have := (i64eq y1.1 y1.2 hs).mpr w
              rw [← y2] at this
              have := zc.mpr this
              omega
            · have := c.2.2.1 pl.toNat i b a (by omega) hb ha; omega
          omega
        refine ez_less [(5, .inl (qz_I h 202 4)), (4, .inl (pl)), (0, .inr (.inr (some (202)))), (1, .inr (.inl (s))), (3, .inr (.inr (some (r))))] rfl ⟨rfl, rfl, rfl, rfl, rfl, trivial⟩ ?_
        rw [← cn]
        exact rd_tEnK_l t202 t204 t205 tr hr c rk hs en n1 p0 (by omega) lo hi kk _ _ h rfl (by omega) (by omega) hB (ez_fr.refl _ _) (fun _ _ => rfl) cn.symm (fun k hk => by rw [if_neg (by omega)]) (fun k hk => by rw [if_neg (by omega)])
      · skip
        exfalso; omega
    · skip
      refine ez_go (n := 1) (pc' := 36) (L' := [(4, .inl (pl)), (0, .inr (.inr (some (202)))), (1, .inr (.inl (s))), (3, .inr (.inr (some (r))))]) (st' := [.inr (.inr (some (202)))]) rfl ?_
      refine ez_gC (p := 205) (tg := 51) hB t202 rfl rfl tq_48 rfl rfl (fun (t205 : _ = 51) => ?_)
      refine ez_go (n := 2) (pc' := 42) (L' := [(4, .inl (pl)), (0, .inr (.inr (some (202)))), (1, .inr (.inl (s))), (3, .inr (.inr (some (r))))]) (st' := [.inr (.inr (some (r))), .inl (pl), .inr (.inr (some (205)))]) rfl ?_
      have n14 : 256 ≤ qz_N h 205 ∧ qz_N h 205 ≤ 256 := ez_len hB t205 tq_51 rfl
      refine ez_aa hB t205 tr rfl tq_51 tq_7 rfl rfl rfl (by omega) (by omega) (ez_vdR rfl tr (by omega) (by omega)) (fun hB12 w13 => ?_)
      obtain ⟨e0, e1, -⟩ := c.isfd rk hs (v := pl.toNat) (by omega) (zc.mp (by omega))
      have fg : ez_fr nz_PE h (dz_put h 205 (pl).toNat (ez_v (.inr (.inr (some (r)))))) := (ez_fr.refl nz_PE h).put (show nz_PE 205 = true from rfl) _ _
      refine ez_ret0 rfl rfl (kk _ _ hB12 fg (c.set (v := pl.toNat) (r := r) (e := e) e1 (ez_put_I (by omega)) (fun i => ez_put_I (by omega)) (fun i hi9 => ez_put_I (fun w => hi9 w.2)) w13 (en.tr (fun q hq => ⟨rfl, ek fg q hq⟩)) (ek fg)) ?_ (fun j hj => ez_put_I (by omega)))
      rw [List.length_set]; omega

end EzKh

/-! COLLATION: the class: what a LINE makes of the entries. (Written by wip/p2/py/pvk18.py.) -/
/-- the entries stay -/
def eKp (τ : Nat → Nat) (h : cz_H) (τ1 : Nat → Nat) (g : cz_H) : Prop := (qz_I g 202 4 = qz_I h 202 4 ∧ qz_I h 202 5 ≤ qz_I g 202 5) ∧ g.2.2 204 = h.2.2 204 ∧ g.2.2 205 = h.2.2 205 ∧ ∀ q, τ q = 7 ∨ τ q = 9 → τ1 q = τ q ∧ g.2.2 q = h.2.2 q
theorem eKp.refl (τ : Nat → Nat) (h : cz_H) : eKp τ h τ h := ⟨⟨rfl, Int.le_refl _⟩, rfl, rfl, fun _ _ => ⟨rfl, rfl⟩⟩
theorem eKp.trans {τ τ1 τ2 : Nat → Nat} {h g k : cz_H} (a : eKp τ h τ1 g) (b : eKp τ1 g τ2 k) : eKp τ h τ2 k :=
  ⟨⟨b.1.1.trans a.1.1, Int.le_trans a.1.2 b.1.2⟩, b.2.1.trans a.2.1, b.2.2.1.trans a.2.2.1, fun q hq => by
    have x := a.2.2.2 q hq
    have y := b.2.2.2 q (by rw [x.1]; exact hq)
    exact ⟨y.1.trans x.1, y.2.trans x.2⟩⟩
theorem eKp.u {τ τ1 : Nat → Nat} {h g : cz_H} {LK : List Int → Option (List eL)} {R : List (List Int × List eL)} (a : eKp τ h τ1 g) (c : cEr τ h LK R) : cEr τ1 g LK R := c.tr a.1.1 a.2.1 a.2.2.1 a.2.2.2
theorem eKp.xt {τ τ1 : Nat → Nat} {h g : cz_H} {a b : Nat} (hX : jz_X τ) (x : ez_xt τ h τ1 g a b) : eKp τ h τ1 g := by
  have e2 : ∀ j, qz_I g 202 j = qz_I h 202 j := fun j => x.I (by rw [hX 202 (by decide)]; decide) j
  exact ⟨⟨e2 4, by rw [e2]; exact Int.le_refl _⟩, (x.1 204 (by rw [hX 204 (by decide)]; decide)).2, (x.1 205 (by rw [hX 205 (by decide)]; decide)).2, fun q hq => x.1 q (by omega)⟩
theorem eKp.xr {τ τ1 : Nat → Nat} {h g : cz_H} {a b : Nat} (hX : jz_X τ) (x : ez_xr τ h τ1 g 720 a b) : eKp τ h τ1 g := by
  have e2 : ∀ j, qz_I g 202 j = qz_I h 202 j := fun j => x.I (by rw [hX 202 (by decide)]; decide) (by decide) j
  exact ⟨⟨e2 4, by rw [e2]; exact Int.le_refl _⟩, (x.1 204 (by rw [hX 204 (by decide)]; decide)).2 (by decide), (x.1 205 (by rw [hX 205 (by decide)]; decide)).2 (by decide), fun q hq => ⟨(x.1 q (by omega)).1, (x.1 q (by omega)).2 (fun e => by rw [e, hX 720 (by decide)] at hq; revert hq; decide)⟩⟩
theorem eKp.f {τ : Nat → Nat} {h g : cz_H} {P : Nat → Bool} (f : ez_fr P h g) (e4 : qz_I g 202 4 = qz_I h 202 4) (e5 : qz_I h 202 5 ≤ qz_I g 202 5) (p4 : P 204 = false) (p5 : P 205 = false) (pq : ∀ q, τ q = 7 ∨ τ q = 9 → P q = false) : eKp τ h τ g := ⟨⟨e4, e5⟩, f.2.2 204 p4, f.2.2 205 p5, fun q hq => ⟨rfl, f.2.2 q (pq q hq)⟩⟩
theorem eKp.o {τ : Nat → Nat} {h g : cz_H} {r : Nat} (hX : jz_X τ) (f : ez_fr (ez_one r) h g) (hr : tz_ex r ≠ 0 ∧ r ≠ 202 ∧ r ≠ 204 ∧ r ≠ 205 ∧ tz_ex r ≠ 7 ∧ tz_ex r ≠ 9) : eKp τ h τ g :=
  eKp.f f (f.I (dz_beq_ne (fun e => hr.2.1 e.symm)) 4) (by rw [f.I (dz_beq_ne (fun e => hr.2.1 e.symm)) 5]; exact Int.le_refl _) (dz_beq_ne (fun e => hr.2.2.1 e.symm)) (dz_beq_ne (fun e => hr.2.2.2.1 e.symm)) (fun q hq => dz_beq_ne (fun e => by rw [e, hX r hr.1] at hq; omega))
theorem eKp.ps {τ : Nat → Nat} {h g : cz_H} (hX : jz_X τ) (f : ez_fr (sz_PS τ) h g) (j2 : ∀ j, j ≠ 1 → qz_I g 202 j = qz_I h 202 j) : eKp τ h τ g :=
  eKp.f f (j2 4 (by decide)) (by rw [j2 5 (by decide)]; exact Int.le_refl _) (by unfold sz_PS; rw [hX 204 (by decide)]; rfl) (by unfold sz_PS; rw [hX 205 (by decide)]; rfl) (fun q hq => by
    unfold sz_PS
    rw [dz_beq_ne (fun e => by rw [e, hX 202 (by decide)] at hq; revert hq; decide), dz_beq_ne (fun e => by rw [e, hX 203 (by decide)] at hq; revert hq; decide), dz_beq_ne (by omega)]; rfl)
section EzKi
variable {d : Nat} {h : cz_H} {τ : Nat → Nat} {Q : cz_F → Prop} {LK : List Int → Option (List eL)} {R : List (List Int × List eL)} {row vs : List Int} {F : rz_W} {E : Int → Prop} {D : Int → xD}
theorem rd_cpackAt2 {x : Int64} {p a : Int} (ha : a = (row.length : Int)) (hl : row.length ≤ 2) (hr : ptl row) (hp : 0 ≤ p ∧ p ≤ 1114111) (hx : (uv x : Int) = pkN row) (k : ∀ y : Int64, (uv y : Int) = pkN (row ++ [p]) → Q (.inl (some (.inr (.inl y))), h)) : ez_W d cm_101 0 [(0, .inr (.inl (x))), (2, .inl (a)), (3, .inl (p))] [] h Q := by
  subst ha; exact rd_cpackAt hl hr hp hx k
theorem rd_tkEnK_l {r e : Nat} (hB : ez_B τ h) (tr : τ r = 5) (rn : qz_N h r = (vs.length : Int)) (rv : ∀ (j : Nat) v, vs[j]? = some v → qz_I h r j = v) (pv : ptl vs) (l3 : vs.length ≤ 3) (kx : ∀ x : Int64, (uv x : Int) = pkN vs → ez_W (d + 1) cm_175 74 [(3, .inr (.inl (x))), (2, .inr (.inr (some (e)))), (1, .inr (.inr (some (r)))), (0, .inr (.inr (some (720))))] [] h Q) : ∀ (m : Nat) (i : Int) (x : Int64), m = ((vs.length : Int) - i).toNat → 0 ≤ i → i ≤ (vs.length : Int) → (uv x : Int) = pkN (vs.take i.toNat) → ez_W (d + 1) cm_175 50 [(5, .inl (i)), (3, .inr (.inl (x))), (2, .inr (.inr (some (e)))), (1, .inr (.inr (some (r)))), (0, .inr (.inr (some (720))))] [] h Q := by
  have nn : 0 ≤ qz_N h r ∧ qz_N h r ≤ 18 := ez_len hB tr tq_5 rfl
  intro m
  induction m with
  | zero =>
    intro i x hm i0 i1 hx
    refine ez_go (n := 2) (pc' := 53) (L' := [(5, .inl (i)), (3, .inr (.inl (x))), (2, .inr (.inr (some (e)))), (1, .inr (.inr (some (r)))), (0, .inr (.inr (some (720))))]) (st' := [.inr (.inr (some (r))), .inl (i)]) rfl ?_
    refine ez_al hB tr rfl tq_5 rfl (fun (b1 : 0 ≤ qz_N h r) (b1' : qz_N h r ≤ 18) => ?_)
    rw [rn]
    refine ez_icmp rfl rfl ⟨by first | omega | exact (sz_i32 _).1, by first | omega | exact (sz_i32 _).2⟩ ⟨by first | omega | exact (sz_i32 _).1, by first | omega | exact (sz_i32 _).2⟩ (fun (c2 : ((vs.length : Int)) ≤ (i)) => ?_) (fun (c2 : ¬(((vs.length : Int)) ≤ (i))) => ?_)
    · skip
      refine ez_less [(3, .inr (.inl (x))), (2, .inr (.inr (some (e)))), (1, .inr (.inr (some (r)))), (0, .inr (.inr (some (720))))] rfl ⟨rfl, rfl, rfl, rfl, trivial⟩ ?_
      exact kx x (by rw [List.take_of_length_le (by omega)] at hx; exact hx)
    · exfalso; omega
  | succ m ih =>
    intro i x hm i0 i1 hx
    refine ez_go (n := 2) (pc' := 53) (L' := [(5, .inl (i)), (3, .inr (.inl (x))), (2, .inr (.inr (some (e)))), (1, .inr (.inr (some (r)))), (0, .inr (.inr (some (720))))]) (st' := [.inr (.inr (some (r))), .inl (i)]) rfl ?_
    refine ez_al hB tr rfl tq_5 rfl (fun (b1 : 0 ≤ qz_N h r) (b1' : qz_N h r ≤ 18) => ?_)
    rw [rn]
    refine ez_icmp rfl rfl ⟨by first | omega | exact (sz_i32 _).1, by first | omega | exact (sz_i32 _).2⟩ ⟨by first | omega | exact (sz_i32 _).1, by first | omega | exact (sz_i32 _).2⟩ (fun (c2 : ((vs.length : Int)) ≤ (i)) => ?_) (fun (c2 : ¬(((vs.length : Int)) ≤ (i))) => ?_)
    · exfalso; omega
    · skip
      refine ez_go (n := 4) (pc' := 63) (L' := [(5, .inl (i)), (3, .inr (.inl (x))), (2, .inr (.inr (some (e)))), (1, .inr (.inr (some (r)))), (0, .inr (.inr (some (720))))]) (st' := [.inl (i), .inr (.inr (some (r))), .inl (i), .inr (.inl (x))]) rfl ?_
      have n4 : 0 ≤ qz_N h r ∧ qz_N h r ≤ 18 := ez_len hB tr tq_5 rfl
      refine ez_aI hB tr rfl tq_5 rfl rfl (by omega) (by omega) (fun (b3 : -2147483648 ≤ qz_I h r (i).toNat) (b3' : qz_I h r (i).toNat ≤ 2147483647) => ?_)
      have l9 : (i).toNat < vs.length := by omega
      have hx9 := uX_e (u := vs) (j := i) l9
      have pb := ptl_at pv hx9
      rw [show qz_I h r (i).toNat = uX vs i from rv _ _ hx9]
      have tl : (vs.take i.toNat).length = i.toNat := by rw [List.length_take]; omega
      refine ez_cs hB.2.1 rfl rfl rfl rfl rfl (rd_cpackAt2 (row := vs.take i.toNat) (by omega) (by omega) (fun v hv => pv v (List.mem_of_mem_take hv)) pb hx (fun y hy => ez_KL ?_))
      refine ez_go (n := 3) (pc' := 50) (L' := [(5, .inl (i + 1)), (3, .inr (.inl (y))), (2, .inr (.inr (some (e)))), (1, .inr (.inr (some (r)))), (0, .inr (.inr (some (720))))]) (st' := []) rfl ?_
      refine ez_less [(5, .inl (i + 1)), (3, .inr (.inl (y))), (2, .inr (.inr (some (e)))), (1, .inr (.inr (some (r)))), (0, .inr (.inr (some (720))))] rfl ⟨rfl, rfl, rfl, rfl, rfl, trivial⟩ ?_
      exact ih _ _ (by omega) (by omega) (by omega) (by rw [show (i + 1).toNat = i.toNat + 1 by omega, List.take_succ, hx9, Option.toList_some]; exact hy)
theorem rd_tkEnK (hB : ez_B τ h) (hX : jz_X τ) (hft : ∀ k, 0 ≤ k → k ≤ 1 → rz_f h k ≤ rz_t h k) (c : cEr τ h LK R) (n1 : R.length < 256) (hr1 : h.1 + 3 ≤ 600192) (hr2 : h.2.1 + 38 ≤ 7302232) (k : ∀ g τ1 (v : Int) (cc : cEo) R2, ez_B τ1 g → jz_X τ1 → (-1 ≤ v ∧ v ≤ 3) → cEr τ1 g (lk1 LK cc) R2 → R2.length ≤ R.length + 1 → (v = -1 → R2 = R) → ((v = -1 ∧ cc = none ∧ ¬ rz_G4 (rz_b h) (rz_f h) (rz_t h)) ∨ (v ≠ -1 ∧ ∃ vs q, rz_rw (rz_b h) 3 (rz_f h 0) (rz_t h 0) = some vs ∧ nz_el (rz_b h) (rz_t h 1) q (rz_f h 1) ∧ (1 ≤ q ∧ q ≤ 18) ∧ cc = some (vs, nz_ev (rz_b h) (rz_t h 1) q (rz_f h 1)))) → (∀ j, j ≠ 4 → qz_I g 202 j = qz_I h 202 j) → Q (.inl (some (ez_v (.inl v))), g)) : ez_W (d + 4) cm_175 0 [(0, .inr (.inr (some (720))))] [] h Q := by
  have u193 : τ 193 = 45 := hX 193 (by decide)
  have u202 : τ 202 = 48 := hX 202 (by decide)
  have u203 : τ 203 = 49 := hX 203 (by decide)
  have u204 : τ 204 = 50 := hX 204 (by decide)
  have u205 : τ 205 = 51 := hX 205 (by decide)
  have u720 : τ 720 = 52 := hX 720 (by decide)
  have u721 : τ 721 = 53 := hX 721 (by decide)
  have u722 : τ 722 = 54 := hX 722 (by decide)
  have hf0 := hft 0 (by decide) (by decide)
  have hf1 := hft 1 (by decide) (by decide)
  refine ez_go (n := 2) (pc' := 2) (L' := [(0, .inr (.inr (some (720))))]) (st' := [.inr (.inr (some (720))), .inr (.inr (some (720)))]) rfl ?_
  refine ez_gC (p := 721) (tg := 53) hB u720 rfl rfl tq_52 rfl rfl (fun (t721 : _ = 53) => ?_)
  refine ez_go (n := 1) (pc' := 6) (L' := [(0, .inr (.inr (some (720))))]) (st' := [.inl (0), .inr (.inr (some (721))), .inr (.inr (some (720)))]) rfl ?_
  have n2 : 7 ≤ qz_N h 721 ∧ qz_N h 721 ≤ 7 := ez_len hB t721 tq_53 rfl
  refine ez_aI hB t721 rfl tq_53 rfl rfl (by omega) (by omega) (fun (b1 : 0 ≤ qz_I h 721 (0 : Int).toNat) (b1' : qz_I h 721 (0 : Int).toNat ≤ 4096) => ?_)
  refine ez_go (n := 1) (pc' := 8) (L' := [(0, .inr (.inr (some (720))))]) (st' := [.inr (.inr (some (720))), .inl (qz_I h 721 (0 : Int).toNat), .inr (.inr (some (720)))]) rfl ?_
  refine ez_gC (p := 722) (tg := 54) hB u720 rfl rfl tq_52 rfl rfl (fun (t722 : _ = 54) => ?_)
  refine ez_go (n := 1) (pc' := 12) (L' := [(0, .inr (.inr (some (720))))]) (st' := [.inl (0), .inr (.inr (some (722))), .inl (qz_I h 721 (0 : Int).toNat), .inr (.inr (some (720)))]) rfl ?_
  have n4 : 7 ≤ qz_N h 722 ∧ qz_N h 722 ≤ 7 := ez_len hB t722 tq_54 rfl
  refine ez_aI hB t722 rfl tq_54 rfl rfl (by omega) (by omega) (fun (b3 : 0 ≤ qz_I h 722 (0 : Int).toNat) (b3' : qz_I h 722 (0 : Int).toNat ≤ 4096) => ?_)
  refine ez_go (n := 1) (pc' := 14) (L' := [(0, .inr (.inr (some (720))))]) (st' := [.inl (3), .inl (qz_I h 722 (0 : Int).toNat), .inl (qz_I h 721 (0 : Int).toNat), .inr (.inr (some (720)))]) rfl ?_
  have xf0 : qz_I h 721 (0 : Int).toNat = rz_f h 0 := rfl
  have xt0 : qz_I h 722 (0 : Int).toNat = rz_t h 0 := rfl
  refine ez_cv hB u720 rfl rfl rfl tq_52 rfl rfl rfl (rd_readRow hB u720 u193 (by omega) (by omega) (by omega) (by omega) (by omega) (by omega) (by omega) (fun g1 τ1 hB1 x1 hn9 => ez_KA ?_) (fun g1 τ1 vs hB1 x1 up hct1 hct2 hrow hN1 hcl => ez_KA ?_))
  · skip
    have u720a := (x1.1 _ (by rw [u720]; decide)).1.trans u720
    have u202a := (x1.1 _ (by rw [u202]; decide)).1.trans u202
    have t721a := (x1.1 _ (by rw [t721]; decide)).1.trans t721
    have t722a := (x1.1 _ (by rw [t722]; decide)).1.trans t722
    have u193a := (x1.1 _ (by rw [u193]; decide)).1.trans u193
    have u203a := (x1.1 _ (by rw [u203]; decide)).1.trans u203
    have hrw : rz_rw (rz_b h) 3 (rz_f h 0) (rz_t h 0) = none := rz_rw_n hn9
    refine ez_go (n := 3) (pc' := 20) (L' := [(1, .inr (.inr none)), (0, .inr (.inr (some (720))))]) (st' := [.inr (.inr (some (720))), .inr (.inr (some (720)))]) rfl ?_
    refine ez_gC (p := 721) (tg := 53) hB1 u720a rfl rfl tq_52 rfl rfl (fun (t721 : _ = 53) => ?_)
    refine ez_go (n := 1) (pc' := 24) (L' := [(1, .inr (.inr none)), (0, .inr (.inr (some (720))))]) (st' := [.inl (1), .inr (.inr (some (721))), .inr (.inr (some (720)))]) rfl ?_
    have n6 : 7 ≤ qz_N g1 721 ∧ qz_N g1 721 ≤ 7 := ez_len hB1 t721 tq_53 rfl
    refine ez_aI hB1 t721 rfl tq_53 rfl rfl (by omega) (by omega) (fun (b5 : 0 ≤ qz_I g1 721 (1 : Int).toNat) (b5' : qz_I g1 721 (1 : Int).toNat ≤ 4096) => ?_)
    refine ez_go (n := 1) (pc' := 26) (L' := [(1, .inr (.inr none)), (0, .inr (.inr (some (720))))]) (st' := [.inr (.inr (some (720))), .inl (qz_I g1 721 (1 : Int).toNat), .inr (.inr (some (720)))]) rfl ?_
    refine ez_gC (p := 722) (tg := 54) hB1 u720a rfl rfl tq_52 rfl rfl (fun (t722 : _ = 54) => ?_)
    refine ez_go (n := 1) (pc' := 30) (L' := [(1, .inr (.inr none)), (0, .inr (.inr (some (720))))]) (st' := [.inl (1), .inr (.inr (some (722))), .inl (qz_I g1 721 (1 : Int).toNat), .inr (.inr (some (720)))]) rfl ?_
    have n8 : 7 ≤ qz_N g1 722 ∧ qz_N g1 722 ≤ 7 := ez_len hB1 t722 tq_54 rfl
    refine ez_aI hB1 t722 rfl tq_54 rfl rfl (by omega) (by omega) (fun (b7 : 0 ≤ qz_I g1 722 (1 : Int).toNat) (b7' : qz_I g1 722 (1 : Int).toNat ≤ 4096) => ?_)
    obtain ⟨ab9, af9, at9⟩ := x1.bft u193 u721 u722
    have zf9 : qz_I g1 721 (1 : Int).toNat = rz_f h 1 := congrFun af9 1
    have zt9 : qz_I g1 722 (1 : Int).toNat = rz_t h 1 := congrFun at9 1
    have hc10 := x1.2
    refine ez_cv hB1 u720a rfl rfl rfl tq_52 rfl rfl rfl (rd_rElsK hB1 u720a u193a (by omega) (by omega) (by omega) (by omega) (by omega) (fun o g2 τ2 hB2 x2 ho hi => ez_KA ?_))
    rw [ab9, zf9, zt9] at hi ho
    have X2 := x1.trans x2
    rcases o with _ | e2
    · skip
      have u720ab := (x2.1 _ (by rw [u720a]; decide)).1.trans u720a
      have u202ab := (x2.1 _ (by rw [u202a]; decide)).1.trans u202a
      have t721b := (x2.1 _ (by rw [t721]; decide)).1.trans t721
      have t722b := (x2.1 _ (by rw [t722]; decide)).1.trans t722
      have u193ab := (x2.1 _ (by rw [u193a]; decide)).1.trans u193a
      have u203ab := (x2.1 _ (by rw [u203a]; decide)).1.trans u203a
      have hel : ¬ nz_els (rz_b h) (rz_f h 1) (rz_t h 1) := hi.mp rfl
      refine ez_go (n := 2) (pc' := 36) (L' := [(2, .inr (.inr none)), (1, .inr (.inr none)), (0, .inr (.inr (some (720))))]) (st' := [.inr (.inr none)]) rfl ?_
      refine ez_null0 rfl rfl ?_
      refine ez_go (n := 1) (pc' := 44) (L' := [(2, .inr (.inr none)), (1, .inr (.inr none)), (0, .inr (.inr (some (720))))]) (st' := [.inl (-1)]) rfl ?_
      exact ez_retI rfl rfl (k g2 τ2 (-1) none R hB2 (fun r hr => ((X2.1 r (by rw [hX r hr]; exact hr)).1).trans (hX r hr)) (by omega) ((eKp.xt hX X2).u c) (by omega) (fun _ => rfl) (Or.inl ⟨rfl, rfl, fun w => by first | exact hel w.2 | exact w.1 hrw⟩) (fun j _ => X2.I (by rw [u202]; decide) j))
    · skip
      have u720ab := (x2.1 _ (by rw [u720a]; decide)).1.trans u720a
      have u202ab := (x2.1 _ (by rw [u202a]; decide)).1.trans u202a
      have t721b := (x2.1 _ (by rw [t721]; decide)).1.trans t721
      have t722b := (x2.1 _ (by rw [t722]; decide)).1.trans t722
      have u193ab := (x2.1 _ (by rw [u193a]; decide)).1.trans u193a
      have u203ab := (x2.1 _ (by rw [u203a]; decide)).1.trans u203a
      have hel : nz_els (rz_b h) (rz_f h 1) (rz_t h 1) := Classical.byContradiction fun w => by cases hi.mpr w
      obtain ⟨⟨te2, -⟩, q9, hq1, hq2, er⟩ := ho _ rfl
      have le2 := dz_here_lt (hB2.1 _ (by rw [te2]; decide)).1
      have c2 := X2.2
      refine ez_go (n := 2) (pc' := 36) (L' := [(2, .inr (.inr (some (e2)))), (1, .inr (.inr none)), (0, .inr (.inr (some (720))))]) (st' := [.inr (.inr none)]) rfl ?_
      refine ez_null0 rfl rfl ?_
      refine ez_go (n := 1) (pc' := 44) (L' := [(2, .inr (.inr (some (e2)))), (1, .inr (.inr none)), (0, .inr (.inr (some (720))))]) (st' := [.inl (-1)]) rfl ?_
      exact ez_retI rfl rfl (k g2 τ2 (-1) none R hB2 (fun r hr => ((X2.1 r (by rw [hX r hr]; exact hr)).1).trans (hX r hr)) (by omega) ((eKp.xt hX X2).u c) (by omega) (fun _ => rfl) (Or.inl ⟨rfl, rfl, fun w => by first | exact hel w.2 | exact w.1 hrw⟩) (fun j _ => X2.I (by rw [u202]; decide) j))
  · skip
    have u720a := (x1.1 _ (by rw [u720]; decide)).1.trans u720
    have u202a := (x1.1 _ (by rw [u202]; decide)).1.trans u202
    have t721a := (x1.1 _ (by rw [t721]; decide)).1.trans t721
    have t722a := (x1.1 _ (by rw [t722]; decide)).1.trans t722
    have u193a := (x1.1 _ (by rw [u193]; decide)).1.trans u193
    have u203a := (x1.1 _ (by rw [u203]; decide)).1.trans u203
    have hrw : rz_rw (rz_b h) 3 (rz_f h 0) (rz_t h 0) = some vs := rz_rw_s hct1 hct2 hrow
    have hvl : (vs.length : Int) = qz_N g1 h.1 := by rw [hN1, rz_row_len _ _ _ _ _ hrow]
    have hpt : ptl vs := rz_row_bd _ _ _ _ _ hrow
    have hn3 : qz_N g1 h.1 ≤ 3 := by omega
    have er1 : ∃ r1, r1 = h.1 := ⟨_, rfl⟩
    obtain ⟨r1, er1⟩ := er1
    rw [← er1] at up hN1 hn3 hvl hcl ⊢
    have hn1 : 1 ≤ qz_N g1 r1 := by omega
    refine ez_go (n := 3) (pc' := 20) (L' := [(1, .inr (.inr (some (r1)))), (0, .inr (.inr (some (720))))]) (st' := [.inr (.inr (some (720))), .inr (.inr (some (720)))]) rfl ?_
    refine ez_gC (p := 721) (tg := 53) hB1 u720a rfl rfl tq_52 rfl rfl (fun (t721 : _ = 53) => ?_)
    refine ez_go (n := 1) (pc' := 24) (L' := [(1, .inr (.inr (some (r1)))), (0, .inr (.inr (some (720))))]) (st' := [.inl (1), .inr (.inr (some (721))), .inr (.inr (some (720)))]) rfl ?_
    have n12 : 7 ≤ qz_N g1 721 ∧ qz_N g1 721 ≤ 7 := ez_len hB1 t721 tq_53 rfl
    refine ez_aI hB1 t721 rfl tq_53 rfl rfl (by omega) (by omega) (fun (b11 : 0 ≤ qz_I g1 721 (1 : Int).toNat) (b11' : qz_I g1 721 (1 : Int).toNat ≤ 4096) => ?_)
    refine ez_go (n := 1) (pc' := 26) (L' := [(1, .inr (.inr (some (r1)))), (0, .inr (.inr (some (720))))]) (st' := [.inr (.inr (some (720))), .inl (qz_I g1 721 (1 : Int).toNat), .inr (.inr (some (720)))]) rfl ?_
    refine ez_gC (p := 722) (tg := 54) hB1 u720a rfl rfl tq_52 rfl rfl (fun (t722 : _ = 54) => ?_)
    refine ez_go (n := 1) (pc' := 30) (L' := [(1, .inr (.inr (some (r1)))), (0, .inr (.inr (some (720))))]) (st' := [.inl (1), .inr (.inr (some (722))), .inl (qz_I g1 721 (1 : Int).toNat), .inr (.inr (some (720)))]) rfl ?_
    have n14 : 7 ≤ qz_N g1 722 ∧ qz_N g1 722 ≤ 7 := ez_len hB1 t722 tq_54 rfl
    refine ez_aI hB1 t722 rfl tq_54 rfl rfl (by omega) (by omega) (fun (b13 : 0 ≤ qz_I g1 722 (1 : Int).toNat) (b13' : qz_I g1 722 (1 : Int).toNat ≤ 4096) => ?_)
    obtain ⟨ab15, af15, at15⟩ := x1.bft u193 u721 u722
    have zf15 : qz_I g1 721 (1 : Int).toNat = rz_f h 1 := congrFun af15 1
    have zt15 : qz_I g1 722 (1 : Int).toNat = rz_t h 1 := congrFun at15 1
    have hc16 := x1.2
    refine ez_cv hB1 u720a rfl rfl rfl tq_52 rfl rfl rfl (rd_rElsK hB1 u720a u193a (by omega) (by omega) (by omega) (by omega) (by omega) (fun o g2 τ2 hB2 x2 ho hi => ez_KA ?_))
    rw [ab15, zf15, zt15] at hi ho
    have X2 := x1.trans x2
    rcases o with _ | e2
    · skip
      have u720ab := (x2.1 _ (by rw [u720a]; decide)).1.trans u720a
      have u202ab := (x2.1 _ (by rw [u202a]; decide)).1.trans u202a
      have t721b := (x2.1 _ (by rw [t721]; decide)).1.trans t721
      have t722b := (x2.1 _ (by rw [t722]; decide)).1.trans t722
      have u193ab := (x2.1 _ (by rw [u193a]; decide)).1.trans u193a
      have u203ab := (x2.1 _ (by rw [u203a]; decide)).1.trans u203a
      have upb := (x2.1 _ (by rw [up]; decide)).1.trans up
      have hel : ¬ nz_els (rz_b h) (rz_f h 1) (rz_t h 1) := hi.mp rfl
      refine ez_go (n := 2) (pc' := 36) (L' := [(2, .inr (.inr none)), (1, .inr (.inr (some (r1)))), (0, .inr (.inr (some (720))))]) (st' := [.inr (.inr (some (r1)))]) rfl ?_
      refine ez_null1 rfl ?_
      refine ez_go (n := 1) (pc' := 40) (L' := [(2, .inr (.inr none)), (1, .inr (.inr (some (r1)))), (0, .inr (.inr (some (720))))]) (st' := [.inr (.inr none)]) rfl ?_
      refine ez_nonn0 rfl ?_
      refine ez_go (n := 1) (pc' := 44) (L' := [(2, .inr (.inr none)), (1, .inr (.inr (some (r1)))), (0, .inr (.inr (some (720))))]) (st' := [.inl (-1)]) rfl ?_
      exact ez_retI rfl rfl (k g2 τ2 (-1) none R hB2 (fun r hr => ((X2.1 r (by rw [hX r hr]; exact hr)).1).trans (hX r hr)) (by omega) ((eKp.xt hX X2).u c) (by omega) (fun _ => rfl) (Or.inl ⟨rfl, rfl, fun w => by first | exact hel w.2 | exact w.1 hrw⟩) (fun j _ => X2.I (by rw [u202]; decide) j))
    · skip
      have u720ab := (x2.1 _ (by rw [u720a]; decide)).1.trans u720a
      have u202ab := (x2.1 _ (by rw [u202a]; decide)).1.trans u202a
      have t721b := (x2.1 _ (by rw [t721]; decide)).1.trans t721
      have t722b := (x2.1 _ (by rw [t722]; decide)).1.trans t722
      have u193ab := (x2.1 _ (by rw [u193a]; decide)).1.trans u193a
      have u203ab := (x2.1 _ (by rw [u203a]; decide)).1.trans u203a
      have upb := (x2.1 _ (by rw [up]; decide)).1.trans up
      have hel : nz_els (rz_b h) (rz_f h 1) (rz_t h 1) := Classical.byContradiction fun w => by cases hi.mpr w
      obtain ⟨⟨te2, -⟩, q9, hq1, hq2, er⟩ := ho _ rfl
      have le2 := dz_here_lt (hB2.1 _ (by rw [te2]; decide)).1
      have c2 := X2.2
      have hN2 : qz_N g2 r1 = qz_N g1 r1 := x2.N (by rw [up]; decide)
      have hc2 : ∀ (j : Nat) v, vs[j]? = some v → qz_I g2 r1 j = v := fun j v hv => (x2.I (by rw [up]; decide) j).trans (hcl j v hv)
      refine ez_go (n := 2) (pc' := 36) (L' := [(2, .inr (.inr (some (e2)))), (1, .inr (.inr (some (r1)))), (0, .inr (.inr (some (720))))]) (st' := [.inr (.inr (some (r1)))]) rfl ?_
      refine ez_null1 rfl ?_
      refine ez_go (n := 1) (pc' := 40) (L' := [(2, .inr (.inr (some (e2)))), (1, .inr (.inr (some (r1)))), (0, .inr (.inr (some (720))))]) (st' := [.inr (.inr (some (e2)))]) rfl ?_
      refine ez_nonn1 rfl rfl ?_
      refine ez_go (n := 4) (pc' := 50) (L' := [(5, .inl (0)), (3, .inr (.inl (Int64.ofInt (0 : Nat)))), (2, .inr (.inr (some (e2)))), (1, .inr (.inr (some (r1)))), (0, .inr (.inr (some (720))))]) (st' := []) rfl ?_
      refine ez_less [(5, .inl (0)), (3, .inr (.inl (Int64.ofInt (0 : Nat)))), (2, .inr (.inr (some (e2)))), (1, .inr (.inr (some (r1)))), (0, .inr (.inr (some (720))))] rfl ⟨rfl, rfl, rfl, rfl, rfl, trivial⟩ ?_
      refine rd_tkEnK_l (vs := vs) hB2 upb (by rw [hN2]; exact hvl.symm) hc2 hpt (by omega) (fun x hx9 => ?_) _ 0 _ rfl (by omega) (by omega) (by rw [show (0 : Int).toNat = 0 from rfl, List.take_zero]; first | rfl | decide)
      refine ez_nw' (t := 8) hB2 rfl rfl rfl tq_8 rfl rfl (by omega) (by show g2.2.1 + 2 ≤ 7302232; omega) (fun g17 τ17 p17 hB17 x17 o17 t17 z17 e17 y17 => ?_)
      have x17 : ez_xt τ2 g2 τ17 g17 1 2 := x17
      have c17 := x17.2
      have u720abn17 := (x17.1 _ (by rw [u720ab]; decide)).1.trans u720ab
      have u202abn17 := (x17.1 _ (by rw [u202ab]; decide)).1.trans u202ab
      have t721bn17 := (x17.1 _ (by rw [t721b]; decide)).1.trans t721b
      have t722bn17 := (x17.1 _ (by rw [t722b]; decide)).1.trans t722b
      have u193abn17 := (x17.1 _ (by rw [u193ab]; decide)).1.trans u193ab
      have u203abn17 := (x17.1 _ (by rw [u203ab]; decide)).1.trans u203ab
      have upbn17 := (x17.1 _ (by rw [upb]; decide)).1.trans upb
      have te2n17 := (x17.1 _ (by rw [te2]; decide)).1.trans te2
      have X3 := X2.trans x17
      have zz : τ p17 = 0 := Classical.byContradiction fun e => by have := dz_here_lt (hB.1 _ e).1; omega
      have hN3 : qz_N g17 r1 = qz_N g2 r1 := x17.N (by rw [upb]; decide)
      refine ez_go (n := 1) (pc' := 78) (L' := [(3, .inr (.inl (x))), (2, .inr (.inr (some (e2)))), (1, .inr (.inr (some (r1)))), (0, .inr (.inr (some (720))))]) (st' := [.inr (.inr (some (p17))), .inr (.inr (some (p17)))]) rfl ?_
      refine ez_ci hB17.2.1 rfl rfl rfl rfl rfl rfl (rd_Entry_init (ez_K0 ?_))
      refine ez_go (n := 3) (pc' := 86) (L' := [(5, .inr (.inr (some (p17)))), (3, .inr (.inl (x))), (2, .inr (.inr (some (e2)))), (1, .inr (.inr (some (r1)))), (0, .inr (.inr (some (720))))]) (st' := [.inr (.inr (some (r1))), .inr (.inr (some (p17)))]) rfl ?_
      refine ez_al hB17 upbn17 rfl tq_5 rfl (fun (b18 : 0 ≤ qz_N g17 r1) (b18' : qz_N g17 r1 ≤ 18) => ?_)
      refine ez_pf hB17 t17 rfl rfl tq_8 rfl rfl rfl rfl (ez_vdI rfl rfl (by omega) (by omega)) (fun hB19 w20 => ?_)
      refine ez_go (n := 2) (pc' := 93) (L' := [(5, .inr (.inr (some (p17)))), (3, .inr (.inl (x))), (2, .inr (.inr (some (e2)))), (1, .inr (.inr (some (r1)))), (0, .inr (.inr (some (720))))]) (st' := [.inr (.inr (some (e2))), .inr (.inr (some (p17)))]) rfl ?_
      refine ez_pf hB19 t17 rfl rfl tq_8 rfl rfl rfl rfl (ez_vdR rfl te2n17 (by omega) (by omega)) (fun hB21 w22 => ?_)
      have XF23 := X3.fr (show ez_fr (ez_one p17) g17 (dz_put (dz_put g17 p17 0 (ez_v (.inl (qz_N g17 r1)))) p17 1 (ez_v (.inr (.inr (some (e2)))))) from (((ez_fr.refl (ez_one p17) g17).put (show Nat.beq p17 p17 = true from Nat.beq_refl _) _ _).put (show Nat.beq p17 p17 = true from Nat.beq_refl _) _ _)) zz
      have hB9 := ez_rtEntry hB21 t17 (by rw [w22]; show (1 : Int) ≤ (e2 : Int) + 1; omega)
      have X9 := XF23.rt (r := p17) (t := 7) zz
      have u720h := (X9.1 _ (by rw [u720]; decide)).1.trans u720
      have u202h := (X9.1 _ (by rw [u202]; decide)).1.trans u202
      have u721h := (X9.1 _ (by rw [u721]; decide)).1.trans u721
      have u722h := (X9.1 _ (by rw [u722]; decide)).1.trans u722
      have u193h := (X9.1 _ (by rw [u193]; decide)).1.trans u193
      have u203h := (X9.1 _ (by rw [u203]; decide)).1.trans u203
      have t9r : dz_tn τ17 p17 7 r1 = 5 := (ez_tn_ne (fun e => by rw [e, t17] at upbn17; cases upbn17)).trans upbn17
      have t9p : dz_tn τ17 p17 7 p17 = 7 := ez_tn_eq
      refine ez_go (n := 1) (pc' := 97) (L' := [(5, .inr (.inr (some (p17)))), (3, .inr (.inl (x))), (2, .inr (.inr (some (e2)))), (1, .inr (.inr (some (r1)))), (0, .inr (.inr (some (720))))]) (st' := [.inr (.inr (some (720)))]) rfl ?_
      refine ez_gC (p := 202) (tg := 48) hB9 u720h rfl rfl tq_52 rfl rfl (fun (t202 : _ = 48) => ?_)
      refine ez_go (n := 2) (pc' := 103) (L' := [(5, .inr (.inr (some (p17)))), (3, .inr (.inl (x))), (2, .inr (.inr (some (e2)))), (1, .inr (.inr (some (r1)))), (0, .inr (.inr (some (720))))]) (st' := [.inr (.inr (some (p17))), .inr (.inl (x)), .inr (.inr (some (202)))]) rfl ?_
      have ne2 : e2 ≠ p17 := fun e => by rw [e, z17] at te2; cases te2
      have ce2 : ((dz_put (dz_put g17 p17 0 (ez_v (.inl (qz_N g17 r1)))) p17 1 (ez_v (.inr (.inr (some (e2))))))).2.2 e2 = g2.2.2 e2 := by rw [qz_put_at _ _ _ _ ne2, qz_put_at _ _ _ _ ne2, (x17.1 e2 (by rw [te2]; decide)).2]
      have t9e : (dz_tn τ17 p17 7) e2 = 9 := (ez_tn_ne ne2).trans ((x17.1 e2 (by rw [te2]; decide)).1.trans te2)
      have y0 : qz_I ((dz_put (dz_put g17 p17 0 (ez_v (.inl (qz_N g17 r1)))) p17 1 (ez_v (.inr (.inr (some (e2))))))) p17 0 = (vs.length : Int) := (ez_put_I (fun w => absurd w.2 (by decide))).trans (w20.trans ((rz_rd ⟨by omega, by omega⟩).trans (by rw [hN3, hN2]; exact hvl.symm)))
      have y1 : qz_I ((dz_put (dz_put g17 p17 0 (ez_v (.inl (qz_N g17 r1)))) p17 1 (ez_v (.inr (.inr (some (e2))))))) p17 1 = (e2 : Int) + 1 := w22
      have hB8 := hB9
      have j202 : ∀ j, qz_I ((dz_put (dz_put g17 p17 0 (ez_v (.inl (qz_N g17 r1)))) p17 1 (ez_v (.inr (.inr (some (e2))))))) 202 j = qz_I h 202 j := fun j => X9.I (by rw [u202]; decide) j
      have c9 : cEr (dz_tn τ17 p17 7) ((dz_put (dz_put g17 p17 0 (ez_v (.inl (qz_N g17 r1)))) p17 1 (ez_v (.inr (.inr (some (e2))))))) LK R := c.tr (j202 4) (X9.1 204 (by rw [u204]; decide)).2 (X9.1 205 (by rw [u205]; decide)).2 (fun q hq => X9.1 q (by omega))
      have cN9 : ∀ {a b : cz_H} {q : Nat}, a.2.2 q = b.2.2 q → qz_N a q = qz_N b q := fun e => by unfold qz_N; rw [e]
      have cI9 : ∀ {a b : cz_H} {q : Nat}, a.2.2 q = b.2.2 q → ∀ j, qz_I a q j = qz_I b q j := fun e j => by unfold qz_I; rw [e]
      have en9 : ent (dz_tn τ17 p17 7) ((dz_put (dz_put g17 p17 0 (ez_v (.inl (qz_N g17 r1)))) p17 1 (ez_v (.inr (.inr (some (e2))))))) ((p17 : Int) + 1) (vs, nz_ev (rz_b h) (rz_t h 1) q9 (rz_f h 1)) := ⟨p17, e2, rfl, t9p, y0, y1, t9e, (cN9 ce2).trans er.1, fun j e hj => (cI9 ce2 j).trans (er.2 j e hj), nz_ev_ok _ _ _ _ hq1, by show 1 ≤ (nz_ev (rz_b h) (rz_t h 1) q9 (rz_f h 1)).length; rw [nz_ev_len]; omega, by show (nz_ev (rz_b h) (rz_t h 1) q9 (rz_f h 1)).length ≤ 18; rw [nz_ev_len]; omega⟩
      have rk9 : rowk vs := ⟨⟨by omega, by omega⟩, hpt⟩
      refine ez_cv hB9 t202 rfl rfl rfl tq_48 rfl rfl rfl (rd_tEnK hB8 t202 ((X9.1 _ (by rw [u204]; decide)).1.trans u204) ((X9.1 _ (by rw [u205]; decide)).1.trans u205) t9p (by omega) c9 rk9 hx9 en9 n1 (fun g9 R2 hB10 f9 c10 l10 j10 => ez_K0 ?_))
      have hN9 : qz_N g9 r1 = qz_N ((dz_put (dz_put g17 p17 0 (ez_v (.inl (qz_N g17 r1)))) p17 1 (ez_v (.inr (.inr (some (e2))))))) r1 := f9.N (by unfold nz_PE; rw [dz_beq_ne (fun e => by rw [e, t202] at t9r; cases t9r), dz_beq_ne (fun e => by rw [e, (X9.1 _ (by rw [u204]; decide)).1.trans u204] at t9r; cases t9r), dz_beq_ne (fun e => by rw [e, (X9.1 _ (by rw [u205]; decide)).1.trans u205] at t9r; cases t9r)]; rfl)
      have hN8 : qz_N ((dz_put (dz_put g17 p17 0 (ez_v (.inl (qz_N g17 r1)))) p17 1 (ez_v (.inr (.inr (some (e2))))))) r1 = qz_N g17 r1 := by rw [ez_put_N, ez_put_N]
      refine ez_go (n := 1) (pc' := 107) (L' := [(5, .inr (.inr (some (p17)))), (3, .inr (.inl (x))), (2, .inr (.inr (some (e2)))), (1, .inr (.inr (some (r1)))), (0, .inr (.inr (some (720))))]) (st' := [.inr (.inr (some (r1)))]) rfl ?_
      refine ez_al hB10 t9r rfl tq_5 rfl (fun (b24 : 0 ≤ qz_N g9 r1) (b24' : qz_N g9 r1 ≤ 18) => ?_)
      exact ez_retI rfl rfl (k g9 (dz_tn τ17 p17 7) _ (some (vs, nz_ev (rz_b h) (rz_t h 1) q9 (rz_f h 1))) R2 hB10 (fun r hr => ((X9.1 r (by rw [hX r hr]; exact hr)).1).trans (hX r hr)) (by omega) c10 l10 (fun w => absurd w (by omega)) (Or.inr ⟨by omega, vs, q9, hrw, hq1, hq2, rfl⟩) (fun j hj => (j10 j hj).trans (j202 j)))

theorem rd_takeK0 {n : Int} (hI : jz_I τ h F E) (hX : jx τ h D) (ce : cEr τ h LK R) (lr : (R.length : Int) ≤ qz_I h 202 5) (n0 : 0 ≤ n) (n1 : n ≤ 4096) (hl : n = 0 ∨ qz_I h 202 5 ≤ 255) (hr1 : h.1 + 4 ≤ 600192) (hr2 : h.2.1 + 59 ≤ 7302232) (k : ∀ g τ1 (v : Int) cc R2, ez_B τ1 g → jz_X τ1 → cEr τ1 g (lk1 LK cc) R2 → lnc (rz_b h) n 0 cc → (R2.length : Int) ≤ qz_I g 202 5 → Q (.inl (some (ez_v (.inl v))), g)) : ez_W (d + 8) cm_174 0 [(0, .inr (.inr (some (720)))), (1, .inl (0)), (2, .inl (n))] [] h Q := by
  have t193 : τ 193 = 45 := hI.2.1 193 (by decide)
  have t202 : τ 202 = 48 := hI.2.1 202 (by decide)
  have t203 : τ 203 = 49 := hI.2.1 203 (by decide)
  have t204 : τ 204 = 50 := hI.2.1 204 (by decide)
  have t205 : τ 205 = 51 := hI.2.1 205 (by decide)
  have t720 : τ 720 = 52 := hI.2.1 720 (by decide)
  have t721 : τ 721 = 53 := hI.2.1 721 (by decide)
  have t722 : τ 722 = 54 := hI.2.1 722 (by decide)
  have hB := hI.1
  refine ez_go (n := 1) (pc' := 1) (L' := [(0, .inr (.inr (some (720)))), (1, .inl (0)), (2, .inl (n))]) (st' := [.inr (.inr (some (720)))]) rfl ?_
  refine ez_gC (p := 202) (tg := 48) hB t720 rfl rfl tq_52 rfl rfl (fun (t202 : _ = 48) => ?_)
  refine ez_gI hB t202 rfl rfl tq_48 rfl rfl (fun (b1 : 0 ≤ qz_I h 202 5) (b1' : qz_I h 202 5 ≤ 256) => ?_)
  refine ez_go (n := 1) (pc' := 10) (L' := [(0, .inr (.inr (some (720)))), (1, .inl (0)), (2, .inl (n))]) (st' := [.inl (256), .inl (qz_I h 202 5)]) rfl ?_
  refine ez_icmp rfl rfl ⟨by first | omega | exact (sz_i32 _).1, by first | omega | exact (sz_i32 _).2⟩ ⟨by first | omega | exact (sz_i32 _).1, by first | omega | exact (sz_i32 _).2⟩ (fun (c2 : (256) ≤ (qz_I h 202 5)) => ?_) (fun (c2 : ¬((256) ≤ (qz_I h 202 5))) => ?_)
  · skip
    refine ez_go (n := 1) (pc' := 26) (L' := [(0, .inr (.inr (some (720)))), (1, .inl (0)), (2, .inl (n))]) (st' := [.inl (-1)]) rfl ?_
    exact ez_retI rfl rfl (k h τ (-1) none R hB hI.2.1 ce (lnc_o (by decide)) lr)
  · skip
    refine ez_go (n := 3) (pc' := 16) (L' := [(0, .inr (.inr (some (720)))), (1, .inl (0)), (2, .inl (n))]) (st' := [.inl (0), .inl (n), .inr (.inr (some (720)))]) rfl ?_
    refine ez_cs hB.2.1 rfl rfl rfl rfl rfl (rd_fieldsOf0 (ez_K1 ?_))
    refine ez_cv hB t720 rfl rfl rfl tq_52 rfl rfl rfl (rd_split hB t720 t721 t722 n0 n1 (by omega) (by omega) (fun g0 hB0 f0 hno => ez_K1 ?_) (fun g0 c hB0 f0 hpl hha hlen hfl => ez_K1 ?_))
    · skip
      have x0 := fz_ft t721 t722 f0
      have q202 : ∀ j, qz_I g0 202 j = qz_I h 202 j := fun j => f0.I rfl j
      have b0 : rz_b g0 = rz_b h := rz_b_fr f0 rfl
      have k0 : eKp τ h τ g0 := eKp.f f0 (q202 4) (by rw [q202]; exact Int.le_refl _) rfl rfl (fun q hq => by unfold rz_ft; rw [dz_beq_ne (fun e => by rw [e, t721] at hq; revert hq; decide), dz_beq_ne (fun e => by rw [e, t722] at hq; revert hq; decide)]; rfl)
      have hI0 : jz_I τ g0 F E := jz_no hI hB0 x0 q202 (f0.2.2 203 rfl) (f0.2.2 205 rfl) (fun q hq => f0.2.2 q (by unfold rz_ft; rw [dz_beq_ne (fun e => by rw [e, t721] at hq; cases hq), dz_beq_ne (fun e => by rw [e, t722] at hq; cases hq)]; rfl))
      have hX0 : jx τ g0 D := jx_tr hI.1 t202 t203 hX (q202 1) (f0.2.2 203 rfl) (fun q hq => ⟨rfl, f0.2.2 q (by unfold rz_ft; rw [dz_beq_ne (fun e => by rw [e, t721] at hq; omega), dz_beq_ne (fun e => by rw [e, t722] at hq; omega)]; rfl)⟩)
      refine ez_if rfl rfl ⟨by decide, by decide⟩ (fun (c3 : (0 : Int) ≠ (0)) => absurd c3 (by decide)) (fun _ => ?_)
      refine ez_go (n := 1) (pc' := 26) (L' := [(0, .inr (.inr (some (720)))), (1, .inl (0)), (2, .inl (n))]) (st' := [.inl (-1)]) rfl ?_
      exact ez_retI rfl rfl (k g0 τ (-1) none R hB0 hI.2.1 (k0.u ce) (lnc_o (by decide)) (by have := k0.1.2; omega))
    · skip
      have x0 := fz_ft t721 t722 f0
      have q202 : ∀ j, qz_I g0 202 j = qz_I h 202 j := fun j => f0.I rfl j
      have b0 : rz_b g0 = rz_b h := rz_b_fr f0 rfl
      have k0 : eKp τ h τ g0 := eKp.f f0 (q202 4) (by rw [q202]; exact Int.le_refl _) rfl rfl (fun q hq => by unfold rz_ft; rw [dz_beq_ne (fun e => by rw [e, t721] at hq; revert hq; decide), dz_beq_ne (fun e => by rw [e, t722] at hq; revert hq; decide)]; rfl)
      have hI0 : jz_I τ g0 F E := jz_no hI hB0 x0 q202 (f0.2.2 203 rfl) (f0.2.2 205 rfl) (fun q hq => f0.2.2 q (by unfold rz_ft; rw [dz_beq_ne (fun e => by rw [e, t721] at hq; cases hq), dz_beq_ne (fun e => by rw [e, t722] at hq; cases hq)]; rfl))
      have hX0 : jx τ g0 D := jx_tr hI.1 t202 t203 hX (q202 1) (f0.2.2 203 rfl) (fun q hq => ⟨rfl, f0.2.2 q (by unfold rz_ft; rw [dz_beq_ne (fun e => by rw [e, t721] at hq; omega), dz_beq_ne (fun e => by rw [e, t722] at hq; omega)]; rfl)⟩)
      have hA : rz_A (rz_b h) n 7 (rz_seg (rz_b h) c.toNat 0 0) := ⟨c, hpl, hha, rfl, hlen⟩
      generalize rz_seg (rz_b h) c.toNat 0 0 = A at hA hfl hlen
      have hlen : (A.length : Int) = 7 := by rw [hlen]; rfl
      have hfa : ∀ k, 0 ≤ k → k ≤ 6 → rz_f g0 k = rz_ff (rz_b h) A k ∧ rz_t g0 k = rz_tt (rz_b h) A k := fun k k0 k1 => rz_flds_at hfl k0 (by omega)
      have hft : ∀ k, 0 ≤ k → k ≤ 6 → rz_f g0 k ≤ rz_t g0 k := fun k k0 k1 => by
        obtain ⟨w1, w2⟩ := hfa k k0 k1
        rw [w1, w2]
        exact rz_A_ff hA (by omega) (by omega)
      have hlt : qz_I h 202 5 ≤ 255 := by have := rz_A_pos (by decide) hA; omega
      have hnp := rz_A_pos (by decide) hA
      have fc0 := x0.2
      have i6 := hI.2.2.2.2.1
      have hsp : qz_I g0 202 1 + 2 ≤ 513 := by rw [q202]; omega
      refine ez_if rfl rfl ⟨by decide, by decide⟩ (fun _ => ?_) (fun (c4 : ¬((1 : Int) ≠ (0))) => absurd c4 (by decide))
      refine ez_go (n := 1) (pc' := 28) (L' := [(0, .inr (.inr (some (720)))), (1, .inl (0)), (2, .inl (n))]) (st' := [.inl (0)]) rfl ?_
      refine ez_sw rfl ⟨by decide, by decide⟩ ⟨_, rfl, rfl⟩ ?_
      refine ez_go (n := 1) (pc' := 61) (L' := [(0, .inr (.inr (some (720)))), (1, .inl (0)), (2, .inl (n))]) (st' := [.inr (.inr (some (720)))]) rfl ?_
      refine ez_cv hB0 t720 rfl rfl rfl tq_52 rfl rfl rfl (rd_takeFact hB0 t193 t202 t203 t720 t721 t722 hI0.2.2.1.1 hI0.2.2.1.2 hft hsp (by omega) (by omega) (fun g1 τ1 hB1 hx hno => ez_K1 ?_) (fun g1 h1 τ1 first last cls dec hB1 hBh hx t3 hF r0 r2 hD hrE ht => ez_K1 ?_))
      · skip
        have k1 := k0.trans (eKp.xr hI0.2.1 hx)
        have w5 : qz_I g1 202 5 = qz_I g0 202 5 := hx.I (by rw [t202]; decide) (by decide) 5
        have X1 : jz_X τ1 := fun r hr => ((hx.1 r (by rw [hI0.2.1 r hr]; exact hr)).1).trans (hI0.2.1 r hr)
        have u202 : τ1 202 = 48 := X1 202 (by decide)
        have u720 : τ1 720 = 52 := X1 720 (by decide)
        refine ez_go (n := 2) (pc' := 97) (L' := [(3, .inl (-1)), (0, .inr (.inr (some (720)))), (1, .inl (0)), (2, .inl (n))]) (st' := []) rfl ?_
        refine ez_less [(3, .inl (-1)), (0, .inr (.inr (some (720)))), (1, .inl (0)), (2, .inl (n))] rfl ⟨rfl, rfl, rfl, rfl, trivial⟩ ?_
        refine rd_take_e hB1 u720 u202 (by omega) (by omega) (Or.inl rfl) (fun g9 hB9 f9 j9 l9 => ?_)
        have k9 := k1.trans (eKp.f (τ := τ1) f9 (j9 4 (by decide)) (by rw [l9]; split <;> omega) rfl rfl (fun q hq => dz_beq_ne (fun e => by rw [e, u202] at hq; revert hq; decide)))
        exact k g9 τ1 (-1) none R hB9 X1 (k9.u ce) (lnc_o (by decide)) (by have := k9.1.2; omega)
      · skip
        have X1 : jz_X τ1 := fun r hr => ((hx.1 r (by rw [hI0.2.1 r hr]; exact hr)).1).trans (hI0.2.1 r hr)
        have k1 := k0.trans ((eKp.xr hI0.2.1 hx).trans (eKp.ps X1 ht.2.2.1 ht.2.2.2.1))
        have w5 : qz_I g1 202 5 = qz_I g0 202 5 := (ht.2.2.2.1 5 (by decide)).trans (hx.I (by rw [t202]; decide) (by decide) 5)
        have bl := rz_last_bd (rz_b g0) (rz_f g0 0) (rz_t g0 0)
        have bf := rz_code_bd (rz_b g0) (rz_f g0 0) (rz_dots (rz_b g0) (rz_t g0 0 - rz_f g0 0).toNat (rz_f g0 0))
        have hF1 := hF.1
        have ef2 : rz_first (rz_b g0) (rz_f g0 0) (rz_t g0 0) = rz_code (rz_b g0) (rz_f g0 0) (rz_dots (rz_b g0) (rz_t g0 0 - rz_f g0 0).toNat (rz_f g0 0)) := rfl
        have u202 : τ1 202 = 48 := X1 202 (by decide)
        have u720 : τ1 720 = 52 := X1 720 (by decide)
        refine ez_go (n := 2) (pc' := 97) (L' := [(3, .inl (last - first + 1)), (0, .inr (.inr (some (720)))), (1, .inl (0)), (2, .inl (n))]) (st' := []) rfl ?_
        refine ez_less [(3, .inl (last - first + 1)), (0, .inr (.inr (some (720)))), (1, .inl (0)), (2, .inl (n))] rfl ⟨rfl, rfl, rfl, rfl, trivial⟩ ?_
        refine rd_take_e hB1 u720 u202 (by omega) (by omega) (Or.inr (by rw [w5, q202]; exact hlt)) (fun g9 hB9 f9 j9 l9 => ?_)
        have k9 := k1.trans (eKp.f (τ := τ1) f9 (j9 4 (by decide)) (by rw [l9]; split <;> omega) rfl rfl (fun q hq => dz_beq_ne (fun e => by rw [e, u202] at hq; revert hq; decide)))
        exact k g9 τ1 _ none R hB9 X1 (k9.u ce) (lnc_o (by decide)) (by have := k9.1.2; omega)

theorem rd_takeK1 {n : Int} (hI : jz_I τ h F E) (hX : jx τ h D) (ce : cEr τ h LK R) (lr : (R.length : Int) ≤ qz_I h 202 5) (n0 : 0 ≤ n) (n1 : n ≤ 4096) (hl : n = 0 ∨ qz_I h 202 5 ≤ 255) (hr1 : h.1 + 4 ≤ 600192) (hr2 : h.2.1 + 59 ≤ 7302232) (k : ∀ g τ1 (v : Int) cc R2, ez_B τ1 g → jz_X τ1 → cEr τ1 g (lk1 LK cc) R2 → lnc (rz_b h) n 1 cc → (R2.length : Int) ≤ qz_I g 202 5 → Q (.inl (some (ez_v (.inl v))), g)) : ez_W (d + 8) cm_174 0 [(0, .inr (.inr (some (720)))), (1, .inl (1)), (2, .inl (n))] [] h Q := by
  have t193 : τ 193 = 45 := hI.2.1 193 (by decide)
  have t202 : τ 202 = 48 := hI.2.1 202 (by decide)
  have t203 : τ 203 = 49 := hI.2.1 203 (by decide)
  have t204 : τ 204 = 50 := hI.2.1 204 (by decide)
  have t205 : τ 205 = 51 := hI.2.1 205 (by decide)
  have t720 : τ 720 = 52 := hI.2.1 720 (by decide)
  have t721 : τ 721 = 53 := hI.2.1 721 (by decide)
  have t722 : τ 722 = 54 := hI.2.1 722 (by decide)
  have hB := hI.1
  refine ez_go (n := 1) (pc' := 1) (L' := [(0, .inr (.inr (some (720)))), (1, .inl (1)), (2, .inl (n))]) (st' := [.inr (.inr (some (720)))]) rfl ?_
  refine ez_gC (p := 202) (tg := 48) hB t720 rfl rfl tq_52 rfl rfl (fun (t202 : _ = 48) => ?_)
  refine ez_gI hB t202 rfl rfl tq_48 rfl rfl (fun (b1 : 0 ≤ qz_I h 202 5) (b1' : qz_I h 202 5 ≤ 256) => ?_)
  refine ez_go (n := 1) (pc' := 10) (L' := [(0, .inr (.inr (some (720)))), (1, .inl (1)), (2, .inl (n))]) (st' := [.inl (256), .inl (qz_I h 202 5)]) rfl ?_
  refine ez_icmp rfl rfl ⟨by first | omega | exact (sz_i32 _).1, by first | omega | exact (sz_i32 _).2⟩ ⟨by first | omega | exact (sz_i32 _).1, by first | omega | exact (sz_i32 _).2⟩ (fun (c2 : (256) ≤ (qz_I h 202 5)) => ?_) (fun (c2 : ¬((256) ≤ (qz_I h 202 5))) => ?_)
  · skip
    refine ez_go (n := 1) (pc' := 26) (L' := [(0, .inr (.inr (some (720)))), (1, .inl (1)), (2, .inl (n))]) (st' := [.inl (-1)]) rfl ?_
    exact ez_retI rfl rfl (k h τ (-1) none R hB hI.2.1 ce (lnc_o (by decide)) lr)
  · skip
    refine ez_go (n := 3) (pc' := 16) (L' := [(0, .inr (.inr (some (720)))), (1, .inl (1)), (2, .inl (n))]) (st' := [.inl (1), .inl (n), .inr (.inr (some (720)))]) rfl ?_
    refine ez_cs hB.2.1 rfl rfl rfl rfl rfl (rd_fieldsOf1 (ez_K1 ?_))
    refine ez_cv hB t720 rfl rfl rfl tq_52 rfl rfl rfl (rd_split hB t720 t721 t722 n0 n1 (by omega) (by omega) (fun g0 hB0 f0 hno => ez_K1 ?_) (fun g0 c hB0 f0 hpl hha hlen hfl => ez_K1 ?_))
    · skip
      have x0 := fz_ft t721 t722 f0
      have q202 : ∀ j, qz_I g0 202 j = qz_I h 202 j := fun j => f0.I rfl j
      have b0 : rz_b g0 = rz_b h := rz_b_fr f0 rfl
      have k0 : eKp τ h τ g0 := eKp.f f0 (q202 4) (by rw [q202]; exact Int.le_refl _) rfl rfl (fun q hq => by unfold rz_ft; rw [dz_beq_ne (fun e => by rw [e, t721] at hq; revert hq; decide), dz_beq_ne (fun e => by rw [e, t722] at hq; revert hq; decide)]; rfl)
      have hI0 : jz_I τ g0 F E := jz_no hI hB0 x0 q202 (f0.2.2 203 rfl) (f0.2.2 205 rfl) (fun q hq => f0.2.2 q (by unfold rz_ft; rw [dz_beq_ne (fun e => by rw [e, t721] at hq; cases hq), dz_beq_ne (fun e => by rw [e, t722] at hq; cases hq)]; rfl))
      have hX0 : jx τ g0 D := jx_tr hI.1 t202 t203 hX (q202 1) (f0.2.2 203 rfl) (fun q hq => ⟨rfl, f0.2.2 q (by unfold rz_ft; rw [dz_beq_ne (fun e => by rw [e, t721] at hq; omega), dz_beq_ne (fun e => by rw [e, t722] at hq; omega)]; rfl)⟩)
      refine ez_if rfl rfl ⟨by decide, by decide⟩ (fun (c3 : (0 : Int) ≠ (0)) => absurd c3 (by decide)) (fun _ => ?_)
      refine ez_go (n := 1) (pc' := 26) (L' := [(0, .inr (.inr (some (720)))), (1, .inl (1)), (2, .inl (n))]) (st' := [.inl (-1)]) rfl ?_
      exact ez_retI rfl rfl (k g0 τ (-1) none R hB0 hI.2.1 (k0.u ce) (lnc_o (by decide)) (by have := k0.1.2; omega))
    · skip
      have x0 := fz_ft t721 t722 f0
      have q202 : ∀ j, qz_I g0 202 j = qz_I h 202 j := fun j => f0.I rfl j
      have b0 : rz_b g0 = rz_b h := rz_b_fr f0 rfl
      have k0 : eKp τ h τ g0 := eKp.f f0 (q202 4) (by rw [q202]; exact Int.le_refl _) rfl rfl (fun q hq => by unfold rz_ft; rw [dz_beq_ne (fun e => by rw [e, t721] at hq; revert hq; decide), dz_beq_ne (fun e => by rw [e, t722] at hq; revert hq; decide)]; rfl)
      have hI0 : jz_I τ g0 F E := jz_no hI hB0 x0 q202 (f0.2.2 203 rfl) (f0.2.2 205 rfl) (fun q hq => f0.2.2 q (by unfold rz_ft; rw [dz_beq_ne (fun e => by rw [e, t721] at hq; cases hq), dz_beq_ne (fun e => by rw [e, t722] at hq; cases hq)]; rfl))
      have hX0 : jx τ g0 D := jx_tr hI.1 t202 t203 hX (q202 1) (f0.2.2 203 rfl) (fun q hq => ⟨rfl, f0.2.2 q (by unfold rz_ft; rw [dz_beq_ne (fun e => by rw [e, t721] at hq; omega), dz_beq_ne (fun e => by rw [e, t722] at hq; omega)]; rfl)⟩)
      have hA : rz_A (rz_b h) n 5 (rz_seg (rz_b h) c.toNat 0 0) := ⟨c, hpl, hha, rfl, hlen⟩
      generalize rz_seg (rz_b h) c.toNat 0 0 = A at hA hfl hlen
      have hlen : (A.length : Int) = 5 := by rw [hlen]; rfl
      have hfa : ∀ k, 0 ≤ k → k ≤ 4 → rz_f g0 k = rz_ff (rz_b h) A k ∧ rz_t g0 k = rz_tt (rz_b h) A k := fun k k0 k1 => rz_flds_at hfl k0 (by omega)
      have hft : ∀ k, 0 ≤ k → k ≤ 4 → rz_f g0 k ≤ rz_t g0 k := fun k k0 k1 => by
        obtain ⟨w1, w2⟩ := hfa k k0 k1
        rw [w1, w2]
        exact rz_A_ff hA (by omega) (by omega)
      have hlt : qz_I h 202 5 ≤ 255 := by have := rz_A_pos (by decide) hA; omega
      have hnp := rz_A_pos (by decide) hA
      have fc0 := x0.2
      have i6 := hI.2.2.2.2.1
      have hsp : qz_I g0 202 1 + 2 ≤ 513 := by rw [q202]; omega
      refine ez_if rfl rfl ⟨by decide, by decide⟩ (fun _ => ?_) (fun (c4 : ¬((1 : Int) ≠ (0))) => absurd c4 (by decide))
      refine ez_go (n := 1) (pc' := 28) (L' := [(0, .inr (.inr (some (720)))), (1, .inl (1)), (2, .inl (n))]) (st' := [.inl (1)]) rfl ?_
      refine ez_sw rfl ⟨by decide, by decide⟩ ⟨_, rfl, rfl⟩ ?_
      refine ez_go (n := 1) (pc' := 69) (L' := [(0, .inr (.inr (some (720)))), (1, .inl (1)), (2, .inl (n))]) (st' := [.inr (.inr (some (720)))]) rfl ?_
      obtain ⟨O9, hXO⟩ := hX0
      refine ez_cv hB0 t720 rfl rfl rfl tq_52 rfl rfl rfl (rd_takeSpecial (O := O9) (SP := fun x => (D x).2.2.2) hB0 t193 t202 t203 t720 t721 t722 hI0.2.2.1.1 hI0.2.2.1.2 hft hsp hI0.2.2.2.2.2.1 (nz_hz hB0 hI0.2.1) (hI0.2.1 1 (by decide)) (by omega) (by omega) (fun x k x0 x1 hk => (hXO x k x0 x1 hk).2.2.2) (fun g1 τ1 hB1 hx hno2 => ez_K1 ?_) (fun g1 g3 h1 τ1 p r9 n9 hB1 hBh hB3 hx z9 t9 nd9 r49 en9 ep9 ha9 hG9 => ez_K1 ?_))
      · skip
        have k1 := k0.trans (eKp.xt hI0.2.1 hx)
        have w5 : qz_I g1 202 5 = qz_I g0 202 5 := hx.I (by rw [t202]; decide) 5
        have X1 : jz_X τ1 := fun r hr => ((hx.1 r (by rw [hI0.2.1 r hr]; exact hr)).1).trans (hI0.2.1 r hr)
        have u202 : τ1 202 = 48 := X1 202 (by decide)
        have u720 : τ1 720 = 52 := X1 720 (by decide)
        refine ez_go (n := 2) (pc' := 97) (L' := [(3, .inl (-1)), (0, .inr (.inr (some (720)))), (1, .inl (1)), (2, .inl (n))]) (st' := []) rfl ?_
        refine ez_less [(3, .inl (-1)), (0, .inr (.inr (some (720)))), (1, .inl (1)), (2, .inl (n))] rfl ⟨rfl, rfl, rfl, rfl, trivial⟩ ?_
        refine rd_take_e hB1 u720 u202 (by omega) (by omega) (Or.inl rfl) (fun g9 hB9 f9 j9 l9 => ?_)
        have k9 := k1.trans (eKp.f (τ := τ1) f9 (j9 4 (by decide)) (by rw [l9]; split <;> omega) rfl rfl (fun q hq => dz_beq_ne (fun e => by rw [e, u202] at hq; revert hq; decide)))
        exact k g9 τ1 (-1) none R hB9 X1 (k9.u ce) (lnc_o (by decide)) (by have := k9.1.2; omega)
      · skip
        have X1 : jz_X τ1 := fun r hr => ((hx.1 r (by rw [hI0.2.1 r hr]; exact hr)).1).trans (hI0.2.1 r hr)
        have h3 : ez_fr (sz_PS τ1) h1 g3 ∧ ∀ j, j ≠ 1 → qz_I g3 202 j = qz_I h1 202 j := by rcases ha9 with ⟨-, a, -⟩ | ⟨a, -⟩ <;> exact ⟨a.2.2.1, a.2.2.2.1⟩
        have h6 : ez_fr (sz_P6 τ1) g3 g1 := by rcases ha9 with ⟨-, -, e⟩ | ⟨-, t, t1, t2, t3, t4, -⟩; (· rw [e]; exact ez_fr.refl _ _); (· exact ⟨t3, t4, fun q hq => t2 q (fun e => by rw [e] at hq; unfold sz_P6 at hq; rw [t1.1] at hq; cases hq)⟩)
        have p6 : ∀ q, τ1 q ≠ 6 → sz_P6 τ1 q = false := fun q hq => dz_beq_ne hq
        have z2 : ∀ j, qz_I g1 202 j = qz_I g3 202 j := fun j => h6.I (p6 202 (by rw [X1 202 (by decide)]; decide)) j
        have k1 := k0.trans ((eKp.xt hI0.2.1 hx).trans ((eKp.ps X1 h3.1 h3.2).trans (eKp.f h6 (z2 4) (by rw [z2]; exact Int.le_refl _) (p6 204 (by rw [X1 204 (by decide)]; decide)) (p6 205 (by rw [X1 205 (by decide)]; decide)) (fun q hq => p6 q (by omega)))))
        have w5 : qz_I g1 202 5 = qz_I g0 202 5 := (z2 5).trans ((h3.2 5 (by decide)).trans (hx.I (by rw [t202]; decide) 5))
        have u202 : τ1 202 = 48 := X1 202 (by decide)
        have u720 : τ1 720 = 52 := X1 720 (by decide)
        refine ez_go (n := 2) (pc' := 97) (L' := [(3, .inl (1)), (0, .inr (.inr (some (720)))), (1, .inl (1)), (2, .inl (n))]) (st' := []) rfl ?_
        refine ez_less [(3, .inl (1)), (0, .inr (.inr (some (720)))), (1, .inl (1)), (2, .inl (n))] rfl ⟨rfl, rfl, rfl, rfl, trivial⟩ ?_
        refine rd_take_e hB1 u720 u202 (by omega) (by omega) (Or.inr (by rw [w5, q202]; exact hlt)) (fun g9 hB9 f9 j9 l9 => ?_)
        have k9 := k1.trans (eKp.f (τ := τ1) f9 (j9 4 (by decide)) (by rw [l9]; split <;> omega) rfl rfl (fun q hq => dz_beq_ne (fun e => by rw [e, u202] at hq; revert hq; decide)))
        exact k g9 τ1 _ none R hB9 X1 (k9.u ce) (lnc_o (by decide)) (by have := k9.1.2; omega)

theorem rd_takeK2 {n : Int} (hI : jz_I τ h F E) (hX : jx τ h D) (ce : cEr τ h LK R) (lr : (R.length : Int) ≤ qz_I h 202 5) (n0 : 0 ≤ n) (n1 : n ≤ 4096) (hl : n = 0 ∨ qz_I h 202 5 ≤ 255) (hr1 : h.1 + 4 ≤ 600192) (hr2 : h.2.1 + 59 ≤ 7302232) (k : ∀ g τ1 (v : Int) cc R2, ez_B τ1 g → jz_X τ1 → cEr τ1 g (lk1 LK cc) R2 → lnc (rz_b h) n 2 cc → (R2.length : Int) ≤ qz_I g 202 5 → Q (.inl (some (ez_v (.inl v))), g)) : ez_W (d + 8) cm_174 0 [(0, .inr (.inr (some (720)))), (1, .inl (2)), (2, .inl (n))] [] h Q := by
  have t193 : τ 193 = 45 := hI.2.1 193 (by decide)
  have t202 : τ 202 = 48 := hI.2.1 202 (by decide)
  have t203 : τ 203 = 49 := hI.2.1 203 (by decide)
  have t204 : τ 204 = 50 := hI.2.1 204 (by decide)
  have t205 : τ 205 = 51 := hI.2.1 205 (by decide)
  have t720 : τ 720 = 52 := hI.2.1 720 (by decide)
  have t721 : τ 721 = 53 := hI.2.1 721 (by decide)
  have t722 : τ 722 = 54 := hI.2.1 722 (by decide)
  have hB := hI.1
  refine ez_go (n := 1) (pc' := 1) (L' := [(0, .inr (.inr (some (720)))), (1, .inl (2)), (2, .inl (n))]) (st' := [.inr (.inr (some (720)))]) rfl ?_
  refine ez_gC (p := 202) (tg := 48) hB t720 rfl rfl tq_52 rfl rfl (fun (t202 : _ = 48) => ?_)
  refine ez_gI hB t202 rfl rfl tq_48 rfl rfl (fun (b1 : 0 ≤ qz_I h 202 5) (b1' : qz_I h 202 5 ≤ 256) => ?_)
  refine ez_go (n := 1) (pc' := 10) (L' := [(0, .inr (.inr (some (720)))), (1, .inl (2)), (2, .inl (n))]) (st' := [.inl (256), .inl (qz_I h 202 5)]) rfl ?_
  refine ez_icmp rfl rfl ⟨by first | omega | exact (sz_i32 _).1, by first | omega | exact (sz_i32 _).2⟩ ⟨by first | omega | exact (sz_i32 _).1, by first | omega | exact (sz_i32 _).2⟩ (fun (c2 : (256) ≤ (qz_I h 202 5)) => ?_) (fun (c2 : ¬((256) ≤ (qz_I h 202 5))) => ?_)
  · skip
    refine ez_go (n := 1) (pc' := 26) (L' := [(0, .inr (.inr (some (720)))), (1, .inl (2)), (2, .inl (n))]) (st' := [.inl (-1)]) rfl ?_
    exact ez_retI rfl rfl (k h τ (-1) none R hB hI.2.1 ce (lnc_o (by decide)) lr)
  · skip
    refine ez_go (n := 3) (pc' := 16) (L' := [(0, .inr (.inr (some (720)))), (1, .inl (2)), (2, .inl (n))]) (st' := [.inl (2), .inl (n), .inr (.inr (some (720)))]) rfl ?_
    refine ez_cs hB.2.1 rfl rfl rfl rfl rfl (rd_fieldsOf2 (ez_K1 ?_))
    refine ez_cv hB t720 rfl rfl rfl tq_52 rfl rfl rfl (rd_split hB t720 t721 t722 n0 n1 (by omega) (by omega) (fun g0 hB0 f0 hno => ez_K1 ?_) (fun g0 c hB0 f0 hpl hha hlen hfl => ez_K1 ?_))
    · skip
      have x0 := fz_ft t721 t722 f0
      have q202 : ∀ j, qz_I g0 202 j = qz_I h 202 j := fun j => f0.I rfl j
      have b0 : rz_b g0 = rz_b h := rz_b_fr f0 rfl
      have k0 : eKp τ h τ g0 := eKp.f f0 (q202 4) (by rw [q202]; exact Int.le_refl _) rfl rfl (fun q hq => by unfold rz_ft; rw [dz_beq_ne (fun e => by rw [e, t721] at hq; revert hq; decide), dz_beq_ne (fun e => by rw [e, t722] at hq; revert hq; decide)]; rfl)
      have hI0 : jz_I τ g0 F E := jz_no hI hB0 x0 q202 (f0.2.2 203 rfl) (f0.2.2 205 rfl) (fun q hq => f0.2.2 q (by unfold rz_ft; rw [dz_beq_ne (fun e => by rw [e, t721] at hq; cases hq), dz_beq_ne (fun e => by rw [e, t722] at hq; cases hq)]; rfl))
      have hX0 : jx τ g0 D := jx_tr hI.1 t202 t203 hX (q202 1) (f0.2.2 203 rfl) (fun q hq => ⟨rfl, f0.2.2 q (by unfold rz_ft; rw [dz_beq_ne (fun e => by rw [e, t721] at hq; omega), dz_beq_ne (fun e => by rw [e, t722] at hq; omega)]; rfl)⟩)
      refine ez_if rfl rfl ⟨by decide, by decide⟩ (fun (c3 : (0 : Int) ≠ (0)) => absurd c3 (by decide)) (fun _ => ?_)
      refine ez_go (n := 1) (pc' := 26) (L' := [(0, .inr (.inr (some (720)))), (1, .inl (2)), (2, .inl (n))]) (st' := [.inl (-1)]) rfl ?_
      exact ez_retI rfl rfl (k g0 τ (-1) none R hB0 hI.2.1 (k0.u ce) (lnc_o (by decide)) (by have := k0.1.2; omega))
    · skip
      have x0 := fz_ft t721 t722 f0
      have q202 : ∀ j, qz_I g0 202 j = qz_I h 202 j := fun j => f0.I rfl j
      have b0 : rz_b g0 = rz_b h := rz_b_fr f0 rfl
      have k0 : eKp τ h τ g0 := eKp.f f0 (q202 4) (by rw [q202]; exact Int.le_refl _) rfl rfl (fun q hq => by unfold rz_ft; rw [dz_beq_ne (fun e => by rw [e, t721] at hq; revert hq; decide), dz_beq_ne (fun e => by rw [e, t722] at hq; revert hq; decide)]; rfl)
      have hI0 : jz_I τ g0 F E := jz_no hI hB0 x0 q202 (f0.2.2 203 rfl) (f0.2.2 205 rfl) (fun q hq => f0.2.2 q (by unfold rz_ft; rw [dz_beq_ne (fun e => by rw [e, t721] at hq; cases hq), dz_beq_ne (fun e => by rw [e, t722] at hq; cases hq)]; rfl))
      have hX0 : jx τ g0 D := jx_tr hI.1 t202 t203 hX (q202 1) (f0.2.2 203 rfl) (fun q hq => ⟨rfl, f0.2.2 q (by unfold rz_ft; rw [dz_beq_ne (fun e => by rw [e, t721] at hq; omega), dz_beq_ne (fun e => by rw [e, t722] at hq; omega)]; rfl)⟩)
      have hA : rz_A (rz_b h) n 3 (rz_seg (rz_b h) c.toNat 0 0) := ⟨c, hpl, hha, rfl, hlen⟩
      generalize rz_seg (rz_b h) c.toNat 0 0 = A at hA hfl hlen
      have hlen : (A.length : Int) = 3 := by rw [hlen]; rfl
      have hfa : ∀ k, 0 ≤ k → k ≤ 2 → rz_f g0 k = rz_ff (rz_b h) A k ∧ rz_t g0 k = rz_tt (rz_b h) A k := fun k k0 k1 => rz_flds_at hfl k0 (by omega)
      have hft : ∀ k, 0 ≤ k → k ≤ 2 → rz_f g0 k ≤ rz_t g0 k := fun k k0 k1 => by
        obtain ⟨w1, w2⟩ := hfa k k0 k1
        rw [w1, w2]
        exact rz_A_ff hA (by omega) (by omega)
      have hlt : qz_I h 202 5 ≤ 255 := by have := rz_A_pos (by decide) hA; omega
      have hnp := rz_A_pos (by decide) hA
      have fc0 := x0.2
      have i6 := hI.2.2.2.2.1
      have hsp : qz_I g0 202 1 + 2 ≤ 513 := by rw [q202]; omega
      refine ez_if rfl rfl ⟨by decide, by decide⟩ (fun _ => ?_) (fun (c4 : ¬((1 : Int) ≠ (0))) => absurd c4 (by decide))
      refine ez_go (n := 1) (pc' := 28) (L' := [(0, .inr (.inr (some (720)))), (1, .inl (2)), (2, .inl (n))]) (st' := [.inl (2)]) rfl ?_
      refine ez_sw rfl ⟨by decide, by decide⟩ ⟨_, rfl, rfl⟩ ?_
      refine ez_go (n := 1) (pc' := 77) (L' := [(0, .inr (.inr (some (720)))), (1, .inl (2)), (2, .inl (n))]) (st' := [.inr (.inr (some (720)))]) rfl ?_
      refine ez_cv hB0 t720 rfl rfl rfl tq_52 rfl rfl rfl (rd_takeFold hB0 t193 t202 t203 t720 t721 t722 hI0.2.2.1.1 hI0.2.2.1.2 hft hsp (by omega) (by omega) (fun g1 τ1 hB1 hx hno2 => ez_K1 ?_) (fun g1 h1 τ1 p J r9 hB1 hBh hx hJ9 ht ep hvs hG9 => ez_K1 ?_))
      · skip
        have k1 := k0.trans (eKp.xt hI0.2.1 hx)
        have w5 : qz_I g1 202 5 = qz_I g0 202 5 := hx.I (by rw [t202]; decide) 5
        have X1 : jz_X τ1 := fun r hr => ((hx.1 r (by rw [hI0.2.1 r hr]; exact hr)).1).trans (hI0.2.1 r hr)
        have u202 : τ1 202 = 48 := X1 202 (by decide)
        have u720 : τ1 720 = 52 := X1 720 (by decide)
        refine ez_go (n := 2) (pc' := 97) (L' := [(3, .inl (-1)), (0, .inr (.inr (some (720)))), (1, .inl (2)), (2, .inl (n))]) (st' := []) rfl ?_
        refine ez_less [(3, .inl (-1)), (0, .inr (.inr (some (720)))), (1, .inl (2)), (2, .inl (n))] rfl ⟨rfl, rfl, rfl, rfl, trivial⟩ ?_
        refine rd_take_e hB1 u720 u202 (by omega) (by omega) (Or.inl rfl) (fun g9 hB9 f9 j9 l9 => ?_)
        have k9 := k1.trans (eKp.f (τ := τ1) f9 (j9 4 (by decide)) (by rw [l9]; split <;> omega) rfl rfl (fun q hq => dz_beq_ne (fun e => by rw [e, u202] at hq; revert hq; decide)))
        exact k g9 τ1 (-1) none R hB9 X1 (k9.u ce) (lnc_o (by decide)) (by have := k9.1.2; omega)
      · skip
        have X1 : jz_X τ1 := fun r hr => ((hx.1 r (by rw [hI0.2.1 r hr]; exact hr)).1).trans (hI0.2.1 r hr)
        have k1 := k0.trans ((eKp.xt hI0.2.1 hx).trans (eKp.ps X1 ht.2.2.1 ht.2.2.2.1))
        have w5 : qz_I g1 202 5 = qz_I g0 202 5 := (ht.2.2.2.1 5 (by decide)).trans (hx.I (by rw [t202]; decide) 5)
        have u202 : τ1 202 = 48 := X1 202 (by decide)
        have u720 : τ1 720 = 52 := X1 720 (by decide)
        refine ez_go (n := 2) (pc' := 97) (L' := [(3, .inl (1)), (0, .inr (.inr (some (720)))), (1, .inl (2)), (2, .inl (n))]) (st' := []) rfl ?_
        refine ez_less [(3, .inl (1)), (0, .inr (.inr (some (720)))), (1, .inl (2)), (2, .inl (n))] rfl ⟨rfl, rfl, rfl, rfl, trivial⟩ ?_
        refine rd_take_e hB1 u720 u202 (by omega) (by omega) (Or.inr (by rw [w5, q202]; exact hlt)) (fun g9 hB9 f9 j9 l9 => ?_)
        have k9 := k1.trans (eKp.f (τ := τ1) f9 (j9 4 (by decide)) (by rw [l9]; split <;> omega) rfl rfl (fun q hq => dz_beq_ne (fun e => by rw [e, u202] at hq; revert hq; decide)))
        exact k g9 τ1 _ none R hB9 X1 (k9.u ce) (lnc_o (by decide)) (by have := k9.1.2; omega)

theorem rd_takeK3 {n : Int} (hI : jz_I τ h F E) (hX : jx τ h D) (ce : cEr τ h LK R) (lr : (R.length : Int) ≤ qz_I h 202 5) (n0 : 0 ≤ n) (n1 : n ≤ 4096) (hl : n = 0 ∨ qz_I h 202 5 ≤ 255) (hr1 : h.1 + 4 ≤ 600192) (hr2 : h.2.1 + 59 ≤ 7302232) (k : ∀ g τ1 (v : Int) cc R2, ez_B τ1 g → jz_X τ1 → cEr τ1 g (lk1 LK cc) R2 → lnc (rz_b h) n 3 cc → (R2.length : Int) ≤ qz_I g 202 5 → Q (.inl (some (ez_v (.inl v))), g)) : ez_W (d + 8) cm_174 0 [(0, .inr (.inr (some (720)))), (1, .inl (3)), (2, .inl (n))] [] h Q := by
  have t193 : τ 193 = 45 := hI.2.1 193 (by decide)
  have t202 : τ 202 = 48 := hI.2.1 202 (by decide)
  have t203 : τ 203 = 49 := hI.2.1 203 (by decide)
  have t204 : τ 204 = 50 := hI.2.1 204 (by decide)
  have t205 : τ 205 = 51 := hI.2.1 205 (by decide)
  have t720 : τ 720 = 52 := hI.2.1 720 (by decide)
  have t721 : τ 721 = 53 := hI.2.1 721 (by decide)
  have t722 : τ 722 = 54 := hI.2.1 722 (by decide)
  have hB := hI.1
  refine ez_go (n := 1) (pc' := 1) (L' := [(0, .inr (.inr (some (720)))), (1, .inl (3)), (2, .inl (n))]) (st' := [.inr (.inr (some (720)))]) rfl ?_
  refine ez_gC (p := 202) (tg := 48) hB t720 rfl rfl tq_52 rfl rfl (fun (t202 : _ = 48) => ?_)
  refine ez_gI hB t202 rfl rfl tq_48 rfl rfl (fun (b1 : 0 ≤ qz_I h 202 5) (b1' : qz_I h 202 5 ≤ 256) => ?_)
  refine ez_go (n := 1) (pc' := 10) (L' := [(0, .inr (.inr (some (720)))), (1, .inl (3)), (2, .inl (n))]) (st' := [.inl (256), .inl (qz_I h 202 5)]) rfl ?_
  refine ez_icmp rfl rfl ⟨by first | omega | exact (sz_i32 _).1, by first | omega | exact (sz_i32 _).2⟩ ⟨by first | omega | exact (sz_i32 _).1, by first | omega | exact (sz_i32 _).2⟩ (fun (c2 : (256) ≤ (qz_I h 202 5)) => ?_) (fun (c2 : ¬((256) ≤ (qz_I h 202 5))) => ?_)
  · skip
    refine ez_go (n := 1) (pc' := 26) (L' := [(0, .inr (.inr (some (720)))), (1, .inl (3)), (2, .inl (n))]) (st' := [.inl (-1)]) rfl ?_
    exact ez_retI rfl rfl (k h τ (-1) none R hB hI.2.1 ce (lnc_o (by decide)) lr)
  · skip
    refine ez_go (n := 3) (pc' := 16) (L' := [(0, .inr (.inr (some (720)))), (1, .inl (3)), (2, .inl (n))]) (st' := [.inl (3), .inl (n), .inr (.inr (some (720)))]) rfl ?_
    refine ez_cs hB.2.1 rfl rfl rfl rfl rfl (rd_fieldsOf3 (ez_K1 ?_))
    refine ez_cv hB t720 rfl rfl rfl tq_52 rfl rfl rfl (rd_split hB t720 t721 t722 n0 n1 (by omega) (by omega) (fun g0 hB0 f0 hno => ez_K1 ?_) (fun g0 c hB0 f0 hpl hha hlen hfl => ez_K1 ?_))
    · skip
      have x0 := fz_ft t721 t722 f0
      have q202 : ∀ j, qz_I g0 202 j = qz_I h 202 j := fun j => f0.I rfl j
      have b0 : rz_b g0 = rz_b h := rz_b_fr f0 rfl
      have k0 : eKp τ h τ g0 := eKp.f f0 (q202 4) (by rw [q202]; exact Int.le_refl _) rfl rfl (fun q hq => by unfold rz_ft; rw [dz_beq_ne (fun e => by rw [e, t721] at hq; revert hq; decide), dz_beq_ne (fun e => by rw [e, t722] at hq; revert hq; decide)]; rfl)
      have hI0 : jz_I τ g0 F E := jz_no hI hB0 x0 q202 (f0.2.2 203 rfl) (f0.2.2 205 rfl) (fun q hq => f0.2.2 q (by unfold rz_ft; rw [dz_beq_ne (fun e => by rw [e, t721] at hq; cases hq), dz_beq_ne (fun e => by rw [e, t722] at hq; cases hq)]; rfl))
      have hX0 : jx τ g0 D := jx_tr hI.1 t202 t203 hX (q202 1) (f0.2.2 203 rfl) (fun q hq => ⟨rfl, f0.2.2 q (by unfold rz_ft; rw [dz_beq_ne (fun e => by rw [e, t721] at hq; omega), dz_beq_ne (fun e => by rw [e, t722] at hq; omega)]; rfl)⟩)
      refine ez_if rfl rfl ⟨by decide, by decide⟩ (fun (c3 : (0 : Int) ≠ (0)) => absurd c3 (by decide)) (fun _ => ?_)
      refine ez_go (n := 1) (pc' := 26) (L' := [(0, .inr (.inr (some (720)))), (1, .inl (3)), (2, .inl (n))]) (st' := [.inl (-1)]) rfl ?_
      exact ez_retI rfl rfl (k g0 τ (-1) none R hB0 hI.2.1 (k0.u ce) (lnc_o (by decide)) (by have := k0.1.2; omega))
    · skip
      have x0 := fz_ft t721 t722 f0
      have q202 : ∀ j, qz_I g0 202 j = qz_I h 202 j := fun j => f0.I rfl j
      have b0 : rz_b g0 = rz_b h := rz_b_fr f0 rfl
      have k0 : eKp τ h τ g0 := eKp.f f0 (q202 4) (by rw [q202]; exact Int.le_refl _) rfl rfl (fun q hq => by unfold rz_ft; rw [dz_beq_ne (fun e => by rw [e, t721] at hq; revert hq; decide), dz_beq_ne (fun e => by rw [e, t722] at hq; revert hq; decide)]; rfl)
      have hI0 : jz_I τ g0 F E := jz_no hI hB0 x0 q202 (f0.2.2 203 rfl) (f0.2.2 205 rfl) (fun q hq => f0.2.2 q (by unfold rz_ft; rw [dz_beq_ne (fun e => by rw [e, t721] at hq; cases hq), dz_beq_ne (fun e => by rw [e, t722] at hq; cases hq)]; rfl))
      have hX0 : jx τ g0 D := jx_tr hI.1 t202 t203 hX (q202 1) (f0.2.2 203 rfl) (fun q hq => ⟨rfl, f0.2.2 q (by unfold rz_ft; rw [dz_beq_ne (fun e => by rw [e, t721] at hq; omega), dz_beq_ne (fun e => by rw [e, t722] at hq; omega)]; rfl)⟩)
      have hA : rz_A (rz_b h) n 2 (rz_seg (rz_b h) c.toNat 0 0) := ⟨c, hpl, hha, rfl, hlen⟩
      generalize rz_seg (rz_b h) c.toNat 0 0 = A at hA hfl hlen
      have hlen : (A.length : Int) = 2 := by rw [hlen]; rfl
      have hfa : ∀ k, 0 ≤ k → k ≤ 1 → rz_f g0 k = rz_ff (rz_b h) A k ∧ rz_t g0 k = rz_tt (rz_b h) A k := fun k k0 k1 => rz_flds_at hfl k0 (by omega)
      have hft : ∀ k, 0 ≤ k → k ≤ 1 → rz_f g0 k ≤ rz_t g0 k := fun k k0 k1 => by
        obtain ⟨w1, w2⟩ := hfa k k0 k1
        rw [w1, w2]
        exact rz_A_ff hA (by omega) (by omega)
      have hlt : qz_I h 202 5 ≤ 255 := by have := rz_A_pos (by decide) hA; omega
      have hnp := rz_A_pos (by decide) hA
      have fc0 := x0.2
      have i6 := hI.2.2.2.2.1
      have hsp : qz_I g0 202 1 + 2 ≤ 513 := by rw [q202]; omega
      refine ez_if rfl rfl ⟨by decide, by decide⟩ (fun _ => ?_) (fun (c4 : ¬((1 : Int) ≠ (0))) => absurd c4 (by decide))
      refine ez_go (n := 1) (pc' := 28) (L' := [(0, .inr (.inr (some (720)))), (1, .inl (3)), (2, .inl (n))]) (st' := [.inl (3)]) rfl ?_
      refine ez_sw rfl ⟨by decide, by decide⟩ ⟨_, rfl, rfl⟩ ?_
      refine ez_go (n := 1) (pc' := 85) (L' := [(0, .inr (.inr (some (720)))), (1, .inl (3)), (2, .inl (n))]) (st' := [.inr (.inr (some (720)))]) rfl ?_
      have τ1e : ∃ τ1 : Nat → Nat, τ1 = τ := ⟨τ, rfl⟩
      refine ez_cv hB0 t720 rfl rfl rfl tq_52 rfl rfl rfl (rd_takeProperty hB0 hI0.2.2.2.2.2.1 (hI0.2.1 2 (by decide)) (hI0.2.1 3 (by decide)) (hI0.2.1 4 (by decide)) (hI0.2.1 5 (by decide)) (hI0.2.1 6 (by decide)) t193 t202 t203 t720 t721 t722 hI0.2.2.1.1 hI0.2.2.1.2 hft hsp (fun g1 hB1 hx hno2 hno3 => ez_K1 ?_) (fun g1 h1 first last hB1 hBh hx ef el w1 w2 ht hPK gr nm hPV n0g n1g ht2 => ez_K1 ?_))
      · skip
        have k1 := k0.trans (eKp.o hI0.2.1 hx (by decide))
        have w5 : qz_I g1 202 5 = qz_I g0 202 5 := hx.I rfl 5
        refine ez_go (n := 2) (pc' := 97) (L' := [(3, .inl (-1)), (0, .inr (.inr (some (720)))), (1, .inl (3)), (2, .inl (n))]) (st' := []) rfl ?_
        refine ez_less [(3, .inl (-1)), (0, .inr (.inr (some (720)))), (1, .inl (3)), (2, .inl (n))] rfl ⟨rfl, rfl, rfl, rfl, trivial⟩ ?_
        refine rd_take_e hB1 t720 t202 (by omega) (by omega) (Or.inl rfl) (fun g9 hB9 f9 j9 l9 => ?_)
        have k9 := k1.trans (eKp.f (τ := τ) f9 (j9 4 (by decide)) (by rw [l9]; split <;> omega) rfl rfl (fun q hq => dz_beq_ne (fun e => by rw [e, t202] at hq; revert hq; decide)))
        exact k g9 τ (-1) none R hB9 hI0.2.1 (k9.u ce) (lnc_o (by decide)) (by have := k9.1.2; omega)
      · skip
        have k1 := k0.trans ((eKp.o hI0.2.1 hx (by decide)).trans (eKp.ps hI0.2.1 ht.2.2.1 ht.2.2.2.1))
        have w5 : qz_I g1 202 5 = qz_I g0 202 5 := (ht.2.2.2.1 5 (by decide)).trans (hx.I rfl 5)
        have bl := rz_last_bd (rz_b g0) (rz_f g0 0) (rz_t g0 0)
        have bf := rz_code_bd (rz_b g0) (rz_f g0 0) (rz_dots (rz_b g0) (rz_t g0 0 - rz_f g0 0).toNat (rz_f g0 0))
        have ef2 : rz_first (rz_b g0) (rz_f g0 0) (rz_t g0 0) = rz_code (rz_b g0) (rz_f g0 0) (rz_dots (rz_b g0) (rz_t g0 0 - rz_f g0 0).toNat (rz_f g0 0)) := rfl
        refine ez_go (n := 2) (pc' := 97) (L' := [(3, .inl (last - first + 1)), (0, .inr (.inr (some (720)))), (1, .inl (3)), (2, .inl (n))]) (st' := []) rfl ?_
        refine ez_less [(3, .inl (last - first + 1)), (0, .inr (.inr (some (720)))), (1, .inl (3)), (2, .inl (n))] rfl ⟨rfl, rfl, rfl, rfl, trivial⟩ ?_
        refine rd_take_e hB1 t720 t202 (by omega) (by omega) (Or.inr (by rw [w5, q202]; exact hlt)) (fun g9 hB9 f9 j9 l9 => ?_)
        have k9 := k1.trans (eKp.f (τ := τ) f9 (j9 4 (by decide)) (by rw [l9]; split <;> omega) rfl rfl (fun q hq => dz_beq_ne (fun e => by rw [e, t202] at hq; revert hq; decide)))
        exact k g9 τ _ none R hB9 hI0.2.1 (k9.u ce) (lnc_o (by decide)) (by have := k9.1.2; omega)

theorem rd_takeK4 {n : Int} (hI : jz_I τ h F E) (hX : jx τ h D) (ce : cEr τ h LK R) (lr : (R.length : Int) ≤ qz_I h 202 5) (n0 : 0 ≤ n) (n1 : n ≤ 4096) (hl : n = 0 ∨ qz_I h 202 5 ≤ 255) (hr1 : h.1 + 4 ≤ 600192) (hr2 : h.2.1 + 59 ≤ 7302232) (k : ∀ g τ1 (v : Int) cc R2, ez_B τ1 g → jz_X τ1 → cEr τ1 g (lk1 LK cc) R2 → lnc (rz_b h) n 4 cc → (R2.length : Int) ≤ qz_I g 202 5 → Q (.inl (some (ez_v (.inl v))), g)) : ez_W (d + 8) cm_174 0 [(0, .inr (.inr (some (720)))), (1, .inl (4)), (2, .inl (n))] [] h Q := by
  have t193 : τ 193 = 45 := hI.2.1 193 (by decide)
  have t202 : τ 202 = 48 := hI.2.1 202 (by decide)
  have t203 : τ 203 = 49 := hI.2.1 203 (by decide)
  have t204 : τ 204 = 50 := hI.2.1 204 (by decide)
  have t205 : τ 205 = 51 := hI.2.1 205 (by decide)
  have t720 : τ 720 = 52 := hI.2.1 720 (by decide)
  have t721 : τ 721 = 53 := hI.2.1 721 (by decide)
  have t722 : τ 722 = 54 := hI.2.1 722 (by decide)
  have hB := hI.1
  refine ez_go (n := 1) (pc' := 1) (L' := [(0, .inr (.inr (some (720)))), (1, .inl (4)), (2, .inl (n))]) (st' := [.inr (.inr (some (720)))]) rfl ?_
  refine ez_gC (p := 202) (tg := 48) hB t720 rfl rfl tq_52 rfl rfl (fun (t202 : _ = 48) => ?_)
  refine ez_gI hB t202 rfl rfl tq_48 rfl rfl (fun (b1 : 0 ≤ qz_I h 202 5) (b1' : qz_I h 202 5 ≤ 256) => ?_)
  refine ez_go (n := 1) (pc' := 10) (L' := [(0, .inr (.inr (some (720)))), (1, .inl (4)), (2, .inl (n))]) (st' := [.inl (256), .inl (qz_I h 202 5)]) rfl ?_
  refine ez_icmp rfl rfl ⟨by first | omega | exact (sz_i32 _).1, by first | omega | exact (sz_i32 _).2⟩ ⟨by first | omega | exact (sz_i32 _).1, by first | omega | exact (sz_i32 _).2⟩ (fun (c2 : (256) ≤ (qz_I h 202 5)) => ?_) (fun (c2 : ¬((256) ≤ (qz_I h 202 5))) => ?_)
  · skip
    refine ez_go (n := 1) (pc' := 26) (L' := [(0, .inr (.inr (some (720)))), (1, .inl (4)), (2, .inl (n))]) (st' := [.inl (-1)]) rfl ?_
    exact ez_retI rfl rfl (k h τ (-1) none R hB hI.2.1 ce (Or.inr ⟨fun w => by obtain ⟨-, vs, es, A, q, hA, -⟩ := w; have := rz_A_pos (by decide) hA; omega, rfl⟩) lr)
  · skip
    refine ez_go (n := 3) (pc' := 16) (L' := [(0, .inr (.inr (some (720)))), (1, .inl (4)), (2, .inl (n))]) (st' := [.inl (4), .inl (n), .inr (.inr (some (720)))]) rfl ?_
    refine ez_cs hB.2.1 rfl rfl rfl rfl rfl (rd_fieldsOf4 (ez_K1 ?_))
    refine ez_cv hB t720 rfl rfl rfl tq_52 rfl rfl rfl (rd_split hB t720 t721 t722 n0 n1 (by omega) (by omega) (fun g0 hB0 f0 hno => ez_K1 ?_) (fun g0 c hB0 f0 hpl hha hlen hfl => ez_K1 ?_))
    · skip
      have x0 := fz_ft t721 t722 f0
      have q202 : ∀ j, qz_I g0 202 j = qz_I h 202 j := fun j => f0.I rfl j
      have b0 : rz_b g0 = rz_b h := rz_b_fr f0 rfl
      have k0 : eKp τ h τ g0 := eKp.f f0 (q202 4) (by rw [q202]; exact Int.le_refl _) rfl rfl (fun q hq => by unfold rz_ft; rw [dz_beq_ne (fun e => by rw [e, t721] at hq; revert hq; decide), dz_beq_ne (fun e => by rw [e, t722] at hq; revert hq; decide)]; rfl)
      have hI0 : jz_I τ g0 F E := jz_no hI hB0 x0 q202 (f0.2.2 203 rfl) (f0.2.2 205 rfl) (fun q hq => f0.2.2 q (by unfold rz_ft; rw [dz_beq_ne (fun e => by rw [e, t721] at hq; cases hq), dz_beq_ne (fun e => by rw [e, t722] at hq; cases hq)]; rfl))
      have hX0 : jx τ g0 D := jx_tr hI.1 t202 t203 hX (q202 1) (f0.2.2 203 rfl) (fun q hq => ⟨rfl, f0.2.2 q (by unfold rz_ft; rw [dz_beq_ne (fun e => by rw [e, t721] at hq; omega), dz_beq_ne (fun e => by rw [e, t722] at hq; omega)]; rfl)⟩)
      refine ez_if rfl rfl ⟨by decide, by decide⟩ (fun (c3 : (0 : Int) ≠ (0)) => absurd c3 (by decide)) (fun _ => ?_)
      refine ez_go (n := 1) (pc' := 26) (L' := [(0, .inr (.inr (some (720)))), (1, .inl (4)), (2, .inl (n))]) (st' := [.inl (-1)]) rfl ?_
      exact ez_retI rfl rfl (k g0 τ (-1) none R hB0 hI.2.1 (k0.u ce) (Or.inr ⟨fun w => by obtain ⟨-, vs, es, A, q, hA, -⟩ := w; obtain ⟨c, c1, c2, c3, c4⟩ := hA; exact hno c1 c c2.1 c2.2.1 c2.2.2.1 c2.2.2.2 (by rw [← c3]; exact c4), rfl⟩) (by have := k0.1.2; omega))
    · skip
      have x0 := fz_ft t721 t722 f0
      have q202 : ∀ j, qz_I g0 202 j = qz_I h 202 j := fun j => f0.I rfl j
      have b0 : rz_b g0 = rz_b h := rz_b_fr f0 rfl
      have k0 : eKp τ h τ g0 := eKp.f f0 (q202 4) (by rw [q202]; exact Int.le_refl _) rfl rfl (fun q hq => by unfold rz_ft; rw [dz_beq_ne (fun e => by rw [e, t721] at hq; revert hq; decide), dz_beq_ne (fun e => by rw [e, t722] at hq; revert hq; decide)]; rfl)
      have hI0 : jz_I τ g0 F E := jz_no hI hB0 x0 q202 (f0.2.2 203 rfl) (f0.2.2 205 rfl) (fun q hq => f0.2.2 q (by unfold rz_ft; rw [dz_beq_ne (fun e => by rw [e, t721] at hq; cases hq), dz_beq_ne (fun e => by rw [e, t722] at hq; cases hq)]; rfl))
      have hX0 : jx τ g0 D := jx_tr hI.1 t202 t203 hX (q202 1) (f0.2.2 203 rfl) (fun q hq => ⟨rfl, f0.2.2 q (by unfold rz_ft; rw [dz_beq_ne (fun e => by rw [e, t721] at hq; omega), dz_beq_ne (fun e => by rw [e, t722] at hq; omega)]; rfl)⟩)
      have hA : rz_A (rz_b h) n 2 (rz_seg (rz_b h) c.toNat 0 0) := ⟨c, hpl, hha, rfl, hlen⟩
      generalize rz_seg (rz_b h) c.toNat 0 0 = A at hA hfl hlen
      have hlen : (A.length : Int) = 2 := by rw [hlen]; rfl
      have hfa : ∀ k, 0 ≤ k → k ≤ 1 → rz_f g0 k = rz_ff (rz_b h) A k ∧ rz_t g0 k = rz_tt (rz_b h) A k := fun k k0 k1 => rz_flds_at hfl k0 (by omega)
      have hft : ∀ k, 0 ≤ k → k ≤ 1 → rz_f g0 k ≤ rz_t g0 k := fun k k0 k1 => by
        obtain ⟨w1, w2⟩ := hfa k k0 k1
        rw [w1, w2]
        exact rz_A_ff hA (by omega) (by omega)
      have hlt : qz_I h 202 5 ≤ 255 := by have := rz_A_pos (by decide) hA; omega
      have hnp := rz_A_pos (by decide) hA
      have fc0 := x0.2
      have i6 := hI.2.2.2.2.1
      have hsp : qz_I g0 202 1 + 2 ≤ 513 := by rw [q202]; omega
      refine ez_if rfl rfl ⟨by decide, by decide⟩ (fun _ => ?_) (fun (c4 : ¬((1 : Int) ≠ (0))) => absurd c4 (by decide))
      refine ez_go (n := 1) (pc' := 28) (L' := [(0, .inr (.inr (some (720)))), (1, .inl (4)), (2, .inl (n))]) (st' := [.inl (4)]) rfl ?_
      refine ez_sw rfl ⟨by decide, by decide⟩ ⟨_, rfl, rfl⟩ ?_
      refine ez_go (n := 1) (pc' := 93) (L' := [(0, .inr (.inr (some (720)))), (1, .inl (4)), (2, .inl (n))]) (st' := [.inr (.inr (some (720)))]) rfl ?_
      have lg0 := k0.1.2
      refine ez_cv hB0 t720 rfl rfl rfl tq_52 rfl rfl rfl (rd_tkEnK hB0 hI0.2.1 hft (k0.u ce) (by omega) (by omega) (by omega) (fun g1 τ1 v cc R2 hB1 tg9 vb9 ce1 l1 er1 hcc j1 => ez_K1 ?_))
      have w5 : qz_I g1 202 5 = qz_I g0 202 5 := j1 5 (by decide)
      have e04 := q202 5
      rw [b0, (hfa 0 (by omega) (by omega)).1, (hfa 0 (by omega) (by omega)).2, (hfa 1 (by omega) (by omega)).1, (hfa 1 (by omega) (by omega)).2] at hcc
      have hlc : lnc (rz_b h) n 4 cc := by
        rcases hcc with ⟨-, y1, y2⟩ | ⟨-, vs, q, y1, y2, y3, y4⟩
        · refine Or.inr ⟨fun w => y2 ?_, y1⟩
          obtain ⟨-, vs, es, A2, q, hA2, w2, w3, w4, -⟩ := w
          have eA := rz_A_uniq hA hA2
          subst eA
          unfold rz_G4
          rw [(hfa 0 (by omega) (by omega)).1, (hfa 0 (by omega) (by omega)).2, (hfa 1 (by omega) (by omega)).1, (hfa 1 (by omega) (by omega)).2]
          exact ⟨fun y => (by rw [y] at w2; cases w2), q, w4, w3⟩
        · exact Or.inl ⟨rfl, vs, _, ⟨A, q, hA, y1, y2, y3, rfl⟩, y4⟩
      have hv0 : v = -1 → R2.length ≤ R.length := fun w => by rw [er1 w]; exact Nat.le_refl _
      have rn := ce1.1
      have u202 : τ1 202 = 48 := tg9 202 (by decide)
      have u720 : τ1 720 = 52 := tg9 720 (by decide)
      refine ez_go (n := 1) (pc' := 97) (L' := [(3, .inl (v)), (0, .inr (.inr (some (720)))), (1, .inl (4)), (2, .inl (n))]) (st' := []) rfl ?_
      refine ez_less [(3, .inl (v)), (0, .inr (.inr (some (720)))), (1, .inl (4)), (2, .inl (n))] rfl ⟨rfl, rfl, rfl, rfl, trivial⟩ ?_
      refine rd_take_e hB1 u720 u202 (by omega) (by omega) (Or.inr (by rw [w5, q202]; exact hlt)) (fun g9 hB9 f9 j9 l9 => ?_)
      have k9 : eKp τ1 g1 τ1 g9 := eKp.f f9 (j9 4 (by decide)) (by rw [l9]; split <;> omega) rfl rfl (fun q hq => dz_beq_ne (fun e => by rw [e, u202] at hq; revert hq; decide))
      refine k g9 τ1 _ cc R2 hB9 tg9 (k9.u ce1) hlc ?_
      rw [l9]; split; (· have := hv0 (by assumption); omega); (· omega)

end EzKi

/-! COLLATION: the model: what a LINE of kind 4 leaves. (Written by wip/p2/py/pvk19.py.) -/
/-- three numbers of four digits -/
noncomputable def h3 (b : Int → Int) (a : Int) : Nat → List Int
  | 0 => []
  | e + 1 => h3 b a e ++ [rz_hex b 4 (a + 2 + 5 * (e : Int)) 0]
/-- an element as the model keeps it -/
noncomputable def e4l (b : Int → Int) (a : Int) : List Int := (if b (a + 1) = 42 then 1 else 0) :: h3 b a 3
def fl4 : List eL → List Int
  | [] => []
  | e :: t => e.1 :: e.2.1 :: e.2.2.1 :: e.2.2.2 :: fl4 t
theorem fl4_app : ∀ (A B : List eL), fl4 (A ++ B) = fl4 A ++ fl4 B
  | [], _ => rfl
  | e :: t, B => by show e.1 :: e.2.1 :: e.2.2.1 :: e.2.2.2 :: fl4 (t ++ B) = _; rw [fl4_app t]; rfl
theorem fl4_len : ∀ (A : List eL), (fl4 A).length = 4 * A.length
  | [] => rfl
  | e :: t => by show (fl4 t).length + 1 + 1 + 1 + 1 = 4 * (t.length + 1); rw [fl4_len t]; omega
theorem fl4_at : ∀ (A : List eL) (j : Nat) (e : eL), A[j]? = some e → (fl4 A)[4 * j]? = some e.1 ∧ (fl4 A)[4 * j + 1]? = some e.2.1 ∧ (fl4 A)[4 * j + 2]? = some e.2.2.1 ∧ (fl4 A)[4 * j + 3]? = some e.2.2.2
  | [], j, e, h => by cases h
  | x :: t, 0, e, h => by cases h; exact ⟨rfl, rfl, rfl, rfl⟩
  | x :: t, j + 1, e, h => fl4_at t j e h
theorem e4l_v (b : Int → Int) (a : Int) : e4l b a = fl4 [nz_v1 b a] := by
  show (if b (a + 1) = 42 then (1 : Int) else 0) :: [rz_hex b 4 (a + 2 + 5 * ((0 : Nat) : Int)) 0, rz_hex b 4 (a + 2 + 5 * ((1 : Nat) : Int)) 0, rz_hex b 4 (a + 2 + 5 * ((2 : Nat) : Int)) 0] = [(if b (a + 1) = 42 then (1 : Int) else 0), rz_hex b 4 (a + 2) 0, rz_hex b 4 (a + 7) 0, rz_hex b 4 (a + 12) 0]
  rw [show a + 2 + 5 * ((0 : Nat) : Int) = a + 2 by omega, show a + 2 + 5 * ((1 : Nat) : Int) = a + 7 by omega, show a + 2 + 5 * ((2 : Nat) : Int) = a + 12 by omega]
/-- how many points the row has, and where it and the elements begin -/
def zQ (h : cz_H) (l : Nat) (g : cz_H) (z : Int) (s9 : Nat → Int) : Prop := qz_I g (qz_P h l 8) 0 = z ∧ ∀ j, qz_I g (qz_P h l 7) j = s9 j
theorem co.z7K {τ τ1 : Nat → Nat} {h g g2 : cz_H} {l : Nat} {c x z : Int} {s9 : Nat → Int} {A : List Int} (_ : co τ h τ1 g l c x A) (d5 : cd5 τ h l) (m : mz g g2) (y : zQ h l g z s9) : zQ h l g2 z s9 :=
  ⟨(m.I (fun e => by have q := d5.2.2.2; rw [e, d5.1] at q; cases q) 0).trans y.1, fun j => (m.I (fun e => by have q := d5.2.2.1; rw [e, d5.1] at q; cases q) j).trans (y.2 j)⟩
theorem co.zkK {τ τ1 τ2 : Nat → Nat} {h g g2 : cz_H} {l : Nat} {c x v z : Int} {s9 : Nat → Int} {A : List Int} (a : co τ h τ1 g l c x A) (d5 : cd5 τ h l) (b : kp τ1 g τ2 g2 v) (y : zQ h l g z s9) : zQ h l g2 z s9 := by
  have us : τ1 (qz_P h l 7) = 15 := (a.1.1 _ (by rw [d5.2.2.1]; decide)).1.trans d5.2.2.1
  have u770 : τ1 770 = 75 := (a.1.1 770 (by rw [d5.1]; decide)).1.trans d5.1
  refine ⟨(a.zk d5 b).trans y.1, fun j => ?_⟩
  rw [← y.2 j]
  unfold qz_I
  rw [(b.1 _ (by rw [us]; decide)).2 (fun e => by rw [e, u770] at us; cases us) (fun e => by have q := a.1.2.2.1; rw [← e, us] at q; cases q)]

section EzCoK
variable {d : Nat} {h : cz_H} {τ : Nat → Nat} {Q : cz_F → Prop} {l : Nat} {s9 : Nat → Int}
theorem rd_cokh {e p0 : Int} (u770 : τ 770 = 75) (hr1 : h.1 + 1 ≤ 600192) (hr2 : h.2.1 + 6 ≤ 7302232) (kx : ∀ g v, ez_B τ g → mz h g → 0 ≤ v → v ≤ 65535 → qz_I g 770 17 ≤ qz_I g 770 18 → qz_I g 770 17 = p0 + 4 → rz_hex (mb h) 4 p0 0 ≠ -1 → v = rz_hex (mb h) 4 p0 0 → ez_W (d + 8) cm_236 214 [(3, .inl (v)), (2, .inl (e)), (0, .inr (.inr (some (770)))), (1, .inr (.inr (some (l))))] [] g Q) (k0 : ∀ g, ez_B τ g → mz h g → ¬ (p0 + 4 ≤ qz_I h 770 18 ∧ rz_hex (mb h) 4 p0 0 ≠ -1) → Q (.inr g.1, xc g 1)) : ∀ (n : Nat) (k v : Int) (g : cz_H), n = (4 - k).toNat → ez_B τ g → mz h g → 0 ≤ k → k ≤ 4 → 0 ≤ v → v < ((16 ^ k.toNat : Nat) : Int) → qz_I g 770 17 ≤ qz_I g 770 18 → qz_I g 770 17 = p0 + k → (∀ j, p0 ≤ j → j < p0 + k → 0 ≤ mh (mb h j)) → rz_hex (mb h) 4 p0 0 = rz_hex (mb h) (4 - k).toNat (p0 + k) v → ez_W (d + 8) cm_236 166 [(4, .inl (k)), (3, .inl (v)), (2, .inl (e)), (0, .inr (.inr (some (770)))), (1, .inr (.inr (some (l))))] [] g Q := by
  intro n
  induction n with
  | zero =>
    intro k v g hn hBg hm k0' k4 v0 hv2 hat h17 hdg hvx
    have h18 : qz_I g 770 18 = qz_I h 770 18 := hm.2 18 (by decide)
    have c1 := hm.1.1; have c2 := hm.1.2.1
    have s18 : qz_I g 770 18 ≤ 4096 := (ez_fB (cl := 11) (k := 18) hBg u770 tq_75 rfl rfl (by decide)).2
    refine ez_go (n := 2) (pc' := 169) (L' := [(4, .inl (k)), (3, .inl (v)), (2, .inl (e)), (0, .inr (.inr (some (770)))), (1, .inr (.inr (some (l))))]) (st' := [.inl (4), .inl (k)]) rfl ?_
    refine ez_icmp rfl rfl ⟨by first | omega | exact (sz_i32 _).1, by first | omega | exact (sz_i32 _).2⟩ ⟨by first | omega | exact (sz_i32 _).1, by first | omega | exact (sz_i32 _).2⟩ (fun (c1 : (4) ≤ (k)) => ?_) (fun (c1 : ¬((4) ≤ (k))) => ?_)
    · skip
      refine ez_less [(3, .inl (v)), (2, .inl (e)), (0, .inr (.inr (some (770)))), (1, .inr (.inr (some (l))))] rfl ⟨rfl, rfl, rfl, rfl, trivial⟩ ?_
      have ek : k = 4 := by omega
      rw [ek] at hv2
      exact kx g v hBg hm v0 (by have q : (16 ^ (4 : Int).toNat : Nat) = 65536 := (by decide); rw [q] at hv2; omega) hat (by omega) (rz_hex_ok _ 4 p0 0 (by omega) (fun j j1 j2 => hdg j j1 (by omega))) (by rw [hvx, ek]; rfl)
    · skip
      refine ez_go (n := 2) (pc' := 174) (L' := [(4, .inl (k)), (3, .inl (v)), (2, .inl (e)), (0, .inr (.inr (some (770)))), (1, .inr (.inr (some (l))))]) (st' := [.inr (.inr (some (770))), .inr (.inr (some (770)))]) rfl ?_
      refine ez_cv hBg u770 rfl rfl rfl tq_75 rfl rfl rfl (rd_hex hBg u770 (ez_K1 ?_))
      have hb : -1 ≤ mh (mk (mb g) (qz_I g 770 17) (qz_I g 770 18)) ∧ mh (mk (mb g) (qz_I g 770 17) (qz_I g 770 18)) ≤ 15 := by unfold mh; split <;> (try split) <;> omega
      have hlt : 0 ≤ mh (mk (mb g) (qz_I g 770 17) (qz_I g 770 18)) → qz_I g 770 17 < qz_I g 770 18 := fun w => by by_cases e : qz_I g 770 17 < qz_I g 770 18; (· exact e); (· exfalso; rw [mk_out e] at w; exact absurd w (by decide))
      generalize ehv : mh (mk (mb g) (qz_I g 770 17) (qz_I g 770 18)) = hv at hb hlt ⊢
      refine ez_if rfl rfl ⟨by first | omega | exact (sz_i32 _).1, by first | omega | exact (sz_i32 _).2⟩ (fun (c2 : (hv) < (0)) => ?_) (fun (c2 : ¬((hv) < (0))) => ?_)
      · skip
        refine ez_go (n := 1) (pc' := 185) (L' := [(4, .inl (k)), (3, .inl (v)), (2, .inl (e)), (0, .inr (.inr (some (770)))), (1, .inr (.inr (some (l))))]) (st' := [.inl (0), .inr (.inr (some (770)))]) rfl ?_
        refine ez_cv hBg u770 rfl rfl rfl tq_75 rfl rfl rfl (rd_can0 (by omega) (by omega) (ez_Kp (xc_exc hBg rfl) rfl (k0 g hBg hm (fun w => by have q1 := rz_hex_all _ _ _ _ w.2 (p0 + k) (by omega) (by omega); rw [mk_in (by omega), hm.b, h17] at ehv; omega))))
      · skip
        refine ez_go (n := 2) (pc' := 185) (L' := [(4, .inl (k)), (3, .inl (v)), (2, .inl (e)), (0, .inr (.inr (some (770)))), (1, .inr (.inr (some (l))))]) (st' := [.inl (1), .inr (.inr (some (770)))]) rfl ?_
        refine ez_cv hBg u770 rfl rfl rfl tq_75 rfl rfl rfl (rd_can1 (by omega) (by omega) (ez_K0 ?_))
        refine ez_go (n := 4) (pc' := 193) (L' := [(4, .inl (k)), (3, .inl (v)), (2, .inl (e)), (0, .inr (.inr (some (770)))), (1, .inr (.inr (some (l))))]) (st' := [.inr (.inr (some (770))), .inl ((16) * (v))]) rfl ?_
        refine ez_cv hBg u770 rfl rfl rfl tq_75 rfl rfl rfl (rd_hex hBg u770 (ez_K1 ?_))
        rw [ehv]
        refine ez_go (n := 4) (pc' := 200) (L' := [(3, .inl (((16) * (v)) + (hv))), (4, .inl (k)), (2, .inl (e)), (0, .inr (.inr (some (770)))), (1, .inr (.inr (some (l))))]) (st' := [.inr (.inr (some (770))), .inr (.inr (some (770)))]) rfl ?_
        refine ez_gI hBg u770 rfl rfl tq_75 rfl rfl (fun (b3 : 0 ≤ qz_I g 770 17) (b3' : qz_I g 770 17 ≤ 4200) => ?_)
        refine ez_go (n := 2) (pc' := 205) (L' := [(3, .inl (((16) * (v)) + (hv))), (4, .inl (k)), (2, .inl (e)), (0, .inr (.inr (some (770)))), (1, .inr (.inr (some (l))))]) (st' := [.inl ((qz_I g 770 17) + (1)), .inr (.inr (some (770)))]) rfl ?_
        refine ez_pf hBg u770 rfl rfl tq_75 rfl rfl rfl rfl (ez_vdI rfl rfl (by omega) (by omega)) (fun hB4 w5 => ?_)
        refine ez_go (n := 2) (pc' := 166) (L' := [(4, .inl (k + 1)), (3, .inl (((16) * (v)) + (hv))), (2, .inl (e)), (0, .inr (.inr (some (770)))), (1, .inr (.inr (some (l))))]) (st' := []) rfl ?_
        exfalso; omega
  | succ n ih =>
    intro k v g hn hBg hm k0' k4 v0 hv2 hat h17 hdg hvx
    have h18 : qz_I g 770 18 = qz_I h 770 18 := hm.2 18 (by decide)
    have c1 := hm.1.1; have c2 := hm.1.2.1
    have s18 : qz_I g 770 18 ≤ 4096 := (ez_fB (cl := 11) (k := 18) hBg u770 tq_75 rfl rfl (by decide)).2
    refine ez_go (n := 2) (pc' := 169) (L' := [(4, .inl (k)), (3, .inl (v)), (2, .inl (e)), (0, .inr (.inr (some (770)))), (1, .inr (.inr (some (l))))]) (st' := [.inl (4), .inl (k)]) rfl ?_
    refine ez_icmp rfl rfl ⟨by first | omega | exact (sz_i32 _).1, by first | omega | exact (sz_i32 _).2⟩ ⟨by first | omega | exact (sz_i32 _).1, by first | omega | exact (sz_i32 _).2⟩ (fun (c1 : (4) ≤ (k)) => ?_) (fun (c1 : ¬((4) ≤ (k))) => ?_)
    · skip
      refine ez_less [(3, .inl (v)), (2, .inl (e)), (0, .inr (.inr (some (770)))), (1, .inr (.inr (some (l))))] rfl ⟨rfl, rfl, rfl, rfl, trivial⟩ ?_
      have ek : k = 4 := by omega
      rw [ek] at hv2
      exact kx g v hBg hm v0 (by have q : (16 ^ (4 : Int).toNat : Nat) = 65536 := (by decide); rw [q] at hv2; omega) hat (by omega) (rz_hex_ok _ 4 p0 0 (by omega) (fun j j1 j2 => hdg j j1 (by omega))) (by rw [hvx, ek]; rfl)
    · skip
      refine ez_go (n := 2) (pc' := 174) (L' := [(4, .inl (k)), (3, .inl (v)), (2, .inl (e)), (0, .inr (.inr (some (770)))), (1, .inr (.inr (some (l))))]) (st' := [.inr (.inr (some (770))), .inr (.inr (some (770)))]) rfl ?_
      refine ez_cv hBg u770 rfl rfl rfl tq_75 rfl rfl rfl (rd_hex hBg u770 (ez_K1 ?_))
      have hb : -1 ≤ mh (mk (mb g) (qz_I g 770 17) (qz_I g 770 18)) ∧ mh (mk (mb g) (qz_I g 770 17) (qz_I g 770 18)) ≤ 15 := by unfold mh; split <;> (try split) <;> omega
      have hlt : 0 ≤ mh (mk (mb g) (qz_I g 770 17) (qz_I g 770 18)) → qz_I g 770 17 < qz_I g 770 18 := fun w => by by_cases e : qz_I g 770 17 < qz_I g 770 18; (· exact e); (· exfalso; rw [mk_out e] at w; exact absurd w (by decide))
      generalize ehv : mh (mk (mb g) (qz_I g 770 17) (qz_I g 770 18)) = hv at hb hlt ⊢
      refine ez_if rfl rfl ⟨by first | omega | exact (sz_i32 _).1, by first | omega | exact (sz_i32 _).2⟩ (fun (c2 : (hv) < (0)) => ?_) (fun (c2 : ¬((hv) < (0))) => ?_)
      · skip
        refine ez_go (n := 1) (pc' := 185) (L' := [(4, .inl (k)), (3, .inl (v)), (2, .inl (e)), (0, .inr (.inr (some (770)))), (1, .inr (.inr (some (l))))]) (st' := [.inl (0), .inr (.inr (some (770)))]) rfl ?_
        refine ez_cv hBg u770 rfl rfl rfl tq_75 rfl rfl rfl (rd_can0 (by omega) (by omega) (ez_Kp (xc_exc hBg rfl) rfl (k0 g hBg hm (fun w => by have q1 := rz_hex_all _ _ _ _ w.2 (p0 + k) (by omega) (by omega); rw [mk_in (by omega), hm.b, h17] at ehv; omega))))
      · skip
        refine ez_go (n := 2) (pc' := 185) (L' := [(4, .inl (k)), (3, .inl (v)), (2, .inl (e)), (0, .inr (.inr (some (770)))), (1, .inr (.inr (some (l))))]) (st' := [.inl (1), .inr (.inr (some (770)))]) rfl ?_
        refine ez_cv hBg u770 rfl rfl rfl tq_75 rfl rfl rfl (rd_can1 (by omega) (by omega) (ez_K0 ?_))
        refine ez_go (n := 4) (pc' := 193) (L' := [(4, .inl (k)), (3, .inl (v)), (2, .inl (e)), (0, .inr (.inr (some (770)))), (1, .inr (.inr (some (l))))]) (st' := [.inr (.inr (some (770))), .inl ((16) * (v))]) rfl ?_
        refine ez_cv hBg u770 rfl rfl rfl tq_75 rfl rfl rfl (rd_hex hBg u770 (ez_K1 ?_))
        rw [ehv]
        refine ez_go (n := 4) (pc' := 200) (L' := [(3, .inl (((16) * (v)) + (hv))), (4, .inl (k)), (2, .inl (e)), (0, .inr (.inr (some (770)))), (1, .inr (.inr (some (l))))]) (st' := [.inr (.inr (some (770))), .inr (.inr (some (770)))]) rfl ?_
        refine ez_gI hBg u770 rfl rfl tq_75 rfl rfl (fun (b3 : 0 ≤ qz_I g 770 17) (b3' : qz_I g 770 17 ≤ 4200) => ?_)
        refine ez_go (n := 2) (pc' := 205) (L' := [(3, .inl (((16) * (v)) + (hv))), (4, .inl (k)), (2, .inl (e)), (0, .inr (.inr (some (770)))), (1, .inr (.inr (some (l))))]) (st' := [.inl ((qz_I g 770 17) + (1)), .inr (.inr (some (770)))]) rfl ?_
        refine ez_pf hBg u770 rfl rfl tq_75 rfl rfl rfl rfl (ez_vdI rfl rfl (by omega) (by omega)) (fun hB4 w5 => ?_)
        refine ez_go (n := 2) (pc' := 166) (L' := [(4, .inl (k + 1)), (3, .inl (((16) * (v)) + (hv))), (2, .inl (e)), (0, .inr (.inr (some (770)))), (1, .inr (.inr (some (l))))]) (st' := []) rfl ?_
        refine ez_less [(4, .inl (k + 1)), (3, .inl (16 * v + hv)), (2, .inl (e)), (0, .inr (.inr (some (770)))), (1, .inr (.inr (some (l))))] rfl ⟨rfl, rfl, rfl, rfl, rfl, trivial⟩ ?_
        have e17 : qz_I (dz_put g 770 17 (ez_v (.inl ((qz_I g 770 17) + (1))))) 770 17 = qz_I g 770 17 + 1 := by rw [w5, rz_rd ⟨by omega, by omega⟩]
        have e18 : qz_I (dz_put g 770 17 (ez_v (.inl ((qz_I g 770 17) + (1))))) 770 18 = qz_I g 770 18 := ez_put_I (by omega)
        refine ih (k + 1) (16 * v + hv) _ (by omega) hB4 (hm.trans mz_put) (by omega) (by omega) (by omega) (by rw [show (k + 1).toNat = k.toNat + 1 by omega, Nat.pow_succ]; generalize (16 ^ k.toNat : Nat) = P at hv2 ⊢; omega) (by rw [e17, e18]; omega) (by rw [e17]; omega) (fun j j1 j2 => by by_cases ej : j = p0 + k; (· rw [ej]; rw [mk_in (hlt (by omega)), hm.b, h17] at ehv; omega); (· exact hdg j j1 (by omega))) (by rw [mk_in (hlt (by omega)), hm.b, h17] at ehv; rw [hvx, show (4 - k).toNat = (4 - (k + 1)).toNat + 1 by omega, rz_hex_mh, ehv, if_pos (by omega), show p0 + k + 1 = p0 + (k + 1) by omega, show v * 16 + hv = 16 * v + hv by omega])

end EzCoK
section EzCpK
variable {d : Nat} {h : cz_H} {τ : Nat → Nat} {Q : cz_F → Prop} {l : Nat} {s9 : Nat → Int}
theorem rd_coke {c a T z va : Int} {A0 : List Int} (d5 : cd5 τ h l) (h0 : 0 ≤ pn h) (hpm : pn h + 75 ≤ 38400) (hNh : 1024 ≤ qz_N h (po h)) (hr1 : h.1 + 300 ≤ 600192) (hr2 : h.2.1 + 500000 ≤ 7302232) (tpo : τ (po h) = 17) (t771 : τ 771 = 76) (c0 : 0 ≤ c) (c17 : c ≤ 17) (kx : ∀ g τ1 A, ez_B τ1 g → co τ h τ1 g l c 4 A → qz_I g 770 17 ≤ qz_I g 770 18 → qz_I g 770 17 = a + 16 → qz_I g 770 18 = T → (rz_hex (mb h) 4 (a + 2) 0 ≠ -1 ∧ (mb h (a + 6) = 46 ∧ rz_hex (mb h) 4 (a + 7) 0 ≠ -1) ∧ (mb h (a + 11) = 46 ∧ rz_hex (mb h) 4 (a + 12) 0 ≠ -1)) → zQ h l g z s9 → A = A0 ++ va :: h3 (mb h) a 3 → ez_W (d + 8) cm_236 225 [(0, .inr (.inr (some (770)))), (1, .inr (.inr (some (l))))] [] g Q) (k0 : ∀ g τ1 c x A, ez_B τ1 g → co τ h τ1 g l c x A → 0 ≤ x → ¬ (a + 17 ≤ T ∧ nz_e1 (mb h) a) → Q (.inr g.1, xc g 1)) : ∀ (n : Nat) (e : Int) (g : cz_H) (τ1 : Nat → Nat) (A : List Int), n = (3 - e).toNat → ez_B τ1 g → co τ h τ1 g l c (1 + e) A → 0 ≤ e → e ≤ 3 → (e = 0 → qz_I g 770 17 < qz_I g 770 18) → qz_I g 770 17 ≤ qz_I g 770 18 → qz_I g 770 17 = a + 1 + 5 * e → qz_I g 770 18 = T → (1 ≤ e → rz_hex (mb h) 4 (a + 2) 0 ≠ -1) → (2 ≤ e → mb h (a + 6) = 46 ∧ rz_hex (mb h) 4 (a + 7) 0 ≠ -1) → (3 ≤ e → mb h (a + 11) = 46 ∧ rz_hex (mb h) 4 (a + 12) 0 ≠ -1) → zQ h l g z s9 → A = A0 ++ va :: h3 (mb h) a e.toNat → ez_W (d + 8) cm_236 124 [(2, .inl (e)), (0, .inr (.inr (some (770)))), (1, .inr (.inr (some (l))))] [] g Q := by
  intro n
  induction n with
  | zero =>
    intro e g τ1 A hn hBg hc e0 e39 he hat h17 h18 hx1 hx4 hx6 hz hA9
    have hmb := hc.oc d5 tpo t771
    have q := hc.at hBg
    have q6 := hc.2.2.2.2.2
    have u770 : τ1 770 = 75 := (hc.1.1 770 (by rw [d5.1]; decide)).1.trans d5.1
    have ul : τ1 l = 13 := (hc.1.1 l (by rw [d5.2.1]; decide)).1.trans d5.2.1
    have s18 : qz_I g 770 18 ≤ 4096 := (ez_fB (cl := 11) (k := 18) hBg u770 tq_75 rfl rfl (by decide)).2
    refine ez_go (n := 2) (pc' := 126) (L' := [(2, .inl (e)), (0, .inr (.inr (some (770)))), (1, .inr (.inr (some (l))))]) (st' := [.inl (3), .inl (e)]) rfl ?_
    refine ez_icmp rfl rfl ⟨by first | omega | exact (sz_i32 _).1, by first | omega | exact (sz_i32 _).2⟩ ⟨by first | omega | exact (sz_i32 _).1, by first | omega | exact (sz_i32 _).2⟩ (fun (c1 : (3) ≤ (e)) => ?_) (fun (c1 : ¬((3) ≤ (e))) => ?_)
    · skip
      refine ez_less [(0, .inr (.inr (some (770)))), (1, .inr (.inr (some (l))))] rfl ⟨rfl, rfl, trivial⟩ ?_
      have ek : e = 3 := by omega
      rw [ek] at hc h17
      exact kx g τ1 A hBg hc hat (by omega) h18 ⟨hx1 (by omega), hx4 (by omega), hx6 (by omega)⟩ hz (by rw [hA9, ek]; rfl)
    · skip
      refine ez_go (n := 2) (pc' := 131) (L' := [(2, .inl (e)), (0, .inr (.inr (some (770)))), (1, .inr (.inr (some (l))))]) (st' := [.inl (e), .inr (.inr (some (770)))]) rfl ?_
      refine ez_if rfl rfl ⟨by first | omega | exact (sz_i32 _).1, by first | omega | exact (sz_i32 _).2⟩ (fun (c2 : (e) = (0)) => ?_) (fun (c2 : ¬((e) = (0))) => ?_)
      · skip
        refine ez_go (n := 2) (pc' := 148) (L' := [(2, .inl (e)), (0, .inr (.inr (some (770)))), (1, .inr (.inr (some (l))))]) (st' := [.inl (1), .inr (.inr (some (770)))]) rfl ?_
        refine ez_cv hBg u770 rfl rfl rfl tq_75 rfl rfl rfl (rd_can1 (by omega) (by omega) (ez_K0 ?_))
        refine ez_go (n := 2) (pc' := 153) (L' := [(2, .inl (e)), (0, .inr (.inr (some (770)))), (1, .inr (.inr (some (l))))]) (st' := [.inr (.inr (some (770))), .inr (.inr (some (770)))]) rfl ?_
        refine ez_gI hBg u770 rfl rfl tq_75 rfl rfl (fun (b3 : 0 ≤ qz_I g 770 17) (b3' : qz_I g 770 17 ≤ 4200) => ?_)
        refine ez_go (n := 2) (pc' := 158) (L' := [(2, .inl (e)), (0, .inr (.inr (some (770)))), (1, .inr (.inr (some (l))))]) (st' := [.inl ((qz_I g 770 17) + (1)), .inr (.inr (some (770)))]) rfl ?_
        refine ez_pf hBg u770 rfl rfl tq_75 rfl rfl rfl rfl (ez_vdI rfl rfl (by omega) (by omega)) (fun hB4 w5 => ?_)
        refine ez_go (n := 4) (pc' := 166) (L' := [(4, .inl (0)), (3, .inl (0)), (2, .inl (e)), (0, .inr (.inr (some (770)))), (1, .inr (.inr (some (l))))]) (st' := []) rfl ?_
        exfalso; omega
      · skip
        refine ez_go (n := 1) (pc' := 135) (L' := [(2, .inl (e)), (0, .inr (.inr (some (770)))), (1, .inr (.inr (some (l))))]) (st' := [.inr (.inr (some (770))), .inr (.inr (some (770)))]) rfl ?_
        refine ez_cv hBg u770 rfl rfl rfl tq_75 rfl rfl rfl (rd_peek hBg u770 (fun b1 b2 => ez_K1 ?_))
        have hpk : mk (mb g) (qz_I g 770 17) (qz_I g 770 18) ≠ -1 → qz_I g 770 17 < qz_I g 770 18 := fun w => by by_cases e : qz_I g 770 17 < qz_I g 770 18; (· exact e); (· exact absurd (mk_out e) w)
        obtain ⟨pk, epk⟩ : ∃ pk, pk = mk (mb g) (qz_I g 770 17) (qz_I g 770 18) := ⟨_, rfl⟩
        rw [← epk] at b1 b2 hpk ⊢
        refine ez_go (n := 1) (pc' := 140) (L' := [(2, .inl (e)), (0, .inr (.inr (some (770)))), (1, .inr (.inr (some (l))))]) (st' := [.inl (46), .inl (pk), .inr (.inr (some (770)))]) rfl ?_
        refine ez_icmp rfl rfl ⟨by first | omega | exact (sz_i32 _).1, by first | omega | exact (sz_i32 _).2⟩ ⟨by first | omega | exact (sz_i32 _).1, by first | omega | exact (sz_i32 _).2⟩ (fun (c6 : (pk) ≠ (46)) => ?_) (fun (c6 : ¬((pk) ≠ (46))) => ?_)
        · skip
          refine ez_go (n := 1) (pc' := 148) (L' := [(2, .inl (e)), (0, .inr (.inr (some (770)))), (1, .inr (.inr (some (l))))]) (st' := [.inl (0), .inr (.inr (some (770)))]) rfl ?_
          refine ez_cv hBg u770 rfl rfl rfl tq_75 rfl rfl rfl (rd_can0 (by omega) (by omega) (ez_Kp (xc_exc hBg rfl) rfl (k0 g τ1 c _ A hBg hc (by omega) (fun w => by have dt := nz_dot w.2.1 (show e = 1 ∨ e = 2 from (by omega)); have w1 := w.1; rw [mk_in (by omega), hmb, h17] at epk; omega))))
        · skip
          refine ez_go (n := 2) (pc' := 148) (L' := [(2, .inl (e)), (0, .inr (.inr (some (770)))), (1, .inr (.inr (some (l))))]) (st' := [.inl (1), .inr (.inr (some (770)))]) rfl ?_
          refine ez_cv hBg u770 rfl rfl rfl tq_75 rfl rfl rfl (rd_can1 (by omega) (by omega) (ez_K0 ?_))
          refine ez_go (n := 2) (pc' := 153) (L' := [(2, .inl (e)), (0, .inr (.inr (some (770)))), (1, .inr (.inr (some (l))))]) (st' := [.inr (.inr (some (770))), .inr (.inr (some (770)))]) rfl ?_
          refine ez_gI hBg u770 rfl rfl tq_75 rfl rfl (fun (b7 : 0 ≤ qz_I g 770 17) (b7' : qz_I g 770 17 ≤ 4200) => ?_)
          refine ez_go (n := 2) (pc' := 158) (L' := [(2, .inl (e)), (0, .inr (.inr (some (770)))), (1, .inr (.inr (some (l))))]) (st' := [.inl ((qz_I g 770 17) + (1)), .inr (.inr (some (770)))]) rfl ?_
          refine ez_pf hBg u770 rfl rfl tq_75 rfl rfl rfl rfl (ez_vdI rfl rfl (by omega) (by omega)) (fun hB8 w9 => ?_)
          refine ez_go (n := 4) (pc' := 166) (L' := [(4, .inl (0)), (3, .inl (0)), (2, .inl (e)), (0, .inr (.inr (some (770)))), (1, .inr (.inr (some (l))))]) (st' := []) rfl ?_
          exfalso; omega
  | succ n ih =>
    intro e g τ1 A hn hBg hc e0 e39 he hat h17 h18 hx1 hx4 hx6 hz hA9
    have hmb := hc.oc d5 tpo t771
    have q := hc.at hBg
    have q6 := hc.2.2.2.2.2
    have u770 : τ1 770 = 75 := (hc.1.1 770 (by rw [d5.1]; decide)).1.trans d5.1
    have ul : τ1 l = 13 := (hc.1.1 l (by rw [d5.2.1]; decide)).1.trans d5.2.1
    have s18 : qz_I g 770 18 ≤ 4096 := (ez_fB (cl := 11) (k := 18) hBg u770 tq_75 rfl rfl (by decide)).2
    refine ez_go (n := 2) (pc' := 126) (L' := [(2, .inl (e)), (0, .inr (.inr (some (770)))), (1, .inr (.inr (some (l))))]) (st' := [.inl (3), .inl (e)]) rfl ?_
    refine ez_icmp rfl rfl ⟨by first | omega | exact (sz_i32 _).1, by first | omega | exact (sz_i32 _).2⟩ ⟨by first | omega | exact (sz_i32 _).1, by first | omega | exact (sz_i32 _).2⟩ (fun (c1 : (3) ≤ (e)) => ?_) (fun (c1 : ¬((3) ≤ (e))) => ?_)
    · skip
      refine ez_less [(0, .inr (.inr (some (770)))), (1, .inr (.inr (some (l))))] rfl ⟨rfl, rfl, trivial⟩ ?_
      have ek : e = 3 := by omega
      rw [ek] at hc h17
      exact kx g τ1 A hBg hc hat (by omega) h18 ⟨hx1 (by omega), hx4 (by omega), hx6 (by omega)⟩ hz (by rw [hA9, ek]; rfl)
    · skip
      refine ez_go (n := 2) (pc' := 131) (L' := [(2, .inl (e)), (0, .inr (.inr (some (770)))), (1, .inr (.inr (some (l))))]) (st' := [.inl (e), .inr (.inr (some (770)))]) rfl ?_
      refine ez_if rfl rfl ⟨by first | omega | exact (sz_i32 _).1, by first | omega | exact (sz_i32 _).2⟩ (fun (c2 : (e) = (0)) => ?_) (fun (c2 : ¬((e) = (0))) => ?_)
      · skip
        refine ez_go (n := 2) (pc' := 148) (L' := [(2, .inl (e)), (0, .inr (.inr (some (770)))), (1, .inr (.inr (some (l))))]) (st' := [.inl (1), .inr (.inr (some (770)))]) rfl ?_
        refine ez_cv hBg u770 rfl rfl rfl tq_75 rfl rfl rfl (rd_can1 (by omega) (by omega) (ez_K0 ?_))
        refine ez_go (n := 2) (pc' := 153) (L' := [(2, .inl (e)), (0, .inr (.inr (some (770)))), (1, .inr (.inr (some (l))))]) (st' := [.inr (.inr (some (770))), .inr (.inr (some (770)))]) rfl ?_
        refine ez_gI hBg u770 rfl rfl tq_75 rfl rfl (fun (b3 : 0 ≤ qz_I g 770 17) (b3' : qz_I g 770 17 ≤ 4200) => ?_)
        refine ez_go (n := 2) (pc' := 158) (L' := [(2, .inl (e)), (0, .inr (.inr (some (770)))), (1, .inr (.inr (some (l))))]) (st' := [.inl ((qz_I g 770 17) + (1)), .inr (.inr (some (770)))]) rfl ?_
        refine ez_pf hBg u770 rfl rfl tq_75 rfl rfl rfl rfl (ez_vdI rfl rfl (by omega) (by omega)) (fun hB4 w5 => ?_)
        refine ez_go (n := 4) (pc' := 166) (L' := [(4, .inl (0)), (3, .inl (0)), (2, .inl (e)), (0, .inr (.inr (some (770)))), (1, .inr (.inr (some (l))))]) (st' := []) rfl ?_
        refine ez_less [(4, .inl (0)), (3, .inl (0)), (2, .inl (e)), (0, .inr (.inr (some (770)))), (1, .inr (.inr (some (l))))] rfl ⟨rfl, rfl, rfl, rfl, rfl, trivial⟩ ?_
        have e17 : qz_I (dz_put g 770 17 (ez_v (.inl ((qz_I g 770 17) + (1))))) 770 17 = qz_I g 770 17 + 1 := by rw [w5, rz_rd ⟨by omega, by omega⟩]
        have e18 : qz_I (dz_put g 770 17 (ez_v (.inl ((qz_I g 770 17) + (1))))) 770 18 = qz_I g 770 18 := ez_put_I (by omega)
        have hlt : qz_I g 770 17 < qz_I g 770 18 := by omega
        have e3 : e = 0 ∨ e = 1 ∨ e = 2 := by omega
        have hdot : 1 ≤ e → mb h (a + 1 + 5 * e) = 46 := fun w => by omega
        refine rd_cokh (h := g) (e := e) (p0 := a + 2 + 5 * e) u770 (by omega) (by omega) (fun g2 v hB2 m2 v0 v1 ha2 h172 hx2 ev9 => ?_) (fun g2 hB2 m2 nh => k0 g2 τ1 c _ A hB2 (hc.put17 d5 m2 h0) (by omega) (fun w => nh ⟨by omega, by rw [hmb]; obtain ⟨-, -, f1, f2, f3⟩ := w; rcases e3 with q | q | q; (· rw [q, show a + 2 + 5 * 0 = a + 2 by omega]; exact f1); (· rw [q, show a + 2 + 5 * 1 = a + 7 by omega]; exact f2); (· rw [q, show a + 2 + 5 * 2 = a + 12 by omega]; exact f3)⟩)) _ 0 0 _ rfl hB4 mz_put (by omega) (by omega) (by omega) (by decide) (by rw [e17, e18]; omega) (by rw [e17, h17]; omega) (fun j j1 j2 => by omega) (by rw [show a + 2 + 5 * e + 0 = a + 2 + 5 * e by omega]; rfl)
        rw [hmb] at hx2 ev9
        have hz2 := hc.z7K d5 m2 hz
        have c2 := hc.put17 d5 m2 h0
        have q2 := c2.at hB2
        refine ez_go (n := 2) (pc' := 216) (L' := [(3, .inl (v)), (2, .inl (e)), (0, .inr (.inr (some (770)))), (1, .inr (.inr (some (l))))]) (st' := [.inl (v), .inr (.inr (some (770)))]) rfl ?_
        refine ez_cv hB2 u770 rfl rfl rfl tq_75 rfl rfl rfl (rd_keep hB2 u770 (by omega) (by omega) (by omega) (by omega) (by omega) (by omega) (fun g3 τ3 hB3 k3 => ez_K0 ?_))
        have c3 := c2.keep d5 k3 h0
        have hz3 := c2.zkK d5 k3 hz2
        have u3 : τ3 770 = 75 := (k3.1 770 (by rw [u770]; decide)).1.trans u770
        have v3 : τ3 l = 13 := (k3.1 l (by rw [ul]; decide)).1.trans ul
        refine ez_go (n := 2) (pc' := 124) (L' := [(2, .inl (e + 1)), (3, .inl (v)), (0, .inr (.inr (some (770)))), (1, .inr (.inr (some (l))))]) (st' := []) rfl ?_
        refine ez_less [(2, .inl (e + 1)), (0, .inr (.inr (some (770)))), (1, .inr (.inr (some (l))))] rfl ⟨rfl, rfl, rfl, trivial⟩ ?_
        exact ih (e + 1) g3 τ3 _ (by omega) hB3 (by rw [show 1 + (e + 1) = 1 + e + 1 by omega]; exact c3) (by omega) (by omega) (fun w => absurd w (by omega)) (by rw [k3.2.2.2.1 17 (by decide) (by decide), k3.2.2.2.1 18 (by decide) (by decide)]; exact ha2) (by rw [k3.2.2.2.1 17 (by decide) (by decide), h172]; omega) (by rw [k3.2.2.2.1 18 (by decide) (by decide), m2.2 18 (by decide)]; exact h18) (fun w => by rcases e3 with q | q | q; (· rw [q, show a + 2 + 5 * 0 = a + 2 by omega] at hx2; exact hx2); (· exact hx1 (by omega)); (· exact hx1 (by omega))) (fun w => by rcases e3 with q | q | q; (· omega); (· rw [q, show a + 2 + 5 * 1 = a + 7 by omega] at hx2; have hd := hdot (by omega); rw [q, show a + 1 + 5 * 1 = a + 6 by omega] at hd; exact ⟨hd, hx2⟩); (· exact hx4 (by omega))) (fun w => by rcases e3 with q | q | q; (· omega); (· omega); (· rw [q, show a + 2 + 5 * 2 = a + 12 by omega] at hx2; have hd := hdot (by omega); rw [q, show a + 1 + 5 * 2 = a + 11 by omega] at hd; exact ⟨hd, hx2⟩)) hz3 (by rw [hA9, ev9, show (e + 1).toNat = e.toNat + 1 by omega]; show _ = A0 ++ va :: (h3 (mb h) a e.toNat ++ [rz_hex (mb h) 4 (a + 2 + 5 * ((e.toNat : Nat) : Int)) 0]); rw [show ((e.toNat : Nat) : Int) = e by omega, List.append_assoc]; rfl)
      · skip
        refine ez_go (n := 1) (pc' := 135) (L' := [(2, .inl (e)), (0, .inr (.inr (some (770)))), (1, .inr (.inr (some (l))))]) (st' := [.inr (.inr (some (770))), .inr (.inr (some (770)))]) rfl ?_
        refine ez_cv hBg u770 rfl rfl rfl tq_75 rfl rfl rfl (rd_peek hBg u770 (fun b1 b2 => ez_K1 ?_))
        have hpk : mk (mb g) (qz_I g 770 17) (qz_I g 770 18) ≠ -1 → qz_I g 770 17 < qz_I g 770 18 := fun w => by by_cases e : qz_I g 770 17 < qz_I g 770 18; (· exact e); (· exact absurd (mk_out e) w)
        obtain ⟨pk, epk⟩ : ∃ pk, pk = mk (mb g) (qz_I g 770 17) (qz_I g 770 18) := ⟨_, rfl⟩
        rw [← epk] at b1 b2 hpk ⊢
        refine ez_go (n := 1) (pc' := 140) (L' := [(2, .inl (e)), (0, .inr (.inr (some (770)))), (1, .inr (.inr (some (l))))]) (st' := [.inl (46), .inl (pk), .inr (.inr (some (770)))]) rfl ?_
        refine ez_icmp rfl rfl ⟨by first | omega | exact (sz_i32 _).1, by first | omega | exact (sz_i32 _).2⟩ ⟨by first | omega | exact (sz_i32 _).1, by first | omega | exact (sz_i32 _).2⟩ (fun (c6 : (pk) ≠ (46)) => ?_) (fun (c6 : ¬((pk) ≠ (46))) => ?_)
        · skip
          refine ez_go (n := 1) (pc' := 148) (L' := [(2, .inl (e)), (0, .inr (.inr (some (770)))), (1, .inr (.inr (some (l))))]) (st' := [.inl (0), .inr (.inr (some (770)))]) rfl ?_
          refine ez_cv hBg u770 rfl rfl rfl tq_75 rfl rfl rfl (rd_can0 (by omega) (by omega) (ez_Kp (xc_exc hBg rfl) rfl (k0 g τ1 c _ A hBg hc (by omega) (fun w => by have dt := nz_dot w.2.1 (show e = 1 ∨ e = 2 from (by omega)); have w1 := w.1; rw [mk_in (by omega), hmb, h17] at epk; omega))))
        · skip
          refine ez_go (n := 2) (pc' := 148) (L' := [(2, .inl (e)), (0, .inr (.inr (some (770)))), (1, .inr (.inr (some (l))))]) (st' := [.inl (1), .inr (.inr (some (770)))]) rfl ?_
          refine ez_cv hBg u770 rfl rfl rfl tq_75 rfl rfl rfl (rd_can1 (by omega) (by omega) (ez_K0 ?_))
          refine ez_go (n := 2) (pc' := 153) (L' := [(2, .inl (e)), (0, .inr (.inr (some (770)))), (1, .inr (.inr (some (l))))]) (st' := [.inr (.inr (some (770))), .inr (.inr (some (770)))]) rfl ?_
          refine ez_gI hBg u770 rfl rfl tq_75 rfl rfl (fun (b7 : 0 ≤ qz_I g 770 17) (b7' : qz_I g 770 17 ≤ 4200) => ?_)
          refine ez_go (n := 2) (pc' := 158) (L' := [(2, .inl (e)), (0, .inr (.inr (some (770)))), (1, .inr (.inr (some (l))))]) (st' := [.inl ((qz_I g 770 17) + (1)), .inr (.inr (some (770)))]) rfl ?_
          refine ez_pf hBg u770 rfl rfl tq_75 rfl rfl rfl rfl (ez_vdI rfl rfl (by omega) (by omega)) (fun hB8 w9 => ?_)
          refine ez_go (n := 4) (pc' := 166) (L' := [(4, .inl (0)), (3, .inl (0)), (2, .inl (e)), (0, .inr (.inr (some (770)))), (1, .inr (.inr (some (l))))]) (st' := []) rfl ?_
          refine ez_less [(4, .inl (0)), (3, .inl (0)), (2, .inl (e)), (0, .inr (.inr (some (770)))), (1, .inr (.inr (some (l))))] rfl ⟨rfl, rfl, rfl, rfl, rfl, trivial⟩ ?_
          have e17 : qz_I (dz_put g 770 17 (ez_v (.inl ((qz_I g 770 17) + (1))))) 770 17 = qz_I g 770 17 + 1 := by rw [w9, rz_rd ⟨by omega, by omega⟩]
          have e18 : qz_I (dz_put g 770 17 (ez_v (.inl ((qz_I g 770 17) + (1))))) 770 18 = qz_I g 770 18 := ez_put_I (by omega)
          have hlt : qz_I g 770 17 < qz_I g 770 18 := by omega
          have e3 : e = 0 ∨ e = 1 ∨ e = 2 := by omega
          have hdot : 1 ≤ e → mb h (a + 1 + 5 * e) = 46 := fun w => by rw [mk_in (hpk (by omega)), hmb, h17] at epk; omega
          refine rd_cokh (h := g) (e := e) (p0 := a + 2 + 5 * e) u770 (by omega) (by omega) (fun g2 v hB2 m2 v0 v1 ha2 h172 hx2 ev9 => ?_) (fun g2 hB2 m2 nh => k0 g2 τ1 c _ A hB2 (hc.put17 d5 m2 h0) (by omega) (fun w => nh ⟨by omega, by rw [hmb]; obtain ⟨-, -, f1, f2, f3⟩ := w; rcases e3 with q | q | q; (· rw [q, show a + 2 + 5 * 0 = a + 2 by omega]; exact f1); (· rw [q, show a + 2 + 5 * 1 = a + 7 by omega]; exact f2); (· rw [q, show a + 2 + 5 * 2 = a + 12 by omega]; exact f3)⟩)) _ 0 0 _ rfl hB8 mz_put (by omega) (by omega) (by omega) (by decide) (by rw [e17, e18]; omega) (by rw [e17, h17]; omega) (fun j j1 j2 => by omega) (by rw [show a + 2 + 5 * e + 0 = a + 2 + 5 * e by omega]; rfl)
          rw [hmb] at hx2 ev9
          have hz2 := hc.z7K d5 m2 hz
          have c2 := hc.put17 d5 m2 h0
          have q2 := c2.at hB2
          refine ez_go (n := 2) (pc' := 216) (L' := [(3, .inl (v)), (2, .inl (e)), (0, .inr (.inr (some (770)))), (1, .inr (.inr (some (l))))]) (st' := [.inl (v), .inr (.inr (some (770)))]) rfl ?_
          refine ez_cv hB2 u770 rfl rfl rfl tq_75 rfl rfl rfl (rd_keep hB2 u770 (by omega) (by omega) (by omega) (by omega) (by omega) (by omega) (fun g3 τ3 hB3 k3 => ez_K0 ?_))
          have c3 := c2.keep d5 k3 h0
          have hz3 := c2.zkK d5 k3 hz2
          have u3 : τ3 770 = 75 := (k3.1 770 (by rw [u770]; decide)).1.trans u770
          have v3 : τ3 l = 13 := (k3.1 l (by rw [ul]; decide)).1.trans ul
          refine ez_go (n := 2) (pc' := 124) (L' := [(2, .inl (e + 1)), (3, .inl (v)), (0, .inr (.inr (some (770)))), (1, .inr (.inr (some (l))))]) (st' := []) rfl ?_
          refine ez_less [(2, .inl (e + 1)), (0, .inr (.inr (some (770)))), (1, .inr (.inr (some (l))))] rfl ⟨rfl, rfl, rfl, trivial⟩ ?_
          exact ih (e + 1) g3 τ3 _ (by omega) hB3 (by rw [show 1 + (e + 1) = 1 + e + 1 by omega]; exact c3) (by omega) (by omega) (fun w => absurd w (by omega)) (by rw [k3.2.2.2.1 17 (by decide) (by decide), k3.2.2.2.1 18 (by decide) (by decide)]; exact ha2) (by rw [k3.2.2.2.1 17 (by decide) (by decide), h172]; omega) (by rw [k3.2.2.2.1 18 (by decide) (by decide), m2.2 18 (by decide)]; exact h18) (fun w => by rcases e3 with q | q | q; (· rw [q, show a + 2 + 5 * 0 = a + 2 by omega] at hx2; exact hx2); (· exact hx1 (by omega)); (· exact hx1 (by omega))) (fun w => by rcases e3 with q | q | q; (· omega); (· rw [q, show a + 2 + 5 * 1 = a + 7 by omega] at hx2; have hd := hdot (by omega); rw [q, show a + 1 + 5 * 1 = a + 6 by omega] at hd; exact ⟨hd, hx2⟩); (· exact hx4 (by omega))) (fun w => by rcases e3 with q | q | q; (· omega); (· omega); (· rw [q, show a + 2 + 5 * 2 = a + 12 by omega] at hx2; have hd := hdot (by omega); rw [q, show a + 1 + 5 * 2 = a + 11 by omega] at hd; exact ⟨hd, hx2⟩)) hz3 (by rw [hA9, ev9, show (e + 1).toNat = e.toNat + 1 by omega]; show _ = A0 ++ va :: (h3 (mb h) a e.toNat ++ [rz_hex (mb h) 4 (a + 2 + 5 * ((e.toNat : Nat) : Int)) 0]); rw [show ((e.toNat : Nat) : Int) = e by omega, List.append_assoc]; rfl)

end EzCpK
section EzCqK
variable {d : Nat} {h : cz_H} {τ : Nat → Nat} {Q : cz_F → Prop} {l : Nat} {s9 : Nat → Int}
theorem rd_cokb {c a T z : Int} {g : cz_H} {τ1 : Nat → Nat} {A0 : List Int} (d5 : cd5 τ h l) (h0 : 0 ≤ pn h) (hpm : pn h + 75 ≤ 38400) (hNh : 1024 ≤ qz_N h (po h)) (hr1 : h.1 + 300 ≤ 600192) (hr2 : h.2.1 + 500000 ≤ 7302232) (tpo : τ (po h) = 17) (t771 : τ 771 = 76) (c0 : 0 ≤ c) (c18 : c ≤ 18) (hBg : ez_B τ1 g) (hc : co τ h τ1 g l c 0 A0) (kx : c ≤ 17 → mb h a = 91 → (mb h (a + 1) = 42 ∨ mb h (a + 1) = 46) → ∀ g τ1 A, ez_B τ1 g → co τ h τ1 g l c 4 A → qz_I g 770 17 ≤ qz_I g 770 18 → qz_I g 770 17 = a + 16 → qz_I g 770 18 = T → (rz_hex (mb h) 4 (a + 2) 0 ≠ -1 ∧ (mb h (a + 6) = 46 ∧ rz_hex (mb h) 4 (a + 7) 0 ≠ -1) ∧ (mb h (a + 11) = 46 ∧ rz_hex (mb h) 4 (a + 12) 0 ≠ -1)) → zQ h l g z s9 → A = A0 ++ e4l (mb h) a → ez_W (d + 8) cm_236 225 [(0, .inr (.inr (some (770)))), (1, .inr (.inr (some (l))))] [] g Q) (k0 : ∀ g τ1 A, ez_B τ1 g → (pj (lX l (qz_P h l 7) (qz_P h l 8)) τ h τ1 g A ∧ l2 (qz_P h l 7) (qz_P h l 8) g) → qz_I g l 0 = qz_I h l 0 → ¬ (c ≤ 17 ∧ a + 17 ≤ T ∧ nz_e1 (mb h) a) → Q (.inr g.1, xc g 1)) (hat : qz_I g 770 17 < qz_I g 770 18) (h17 : qz_I g 770 17 = a) (h18 : qz_I g 770 18 = T) (hz : zQ h l g z s9) : ez_W (d + 8) cm_236 38 [(0, .inr (.inr (some (770)))), (1, .inr (.inr (some (l))))] [] g Q := by
  have q := hc.at hBg
  have hmb := hc.oc d5 tpo t771
  have q6 := hc.2.2.2.2.2
  have u770 : τ1 770 = 75 := (hc.1.1 770 (by rw [d5.1]; decide)).1.trans d5.1
  have ul : τ1 l = 13 := (hc.1.1 l (by rw [d5.2.1]; decide)).1.trans d5.2.1
  have s18 : qz_I g 770 18 ≤ 4096 := (ez_fB (cl := 11) (k := 18) hBg u770 tq_75 rfl rfl (by decide)).2
  have e8 : qz_P g l 8 = qz_P h l 8 := by unfold qz_P qz_I; rw [hc.2.2.1]
  have ec : qz_I g (qz_P g l 8) (1 : Int).toNat = c := by rw [e8]; exact hc.2.2.2.1
  refine ez_go (n := 2) (pc' := 40) (L' := [(0, .inr (.inr (some (770)))), (1, .inr (.inr (some (l))))]) (st' := [.inr (.inr (some (l))), .inr (.inr (some (770)))]) rfl ?_
  refine ez_gR hBg ul rfl rfl tq_13 rfl rfl (fun (t1 : _ = 16) (t1' : 1 ≤ qz_I g l 8) => ?_)
  refine ez_go (n := 1) (pc' := 44) (L' := [(0, .inr (.inr (some (770)))), (1, .inr (.inr (some (l))))]) (st' := [.inl (1), .inr (.inr (some (qz_P g l 8))), .inr (.inr (some (770)))]) rfl ?_
  have n3 : 3 ≤ qz_N g (qz_P g l 8) ∧ qz_N g (qz_P g l 8) ≤ 3 := ez_len hBg t1 tq_16 rfl
  refine ez_aI hBg t1 rfl tq_16 rfl rfl (by omega) (by omega) (fun (b2 : 0 ≤ qz_I g (qz_P g l 8) (1 : Int).toNat) (b2' : qz_I g (qz_P g l 8) (1 : Int).toNat ≤ 18) => ?_)
  refine ez_go (n := 1) (pc' := 47) (L' := [(0, .inr (.inr (some (770)))), (1, .inr (.inr (some (l))))]) (st' := [.inl (18), .inl (qz_I g (qz_P g l 8) (1 : Int).toNat), .inr (.inr (some (770)))]) rfl ?_
  refine ez_icmp rfl rfl ⟨by first | omega | exact (sz_i32 _).1, by first | omega | exact (sz_i32 _).2⟩ ⟨by first | omega | exact (sz_i32 _).1, by first | omega | exact (sz_i32 _).2⟩ (fun (c4 : (18) ≤ (qz_I g (qz_P g l 8) (1 : Int).toNat)) => ?_) (fun (c4 : ¬((18) ≤ (qz_I g (qz_P g l 8) (1 : Int).toNat))) => ?_)
  · skip
    refine ez_go (n := 1) (pc' := 64) (L' := [(0, .inr (.inr (some (770)))), (1, .inr (.inr (some (l))))]) (st' := [.inl (0), .inr (.inr (some (770)))]) rfl ?_
    refine ez_cv hBg u770 rfl rfl rfl tq_75 rfl rfl rfl (rd_can0 (by omega) (by omega) (ez_Kp (xc_exc hBg rfl) rfl (k0 g τ1 _ hBg ⟨(hc).1, (hc).l2 (by omega)⟩ (by unfold qz_I; rw [(hc).2.2.1]) (fun w => by have w1 := w.1; have w2 := w.2.1; have w3 := w.2.2.1.1;  omega))))
  · skip
    refine ez_go (n := 1) (pc' := 51) (L' := [(0, .inr (.inr (some (770)))), (1, .inr (.inr (some (l))))]) (st' := [.inr (.inr (some (770))), .inr (.inr (some (770)))]) rfl ?_
    refine ez_cv hBg u770 rfl rfl rfl tq_75 rfl rfl rfl (rd_peek hBg u770 (fun b1 b2 => ez_K1 ?_))
    have hpk : mk (mb g) (qz_I g 770 17) (qz_I g 770 18) ≠ -1 → qz_I g 770 17 < qz_I g 770 18 := fun w => by by_cases e : qz_I g 770 17 < qz_I g 770 18; (· exact e); (· exact absurd (mk_out e) w)
    generalize epk : mk (mb g) (qz_I g 770 17) (qz_I g 770 18) = pk at b1 b2 hpk ⊢
    refine ez_go (n := 1) (pc' := 56) (L' := [(0, .inr (.inr (some (770)))), (1, .inr (.inr (some (l))))]) (st' := [.inl (91), .inl (pk), .inr (.inr (some (770)))]) rfl ?_
    refine ez_icmp rfl rfl ⟨by first | omega | exact (sz_i32 _).1, by first | omega | exact (sz_i32 _).2⟩ ⟨by first | omega | exact (sz_i32 _).1, by first | omega | exact (sz_i32 _).2⟩ (fun (c5 : (pk) ≠ (91)) => ?_) (fun (c5 : ¬((pk) ≠ (91))) => ?_)
    · skip
      refine ez_go (n := 1) (pc' := 64) (L' := [(0, .inr (.inr (some (770)))), (1, .inr (.inr (some (l))))]) (st' := [.inl (0), .inr (.inr (some (770)))]) rfl ?_
      refine ez_cv hBg u770 rfl rfl rfl tq_75 rfl rfl rfl (rd_can0 (by omega) (by omega) (ez_Kp (xc_exc hBg rfl) rfl (k0 g τ1 _ hBg ⟨(hc).1, (hc).l2 (by omega)⟩ (by unfold qz_I; rw [(hc).2.2.1]) (fun w => by have w1 := w.1; have w2 := w.2.1; have w3 := w.2.2.1.1; rw [mk_in (by omega), hmb, h17] at epk; omega))))
    · skip
      refine ez_go (n := 2) (pc' := 64) (L' := [(0, .inr (.inr (some (770)))), (1, .inr (.inr (some (l))))]) (st' := [.inl (1), .inr (.inr (some (770)))]) rfl ?_
      refine ez_cv hBg u770 rfl rfl rfl tq_75 rfl rfl rfl (rd_can1 (by omega) (by omega) (ez_K0 ?_))
      have hb0 : mb h a = 91 := by rw [mk_in (hpk (by omega)), hmb, h17] at epk; omega
      refine ez_go (n := 2) (pc' := 69) (L' := [(0, .inr (.inr (some (770)))), (1, .inr (.inr (some (l))))]) (st' := [.inr (.inr (some (770))), .inr (.inr (some (770)))]) rfl ?_
      refine ez_gI hBg u770 rfl rfl tq_75 rfl rfl (fun (b6 : 0 ≤ qz_I g 770 17) (b6' : qz_I g 770 17 ≤ 4200) => ?_)
      refine ez_go (n := 2) (pc' := 74) (L' := [(0, .inr (.inr (some (770)))), (1, .inr (.inr (some (l))))]) (st' := [.inl ((qz_I g 770 17) + (1)), .inr (.inr (some (770)))]) rfl ?_
      refine ez_pf hBg u770 rfl rfl tq_75 rfl rfl rfl rfl (ez_vdI rfl rfl (by omega) (by omega)) (fun hB7 w8 => ?_)
      have hlt : qz_I g 770 17 < qz_I g 770 18 := by omega
      have e17 : qz_I (dz_put g 770 17 (ez_v (.inl ((qz_I g 770 17) + (1))))) 770 17 = qz_I g 770 17 + 1 := by rw [w8, rz_rd ⟨by omega, by omega⟩]
      have m1 : mz g (dz_put g 770 17 (ez_v (.inl ((qz_I g 770 17) + (1))))) := mz_put
      have hB1 := hB7
      generalize (dz_put g 770 17 (ez_v (.inl ((qz_I g 770 17) + (1))))) = g1 at *
      have e18 : qz_I g1 770 18 = qz_I g 770 18 := m1.2 18 (by decide)
      have c1 := hc.put17 d5 m1 h0
      have q1 := c1.at hB1
      refine ez_go (n := 2) (pc' := 79) (L' := [(0, .inr (.inr (some (770)))), (1, .inr (.inr (some (l))))]) (st' := [.inr (.inr (some (770))), .inr (.inr (some (770)))]) rfl ?_
      refine ez_cv hB1 u770 rfl rfl rfl tq_75 rfl rfl rfl (rd_peek hB1 u770 (fun b1 b2 => ez_K1 ?_))
      have hpk : mk (mb g1) (qz_I g1 770 17) (qz_I g1 770 18) ≠ -1 → qz_I g1 770 17 < qz_I g1 770 18 := fun w => by by_cases e : qz_I g1 770 17 < qz_I g1 770 18; (· exact e); (· exact absurd (mk_out e) w)
      generalize epk : mk (mb g1) (qz_I g1 770 17) (qz_I g1 770 18) = pk at b1 b2 hpk ⊢
      refine ez_go (n := 1) (pc' := 84) (L' := [(0, .inr (.inr (some (770)))), (1, .inr (.inr (some (l))))]) (st' := [.inl (46), .inl (pk), .inr (.inr (some (770)))]) rfl ?_
      refine ez_icmp rfl rfl ⟨by first | omega | exact (sz_i32 _).1, by first | omega | exact (sz_i32 _).2⟩ ⟨by first | omega | exact (sz_i32 _).1, by first | omega | exact (sz_i32 _).2⟩ (fun (c9 : (pk) = (46)) => ?_) (fun (c9 : ¬((pk) = (46))) => ?_)
      · skip
        refine ez_go (n := 2) (pc' := 101) (L' := [(0, .inr (.inr (some (770)))), (1, .inr (.inr (some (l))))]) (st' := [.inl (1), .inr (.inr (some (770)))]) rfl ?_
        refine ez_cv hB1 u770 rfl rfl rfl tq_75 rfl rfl rfl (rd_can1 (by omega) (by omega) (ez_K0 ?_))
        have hb1 : mb h (a + 1) = 42 ∨ mb h (a + 1) = 46 := by rw [mk_in (hpk (by omega)), c1.oc d5 tpo t771, e17, h17] at epk; omega
        have hpe : pk = mb h (a + 1) := by rw [mk_in (hpk (by omega)), c1.oc d5 tpo t771, e17, h17] at epk; omega
        refine ez_go (n := 2) (pc' := 106) (L' := [(0, .inr (.inr (some (770)))), (1, .inr (.inr (some (l))))]) (st' := [.inr (.inr (some (770))), .inr (.inr (some (770)))]) rfl ?_
        refine ez_cv hB1 u770 rfl rfl rfl tq_75 rfl rfl rfl (rd_peek hB1 u770 (fun b1 b2 => ez_K1 ?_))
        rw [epk] at b1 b2 ⊢
        refine ez_go (n := 1) (pc' := 111) (L' := [(0, .inr (.inr (some (770)))), (1, .inr (.inr (some (l))))]) (st' := [.inl (42), .inl (pk), .inr (.inr (some (770)))]) rfl ?_
        refine ez_icmp rfl rfl ⟨by first | omega | exact (sz_i32 _).1, by first | omega | exact (sz_i32 _).2⟩ ⟨by first | omega | exact (sz_i32 _).1, by first | omega | exact (sz_i32 _).2⟩ (fun (c10 : (pk) ≠ (42)) => ?_) (fun (c10 : ¬((pk) ≠ (42))) => ?_)
        · skip
          refine ez_go (n := 1) (pc' := 119) (L' := [(0, .inr (.inr (some (770)))), (1, .inr (.inr (some (l))))]) (st' := [.inl (0), .inr (.inr (some (770)))]) rfl ?_
          refine ez_cv hB1 u770 rfl rfl rfl tq_75 rfl rfl rfl (rd_keep hB1 u770 (by omega) (by omega) (by omega) (by omega) (by omega) (by omega) (fun g2 τ2 hB2 k2 => ez_K0 ?_))
          have c2 := c1.keep d5 k2 h0
          have hva : (0 : Int) = if mb h (a + 1) = 42 then 1 else 0 := by rw [if_neg (by omega)]
          refine ez_go (n := 2) (pc' := 124) (L' := [(2, .inl (0)), (0, .inr (.inr (some (770)))), (1, .inr (.inr (some (l))))]) (st' := []) rfl ?_
          refine ez_less [(2, .inl (0)), (0, .inr (.inr (some (770)))), (1, .inr (.inr (some (l))))] rfl ⟨rfl, rfl, rfl, trivial⟩ ?_
          have f17 := k2.2.2.2.1 17 (by decide) (by decide)
          have f18 := k2.2.2.2.1 18 (by decide) (by decide)
          exact rd_coke (A0 := A0) (va := 0) (a := a) (T := T) d5 h0 hpm hNh hr1 hr2 tpo t771 c0 (by omega) (fun g9 τ9 A9 y1 y2 y3 y4 y5 y6 y7 eA => kx (by omega) hb0 hb1 g9 τ9 A9 y1 y2 y3 y4 y5 y6 y7 (by rw [eA]; unfold e4l; rw [← hva])) (fun g3 τ3 c3 x3 A3 hB3 cc cx nE => k0 g3 τ3 _ hB3 ⟨(cc).1, (cc).l2 (by omega)⟩ (by unfold qz_I; rw [(cc).2.2.1]) (fun w => nE w.2)) _ 0 g2 τ2 _ rfl hB2 c2 (by omega) (by omega) (fun _ => by rw [f17, f18]; omega) (by rw [f17, f18]; omega) (by rw [f17, e17, h17]; omega) (by rw [f18, e18]; exact h18) (fun w => by omega) (fun w => by omega) (fun w => by omega) (c1.zkK d5 k2 (hc.z7K d5 m1 hz)) rfl
        · skip
          refine ez_go (n := 2) (pc' := 119) (L' := [(0, .inr (.inr (some (770)))), (1, .inr (.inr (some (l))))]) (st' := [.inl (1), .inr (.inr (some (770)))]) rfl ?_
          refine ez_cv hB1 u770 rfl rfl rfl tq_75 rfl rfl rfl (rd_keep hB1 u770 (by omega) (by omega) (by omega) (by omega) (by omega) (by omega) (fun g2 τ2 hB2 k2 => ez_K0 ?_))
          have c2 := c1.keep d5 k2 h0
          have hva : (1 : Int) = if mb h (a + 1) = 42 then 1 else 0 := by rw [if_pos (by omega)]
          refine ez_go (n := 2) (pc' := 124) (L' := [(2, .inl (0)), (0, .inr (.inr (some (770)))), (1, .inr (.inr (some (l))))]) (st' := []) rfl ?_
          refine ez_less [(2, .inl (0)), (0, .inr (.inr (some (770)))), (1, .inr (.inr (some (l))))] rfl ⟨rfl, rfl, rfl, trivial⟩ ?_
          have f17 := k2.2.2.2.1 17 (by decide) (by decide)
          have f18 := k2.2.2.2.1 18 (by decide) (by decide)
          exact rd_coke (A0 := A0) (va := 1) (a := a) (T := T) d5 h0 hpm hNh hr1 hr2 tpo t771 c0 (by omega) (fun g9 τ9 A9 y1 y2 y3 y4 y5 y6 y7 eA => kx (by omega) hb0 hb1 g9 τ9 A9 y1 y2 y3 y4 y5 y6 y7 (by rw [eA]; unfold e4l; rw [← hva])) (fun g3 τ3 c3 x3 A3 hB3 cc cx nE => k0 g3 τ3 _ hB3 ⟨(cc).1, (cc).l2 (by omega)⟩ (by unfold qz_I; rw [(cc).2.2.1]) (fun w => nE w.2)) _ 0 g2 τ2 _ rfl hB2 c2 (by omega) (by omega) (fun _ => by rw [f17, f18]; omega) (by rw [f17, f18]; omega) (by rw [f17, e17, h17]; omega) (by rw [f18, e18]; exact h18) (fun w => by omega) (fun w => by omega) (fun w => by omega) (c1.zkK d5 k2 (hc.z7K d5 m1 hz)) rfl
      · skip
        refine ez_go (n := 1) (pc' := 88) (L' := [(0, .inr (.inr (some (770)))), (1, .inr (.inr (some (l))))]) (st' := [.inr (.inr (some (770))), .inr (.inr (some (770)))]) rfl ?_
        refine ez_cv hB1 u770 rfl rfl rfl tq_75 rfl rfl rfl (rd_peek hB1 u770 (fun b1 b2 => ez_K1 ?_))
        rw [epk] at b1 b2 ⊢
        refine ez_go (n := 1) (pc' := 93) (L' := [(0, .inr (.inr (some (770)))), (1, .inr (.inr (some (l))))]) (st' := [.inl (42), .inl (pk), .inr (.inr (some (770)))]) rfl ?_
        refine ez_icmp rfl rfl ⟨by first | omega | exact (sz_i32 _).1, by first | omega | exact (sz_i32 _).2⟩ ⟨by first | omega | exact (sz_i32 _).1, by first | omega | exact (sz_i32 _).2⟩ (fun (c11 : (pk) ≠ (42)) => ?_) (fun (c11 : ¬((pk) ≠ (42))) => ?_)
        · skip
          refine ez_go (n := 1) (pc' := 101) (L' := [(0, .inr (.inr (some (770)))), (1, .inr (.inr (some (l))))]) (st' := [.inl (0), .inr (.inr (some (770)))]) rfl ?_
          refine ez_cv hB1 u770 rfl rfl rfl tq_75 rfl rfl rfl (rd_can0 (by omega) (by omega) (ez_Kp (xc_exc hB1 rfl) rfl (k0 g1 τ1 _ hB1 ⟨(c1).1, (c1).l2 (by omega)⟩ (by unfold qz_I; rw [(c1).2.2.1]) (fun w => by have w2 := w.2.1; have w3 := w.2.2.1.2.1; rw [mk_in (by omega), c1.oc d5 tpo t771, e17, h17] at epk; omega))))
        · skip
          refine ez_go (n := 2) (pc' := 101) (L' := [(0, .inr (.inr (some (770)))), (1, .inr (.inr (some (l))))]) (st' := [.inl (1), .inr (.inr (some (770)))]) rfl ?_
          refine ez_cv hB1 u770 rfl rfl rfl tq_75 rfl rfl rfl (rd_can1 (by omega) (by omega) (ez_K0 ?_))
          have hb1 : mb h (a + 1) = 42 ∨ mb h (a + 1) = 46 := by rw [mk_in (hpk (by omega)), c1.oc d5 tpo t771, e17, h17] at epk; omega
          have hpe : pk = mb h (a + 1) := by rw [mk_in (hpk (by omega)), c1.oc d5 tpo t771, e17, h17] at epk; omega
          refine ez_go (n := 2) (pc' := 106) (L' := [(0, .inr (.inr (some (770)))), (1, .inr (.inr (some (l))))]) (st' := [.inr (.inr (some (770))), .inr (.inr (some (770)))]) rfl ?_
          refine ez_cv hB1 u770 rfl rfl rfl tq_75 rfl rfl rfl (rd_peek hB1 u770 (fun b1 b2 => ez_K1 ?_))
          rw [epk] at b1 b2 ⊢
          refine ez_go (n := 1) (pc' := 111) (L' := [(0, .inr (.inr (some (770)))), (1, .inr (.inr (some (l))))]) (st' := [.inl (42), .inl (pk), .inr (.inr (some (770)))]) rfl ?_
          refine ez_icmp rfl rfl ⟨by first | omega | exact (sz_i32 _).1, by first | omega | exact (sz_i32 _).2⟩ ⟨by first | omega | exact (sz_i32 _).1, by first | omega | exact (sz_i32 _).2⟩ (fun (c12 : (pk) ≠ (42)) => ?_) (fun (c12 : ¬((pk) ≠ (42))) => ?_)
          · skip
            refine ez_go (n := 1) (pc' := 119) (L' := [(0, .inr (.inr (some (770)))), (1, .inr (.inr (some (l))))]) (st' := [.inl (0), .inr (.inr (some (770)))]) rfl ?_
            refine ez_cv hB1 u770 rfl rfl rfl tq_75 rfl rfl rfl (rd_keep hB1 u770 (by omega) (by omega) (by omega) (by omega) (by omega) (by omega) (fun g2 τ2 hB2 k2 => ez_K0 ?_))
            have c2 := c1.keep d5 k2 h0
            have hva : (0 : Int) = if mb h (a + 1) = 42 then 1 else 0 := by rw [if_neg (by omega)]
            refine ez_go (n := 2) (pc' := 124) (L' := [(2, .inl (0)), (0, .inr (.inr (some (770)))), (1, .inr (.inr (some (l))))]) (st' := []) rfl ?_
            refine ez_less [(2, .inl (0)), (0, .inr (.inr (some (770)))), (1, .inr (.inr (some (l))))] rfl ⟨rfl, rfl, rfl, trivial⟩ ?_
            have f17 := k2.2.2.2.1 17 (by decide) (by decide)
            have f18 := k2.2.2.2.1 18 (by decide) (by decide)
            exact rd_coke (A0 := A0) (va := 0) (a := a) (T := T) d5 h0 hpm hNh hr1 hr2 tpo t771 c0 (by omega) (fun g9 τ9 A9 y1 y2 y3 y4 y5 y6 y7 eA => kx (by omega) hb0 hb1 g9 τ9 A9 y1 y2 y3 y4 y5 y6 y7 (by rw [eA]; unfold e4l; rw [← hva])) (fun g3 τ3 c3 x3 A3 hB3 cc cx nE => k0 g3 τ3 _ hB3 ⟨(cc).1, (cc).l2 (by omega)⟩ (by unfold qz_I; rw [(cc).2.2.1]) (fun w => nE w.2)) _ 0 g2 τ2 _ rfl hB2 c2 (by omega) (by omega) (fun _ => by rw [f17, f18]; omega) (by rw [f17, f18]; omega) (by rw [f17, e17, h17]; omega) (by rw [f18, e18]; exact h18) (fun w => by omega) (fun w => by omega) (fun w => by omega) (c1.zkK d5 k2 (hc.z7K d5 m1 hz)) rfl
          · skip
            refine ez_go (n := 2) (pc' := 119) (L' := [(0, .inr (.inr (some (770)))), (1, .inr (.inr (some (l))))]) (st' := [.inl (1), .inr (.inr (some (770)))]) rfl ?_
            refine ez_cv hB1 u770 rfl rfl rfl tq_75 rfl rfl rfl (rd_keep hB1 u770 (by omega) (by omega) (by omega) (by omega) (by omega) (by omega) (fun g2 τ2 hB2 k2 => ez_K0 ?_))
            have c2 := c1.keep d5 k2 h0
            have hva : (1 : Int) = if mb h (a + 1) = 42 then 1 else 0 := by rw [if_pos (by omega)]
            refine ez_go (n := 2) (pc' := 124) (L' := [(2, .inl (0)), (0, .inr (.inr (some (770)))), (1, .inr (.inr (some (l))))]) (st' := []) rfl ?_
            refine ez_less [(2, .inl (0)), (0, .inr (.inr (some (770)))), (1, .inr (.inr (some (l))))] rfl ⟨rfl, rfl, rfl, trivial⟩ ?_
            have f17 := k2.2.2.2.1 17 (by decide) (by decide)
            have f18 := k2.2.2.2.1 18 (by decide) (by decide)
            exact rd_coke (A0 := A0) (va := 1) (a := a) (T := T) d5 h0 hpm hNh hr1 hr2 tpo t771 c0 (by omega) (fun g9 τ9 A9 y1 y2 y3 y4 y5 y6 y7 eA => kx (by omega) hb0 hb1 g9 τ9 A9 y1 y2 y3 y4 y5 y6 y7 (by rw [eA]; unfold e4l; rw [← hva])) (fun g3 τ3 c3 x3 A3 hB3 cc cx nE => k0 g3 τ3 _ hB3 ⟨(cc).1, (cc).l2 (by omega)⟩ (by unfold qz_I; rw [(cc).2.2.1]) (fun w => nE w.2)) _ 0 g2 τ2 _ rfl hB2 c2 (by omega) (by omega) (fun _ => by rw [f17, f18]; omega) (by rw [f17, f18]; omega) (by rw [f17, e17, h17]; omega) (by rw [f18, e18]; exact h18) (fun w => by omega) (fun w => by omega) (fun w => by omega) (c1.zkK d5 k2 (hc.z7K d5 m1 hz)) rfl

theorem rd_cokc {c a T z : Int} {g : cz_H} {τ1 : Nat → Nat} {A : List Int} (d5 : cd5 τ h l) (h0 : 0 ≤ pn h) (hpm : pn h + 75 ≤ 38400) (hNh : 1024 ≤ qz_N h (po h)) (hr1 : h.1 + 300 ≤ 600192) (hr2 : h.2.1 + 500000 ≤ 7302232) (tpo : τ (po h) = 17) (t771 : τ 771 = 76) (c0 : 0 ≤ c) (c17 : c ≤ 17) (hBg : ez_B τ1 g) (hc : co τ h τ1 g l c 4 A) (kx : ∀ g τ1, ez_B τ1 g → co τ h τ1 g l (c + 1) 0 A → qz_I g 770 17 ≤ qz_I g 770 18 → qz_I g 770 17 = rz_skip (mb h) (T - (a + 17)).toNat (a + 17) → qz_I g 770 18 = T → (a + 17 ≤ T ∧ nz_e1 (mb h) a) → zQ h l g z s9 → ez_W (d + 8) cm_236 27 [(0, .inr (.inr (some (770)))), (1, .inr (.inr (some (l))))] [] g Q) (k0 : ∀ g τ1 A, ez_B τ1 g → (pj (lX l (qz_P h l 7) (qz_P h l 8)) τ h τ1 g A ∧ l2 (qz_P h l 7) (qz_P h l 8) g) → qz_I g l 0 = qz_I h l 0 → ¬ (c ≤ 17 ∧ a + 17 ≤ T ∧ nz_e1 (mb h) a) → Q (.inr g.1, xc g 1)) (hat : qz_I g 770 17 ≤ qz_I g 770 18) (hb0 : mb h a = 91) (hb1 : mb h (a + 1) = 42 ∨ mb h (a + 1) = 46) (h17 : qz_I g 770 17 = a + 16) (h18 : qz_I g 770 18 = T) (hX : (rz_hex (mb h) 4 (a + 2) 0 ≠ -1 ∧ (mb h (a + 6) = 46 ∧ rz_hex (mb h) 4 (a + 7) 0 ≠ -1) ∧ (mb h (a + 11) = 46 ∧ rz_hex (mb h) 4 (a + 12) 0 ≠ -1))) (hz : zQ h l g z s9) : ez_W (d + 8) cm_236 225 [(0, .inr (.inr (some (770)))), (1, .inr (.inr (some (l))))] [] g Q := by
  have q := hc.at hBg
  have hmb := hc.oc d5 tpo t771
  have q6 := hc.2.2.2.2.2
  have u770 : τ1 770 = 75 := (hc.1.1 770 (by rw [d5.1]; decide)).1.trans d5.1
  have ul : τ1 l = 13 := (hc.1.1 l (by rw [d5.2.1]; decide)).1.trans d5.2.1
  have s18 : qz_I g 770 18 ≤ 4096 := (ez_fB (cl := 11) (k := 18) hBg u770 tq_75 rfl rfl (by decide)).2
  have e8 : qz_P g l 8 = qz_P h l 8 := by unfold qz_P qz_I; rw [hc.2.2.1]
  have ec : qz_I g (qz_P g l 8) (1 : Int).toNat = c := by rw [e8]; exact hc.2.2.2.1
  refine ez_go (n := 2) (pc' := 227) (L' := [(0, .inr (.inr (some (770)))), (1, .inr (.inr (some (l))))]) (st' := [.inr (.inr (some (770))), .inr (.inr (some (770)))]) rfl ?_
  refine ez_cv hBg u770 rfl rfl rfl tq_75 rfl rfl rfl (rd_peek hBg u770 (fun b1 b2 => ez_K1 ?_))
  have hpk : mk (mb g) (qz_I g 770 17) (qz_I g 770 18) ≠ -1 → qz_I g 770 17 < qz_I g 770 18 := fun w => by by_cases e : qz_I g 770 17 < qz_I g 770 18; (· exact e); (· exact absurd (mk_out e) w)
  generalize epk : mk (mb g) (qz_I g 770 17) (qz_I g 770 18) = pk at b1 b2 hpk ⊢
  refine ez_go (n := 1) (pc' := 232) (L' := [(0, .inr (.inr (some (770)))), (1, .inr (.inr (some (l))))]) (st' := [.inl (93), .inl (pk), .inr (.inr (some (770)))]) rfl ?_
  refine ez_icmp rfl rfl ⟨by first | omega | exact (sz_i32 _).1, by first | omega | exact (sz_i32 _).2⟩ ⟨by first | omega | exact (sz_i32 _).1, by first | omega | exact (sz_i32 _).2⟩ (fun (c1 : (pk) ≠ (93)) => ?_) (fun (c1 : ¬((pk) ≠ (93))) => ?_)
  · skip
    refine ez_go (n := 1) (pc' := 240) (L' := [(0, .inr (.inr (some (770)))), (1, .inr (.inr (some (l))))]) (st' := [.inl (0), .inr (.inr (some (770)))]) rfl ?_
    refine ez_cv hBg u770 rfl rfl rfl tq_75 rfl rfl rfl (rd_can0 (by omega) (by omega) (ez_Kp (xc_exc hBg rfl) rfl (k0 g τ1 _ hBg ⟨(hc).1, (hc).l2 (by omega)⟩ (by unfold qz_I; rw [(hc).2.2.1]) (fun w => by have w2 := w.2.1; have w3 := w.2.2.1.2.2.2.2; rw [mk_in (by omega), hmb, h17] at epk; omega))))
  · skip
    refine ez_go (n := 2) (pc' := 240) (L' := [(0, .inr (.inr (some (770)))), (1, .inr (.inr (some (l))))]) (st' := [.inl (1), .inr (.inr (some (770)))]) rfl ?_
    refine ez_cv hBg u770 rfl rfl rfl tq_75 rfl rfl rfl (rd_can1 (by omega) (by omega) (ez_K0 ?_))
    have hb16 : mb h (a + 16) = 93 := by rw [mk_in (hpk (by omega)), hmb, h17] at epk; omega
    have hT17 : a + 17 ≤ T := by have := hpk (by omega); omega
    refine ez_go (n := 2) (pc' := 245) (L' := [(0, .inr (.inr (some (770)))), (1, .inr (.inr (some (l))))]) (st' := [.inr (.inr (some (770))), .inr (.inr (some (770)))]) rfl ?_
    refine ez_gI hBg u770 rfl rfl tq_75 rfl rfl (fun (b2 : 0 ≤ qz_I g 770 17) (b2' : qz_I g 770 17 ≤ 4200) => ?_)
    refine ez_go (n := 2) (pc' := 250) (L' := [(0, .inr (.inr (some (770)))), (1, .inr (.inr (some (l))))]) (st' := [.inl ((qz_I g 770 17) + (1)), .inr (.inr (some (770)))]) rfl ?_
    refine ez_pf hBg u770 rfl rfl tq_75 rfl rfl rfl rfl (ez_vdI rfl rfl (by omega) (by omega)) (fun hB3 w4 => ?_)
    have hlt : qz_I g 770 17 < qz_I g 770 18 := by omega
    have e17 : qz_I (dz_put g 770 17 (ez_v (.inl ((qz_I g 770 17) + (1))))) 770 17 = qz_I g 770 17 + 1 := by rw [w4, rz_rd ⟨by omega, by omega⟩]
    have m1 : mz g (dz_put g 770 17 (ez_v (.inl ((qz_I g 770 17) + (1))))) := mz_put
    have hB1 := hB3
    generalize (dz_put g 770 17 (ez_v (.inl ((qz_I g 770 17) + (1))))) = g1 at *
    have e18 : qz_I g1 770 18 = qz_I g 770 18 := m1.2 18 (by decide)
    have c1 := hc.put17 d5 m1 h0
    have q1 := c1.at hB1
    have e81 : qz_P g1 l 8 = qz_P h l 8 := by unfold qz_P qz_I; rw [c1.2.2.1]
    have ec1 : qz_I g1 (qz_P g1 l 8) (1 : Int).toNat = c := by rw [e81]; exact c1.2.2.2.1
    refine ez_go (n := 1) (pc' := 254) (L' := [(0, .inr (.inr (some (770)))), (1, .inr (.inr (some (l))))]) (st' := [.inr (.inr (some (l)))]) rfl ?_
    refine ez_gR hB1 ul rfl rfl tq_13 rfl rfl (fun (t5 : _ = 16) (t5' : 1 ≤ qz_I g1 l 8) => ?_)
    refine ez_go (n := 2) (pc' := 259) (L' := [(0, .inr (.inr (some (770)))), (1, .inr (.inr (some (l))))]) (st' := [.inl (1), .inr (.inr (some (qz_P g1 l 8))), .inl (1), .inr (.inr (some (qz_P g1 l 8)))]) rfl ?_
    have n7 : 3 ≤ qz_N g1 (qz_P g1 l 8) ∧ qz_N g1 (qz_P g1 l 8) ≤ 3 := ez_len hB1 t5 tq_16 rfl
    refine ez_aI hB1 t5 rfl tq_16 rfl rfl (by omega) (by omega) (fun (b6 : 0 ≤ qz_I g1 (qz_P g1 l 8) (1 : Int).toNat) (b6' : qz_I g1 (qz_P g1 l 8) (1 : Int).toNat ≤ 18) => ?_)
    refine ez_go (n := 2) (pc' := 262) (L' := [(0, .inr (.inr (some (770)))), (1, .inr (.inr (some (l))))]) (st' := [.inl ((qz_I g1 (qz_P g1 l 8) (1 : Int).toNat) + (1)), .inl (1), .inr (.inr (some (qz_P g1 l 8)))]) rfl ?_
    have n10 : 3 ≤ qz_N g1 (qz_P g1 l 8) ∧ qz_N g1 (qz_P g1 l 8) ≤ 3 := ez_len hB1 t5 tq_16 rfl
    refine ez_as hB1 t5 rfl tq_16 rfl rfl (by omega) (by omega) (ez_vdI rfl rfl (by omega) (by omega)) (fun hB8 w9 => ?_)
    refine ez_go (n := 1) (pc' := 264) (L' := [(0, .inr (.inr (some (770)))), (1, .inr (.inr (some (l))))]) (st' := [.inr (.inr (some (770)))]) rfl ?_
    have f2 : ez_fr (ez_one (qz_P g1 l 8)) g1 (dz_put g1 (qz_P g1 l 8) (1 : Int).toNat (ez_v (.inl ((qz_I g1 (qz_P g1 l 8) (1 : Int).toNat) + (1))))) := (ez_fr.refl (ez_one (qz_P g1 l 8)) g1).put (show Nat.beq _ _ = true from Nat.beq_refl _) _ _
    have v2 : qz_I (dz_put g1 (qz_P g1 l 8) (1 : Int).toNat (ez_v (.inl ((qz_I g1 (qz_P g1 l 8) (1 : Int).toNat) + (1))))) (qz_P g1 l 8) 1 = c + 1 := by rw [← ec1]; exact (w9).trans (rz_rd ⟨by omega, by omega⟩)
    have w2 : ∀ j, j ≠ 1 → qz_I (dz_put g1 (qz_P g1 l 8) (1 : Int).toNat (ez_v (.inl ((qz_I g1 (qz_P g1 l 8) (1 : Int).toNat) + (1))))) (qz_P g1 l 8) j = qz_I g1 (qz_P g1 l 8) j := fun j hj => ez_put_I (fun w => hj w.2)
    have hB2 := hB8
    generalize (dz_put g1 (qz_P g1 l 8) (1 : Int).toNat (ez_v (.inl ((qz_I g1 (qz_P g1 l 8) (1 : Int).toNat) + (1))))) = g2 at *
    rw [e81] at f2 v2 w2
    have nc7 : qz_P h l 8 ≠ 770 := fun e => by have q := d5.2.2.2; rw [e, d5.1] at q; cases q
    have c2 := c1.inc d5 h0 c0 f2 v2 w2
    have i7 : ∀ j, qz_I g2 770 j = qz_I g1 770 j := fun j => f2.I (dz_beq_ne (Ne.symm nc7)) j
    refine ez_cv hB2 u770 rfl rfl rfl tq_75 rfl rfl rfl (rd_blanks hB2 u770 (by rw [i7, i7]; omega) (fun g6 hB6 m6 a6 => ez_K0 ?_))
    have c6 := c2.put17 d5 m6 h0
    have a69 : qz_I g6 770 17 = rz_skip (mb h) (T - (a + 17)).toNat (a + 17) := by rw [a6, c2.oc d5 tpo t771, i7, i7, e17, e18, h17, h18, show a + 16 + 1 = a + 17 by omega]
    have hz1 := hc.z7K d5 m1 hz
    have hz2 : zQ h l g2 z s9 := ⟨(w2 0 (by decide)).trans hz1.1, fun j => (f2.I (dz_beq_ne (fun e => by have q := d5.2.2.1; rw [e, d5.2.2.2] at q; cases q)) j).trans (hz1.2 j)⟩
    have hz6 := c2.z7K d5 m6 hz2
    have s6 := m6.2 18 (by decide)
    have sl := rz_skip_le (mb g2) (qz_I g2 770 18 - qz_I g2 770 17).toNat (qz_I g2 770 17)
    rw [← a6] at sl; rw [i7] at s6; rw [i7, i7] at sl
    refine ez_go (n := 1) (pc' := 27) (L' := [(0, .inr (.inr (some (770)))), (1, .inr (.inr (some (l))))]) (st' := []) rfl ?_
    refine ez_less [(0, .inr (.inr (some (770)))), (1, .inr (.inr (some (l))))] rfl ⟨rfl, rfl, trivial⟩ ?_
    exact kx g6 τ1 hB6 c6 (by omega) a69 (by rw [s6, e18]; exact h18) ⟨hT17, ⟨hb0, hb1, hX.2.1.1, hX.2.2.1, hb16⟩, hX.1, hX.2.1.2, hX.2.2.2⟩ hz6

theorem rd_cokl {S T z : Int} {A0 : List Int} (d5 : cd5 τ h l) (h0 : 0 ≤ pn h) (hpm : pn h + 75 ≤ 38400) (hNh : 1024 ≤ qz_N h (po h)) (hr1 : h.1 + 300 ≤ 600192) (hr2 : h.2.1 + 500000 ≤ 7302232) (tpo : τ (po h) = 17) (t771 : τ 771 = 76) (k1 : ∀ g τ1 c A q, ez_B τ1 g → co τ h τ1 g l c 0 A → c ≤ 18 → ((q : Nat) : Int) = c → nz_el (mb h) T q S → (1 ≤ q ∧ q ≤ 18) → A = A0 ++ fl4 (nz_ev (mb h) T q S) → zQ h l g z s9 → Q (.inl none, g)) (k0 : ∀ g τ1 A, ez_B τ1 g → (pj (lX l (qz_P h l 7) (qz_P h l 8)) τ h τ1 g A ∧ l2 (qz_P h l 7) (qz_P h l 8) g) → qz_I g l 0 = qz_I h l 0 → ¬ nz_els (mb h) S T → Q (.inr g.1, xc g 1)) : ∀ (n : Nat) (c : Int) (g : cz_H) (τ1 : Nat → Nat) (A : List Int) (pre : List eL), n = (18 - c).toNat → ez_B τ1 g → co τ h τ1 g l c 0 A → 0 ≤ c → c ≤ 18 → qz_I g 770 17 ≤ qz_I g 770 18 → qz_I g 770 18 = T → (nz_els (mb h) S T ↔ ∃ m : Nat, (1 ≤ c + (m : Int) ∧ c + (m : Int) ≤ 18) ∧ nz_el (mb h) T m (qz_I g 770 17)) → zQ h l g z s9 → (pre.length : Int) = c → A = A0 ++ fl4 pre → (∀ m, nz_el (mb h) T m (qz_I g 770 17) → nz_el (mb h) T (pre.length + m) S ∧ nz_ev (mb h) T (pre.length + m) S = pre ++ nz_ev (mb h) T m (qz_I g 770 17)) → ez_W (d + 8) cm_236 27 [(0, .inr (.inr (some (770)))), (1, .inr (.inr (some (l))))] [] g Q := by
  intro n
  induction n with
  | zero =>
    intro c g τ1 A pre hn hBg hc c0 c18 hat h18 hH hz hpl hA9 hP
    have q := hc.at hBg
    have hmb := hc.oc d5 tpo t771
    have q6 := hc.2.2.2.2.2
    have u770 : τ1 770 = 75 := (hc.1.1 770 (by rw [d5.1]; decide)).1.trans d5.1
    have ul : τ1 l = 13 := (hc.1.1 l (by rw [d5.2.1]; decide)).1.trans d5.2.1
    have s18 : qz_I g 770 18 ≤ 4096 := (ez_fB (cl := 11) (k := 18) hBg u770 tq_75 rfl rfl (by decide)).2
    have e8 : qz_P g l 8 = qz_P h l 8 := by unfold qz_P qz_I; rw [hc.2.2.1]
    have ec : qz_I g (qz_P g l 8) (1 : Int).toNat = c := by rw [e8]; exact hc.2.2.2.1
    refine ez_go (n := 1) (pc' := 28) (L' := [(0, .inr (.inr (some (770)))), (1, .inr (.inr (some (l))))]) (st' := [.inr (.inr (some (770)))]) rfl ?_
    refine ez_gI hBg u770 rfl rfl tq_75 rfl rfl (fun (b1 : 0 ≤ qz_I g 770 17) (b1' : qz_I g 770 17 ≤ 4200) => ?_)
    refine ez_go (n := 1) (pc' := 32) (L' := [(0, .inr (.inr (some (770)))), (1, .inr (.inr (some (l))))]) (st' := [.inr (.inr (some (770))), .inl (qz_I g 770 17)]) rfl ?_
    refine ez_gI hBg u770 rfl rfl tq_75 rfl rfl (fun (b2 : 0 ≤ qz_I g 770 18) (b2' : qz_I g 770 18 ≤ 4096) => ?_)
    refine ez_icmp rfl rfl ⟨by first | omega | exact (sz_i32 _).1, by first | omega | exact (sz_i32 _).2⟩ ⟨by first | omega | exact (sz_i32 _).1, by first | omega | exact (sz_i32 _).2⟩ (fun (c3 : (qz_I g 770 18) ≤ (qz_I g 770 17)) => ?_) (fun (c3 : ¬((qz_I g 770 18) ≤ (qz_I g 770 17))) => ?_)
    · skip
      refine ez_go (n := 2) (pc' := 272) (L' := [(0, .inr (.inr (some (770)))), (1, .inr (.inr (some (l))))]) (st' := [.inr (.inr (some (l))), .inr (.inr (some (770)))]) rfl ?_
      refine ez_gR hBg ul rfl rfl tq_13 rfl rfl (fun (t4 : _ = 16) (t4' : 1 ≤ qz_I g l 8) => ?_)
      refine ez_go (n := 1) (pc' := 276) (L' := [(0, .inr (.inr (some (770)))), (1, .inr (.inr (some (l))))]) (st' := [.inl (1), .inr (.inr (some (qz_P g l 8))), .inr (.inr (some (770)))]) rfl ?_
      have n6 : 3 ≤ qz_N g (qz_P g l 8) ∧ qz_N g (qz_P g l 8) ≤ 3 := ez_len hBg t4 tq_16 rfl
      refine ez_aI hBg t4 rfl tq_16 rfl rfl (by omega) (by omega) (fun (b5 : 0 ≤ qz_I g (qz_P g l 8) (1 : Int).toNat) (b5' : qz_I g (qz_P g l 8) (1 : Int).toNat ≤ 18) => ?_)
      refine ez_if rfl rfl ⟨by first | omega | exact (sz_i32 _).1, by first | omega | exact (sz_i32 _).2⟩ (fun (c7 : (qz_I g (qz_P g l 8) (1 : Int).toNat) ≤ (0)) => ?_) (fun (c7 : ¬((qz_I g (qz_P g l 8) (1 : Int).toNat) ≤ (0))) => ?_)
      · skip
        refine ez_go (n := 1) (pc' := 285) (L' := [(0, .inr (.inr (some (770)))), (1, .inr (.inr (some (l))))]) (st' := [.inl (0), .inr (.inr (some (770)))]) rfl ?_
        refine ez_cv hBg u770 rfl rfl rfl tq_75 rfl rfl rfl (rd_can0 (by omega) (by omega) (ez_Kp (xc_exc hBg rfl) rfl (k0 g τ1 _ hBg ⟨(hc).1, (hc).l2 (by omega)⟩ (by unfold qz_I; rw [(hc).2.2.1]) (fun w => by obtain ⟨m9, w1, w2⟩ := hH.mp w; cases m9 with | zero => omega | succ m9 => have w3 := w2.1; omega))))
      · skip
        refine ez_go (n := 2) (pc' := 285) (L' := [(0, .inr (.inr (some (770)))), (1, .inr (.inr (some (l))))]) (st' := [.inl (1), .inr (.inr (some (770)))]) rfl ?_
        refine ez_cv hBg u770 rfl rfl rfl tq_75 rfl rfl rfl (rd_can1 (by omega) (by omega) (ez_K0 ?_))
        obtain ⟨y1, y2⟩ := hP 0 (show T ≤ _ by omega)
        rw [Nat.add_zero, show nz_ev (mb h) T 0 (qz_I g 770 17) = [] from rfl, List.append_nil] at y2
        rw [Nat.add_zero] at y1
        exact ez_ret0 rfl rfl (k1 g τ1 c A pre.length hBg hc (by omega) hpl y1 (by omega) (by rw [hA9, y2]) hz)
    · skip
      exact rd_cokb (a := qz_I g 770 17) (T := T) (z := z) d5 h0 hpm hNh hr1 hr2 tpo t771 c0 (by omega) hBg hc (fun w => absurd w (by omega)) (fun g9 τ9 A9 q1 q2 q3 nE => k0 g9 τ9 A9 q1 q2 q3 (fun w => nE (by obtain ⟨m9, w1, w2⟩ := hH.mp w; cases m9 with | zero => exact absurd w2 (by show ¬ (T ≤ _); omega) | succ m9 => exact ⟨by omega, w2.1, w2.2.1⟩))) (by omega) rfl h18 hz
  | succ n ih =>
    intro c g τ1 A pre hn hBg hc c0 c18 hat h18 hH hz hpl hA9 hP
    have q := hc.at hBg
    have hmb := hc.oc d5 tpo t771
    have q6 := hc.2.2.2.2.2
    have u770 : τ1 770 = 75 := (hc.1.1 770 (by rw [d5.1]; decide)).1.trans d5.1
    have ul : τ1 l = 13 := (hc.1.1 l (by rw [d5.2.1]; decide)).1.trans d5.2.1
    have s18 : qz_I g 770 18 ≤ 4096 := (ez_fB (cl := 11) (k := 18) hBg u770 tq_75 rfl rfl (by decide)).2
    have e8 : qz_P g l 8 = qz_P h l 8 := by unfold qz_P qz_I; rw [hc.2.2.1]
    have ec : qz_I g (qz_P g l 8) (1 : Int).toNat = c := by rw [e8]; exact hc.2.2.2.1
    refine ez_go (n := 1) (pc' := 28) (L' := [(0, .inr (.inr (some (770)))), (1, .inr (.inr (some (l))))]) (st' := [.inr (.inr (some (770)))]) rfl ?_
    refine ez_gI hBg u770 rfl rfl tq_75 rfl rfl (fun (b1 : 0 ≤ qz_I g 770 17) (b1' : qz_I g 770 17 ≤ 4200) => ?_)
    refine ez_go (n := 1) (pc' := 32) (L' := [(0, .inr (.inr (some (770)))), (1, .inr (.inr (some (l))))]) (st' := [.inr (.inr (some (770))), .inl (qz_I g 770 17)]) rfl ?_
    refine ez_gI hBg u770 rfl rfl tq_75 rfl rfl (fun (b2 : 0 ≤ qz_I g 770 18) (b2' : qz_I g 770 18 ≤ 4096) => ?_)
    refine ez_icmp rfl rfl ⟨by first | omega | exact (sz_i32 _).1, by first | omega | exact (sz_i32 _).2⟩ ⟨by first | omega | exact (sz_i32 _).1, by first | omega | exact (sz_i32 _).2⟩ (fun (c3 : (qz_I g 770 18) ≤ (qz_I g 770 17)) => ?_) (fun (c3 : ¬((qz_I g 770 18) ≤ (qz_I g 770 17))) => ?_)
    · skip
      refine ez_go (n := 2) (pc' := 272) (L' := [(0, .inr (.inr (some (770)))), (1, .inr (.inr (some (l))))]) (st' := [.inr (.inr (some (l))), .inr (.inr (some (770)))]) rfl ?_
      refine ez_gR hBg ul rfl rfl tq_13 rfl rfl (fun (t4 : _ = 16) (t4' : 1 ≤ qz_I g l 8) => ?_)
      refine ez_go (n := 1) (pc' := 276) (L' := [(0, .inr (.inr (some (770)))), (1, .inr (.inr (some (l))))]) (st' := [.inl (1), .inr (.inr (some (qz_P g l 8))), .inr (.inr (some (770)))]) rfl ?_
      have n6 : 3 ≤ qz_N g (qz_P g l 8) ∧ qz_N g (qz_P g l 8) ≤ 3 := ez_len hBg t4 tq_16 rfl
      refine ez_aI hBg t4 rfl tq_16 rfl rfl (by omega) (by omega) (fun (b5 : 0 ≤ qz_I g (qz_P g l 8) (1 : Int).toNat) (b5' : qz_I g (qz_P g l 8) (1 : Int).toNat ≤ 18) => ?_)
      refine ez_if rfl rfl ⟨by first | omega | exact (sz_i32 _).1, by first | omega | exact (sz_i32 _).2⟩ (fun (c7 : (qz_I g (qz_P g l 8) (1 : Int).toNat) ≤ (0)) => ?_) (fun (c7 : ¬((qz_I g (qz_P g l 8) (1 : Int).toNat) ≤ (0))) => ?_)
      · skip
        refine ez_go (n := 1) (pc' := 285) (L' := [(0, .inr (.inr (some (770)))), (1, .inr (.inr (some (l))))]) (st' := [.inl (0), .inr (.inr (some (770)))]) rfl ?_
        refine ez_cv hBg u770 rfl rfl rfl tq_75 rfl rfl rfl (rd_can0 (by omega) (by omega) (ez_Kp (xc_exc hBg rfl) rfl (k0 g τ1 _ hBg ⟨(hc).1, (hc).l2 (by omega)⟩ (by unfold qz_I; rw [(hc).2.2.1]) (fun w => by obtain ⟨m9, w1, w2⟩ := hH.mp w; cases m9 with | zero => omega | succ m9 => have w3 := w2.1; omega))))
      · skip
        refine ez_go (n := 2) (pc' := 285) (L' := [(0, .inr (.inr (some (770)))), (1, .inr (.inr (some (l))))]) (st' := [.inl (1), .inr (.inr (some (770)))]) rfl ?_
        refine ez_cv hBg u770 rfl rfl rfl tq_75 rfl rfl rfl (rd_can1 (by omega) (by omega) (ez_K0 ?_))
        obtain ⟨y1, y2⟩ := hP 0 (show T ≤ _ by omega)
        rw [Nat.add_zero, show nz_ev (mb h) T 0 (qz_I g 770 17) = [] from rfl, List.append_nil] at y2
        rw [Nat.add_zero] at y1
        exact ez_ret0 rfl rfl (k1 g τ1 c A pre.length hBg hc (by omega) hpl y1 (by omega) (by rw [hA9, y2]) hz)
    · skip
      exact rd_cokb (a := qz_I g 770 17) (T := T) (z := z) d5 h0 hpm hNh hr1 hr2 tpo t771 c0 (by clear hH; omega) hBg hc (fun c17 p1 p2 g3 τ3 A3 b1 b2 b3 b4 b5 b6 b7 eA => rd_cokc (a := qz_I g 770 17) (T := T) (z := z) d5 h0 hpm hNh hr1 hr2 tpo t771 c0 (by clear hH; omega) b1 b2 (fun g4 τ4 e1 e2 e3 e4 e5 e6 e7 => ih (c + 1) g4 τ4 A3 (pre ++ [nz_v1 (mb h) (qz_I g 770 17)]) (by clear hH; omega) e1 e2 (by clear hH; omega) (by clear hH; omega) e3 e5 (hH.trans (els_next c0 e4 e6.1 e6.2)) e7 (by rw [List.length_append, List.length_singleton]; clear hH; omega) (by rw [eA, hA9, fl4_app, e4l_v, List.append_assoc]) (fun m hm => by have y := hP (m + 1) ⟨e6.1, e6.2, by rw [e4] at hm; exact hm⟩; rw [List.length_append, List.length_singleton, show pre.length + 1 + m = pre.length + (m + 1) by omega]; refine ⟨y.1, y.2.trans ?_⟩; rw [List.append_assoc, e4]; rfl)) (fun g9 τ9 A9 q1 q2 q3 nE => k0 g9 τ9 A9 q1 q2 q3 (fun w => nE (by obtain ⟨m9, w1, w2⟩ := hH.mp w; cases m9 with | zero => exact absurd w2 (by show ¬ (T ≤ _); omega) | succ m9 => exact ⟨by omega, w2.1, w2.2.1⟩))) b3 p1 p2 b4 b5 b6 b7) (fun g9 τ9 A9 q1 q2 q3 nE => k0 g9 τ9 A9 q1 q2 q3 (fun w => nE (by obtain ⟨m9, w1, w2⟩ := hH.mp w; cases m9 with | zero => exact absurd w2 (by show ¬ (T ≤ _); omega) | succ m9 => exact ⟨by omega, w2.1, w2.2.1⟩))) (by clear hH; omega) rfl h18 hz

end EzCqK
section EzCrK
variable {d : Nat} {h : cz_H} {τ : Nat → Nat} {Q : cz_F → Prop} {l : Nat} {s9 : Nat → Int}
theorem rd_collK (hB : ez_B τ h) (t770 : τ 770 = 75) (tl : τ l = 13) (hl : lz l) (usp : τ (qz_P h l 7) = 15) (ucp : τ (qz_P h l 8) = 16) (tpo : τ (po h) = 17) (h0 : 0 ≤ pn h) (hn : pn h ≤ qz_N h (po h)) (hpm : pn h + 75 ≤ 38400) (hNh : 1024 ≤ qz_N h (po h)) (hr1 : h.1 + 300 ≤ 600192) (hr2 : h.2.1 + 500000 ≤ 7302232) (hlg : l2 (qz_P h l 7) (qz_P h l 8) h) (hc0 : ∀ j, qz_I h (qz_P h l 8) j = 0) (hF : ∀ k, 0 ≤ k → k < 2 → (0 ≤ mf h k ∧ mf h k ≤ mt h k) ∧ mt h k ≤ 4096) (hTr : ∀ k, 0 ≤ k → k < 2 → mf h k < mt h k → ¬ bk (mb h (mf h k)) ∧ ¬ bk (mb h (mt h k - 1))) (k1 : ∀ g τ1 c A q vs, ez_B τ1 g → co τ h τ1 g l c 0 A → ((q : Nat) : Int) = c → rz_rw (mb h) 3 (mf h 0) (mt h 0) = some vs → nz_el (mb h) (mt h 1) q (mf h 1) → (1 ≤ q ∧ q ≤ 18) → A = vs ++ fl4 (nz_ev (mb h) (mt h 1) q (mf h 1)) → qz_I g (qz_P h l 8) 0 = (vs.length : Int) → qz_I g (qz_P h l 7) 0 = pn h → qz_I g (qz_P h l 7) 1 = pn h + (vs.length : Int) → Q (.inl none, g)) (k0 : ∀ g τ1 A, ez_B τ1 g → (pj (lX l (qz_P h l 7) (qz_P h l 8)) τ h τ1 g A ∧ l2 (qz_P h l 7) (qz_P h l 8) g) → qz_I g l 0 = qz_I h l 0 → ¬ rz_G4 (mb h) (mf h) (mt h) → Q (.inr g.1, xc g 1)) : ez_W (d + 9) cm_236 0 [(0, .inr (.inr (some (770)))), (1, .inr (.inr (some (l))))] [] h Q := by
  refine ez_go (n := 2) (pc' := 2) (L' := [(0, .inr (.inr (some (770)))), (1, .inr (.inr (some (l))))]) (st' := [.inl (0), .inr (.inr (some (770)))]) rfl ?_
  have F0 := hF 0 (by omega) (by omega)
  have F1 := hF 1 (by omega) (by omega)
  refine ez_cv hB t770 rfl rfl rfl tq_75 rfl rfl rfl (rd_field hB t770 (by omega) (by omega) (fun g1 hB1 m1 a1 s1 => ez_K0 ?_))
  have u1a : (g1).1 = h.1 := m1.1.1
  have u1b : (g1).2.1 = h.2.1 := m1.1.2.1
  have M1 : mw h g1 l := m1.mw
  refine ez_go (n := 4) (pc' := 9) (L' := [(0, .inr (.inr (some (770)))), (1, .inr (.inr (some (l))))]) (st' := [.inl (3), .inl (0), .inr (.inr (some (l))), .inr (.inr (some (770)))]) rfl ?_
  have e7 : qz_P g1 l 7 = qz_P h l 7 := by unfold qz_P; rw [m1.l hl.1 7]
  have e8 : qz_P g1 l 8 = qz_P h l 8 := by unfold qz_P; rw [m1.l hl.1 8]
  have np7 : po h ≠ 770 := fun e => by rw [e, t770] at tpo; cases tpo
  have npl : po h ≠ l := fun e => by rw [e, tl] at tpo; cases tpo
  have nc7 : qz_P h l 8 ≠ 770 := fun e => by rw [e, t770] at ucp; cases ucp
  have ncl : qz_P h l 8 ≠ l := fun e => by rw [e, tl] at ucp; cases ucp
  have eb := M1.b hl.2.1
  have eN : qz_N g1 (po h) = qz_N h (po h) := M1.N np7 npl
  have hsk : mf h 0 = rz_skip (mb h) (mt h 0 - mf h 0).toNat (mf h 0) := by
    by_cases e : mf h 0 < mt h 0
    · exact (skip_id (hTr 0 (by omega) (by omega) e).1).symm
    · rw [show (mt h 0 - mf h 0).toNat = 0 by omega]; rfl
  refine ez_cv hB1 t770 rfl rfl rfl tq_75 rfl rfl rfl (rd_row (s := mf h 0) hB1 t770 (ez_t771 hB t770) tl (by rw [e8]; exact ucp) (by rw [M1.epo]; exact tpo) hl.1 (by omega) (by omega) (by rw [M1.epn]; exact h0) (by rw [M1.epn, M1.epo, eN]; exact hn) (by rw [M1.epn]; omega) (by rw [M1.epo, eN]; exact hNh) (by omega) (by omega) (by omega) (by omega) (by omega) (by omega) (by omega) (by omega) (by rw [a1, s1, eb]; exact hsk) (by rw [a1, s1, eb]; exact fun w => (hTr 0 (by omega) (by omega) w).2) (by rw [e8, M1.I nc7 ncl]; exact hc0 _) (fun A hA g8 τ8 hB8 hk8 a17 hlc hsp hcp => ez_K0 ?_) (fun hA g8 τ8 A hB8 hk8 hlc hsp hcp => ez_Kp (xc_exc hB8 rfl) rfl (k0 g8 τ8 _ hB8 ⟨(M1.jp (lX_l l (qz_P h l 7) (qz_P h l 8)) t770 tl tpo hn).trans (hk8.jp (fun q hq => by rw [e7, e8]; exact lX_r hq)) h0, l2.row (hlg.mw M1 t770 tl usp ucp tpo) (by rw [e7, e8] at hk8; exact hk8) (by rw [e7] at hsp; exact hsp) (by rw [e8] at hcp; exact hcp)⟩ (by unfold qz_I; rw [hlc]; exact m1.l hl.1 0) (fun w => w.1 (by rw [eb, s1] at hA; exact hA)))))
  rw [e7, e8] at hk8; rw [e7] at hsp; rw [e8] at hcp
  have h3 := rw_18 hA
  have hrw : rz_rw (mb h) 3 (mf h 0) (mt h 0) = some A := by rw [eb, s1] at hA; exact hA
  have hp := (M1.jp (lX_l l (qz_P h l 7) (qz_P h l 8)) t770 tl tpo hn).trans (hk8.jp (fun q hq => lX_r hq)) h0
  rw [List.nil_append] at hp
  have hg : lg (qz_P h l 7) (qz_P h l 8) g8 := (l2.row (hlg.mw M1 t770 tl usp ucp tpo) hk8 hsp hcp).1
  have hl8 : g8.2.2 l = h.2.2 l := hlc.trans (m1.1.2.2 l (dz_beq_ne hl.1))
  have u770 : τ8 770 = 75 := (hp.1 770 (by rw [t770]; decide)).1.trans t770
  have ul : τ8 l = 13 := (hp.1 l (by rw [tl]; decide)).1.trans tl
  have ef : mf g8 1 = mf h 1 := by unfold mf qz_I; rw [hp.f tpo usp ucp tl (ez_t789 hB t770) rfl (by decide)]
  have et : mt g8 1 = mt h 1 := by unfold mt qz_I; rw [hp.f tpo usp ucp tl (ez_t790 hB t770) rfl (by decide)]
  have rr := hp.2.2.2.2.2.2.2.2.1
  have rp := pool_le hB8 hp.2.2.1
  have hpn9 := hp.2.2.2.2.1
  have pm : pn g8 = qz_I g8 770 10 := rfl
  refine ez_go (n := 2) (pc' := 14) (L' := [(0, .inr (.inr (some (770)))), (1, .inr (.inr (some (l))))]) (st' := [.inl (1), .inr (.inr (some (770)))]) rfl ?_
  refine ez_cv hB8 u770 rfl rfl rfl tq_75 rfl rfl rfl (rd_field hB8 u770 (by omega) (by omega) (fun g9 hB9 m9 a9 s9 => ez_K0 ?_))
  rw [ef] at a9; rw [et] at s9
  have j9 : ∀ j, qz_I g9 l j = qz_I g8 l j := fun j => m9.l hl.1 j
  have e79 : qz_P g9 l 7 = qz_P h l 7 := by unfold qz_P; rw [j9]; unfold qz_I; rw [hl8]
  have en9 : pn g9 = pn g8 := m9.2 10 (by decide) (by decide)
  refine ez_go (n := 1) (pc' := 18) (L' := [(0, .inr (.inr (some (770)))), (1, .inr (.inr (some (l))))]) (st' := [.inr (.inr (some (l)))]) rfl ?_
  refine ez_gR hB9 ul rfl rfl tq_13 rfl rfl (fun (t1 : _ = 15) (t1' : 1 ≤ qz_I g9 l 7) => ?_)
  refine ez_go (n := 2) (pc' := 23) (L' := [(0, .inr (.inr (some (770)))), (1, .inr (.inr (some (l))))]) (st' := [.inr (.inr (some (770))), .inl (1), .inr (.inr (some (qz_P g9 l 7)))]) rfl ?_
  refine ez_gI hB9 u770 rfl rfl tq_75 rfl rfl (fun (b2 : 0 ≤ qz_I g9 770 10) (b2' : qz_I g9 770 10 ≤ 38500) => ?_)
  have n5 : 3 ≤ qz_N g9 (qz_P g9 l 7) ∧ qz_N g9 (qz_P g9 l 7) ≤ 3 := ez_len hB9 t1 tq_15 rfl
  refine ez_as hB9 t1 rfl tq_15 rfl rfl (by omega) (by omega) (ez_vdI rfl rfl (by omega) (by omega)) (fun hB3 w4 => ?_)
  refine ez_less [(0, .inr (.inr (some (770)))), (1, .inr (.inr (some (l))))] rfl ⟨rfl, rfl, trivial⟩ ?_
  have f2 : ez_fr (ez_one (qz_P g9 l 7)) g9 (dz_put g9 (qz_P g9 l 7) (1 : Int).toNat (ez_v (.inl (qz_I g9 770 10)))) := (ez_fr.refl (ez_one (qz_P g9 l 7)) g9).put (show Nat.beq _ _ = true from Nat.beq_refl _) _ _
  have v2 : qz_I (dz_put g9 (qz_P g9 l 7) (1 : Int).toNat (ez_v (.inl (qz_I g9 770 10)))) (qz_P g9 l 7) 1 = pn g9 := w4.trans (rz_rd ⟨by omega, by omega⟩)
  have w2 : ∀ j, j ≠ 1 → qz_I (dz_put g9 (qz_P g9 l 7) (1 : Int).toNat (ez_v (.inl (qz_I g9 770 10)))) (qz_P g9 l 7) j = qz_I g9 (qz_P g9 l 7) j := fun j hj => ez_put_I (fun w => hj w.2)
  have hB2 := hB3
  generalize (dz_put g9 (qz_P g9 l 7) (1 : Int).toNat (ez_v (.inl (qz_I g9 770 10)))) = g2 at *
  rw [e79] at f2 v2 w2
  have ns7 : qz_P h l 7 ≠ 770 := fun e => by rw [e, t770] at usp; cases usp
  have nsl : qz_P h l 7 ≠ l := fun e => by rw [e, tl] at usp; cases usp
  have nsc : qz_P h l 7 ≠ qz_P h l 8 := fun e => by rw [e, ucp] at usp; cases usp
  have nsp : qz_P h l 7 ≠ po g8 := fun e => by have q := hp.2.2.1; rw [← e, (hp.1 _ (by rw [usp]; decide)).1, usp] at q; cases q
  have np7' : po g8 ≠ 770 := fun e => by have q := hp.2.2.1; rw [e, u770] at q; cases q
  have i0 : ∀ j, j ≠ 17 → j ≠ 18 → qz_I g2 770 j = qz_I g8 770 j := fun j q1 q2 => by rw [f2.I (dz_beq_ne (Ne.symm ns7))]; exact m9.2 j q1 q2
  have ep2 : po g2 = po g8 := by unfold po qz_P; rw [i0 9 (by decide) (by decide)]
  have en2 : pn g2 = pn g8 := i0 10 (by decide) (by decide)
  have oth : ∀ q, q ≠ 770 → q ≠ qz_P h l 7 → g2.2.2 q = g8.2.2 q := fun q q1 q2 => by rw [f2.2.2 q (dz_beq_ne q2)]; exact m9.1.2.2 q (dz_beq_ne q1)
  have eN2 : qz_N g2 (po g8) = qz_N g8 (po g8) := by unfold qz_N; rw [oth _ np7' (Ne.symm nsp)]
  have C2 : ∀ j, qz_I g2 (qz_P h l 8) j = qz_I g8 (qz_P h l 8) j := fun j => by unfold qz_I; rw [oth _ nc7 (Ne.symm nsc)]
  have S2 : ∀ j, j ≠ 1 → qz_I g2 (qz_P h l 7) j = qz_I g8 (qz_P h l 7) j := fun j hj => by rw [w2 j hj]; exact m9.1.I (dz_beq_ne ns7) j
  have r2 : g2.1 = g8.1 ∧ g2.2.1 = g8.2.1 := ⟨f2.1.trans m9.1.1, f2.2.1.trans m9.1.2.1⟩
  have p2 : pj (lX l (qz_P h l 7) (qz_P h l 8)) τ8 g8 τ8 g2 [] := ⟨fun q hq => ⟨rfl, fun q1 q2 q3 => oth q q1 (fun e => by rw [e] at q3; unfold lX at q3; rw [Nat.beq_refl, Bool.true_or, Bool.or_true] at q3; cases q3)⟩, fun q q1 q2 => absurd q1 q2, by rw [ep2]; exact hp.2.2.1, fun j _ _ j1 j2 => i0 j j1 j2, by rw [en2]; simp, fun j _ _ => by unfold pl qz_I; rw [ep2, oth _ np7' (Ne.symm nsp)], fun j v hv => by simp at hv, by rw [ep2, eN2, en2]; exact ⟨hp.2.2.2.2.2.2.2.1.1, Int.le_refl _⟩, by rw [ep2, eN2, r2.1, r2.2]; omega, by rw [r2.1, r2.2]; omega, Or.inl ep2⟩
  have P2 := hp.trans p2 h0
  rw [List.append_nil] at P2
  have z1 : qz_I g8 (qz_P h l 8) 1 = 0 := by rw [hcp 1, if_neg (by decide), M1.I nc7 ncl]; exact hc0 1
  have hN8 := hp.2.2.2.2.2.2.2.1.1
  refine rd_cokl (A0 := A) (s9 := fun j => qz_I g2 (qz_P h l 7) j) (d := d + 1) (S := mf h 1) (T := mt h 1) (z := (A.length : Int)) ⟨t770, tl, usp, ucp⟩ h0 hpm hNh (by omega) (by omega) tpo (ez_t771 hB t770) (fun g τ1 c A2 q b1 b2 b3 b4 b5 b6 b7 b8 => k1 g τ1 c A2 q A b1 b2 b4 hrw b5 b6 b7 b8.1 (by rw [b8.2 0]; show qz_I g2 (qz_P h l 7) 0 = _; rw [S2 0 (by decide), hsp 0, if_pos (show (0 : Nat) = (0 : Int).toNat from rfl)]; exact M1.epn) (by rw [b8.2 1]; show qz_I g2 (qz_P h l 7) 1 = _; rw [v2, en9]; exact hpn9)) (fun g τ1 A2 b1 b2 b3 b4 => k0 g τ1 A2 b1 b2 b3 (fun w => b4 w.2)) _ 0 g2 τ8 A [] rfl hB2 ⟨P2, fun j => ?_, ?_, ?_, ?_, by omega⟩ (by omega) (by omega) ?_ (by rw [f2.I (dz_beq_ne (Ne.symm ns7))]; exact s9) (by rw [show qz_I g2 770 17 = mf h 1 by rw [f2.I (dz_beq_ne (Ne.symm ns7))]; exact a9]; unfold nz_els; exact ⟨fun ⟨q, q1, q2⟩ => ⟨q, by omega, q2⟩, fun ⟨q, q1, q2⟩ => ⟨q, by omega, q2⟩⟩) ⟨by rw [C2, hcp 0]; exact if_pos rfl, fun _ => rfl⟩ rfl (by rw [show fl4 [] = [] from rfl, List.append_nil]) (fun m hm => by rw [show qz_I g2 770 17 = mf h 1 by rw [f2.I (dz_beq_ne (Ne.symm ns7))]; exact a9] at hm ⊢; rw [List.length_nil, Nat.zero_add]; exact ⟨hm, rfl⟩)
  · rw [C2, ep2, eN2]
    by_cases e : j = 1
    · rw [e, v2, z1, en9]; omega
    · rw [S2 j e]; exact hg j
  · exact (oth l hl.1 (Ne.symm nsl)).trans hl8
  · rw [C2]; exact z1
  · rw [v2, en9, en2]; omega
  · rw [f2.I (dz_beq_ne (Ne.symm ns7)), f2.I (dz_beq_ne (Ne.symm ns7)), a9, s9]; omega

end EzCrK

/-! COLLATION: the model's LINES stay, and there is one more. -/
def oL (h g : cz_H) : Prop := lc g = lc h ∧ (∀ k : Nat, (k : Int) < lc h → qz_P g (ls g) k = qz_P h (ls h) k ∧ g.2.2 (qz_P h (ls h) k) = h.2.2 (qz_P h (ls h) k) ∧ g.2.2 (qz_P h (ls h) k + 1) = h.2.2 (qz_P h (ls h) k + 1) ∧ g.2.2 (qz_P h (ls h) k + 2) = h.2.2 (qz_P h (ls h) k + 2)) ∧ ∀ j, 0 ≤ j → j < pn h → pl g j = pl h j
theorem oL.trans {h g k : cz_H} (a : oL h g) (b : oL g k) (hn : pn h ≤ pn g) : oL h k := by
  refine ⟨b.1.trans a.1, fun i hi => ?_, fun j j0 j1 => (b.2.2 j j0 (by omega)).trans (a.2.2 j j0 j1)⟩
  obtain ⟨a1, a2, a3, a4⟩ := a.2.1 i hi
  obtain ⟨b1, b2, b3, b4⟩ := b.2.1 i (by rw [a.1]; exact hi)
  rw [a1] at b1 b2 b3 b4
  exact ⟨b1, b2.trans a2, b3.trans a3, b4.trans a4⟩
theorem mC.o {h g : cz_H} {Cs : List cEo} (m : mC h Cs) (a : oL h g) (hn : pn h ≤ pn g) : mC g Cs := by
  refine ⟨m.1.trans a.1.symm, fun k c hk => ?_⟩
  have hl : (k : Int) < lc h := by have := (List.getElem?_eq_some_iff.mp hk).1; have := m.1; omega
  obtain ⟨a1, a2, a3, a4⟩ := a.2.1 k hl
  rw [a1]
  exact (m.2 k c hk).tr (by unfold qz_I; rw [a2]) (fun j => by unfold qz_I; rw [a3]) (fun j => by unfold qz_I; rw [a4]) hn a.2.2
/-- all but some fields of the model -/
theorem oL.f {τ : Nat → Nat} {h g : cz_H} {Ls : List vz} {b : Int} (hI : mI τ h Ls b) (f : ∀ q, τ q ≠ 0 → q ≠ 770 → (τ q = 13 ∨ τ q = 15 ∨ τ q = 16 ∨ τ q = 17 ∨ τ q = 18) → g.2.2 q = h.2.2 q) (i : ∀ j, j = 9 ∨ j = 11 ∨ j = 12 → qz_I g 770 j = qz_I h 770 j) : oL h g := by
  have t770 : τ 770 = 75 := hI.2.1 770 (by decide)
  obtain ⟨tl, tp⟩ := ez_tls hI.1 t770
  have n7 : ∀ {q t : Nat}, τ q = t → t ≠ 75 → q ≠ 770 := fun {q t} e ne w => ne (by rw [← e, w]; exact t770)
  have el : ls g = ls h := by unfold ls qz_P; rw [i 11 (by decide)]
  have ep : po g = po h := by unfold po qz_P; rw [i 9 (by decide)]
  have cl := f (ls h) (by rw [tl]; decide) (n7 tl (by decide)) (by rw [tl]; decide)
  have cp := f (po h) (by rw [tp]; decide) (n7 tp (by decide)) (by rw [tp]; decide)
  refine ⟨i 12 (by decide), fun k hk => ?_, fun j _ _ => by unfold pl qz_I; rw [ep, cp]⟩
  obtain ⟨t0, t1, t2⟩ := hI.L hk
  exact ⟨by rw [el]; unfold qz_P qz_I; rw [cl], f _ (by rw [t0]; decide) (n7 t0 (by decide)) (by rw [t0]; decide), f _ (by rw [t1]; decide) (n7 t1 (by decide)) (by rw [t1]; decide), f _ (by rw [t2]; decide) (n7 t2 (by decide)) (by rw [t2]; decide)⟩
theorem oL.aq {τ τ1 : Nat → Nat} {h g : cz_H} {Ls : List vz} {b : Int} {l : Nat} {kd : Int} (hI : mI τ h Ls b) (a : aq τ h τ1 g l kd) : oL h g :=
  oL.f hI (fun q _ _ hq => by
    rcases hq with e | e | e | e | e <;> exact a.c hI.2.1 e rfl) (fun j hj => a.2.2.2.2.2.2.2.1 j (by omega) (by omega))
theorem oL.lq {τ τ1 : Nat → Nat} {h g : cz_H} {Ls : List vz} {b : Int} {l : Nat} {A : List Int} {e : Int} (hI : mI τ h Ls b) (hl : τ l = 13 ∧ τ (l + 1) = 15 ∧ τ (l + 2) = 16) (hn : ∀ i : Nat, (i : Int) < lc h → qz_P h (ls h) i ≠ l) (q : lq (lX l (l + 1) (l + 2)) τ h τ1 g A e) : oL h g := by
  have t770 : τ 770 = 75 := hI.2.1 770 (by decide)
  obtain ⟨tl, tp⟩ := ez_tls hI.1 t770
  obtain ⟨q1, q2, q3, q4, q5, q6, q7⟩ := q
  have el : ls g = ls h := by unfold ls qz_P; rw [q4 11 (by decide) (by decide) (by decide) (by decide)]
  have cl : g.2.2 (ls h) = h.2.2 (ls h) := (q1 _ (by rw [tl]; decide)).2 (fun e => by rw [e, t770] at tl; cases tl) (fun e => by rw [e, tp] at tl; cases tl) (lX_tag hl tl rfl) (by rw [tl]; decide) (by rw [tl]; decide)
  refine ⟨q4 12 (by decide) (by decide) (by decide) (by decide), fun k hk => ?_, q6⟩
  have tk := hI.L hk
  obtain ⟨x1, x2, x3⟩ := lX_ln hl tk (hn k hk)
  have c' : ∀ {q t : Nat}, τ q = t → t = 13 ∨ t = 15 ∨ t = 16 → lX l (l + 1) (l + 2) q = false → g.2.2 q = h.2.2 q := fun {q t} hq ht hx =>
    (q1 q (by omega)).2 (fun e => by rw [e, t770] at hq; omega) (fun e => by rw [e, tp] at hq; omega) hx (by omega) (by omega)
  exact ⟨by rw [el]; unfold qz_P qz_I; rw [cl], c' tk.1 (Or.inl rfl) x1, c' tk.2.1 (Or.inr (Or.inl rfl)) x2, c' tk.2.2 (Or.inr (Or.inr rfl)) x3⟩
theorem mC.lu {τ τ1 : Nat → Nat} {h g : cz_H} {Ls : List vz} {b : Int} {l : Nat} {Cs : List cEo} {c : cEo} (m : mC h Cs) (hI : mI τ h Ls b) (hl : τ l = 13 ∧ τ (l + 1) = 15 ∧ τ (l + 2) = 16) (u : lu τ h τ1 g l) (hc : mCl h l c) : mC g (Cs ++ [c]) := by
  have t770 : τ 770 = 75 := hI.2.1 770 (by decide)
  obtain ⟨tl, tp⟩ := ez_tls hI.1 t770
  obtain ⟨u1, u2, u3, u4, u5, u6, u7, u8, u9⟩ := u
  have C : ∀ {q t : Nat}, τ q = t → t ≠ 0 → t ≠ 75 → t ≠ 18 → g.2.2 q = h.2.2 q := fun {q t} e n0 n1 n2 => (u1 q (by omega)).2 (fun w => n1 (by rw [← e, w]; exact t770)) (fun w => n2 (by rw [← e, w]; exact tl))
  have ep : po g = po h := by unfold po qz_P; rw [u4 9 (by decide) (by decide) (by decide)]
  have en : pn g = pn h := u4 10 (by decide) (by decide) (by decide)
  have hp : ∀ j, 0 ≤ j → j < pn h → pl g j = pl h j := fun j _ _ => by unfold pl qz_I; rw [ep, C tp (by decide) (by decide) (by decide)]
  have T : ∀ {z : Nat} {c : cEo}, (τ z = 13 ∧ τ (z + 1) = 15 ∧ τ (z + 2) = 16) → mCl h z c → mCl g z c := fun {z c} t mz =>
    mz.tr (by unfold qz_I; rw [C t.1 (by decide) (by decide) (by decide)]) (fun j => by unfold qz_I; rw [C t.2.1 (by decide) (by decide) (by decide)]) (fun j => by unfold qz_I; rw [C t.2.2 (by decide) (by decide) (by decide)]) (Int.le_of_eq en.symm) hp
  have m1 := m.1
  have l0 : 0 ≤ lc h := by omega
  refine ⟨by rw [List.length_append, u5]; show ((Cs.length + 1 : Nat) : Int) = _; omega, fun k c9 hk => ?_⟩
  by_cases e : k < Cs.length
  · rw [List.getElem?_append_left e] at hk
    have hlk : (k : Int) < lc h := by omega
    rw [show qz_P g (ls g) k = qz_P h (ls h) k by unfold qz_P; rw [u7 k hlk]]
    exact T (hI.L hlk) (m.2 k c9 hk)
  · rw [List.getElem?_append_right (by omega)] at hk
    have e0 : k - Cs.length = 0 := Classical.byContradiction fun q => by rw [List.getElem?_eq_none (by rw [List.length_singleton]; omega)] at hk; cases hk
    rw [e0] at hk; cases hk
    rw [show qz_P g (ls g) k = l by unfold qz_P; rw [show k = (lc h).toNat by omega, u8]; omega]
    exact T hl hc
/-- what collation leaves, as a LINE -/
theorem mCl_co {τ τ1 : Nat → Nat} {h g : cz_H} {l q : Nat} {c : Int} {A vs : List Int} {es : List eL} (hB : ez_B τ h) (tl : τ l = 13) (x : co τ h τ1 g l c 0 A) (k4 : qz_I h l 0 = 4) (h0 : 0 ≤ pn h) (qc : (q : Int) = c) (ql : es.length = q) (q1 : 1 ≤ q ∧ q ≤ 18) (eA : A = vs ++ fl4 es) (ok : ∀ e ∈ es, eok e) (rk : rowk vs) (c0 : qz_I g (qz_P h l 8) 0 = (vs.length : Int)) (s0 : qz_I g (qz_P h l 7) 0 = pn h) (s1 : qz_I g (qz_P h l 7) 1 = pn h + (vs.length : Int)) : mCl g l (some (vs, es)) := by
  obtain ⟨e7, e8⟩ := ez_l78 hB tl
  rw [e7] at s0 s1; rw [e8] at c0
  obtain ⟨p, x2, x3, x4, x5, x6⟩ := x
  rw [e8] at x4
  have pnA := p.2.2.2.2.1
  have ap := p.2.2.2.2.2.2.1
  have fl := fl4_len es
  have la : (A.length : Int) = (vs.length : Int) + 4 * (es.length : Int) := by rw [eA, List.length_append, fl]; omega
  refine ⟨fun e => (by cases e), fun a ha => ?_⟩
  cases ha
  have at2 : ∀ (j : Nat) v, (fl4 es)[j]? = some v → pl g (pn h + (vs.length : Int) + (j : Int)) = v := fun j v hv => by
    have := ap (vs.length + j) v (by rw [eA, List.getElem?_append_right (by omega), show vs.length + j - vs.length = j by omega]; exact hv)
    rw [show pn h + (vs.length : Int) + (j : Int) = pn h + ((vs.length + j : Nat) : Int) by omega]; exact this
  have la1 : ((((vs, es) : List Int × List eL).1.length : Nat) : Int) = (vs.length : Int) := rfl
  have la2 : ((((vs, es) : List Int × List eL).2.length : Nat) : Int) = (es.length : Int) := rfl
  refine ⟨by unfold qz_I; rw [x3]; exact k4, ⟨c0, by rw [s0]; exact h0, by rw [s0, pnA]; omega, fun j v hv => ?_⟩, rk, ⟨by rw [x4, ← qc, ql], by rw [s1]; omega, by rw [s1, pnA]; omega⟩, fun j e hj => ?_, ok, by omega, by omega⟩
  · rw [s0]
    exact ap j v (by rw [eA, List.getElem?_append_left (List.getElem?_eq_some_iff.mp hv).1]; exact hv)
  · obtain ⟨f0, f1, f2, f3⟩ := fl4_at es j e hj
    rw [s1]
    have g0 := at2 _ _ f0; have g1 := at2 _ _ f1; have g2 := at2 _ _ f2; have g3 := at2 _ _ f3
    refine ⟨?_, ?_, ?_, ?_⟩
    · rw [show pn h + (vs.length : Int) + 4 * (j : Int) = pn h + (vs.length : Int) + ((4 * j : Nat) : Int) by omega]; exact g0
    · rw [show pn h + (vs.length : Int) + 4 * (j : Int) + 1 = pn h + (vs.length : Int) + ((4 * j + 1 : Nat) : Int) by omega]; exact g1
    · rw [show pn h + (vs.length : Int) + 4 * (j : Int) + 2 = pn h + (vs.length : Int) + ((4 * j + 2 : Nat) : Int) by omega]; exact g2
    · rw [show pn h + (vs.length : Int) + 4 * (j : Int) + 3 = pn h + (vs.length : Int) + ((4 * j + 3 : Nat) : Int) by omega]; exact g3

/-! COLLATION: line on both sides. (Written by wip/p2/py/pvk20.py.) -/
section EzKj
variable {d : Nat} {h : cz_H} {τ : Nat → Nat} {Q : cz_F → Prop} {LK : List Int → Option (List eL)} {R : List (List Int × List eL)} {F : rz_W} {E : Int → Prop} {D : Int → xD}
theorem rd_lineK0 (hI : jz_I τ h F E) (hX : jx τ h D) (ce : cEr τ h LK R) (lr : (R.length : Int) ≤ qz_I h 202 5) (hl : qz_I h 192 1 = 0 ∨ qz_I h 202 5 ≤ 255) (hr1 : h.1 + 5 ≤ 600192) (hr2 : h.2.1 + 65 ≤ 7302232) (kS : qz_I h 202 6 ≠ 0 → Q (.inr h.1, xc h 2)) (kC : qz_I h 202 6 = 0 → ∀ o g cc R2, cErU g (lk1 LK cc) R2 → lnc (rz_b h) (qz_I h 192 1) 0 cc → (R2.length : Int) ≤ qz_I g 202 5 → Q (o, g)) : ez_W (d + 9) cm_21 0 [(0, .inr (.inr (some (192)))), (1, .inl (0))] [] h Q := by
  have t192 : τ 192 = 44 := hI.2.1 192 (by decide)
  refine ez_go (n := 3) (pc' := 3) (L' := [(0, .inr (.inr (some (192)))), (1, .inl (0))]) (st' := [.inl (4), .inl (0), .inl (0)]) rfl ?_
  refine ez_cs hI.1.2.1 rfl rfl rfl rfl rfl (rd_reqRange ⟨by decide, by decide⟩ ⟨by decide, by decide⟩ ⟨by decide, by decide⟩ (by omega) (by omega) (fun _ _ => ez_K0 ?_) (fun w => by omega))
  refine ez_go (n := 1) (pc' := 7) (L' := [(0, .inr (.inr (some (192)))), (1, .inl (0))]) (st' := [.inr (.inr (some (192)))]) rfl ?_
  refine ez_cv hI.1 t192 rfl rfl rfl tq_44 rfl rfl rfl (rd_reqOpen hI.1 t192 (by omega) (by omega) (fun ho => ez_K0 ?_) (fun ho => ez_Kp (xc_exc hI.1 rfl) rfl (kS ho)))
  refine ez_go (n := 1) (pc' := 11) (L' := [(0, .inr (.inr (some (192)))), (1, .inl (0))]) (st' := [.inr (.inr (some (192)))]) rfl ?_
  refine ez_gI hI.1 t192 rfl rfl tq_44 rfl rfl (fun (b1 : 0 ≤ qz_I h 192 1) (b1' : qz_I h 192 1 ≤ 4096) => ?_)
  refine ez_go (n := 3) (pc' := 17) (L' := [(2, .inl (qz_I h 192 1)), (0, .inr (.inr (some (192)))), (1, .inl (0))]) (st' := [.inl (0), .inr (.inr (some (192)))]) rfl ?_
  refine ez_pf hI.1 t192 rfl rfl tq_44 rfl rfl rfl rfl (ez_vdI rfl rfl (by omega) (by omega)) (fun hB2 w3 => ?_)
  refine ez_go (n := 1) (pc' := 21) (L' := [(2, .inl (qz_I h 192 1)), (0, .inr (.inr (some (192)))), (1, .inl (0))]) (st' := [.inr (.inr (some (192)))]) rfl ?_
  refine ez_gC (p := 720) (tg := 52) hB2 t192 rfl rfl tq_44 rfl rfl (fun (t720 : _ = 52) => ?_)
  refine ez_go (n := 2) (pc' := 26) (L' := [(2, .inl (qz_I h 192 1)), (0, .inr (.inr (some (192)))), (1, .inl (0))]) (st' := [.inl (qz_I h 192 1), .inl (0), .inr (.inr (some (720)))]) rfl ?_
  have hI1 : jz_I τ (dz_put h 192 1 (ez_v (.inl (0)))) F E := jz_put hI hB2 (by decide) (by decide) (by decide) (by rw [t192]; decide)
  have hX1 : jx τ (dz_put h 192 1 (ez_v (.inl (0)))) D := jx_put hI hX (by decide) (by decide) (by rw [t192]; decide)
  have q202 : ∀ j, qz_I (dz_put h 192 1 (ez_v (.inl (0)))) 202 j = qz_I h 202 j := fun j => ez_put_I (by omega)
  have b1 : rz_b (dz_put h 192 1 (ez_v (.inl (0)))) = rz_b h := funext fun i => ez_put_I (by omega)
  have fp : ez_fr (ez_one 192) h (dz_put h 192 1 (ez_v (.inl (0)))) := (ez_fr.refl (ez_one 192) h).put rfl _ _
  have c1 : ((dz_put h 192 1 (ez_v (.inl (0))))).1 = h.1 := rfl
  have c2 : ((dz_put h 192 1 (ez_v (.inl (0))))).2.1 = h.2.1 := rfl
  have kk := kC ho
  generalize (dz_put h 192 1 (ez_v (.inl (0)))) = h1 at *
  have ce1 : cEr τ h1 LK R := (eKp.o hI.2.1 fp (by decide)).u ce
  have tA : ez_W (d + 8) cm_174 0 [(0, .inr (.inr (some (720)))), (1, .inl (0)), (2, .inl (qz_I h 192 1))] [] h1 (fun G => ∃ g v, G = (.inl (some (ez_v (.inl v))), g) ∧ (-1 ≤ v ∧ v ≤ 1114112) ∧ g.1 ≤ h1.1 + 4 ∧ g.2.1 ≤ h1.2.1 + 59) := rd_take0 hI1 hX1 (by omega) (by omega) (by rw [q202]; exact hl) (by omega) (by omega) (fun g τ1 F2 E2 v D2 _ x _ hv _ _ _ _ => ⟨g, v, rfl, by omega, x.2.1.2, x.2.2.2⟩)
  have tB : ez_W (d + 8) cm_174 0 [(0, .inr (.inr (some (720)))), (1, .inl (0)), (2, .inl (qz_I h 192 1))] [] h1 (fun G => ∃ τ1 cc R2, ez_B τ1 G.2 ∧ jz_X τ1 ∧ cEr τ1 G.2 (lk1 LK cc) R2 ∧ lnc (rz_b h1) (qz_I h 192 1) 0 cc ∧ (R2.length : Int) ≤ qz_I G.2 202 5) := rd_takeK0 hI1 hX1 ce1 (by rw [q202]; exact lr) (by omega) (by omega) (by rw [q202]; exact hl) (by omega) (by omega) (fun g τ1 v cc R2 hB2 X2 ce2 lc2 lr2 => ⟨τ1, cc, R2, hB2, X2, ce2, lc2, lr2⟩)
  refine ez_cv hI1.1 t720 rfl rfl rfl tq_52 rfl rfl rfl (ez_mono (ez_and tA tB) (fun G hG => ?_))
  obtain ⟨⟨g, v, rfl, vb9, gr1, gr2⟩, τ1, cc, R2, hB2, X2, ce2, lc2, lr2⟩ := hG
  have hB2 : ez_B τ1 g := hB2
  have ce2 : cEr τ1 g (lk1 LK cc) R2 := ce2
  have lr2 : (R2.length : Int) ≤ qz_I g 202 5 := lr2
  refine ez_K1 ?_
  rw [b1] at lc2
  refine ez_go (n := 3) (pc' := 32) (L' := [(3, .inl (v)), (2, .inl (qz_I h 192 1)), (0, .inr (.inr (some (192)))), (1, .inl (0))]) (st' := [.inl (-1), .inl (v)]) rfl ?_
  refine ez_icmp rfl rfl ⟨by first | omega | exact (sz_i32 _).1, by first | omega | exact (sz_i32 _).2⟩ ⟨by first | omega | exact (sz_i32 _).1, by first | omega | exact (sz_i32 _).2⟩ (fun (c4 : (v) ≠ (-1)) => ?_) (fun (c4 : ¬((v) ≠ (-1))) => ?_)
  · skip
    refine ez_go (n := 1) (pc' := 44) (L' := [(3, .inl (v)), (2, .inl (qz_I h 192 1)), (0, .inr (.inr (some (192)))), (1, .inl (0))]) (st' := [.inl (v)]) rfl ?_
    exact ez_retI rfl rfl (kk _ g cc R2 ce2.u lc2 lr2)
  · skip
    refine ez_th rfl rfl (by omega) (by omega) (by omega) rfl ?_
    have x9 := xc_xt (k := 3) hB2
    exact kk _ (xc g 3) cc R2 ((eKp.xt X2 x9).u ce2).u lc2 (by rw [show qz_I (xc g 3) 202 5 = qz_I g 202 5 from x9.I (by rw [X2 202 (by decide)]; decide) 5]; exact lr2)

theorem rd_lineK1 (hI : jz_I τ h F E) (hX : jx τ h D) (ce : cEr τ h LK R) (lr : (R.length : Int) ≤ qz_I h 202 5) (hl : qz_I h 192 1 = 0 ∨ qz_I h 202 5 ≤ 255) (hr1 : h.1 + 5 ≤ 600192) (hr2 : h.2.1 + 65 ≤ 7302232) (kS : qz_I h 202 6 ≠ 0 → Q (.inr h.1, xc h 2)) (kC : qz_I h 202 6 = 0 → ∀ o g cc R2, cErU g (lk1 LK cc) R2 → lnc (rz_b h) (qz_I h 192 1) 1 cc → (R2.length : Int) ≤ qz_I g 202 5 → Q (o, g)) : ez_W (d + 9) cm_21 0 [(0, .inr (.inr (some (192)))), (1, .inl (1))] [] h Q := by
  have t192 : τ 192 = 44 := hI.2.1 192 (by decide)
  refine ez_go (n := 3) (pc' := 3) (L' := [(0, .inr (.inr (some (192)))), (1, .inl (1))]) (st' := [.inl (4), .inl (0), .inl (1)]) rfl ?_
  refine ez_cs hI.1.2.1 rfl rfl rfl rfl rfl (rd_reqRange ⟨by decide, by decide⟩ ⟨by decide, by decide⟩ ⟨by decide, by decide⟩ (by omega) (by omega) (fun _ _ => ez_K0 ?_) (fun w => by omega))
  refine ez_go (n := 1) (pc' := 7) (L' := [(0, .inr (.inr (some (192)))), (1, .inl (1))]) (st' := [.inr (.inr (some (192)))]) rfl ?_
  refine ez_cv hI.1 t192 rfl rfl rfl tq_44 rfl rfl rfl (rd_reqOpen hI.1 t192 (by omega) (by omega) (fun ho => ez_K0 ?_) (fun ho => ez_Kp (xc_exc hI.1 rfl) rfl (kS ho)))
  refine ez_go (n := 1) (pc' := 11) (L' := [(0, .inr (.inr (some (192)))), (1, .inl (1))]) (st' := [.inr (.inr (some (192)))]) rfl ?_
  refine ez_gI hI.1 t192 rfl rfl tq_44 rfl rfl (fun (b1 : 0 ≤ qz_I h 192 1) (b1' : qz_I h 192 1 ≤ 4096) => ?_)
  refine ez_go (n := 3) (pc' := 17) (L' := [(2, .inl (qz_I h 192 1)), (0, .inr (.inr (some (192)))), (1, .inl (1))]) (st' := [.inl (0), .inr (.inr (some (192)))]) rfl ?_
  refine ez_pf hI.1 t192 rfl rfl tq_44 rfl rfl rfl rfl (ez_vdI rfl rfl (by omega) (by omega)) (fun hB2 w3 => ?_)
  refine ez_go (n := 1) (pc' := 21) (L' := [(2, .inl (qz_I h 192 1)), (0, .inr (.inr (some (192)))), (1, .inl (1))]) (st' := [.inr (.inr (some (192)))]) rfl ?_
  refine ez_gC (p := 720) (tg := 52) hB2 t192 rfl rfl tq_44 rfl rfl (fun (t720 : _ = 52) => ?_)
  refine ez_go (n := 2) (pc' := 26) (L' := [(2, .inl (qz_I h 192 1)), (0, .inr (.inr (some (192)))), (1, .inl (1))]) (st' := [.inl (qz_I h 192 1), .inl (1), .inr (.inr (some (720)))]) rfl ?_
  have hI1 : jz_I τ (dz_put h 192 1 (ez_v (.inl (0)))) F E := jz_put hI hB2 (by decide) (by decide) (by decide) (by rw [t192]; decide)
  have hX1 : jx τ (dz_put h 192 1 (ez_v (.inl (0)))) D := jx_put hI hX (by decide) (by decide) (by rw [t192]; decide)
  have q202 : ∀ j, qz_I (dz_put h 192 1 (ez_v (.inl (0)))) 202 j = qz_I h 202 j := fun j => ez_put_I (by omega)
  have b1 : rz_b (dz_put h 192 1 (ez_v (.inl (0)))) = rz_b h := funext fun i => ez_put_I (by omega)
  have fp : ez_fr (ez_one 192) h (dz_put h 192 1 (ez_v (.inl (0)))) := (ez_fr.refl (ez_one 192) h).put rfl _ _
  have c1 : ((dz_put h 192 1 (ez_v (.inl (0))))).1 = h.1 := rfl
  have c2 : ((dz_put h 192 1 (ez_v (.inl (0))))).2.1 = h.2.1 := rfl
  have kk := kC ho
  generalize (dz_put h 192 1 (ez_v (.inl (0)))) = h1 at *
  have ce1 : cEr τ h1 LK R := (eKp.o hI.2.1 fp (by decide)).u ce
  have tA : ez_W (d + 8) cm_174 0 [(0, .inr (.inr (some (720)))), (1, .inl (1)), (2, .inl (qz_I h 192 1))] [] h1 (fun G => ∃ g v, G = (.inl (some (ez_v (.inl v))), g) ∧ (-1 ≤ v ∧ v ≤ 1114112) ∧ g.1 ≤ h1.1 + 4 ∧ g.2.1 ≤ h1.2.1 + 59) := rd_take1 hI1 hX1 (by omega) (by omega) (by rw [q202]; exact hl) (by omega) (by omega) (fun g τ1 F2 E2 v D2 _ x _ hv _ _ _ _ => ⟨g, v, rfl, by omega, x.2.1.2, x.2.2.2⟩)
  have tB : ez_W (d + 8) cm_174 0 [(0, .inr (.inr (some (720)))), (1, .inl (1)), (2, .inl (qz_I h 192 1))] [] h1 (fun G => ∃ τ1 cc R2, ez_B τ1 G.2 ∧ jz_X τ1 ∧ cEr τ1 G.2 (lk1 LK cc) R2 ∧ lnc (rz_b h1) (qz_I h 192 1) 1 cc ∧ (R2.length : Int) ≤ qz_I G.2 202 5) := rd_takeK1 hI1 hX1 ce1 (by rw [q202]; exact lr) (by omega) (by omega) (by rw [q202]; exact hl) (by omega) (by omega) (fun g τ1 v cc R2 hB2 X2 ce2 lc2 lr2 => ⟨τ1, cc, R2, hB2, X2, ce2, lc2, lr2⟩)
  refine ez_cv hI1.1 t720 rfl rfl rfl tq_52 rfl rfl rfl (ez_mono (ez_and tA tB) (fun G hG => ?_))
  obtain ⟨⟨g, v, rfl, vb9, gr1, gr2⟩, τ1, cc, R2, hB2, X2, ce2, lc2, lr2⟩ := hG
  have hB2 : ez_B τ1 g := hB2
  have ce2 : cEr τ1 g (lk1 LK cc) R2 := ce2
  have lr2 : (R2.length : Int) ≤ qz_I g 202 5 := lr2
  refine ez_K1 ?_
  rw [b1] at lc2
  refine ez_go (n := 3) (pc' := 32) (L' := [(3, .inl (v)), (2, .inl (qz_I h 192 1)), (0, .inr (.inr (some (192)))), (1, .inl (1))]) (st' := [.inl (-1), .inl (v)]) rfl ?_
  refine ez_icmp rfl rfl ⟨by first | omega | exact (sz_i32 _).1, by first | omega | exact (sz_i32 _).2⟩ ⟨by first | omega | exact (sz_i32 _).1, by first | omega | exact (sz_i32 _).2⟩ (fun (c4 : (v) ≠ (-1)) => ?_) (fun (c4 : ¬((v) ≠ (-1))) => ?_)
  · skip
    refine ez_go (n := 1) (pc' := 44) (L' := [(3, .inl (v)), (2, .inl (qz_I h 192 1)), (0, .inr (.inr (some (192)))), (1, .inl (1))]) (st' := [.inl (v)]) rfl ?_
    exact ez_retI rfl rfl (kk _ g cc R2 ce2.u lc2 lr2)
  · skip
    refine ez_th rfl rfl (by omega) (by omega) (by omega) rfl ?_
    have x9 := xc_xt (k := 3) hB2
    exact kk _ (xc g 3) cc R2 ((eKp.xt X2 x9).u ce2).u lc2 (by rw [show qz_I (xc g 3) 202 5 = qz_I g 202 5 from x9.I (by rw [X2 202 (by decide)]; decide) 5]; exact lr2)

theorem rd_lineK2 (hI : jz_I τ h F E) (hX : jx τ h D) (ce : cEr τ h LK R) (lr : (R.length : Int) ≤ qz_I h 202 5) (hl : qz_I h 192 1 = 0 ∨ qz_I h 202 5 ≤ 255) (hr1 : h.1 + 5 ≤ 600192) (hr2 : h.2.1 + 65 ≤ 7302232) (kS : qz_I h 202 6 ≠ 0 → Q (.inr h.1, xc h 2)) (kC : qz_I h 202 6 = 0 → ∀ o g cc R2, cErU g (lk1 LK cc) R2 → lnc (rz_b h) (qz_I h 192 1) 2 cc → (R2.length : Int) ≤ qz_I g 202 5 → Q (o, g)) : ez_W (d + 9) cm_21 0 [(0, .inr (.inr (some (192)))), (1, .inl (2))] [] h Q := by
  have t192 : τ 192 = 44 := hI.2.1 192 (by decide)
  refine ez_go (n := 3) (pc' := 3) (L' := [(0, .inr (.inr (some (192)))), (1, .inl (2))]) (st' := [.inl (4), .inl (0), .inl (2)]) rfl ?_
  refine ez_cs hI.1.2.1 rfl rfl rfl rfl rfl (rd_reqRange ⟨by decide, by decide⟩ ⟨by decide, by decide⟩ ⟨by decide, by decide⟩ (by omega) (by omega) (fun _ _ => ez_K0 ?_) (fun w => by omega))
  refine ez_go (n := 1) (pc' := 7) (L' := [(0, .inr (.inr (some (192)))), (1, .inl (2))]) (st' := [.inr (.inr (some (192)))]) rfl ?_
  refine ez_cv hI.1 t192 rfl rfl rfl tq_44 rfl rfl rfl (rd_reqOpen hI.1 t192 (by omega) (by omega) (fun ho => ez_K0 ?_) (fun ho => ez_Kp (xc_exc hI.1 rfl) rfl (kS ho)))
  refine ez_go (n := 1) (pc' := 11) (L' := [(0, .inr (.inr (some (192)))), (1, .inl (2))]) (st' := [.inr (.inr (some (192)))]) rfl ?_
  refine ez_gI hI.1 t192 rfl rfl tq_44 rfl rfl (fun (b1 : 0 ≤ qz_I h 192 1) (b1' : qz_I h 192 1 ≤ 4096) => ?_)
  refine ez_go (n := 3) (pc' := 17) (L' := [(2, .inl (qz_I h 192 1)), (0, .inr (.inr (some (192)))), (1, .inl (2))]) (st' := [.inl (0), .inr (.inr (some (192)))]) rfl ?_
  refine ez_pf hI.1 t192 rfl rfl tq_44 rfl rfl rfl rfl (ez_vdI rfl rfl (by omega) (by omega)) (fun hB2 w3 => ?_)
  refine ez_go (n := 1) (pc' := 21) (L' := [(2, .inl (qz_I h 192 1)), (0, .inr (.inr (some (192)))), (1, .inl (2))]) (st' := [.inr (.inr (some (192)))]) rfl ?_
  refine ez_gC (p := 720) (tg := 52) hB2 t192 rfl rfl tq_44 rfl rfl (fun (t720 : _ = 52) => ?_)
  refine ez_go (n := 2) (pc' := 26) (L' := [(2, .inl (qz_I h 192 1)), (0, .inr (.inr (some (192)))), (1, .inl (2))]) (st' := [.inl (qz_I h 192 1), .inl (2), .inr (.inr (some (720)))]) rfl ?_
  have hI1 : jz_I τ (dz_put h 192 1 (ez_v (.inl (0)))) F E := jz_put hI hB2 (by decide) (by decide) (by decide) (by rw [t192]; decide)
  have hX1 : jx τ (dz_put h 192 1 (ez_v (.inl (0)))) D := jx_put hI hX (by decide) (by decide) (by rw [t192]; decide)
  have q202 : ∀ j, qz_I (dz_put h 192 1 (ez_v (.inl (0)))) 202 j = qz_I h 202 j := fun j => ez_put_I (by omega)
  have b1 : rz_b (dz_put h 192 1 (ez_v (.inl (0)))) = rz_b h := funext fun i => ez_put_I (by omega)
  have fp : ez_fr (ez_one 192) h (dz_put h 192 1 (ez_v (.inl (0)))) := (ez_fr.refl (ez_one 192) h).put rfl _ _
  have c1 : ((dz_put h 192 1 (ez_v (.inl (0))))).1 = h.1 := rfl
  have c2 : ((dz_put h 192 1 (ez_v (.inl (0))))).2.1 = h.2.1 := rfl
  have kk := kC ho
  generalize (dz_put h 192 1 (ez_v (.inl (0)))) = h1 at *
  have ce1 : cEr τ h1 LK R := (eKp.o hI.2.1 fp (by decide)).u ce
  have tA : ez_W (d + 8) cm_174 0 [(0, .inr (.inr (some (720)))), (1, .inl (2)), (2, .inl (qz_I h 192 1))] [] h1 (fun G => ∃ g v, G = (.inl (some (ez_v (.inl v))), g) ∧ (-1 ≤ v ∧ v ≤ 1114112) ∧ g.1 ≤ h1.1 + 4 ∧ g.2.1 ≤ h1.2.1 + 59) := rd_take2 hI1 hX1 (by omega) (by omega) (by rw [q202]; exact hl) (by omega) (by omega) (fun g τ1 F2 E2 v D2 _ x _ hv _ _ _ _ => ⟨g, v, rfl, by omega, x.2.1.2, x.2.2.2⟩)
  have tB : ez_W (d + 8) cm_174 0 [(0, .inr (.inr (some (720)))), (1, .inl (2)), (2, .inl (qz_I h 192 1))] [] h1 (fun G => ∃ τ1 cc R2, ez_B τ1 G.2 ∧ jz_X τ1 ∧ cEr τ1 G.2 (lk1 LK cc) R2 ∧ lnc (rz_b h1) (qz_I h 192 1) 2 cc ∧ (R2.length : Int) ≤ qz_I G.2 202 5) := rd_takeK2 hI1 hX1 ce1 (by rw [q202]; exact lr) (by omega) (by omega) (by rw [q202]; exact hl) (by omega) (by omega) (fun g τ1 v cc R2 hB2 X2 ce2 lc2 lr2 => ⟨τ1, cc, R2, hB2, X2, ce2, lc2, lr2⟩)
  refine ez_cv hI1.1 t720 rfl rfl rfl tq_52 rfl rfl rfl (ez_mono (ez_and tA tB) (fun G hG => ?_))
  obtain ⟨⟨g, v, rfl, vb9, gr1, gr2⟩, τ1, cc, R2, hB2, X2, ce2, lc2, lr2⟩ := hG
  have hB2 : ez_B τ1 g := hB2
  have ce2 : cEr τ1 g (lk1 LK cc) R2 := ce2
  have lr2 : (R2.length : Int) ≤ qz_I g 202 5 := lr2
  refine ez_K1 ?_
  rw [b1] at lc2
  refine ez_go (n := 3) (pc' := 32) (L' := [(3, .inl (v)), (2, .inl (qz_I h 192 1)), (0, .inr (.inr (some (192)))), (1, .inl (2))]) (st' := [.inl (-1), .inl (v)]) rfl ?_
  refine ez_icmp rfl rfl ⟨by first | omega | exact (sz_i32 _).1, by first | omega | exact (sz_i32 _).2⟩ ⟨by first | omega | exact (sz_i32 _).1, by first | omega | exact (sz_i32 _).2⟩ (fun (c4 : (v) ≠ (-1)) => ?_) (fun (c4 : ¬((v) ≠ (-1))) => ?_)
  · skip
    refine ez_go (n := 1) (pc' := 44) (L' := [(3, .inl (v)), (2, .inl (qz_I h 192 1)), (0, .inr (.inr (some (192)))), (1, .inl (2))]) (st' := [.inl (v)]) rfl ?_
    exact ez_retI rfl rfl (kk _ g cc R2 ce2.u lc2 lr2)
  · skip
    refine ez_th rfl rfl (by omega) (by omega) (by omega) rfl ?_
    have x9 := xc_xt (k := 3) hB2
    exact kk _ (xc g 3) cc R2 ((eKp.xt X2 x9).u ce2).u lc2 (by rw [show qz_I (xc g 3) 202 5 = qz_I g 202 5 from x9.I (by rw [X2 202 (by decide)]; decide) 5]; exact lr2)

theorem rd_lineK3 (hI : jz_I τ h F E) (hX : jx τ h D) (ce : cEr τ h LK R) (lr : (R.length : Int) ≤ qz_I h 202 5) (hl : qz_I h 192 1 = 0 ∨ qz_I h 202 5 ≤ 255) (hr1 : h.1 + 5 ≤ 600192) (hr2 : h.2.1 + 65 ≤ 7302232) (kS : qz_I h 202 6 ≠ 0 → Q (.inr h.1, xc h 2)) (kC : qz_I h 202 6 = 0 → ∀ o g cc R2, cErU g (lk1 LK cc) R2 → lnc (rz_b h) (qz_I h 192 1) 3 cc → (R2.length : Int) ≤ qz_I g 202 5 → Q (o, g)) : ez_W (d + 9) cm_21 0 [(0, .inr (.inr (some (192)))), (1, .inl (3))] [] h Q := by
  have t192 : τ 192 = 44 := hI.2.1 192 (by decide)
  refine ez_go (n := 3) (pc' := 3) (L' := [(0, .inr (.inr (some (192)))), (1, .inl (3))]) (st' := [.inl (4), .inl (0), .inl (3)]) rfl ?_
  refine ez_cs hI.1.2.1 rfl rfl rfl rfl rfl (rd_reqRange ⟨by decide, by decide⟩ ⟨by decide, by decide⟩ ⟨by decide, by decide⟩ (by omega) (by omega) (fun _ _ => ez_K0 ?_) (fun w => by omega))
  refine ez_go (n := 1) (pc' := 7) (L' := [(0, .inr (.inr (some (192)))), (1, .inl (3))]) (st' := [.inr (.inr (some (192)))]) rfl ?_
  refine ez_cv hI.1 t192 rfl rfl rfl tq_44 rfl rfl rfl (rd_reqOpen hI.1 t192 (by omega) (by omega) (fun ho => ez_K0 ?_) (fun ho => ez_Kp (xc_exc hI.1 rfl) rfl (kS ho)))
  refine ez_go (n := 1) (pc' := 11) (L' := [(0, .inr (.inr (some (192)))), (1, .inl (3))]) (st' := [.inr (.inr (some (192)))]) rfl ?_
  refine ez_gI hI.1 t192 rfl rfl tq_44 rfl rfl (fun (b1 : 0 ≤ qz_I h 192 1) (b1' : qz_I h 192 1 ≤ 4096) => ?_)
  refine ez_go (n := 3) (pc' := 17) (L' := [(2, .inl (qz_I h 192 1)), (0, .inr (.inr (some (192)))), (1, .inl (3))]) (st' := [.inl (0), .inr (.inr (some (192)))]) rfl ?_
  refine ez_pf hI.1 t192 rfl rfl tq_44 rfl rfl rfl rfl (ez_vdI rfl rfl (by omega) (by omega)) (fun hB2 w3 => ?_)
  refine ez_go (n := 1) (pc' := 21) (L' := [(2, .inl (qz_I h 192 1)), (0, .inr (.inr (some (192)))), (1, .inl (3))]) (st' := [.inr (.inr (some (192)))]) rfl ?_
  refine ez_gC (p := 720) (tg := 52) hB2 t192 rfl rfl tq_44 rfl rfl (fun (t720 : _ = 52) => ?_)
  refine ez_go (n := 2) (pc' := 26) (L' := [(2, .inl (qz_I h 192 1)), (0, .inr (.inr (some (192)))), (1, .inl (3))]) (st' := [.inl (qz_I h 192 1), .inl (3), .inr (.inr (some (720)))]) rfl ?_
  have hI1 : jz_I τ (dz_put h 192 1 (ez_v (.inl (0)))) F E := jz_put hI hB2 (by decide) (by decide) (by decide) (by rw [t192]; decide)
  have hX1 : jx τ (dz_put h 192 1 (ez_v (.inl (0)))) D := jx_put hI hX (by decide) (by decide) (by rw [t192]; decide)
  have q202 : ∀ j, qz_I (dz_put h 192 1 (ez_v (.inl (0)))) 202 j = qz_I h 202 j := fun j => ez_put_I (by omega)
  have b1 : rz_b (dz_put h 192 1 (ez_v (.inl (0)))) = rz_b h := funext fun i => ez_put_I (by omega)
  have fp : ez_fr (ez_one 192) h (dz_put h 192 1 (ez_v (.inl (0)))) := (ez_fr.refl (ez_one 192) h).put rfl _ _
  have c1 : ((dz_put h 192 1 (ez_v (.inl (0))))).1 = h.1 := rfl
  have c2 : ((dz_put h 192 1 (ez_v (.inl (0))))).2.1 = h.2.1 := rfl
  have kk := kC ho
  generalize (dz_put h 192 1 (ez_v (.inl (0)))) = h1 at *
  have ce1 : cEr τ h1 LK R := (eKp.o hI.2.1 fp (by decide)).u ce
  have tA : ez_W (d + 8) cm_174 0 [(0, .inr (.inr (some (720)))), (1, .inl (3)), (2, .inl (qz_I h 192 1))] [] h1 (fun G => ∃ g v, G = (.inl (some (ez_v (.inl v))), g) ∧ (-1 ≤ v ∧ v ≤ 1114112) ∧ g.1 ≤ h1.1 + 4 ∧ g.2.1 ≤ h1.2.1 + 59) := rd_take3 hI1 hX1 (by omega) (by omega) (by rw [q202]; exact hl) (by omega) (by omega) (fun g τ1 F2 E2 v D2 _ x _ hv _ _ _ _ => ⟨g, v, rfl, by omega, x.2.1.2, x.2.2.2⟩)
  have tB : ez_W (d + 8) cm_174 0 [(0, .inr (.inr (some (720)))), (1, .inl (3)), (2, .inl (qz_I h 192 1))] [] h1 (fun G => ∃ τ1 cc R2, ez_B τ1 G.2 ∧ jz_X τ1 ∧ cEr τ1 G.2 (lk1 LK cc) R2 ∧ lnc (rz_b h1) (qz_I h 192 1) 3 cc ∧ (R2.length : Int) ≤ qz_I G.2 202 5) := rd_takeK3 hI1 hX1 ce1 (by rw [q202]; exact lr) (by omega) (by omega) (by rw [q202]; exact hl) (by omega) (by omega) (fun g τ1 v cc R2 hB2 X2 ce2 lc2 lr2 => ⟨τ1, cc, R2, hB2, X2, ce2, lc2, lr2⟩)
  refine ez_cv hI1.1 t720 rfl rfl rfl tq_52 rfl rfl rfl (ez_mono (ez_and tA tB) (fun G hG => ?_))
  obtain ⟨⟨g, v, rfl, vb9, gr1, gr2⟩, τ1, cc, R2, hB2, X2, ce2, lc2, lr2⟩ := hG
  have hB2 : ez_B τ1 g := hB2
  have ce2 : cEr τ1 g (lk1 LK cc) R2 := ce2
  have lr2 : (R2.length : Int) ≤ qz_I g 202 5 := lr2
  refine ez_K1 ?_
  rw [b1] at lc2
  refine ez_go (n := 3) (pc' := 32) (L' := [(3, .inl (v)), (2, .inl (qz_I h 192 1)), (0, .inr (.inr (some (192)))), (1, .inl (3))]) (st' := [.inl (-1), .inl (v)]) rfl ?_
  refine ez_icmp rfl rfl ⟨by first | omega | exact (sz_i32 _).1, by first | omega | exact (sz_i32 _).2⟩ ⟨by first | omega | exact (sz_i32 _).1, by first | omega | exact (sz_i32 _).2⟩ (fun (c4 : (v) ≠ (-1)) => ?_) (fun (c4 : ¬((v) ≠ (-1))) => ?_)
  · skip
    refine ez_go (n := 1) (pc' := 44) (L' := [(3, .inl (v)), (2, .inl (qz_I h 192 1)), (0, .inr (.inr (some (192)))), (1, .inl (3))]) (st' := [.inl (v)]) rfl ?_
    exact ez_retI rfl rfl (kk _ g cc R2 ce2.u lc2 lr2)
  · skip
    refine ez_th rfl rfl (by omega) (by omega) (by omega) rfl ?_
    have x9 := xc_xt (k := 3) hB2
    exact kk _ (xc g 3) cc R2 ((eKp.xt X2 x9).u ce2).u lc2 (by rw [show qz_I (xc g 3) 202 5 = qz_I g 202 5 from x9.I (by rw [X2 202 (by decide)]; decide) 5]; exact lr2)

theorem rd_lineK4 (hI : jz_I τ h F E) (hX : jx τ h D) (ce : cEr τ h LK R) (lr : (R.length : Int) ≤ qz_I h 202 5) (hl : qz_I h 192 1 = 0 ∨ qz_I h 202 5 ≤ 255) (hr1 : h.1 + 5 ≤ 600192) (hr2 : h.2.1 + 65 ≤ 7302232) (kS : qz_I h 202 6 ≠ 0 → Q (.inr h.1, xc h 2)) (kC : qz_I h 202 6 = 0 → ∀ o g cc R2, cErU g (lk1 LK cc) R2 → lnc (rz_b h) (qz_I h 192 1) 4 cc → (R2.length : Int) ≤ qz_I g 202 5 → Q (o, g)) : ez_W (d + 9) cm_21 0 [(0, .inr (.inr (some (192)))), (1, .inl (4))] [] h Q := by
  have t192 : τ 192 = 44 := hI.2.1 192 (by decide)
  refine ez_go (n := 3) (pc' := 3) (L' := [(0, .inr (.inr (some (192)))), (1, .inl (4))]) (st' := [.inl (4), .inl (0), .inl (4)]) rfl ?_
  refine ez_cs hI.1.2.1 rfl rfl rfl rfl rfl (rd_reqRange ⟨by decide, by decide⟩ ⟨by decide, by decide⟩ ⟨by decide, by decide⟩ (by omega) (by omega) (fun _ _ => ez_K0 ?_) (fun w => by omega))
  refine ez_go (n := 1) (pc' := 7) (L' := [(0, .inr (.inr (some (192)))), (1, .inl (4))]) (st' := [.inr (.inr (some (192)))]) rfl ?_
  refine ez_cv hI.1 t192 rfl rfl rfl tq_44 rfl rfl rfl (rd_reqOpen hI.1 t192 (by omega) (by omega) (fun ho => ez_K0 ?_) (fun ho => ez_Kp (xc_exc hI.1 rfl) rfl (kS ho)))
  refine ez_go (n := 1) (pc' := 11) (L' := [(0, .inr (.inr (some (192)))), (1, .inl (4))]) (st' := [.inr (.inr (some (192)))]) rfl ?_
  refine ez_gI hI.1 t192 rfl rfl tq_44 rfl rfl (fun (b1 : 0 ≤ qz_I h 192 1) (b1' : qz_I h 192 1 ≤ 4096) => ?_)
  refine ez_go (n := 3) (pc' := 17) (L' := [(2, .inl (qz_I h 192 1)), (0, .inr (.inr (some (192)))), (1, .inl (4))]) (st' := [.inl (0), .inr (.inr (some (192)))]) rfl ?_
  refine ez_pf hI.1 t192 rfl rfl tq_44 rfl rfl rfl rfl (ez_vdI rfl rfl (by omega) (by omega)) (fun hB2 w3 => ?_)
  refine ez_go (n := 1) (pc' := 21) (L' := [(2, .inl (qz_I h 192 1)), (0, .inr (.inr (some (192)))), (1, .inl (4))]) (st' := [.inr (.inr (some (192)))]) rfl ?_
  refine ez_gC (p := 720) (tg := 52) hB2 t192 rfl rfl tq_44 rfl rfl (fun (t720 : _ = 52) => ?_)
  refine ez_go (n := 2) (pc' := 26) (L' := [(2, .inl (qz_I h 192 1)), (0, .inr (.inr (some (192)))), (1, .inl (4))]) (st' := [.inl (qz_I h 192 1), .inl (4), .inr (.inr (some (720)))]) rfl ?_
  have hI1 : jz_I τ (dz_put h 192 1 (ez_v (.inl (0)))) F E := jz_put hI hB2 (by decide) (by decide) (by decide) (by rw [t192]; decide)
  have hX1 : jx τ (dz_put h 192 1 (ez_v (.inl (0)))) D := jx_put hI hX (by decide) (by decide) (by rw [t192]; decide)
  have q202 : ∀ j, qz_I (dz_put h 192 1 (ez_v (.inl (0)))) 202 j = qz_I h 202 j := fun j => ez_put_I (by omega)
  have b1 : rz_b (dz_put h 192 1 (ez_v (.inl (0)))) = rz_b h := funext fun i => ez_put_I (by omega)
  have fp : ez_fr (ez_one 192) h (dz_put h 192 1 (ez_v (.inl (0)))) := (ez_fr.refl (ez_one 192) h).put rfl _ _
  have c1 : ((dz_put h 192 1 (ez_v (.inl (0))))).1 = h.1 := rfl
  have c2 : ((dz_put h 192 1 (ez_v (.inl (0))))).2.1 = h.2.1 := rfl
  have kk := kC ho
  generalize (dz_put h 192 1 (ez_v (.inl (0)))) = h1 at *
  have ce1 : cEr τ h1 LK R := (eKp.o hI.2.1 fp (by decide)).u ce
  have tA : ez_W (d + 8) cm_174 0 [(0, .inr (.inr (some (720)))), (1, .inl (4)), (2, .inl (qz_I h 192 1))] [] h1 (fun G => ∃ g v, G = (.inl (some (ez_v (.inl v))), g) ∧ (-1 ≤ v ∧ v ≤ 1114112) ∧ g.1 ≤ h1.1 + 4 ∧ g.2.1 ≤ h1.2.1 + 59) := rd_take4 hI1 hX1 (by omega) (by omega) (by rw [q202]; exact hl) (by omega) (by omega) (fun g τ1 F2 E2 v D2 _ x _ hv _ _ _ _ => ⟨g, v, rfl, by omega, x.2.1.2, x.2.2.2⟩)
  have tB : ez_W (d + 8) cm_174 0 [(0, .inr (.inr (some (720)))), (1, .inl (4)), (2, .inl (qz_I h 192 1))] [] h1 (fun G => ∃ τ1 cc R2, ez_B τ1 G.2 ∧ jz_X τ1 ∧ cEr τ1 G.2 (lk1 LK cc) R2 ∧ lnc (rz_b h1) (qz_I h 192 1) 4 cc ∧ (R2.length : Int) ≤ qz_I G.2 202 5) := rd_takeK4 hI1 hX1 ce1 (by rw [q202]; exact lr) (by omega) (by omega) (by rw [q202]; exact hl) (by omega) (by omega) (fun g τ1 v cc R2 hB2 X2 ce2 lc2 lr2 => ⟨τ1, cc, R2, hB2, X2, ce2, lc2, lr2⟩)
  refine ez_cv hI1.1 t720 rfl rfl rfl tq_52 rfl rfl rfl (ez_mono (ez_and tA tB) (fun G hG => ?_))
  obtain ⟨⟨g, v, rfl, vb9, gr1, gr2⟩, τ1, cc, R2, hB2, X2, ce2, lc2, lr2⟩ := hG
  have hB2 : ez_B τ1 g := hB2
  have ce2 : cEr τ1 g (lk1 LK cc) R2 := ce2
  have lr2 : (R2.length : Int) ≤ qz_I g 202 5 := lr2
  refine ez_K1 ?_
  rw [b1] at lc2
  refine ez_go (n := 3) (pc' := 32) (L' := [(3, .inl (v)), (2, .inl (qz_I h 192 1)), (0, .inr (.inr (some (192)))), (1, .inl (4))]) (st' := [.inl (-1), .inl (v)]) rfl ?_
  refine ez_icmp rfl rfl ⟨by first | omega | exact (sz_i32 _).1, by first | omega | exact (sz_i32 _).2⟩ ⟨by first | omega | exact (sz_i32 _).1, by first | omega | exact (sz_i32 _).2⟩ (fun (c4 : (v) ≠ (-1)) => ?_) (fun (c4 : ¬((v) ≠ (-1))) => ?_)
  · skip
    refine ez_go (n := 1) (pc' := 44) (L' := [(3, .inl (v)), (2, .inl (qz_I h 192 1)), (0, .inr (.inr (some (192)))), (1, .inl (4))]) (st' := [.inl (v)]) rfl ?_
    exact ez_retI rfl rfl (kk _ g cc R2 ce2.u lc2 lr2)
  · skip
    refine ez_th rfl rfl (by omega) (by omega) (by omega) rfl ?_
    have x9 := xc_xt (k := 3) hB2
    exact kk _ (xc g 3) cc R2 ((eKp.xt X2 x9).u ce2).u lc2 (by rw [show qz_I (xc g 3) 202 5 = qz_I g 202 5 from x9.I (by rw [X2 202 (by decide)]; decide) 5]; exact lr2)

/-- what a call of line makes of the entries -/
def lnK (h : cz_H) (a : Int) (LK : List Int → Option (List eL)) (R : List (List Int × List eL)) (G : cz_F) : Prop := ((a < 0 ∨ 4 < a) ∧ G = (.inr h.1, xc h 1)) ∨ (((0 ≤ a ∧ a ≤ 4) ∧ qz_I h 202 6 ≠ 0) ∧ G = (.inr h.1, xc h 2)) ∨ (((0 ≤ a ∧ a ≤ 4) ∧ qz_I h 202 6 = 0) ∧ ∃ cc R2, cErU G.2 (lk1 LK cc) R2 ∧ lnc (rz_b h) (qz_I h 192 1) a cc ∧ (R2.length : Int) ≤ qz_I G.2 202 5)
theorem rd_lineKP {a : Int} (hI : jz_I τ h F E) (hX : jx τ h D) (ce : cEr τ h LK R) (lr : (R.length : Int) ≤ qz_I h 202 5) (hl : qz_I h 192 1 = 0 ∨ qz_I h 202 5 ≤ 255) (hr1 : h.1 + 5 ≤ 600192) (hr2 : h.2.1 + 65 ≤ 7302232) (ar : ez_rg a) : ez_W (d + 9) cm_21 0 [(0, .inr (.inr (some (192)))), (1, .inl (a))] [] h (lnK h a LK R) := by
  by_cases w : a < 0 ∨ 4 < a
  · exact rd_lineX hI.1 ar w (by omega) (by omega) (Or.inl ⟨w, rfl⟩)
  · have : a = 0 ∨ a = 1 ∨ a = 2 ∨ a = 3 ∨ a = 4 := by omega
    rcases this with e | e | e | e | e <;> subst e
    · exact rd_lineK0 hI hX ce lr hl hr1 hr2 (fun s => Or.inr (Or.inl ⟨⟨by decide, s⟩, rfl⟩)) (fun s o g cc R2 q1 q2 q3 => Or.inr (Or.inr ⟨⟨by decide, s⟩, cc, R2, q1, q2, q3⟩))
    · exact rd_lineK1 hI hX ce lr hl hr1 hr2 (fun s => Or.inr (Or.inl ⟨⟨by decide, s⟩, rfl⟩)) (fun s o g cc R2 q1 q2 q3 => Or.inr (Or.inr ⟨⟨by decide, s⟩, cc, R2, q1, q2, q3⟩))
    · exact rd_lineK2 hI hX ce lr hl hr1 hr2 (fun s => Or.inr (Or.inl ⟨⟨by decide, s⟩, rfl⟩)) (fun s o g cc R2 q1 q2 q3 => Or.inr (Or.inr ⟨⟨by decide, s⟩, cc, R2, q1, q2, q3⟩))
    · exact rd_lineK3 hI hX ce lr hl hr1 hr2 (fun s => Or.inr (Or.inl ⟨⟨by decide, s⟩, rfl⟩)) (fun s o g cc R2 q1 q2 q3 => Or.inr (Or.inr ⟨⟨by decide, s⟩, cc, R2, q1, q2, q3⟩))
    · exact rd_lineK4 hI hX ce lr hl hr1 hr2 (fun s => Or.inr (Or.inl ⟨⟨by decide, s⟩, rfl⟩)) (fun s o g cc R2 q1 q2 q3 => Or.inr (Or.inr ⟨⟨by decide, s⟩, cc, R2, q1, q2, q3⟩))
end EzKj
section EzKk
variable {d : Nat} {h : cz_H} {τ : Nat → Nat} {Q : cz_F → Prop} {Ls : List vz} {Cs : List cEo}
theorem rd_mlK0 (hI : mI τ h Ls 0) (hm : mC h Cs) (hlc : qz_I h 770 2 = 0 ∨ lc h ≤ 255) (hr1 : h.1 + 25000 ≤ 600192) (hr2 : h.2.1 + 900000 ≤ 7302232) (kS : qz_I h 770 7 ≠ 0 → ∀ g, mC g Cs → Q (.inl (some (ez_v (.inl 0))), g)) (kC : qz_I h 770 7 = 0 → ∀ o g cc, lnc (mb h) (qz_I h 770 2) 0 cc → (mC g (Cs ++ [cc]) ∨ (mC g Cs ∧ cc = none)) → Q (o, g)) : ez_W (d + 10) cm_276 0 [(0, .inr (.inr (some (770)))), (1, .inl (0))] [] h Q := by
  have b2 : 0 ≤ qz_I h 770 2 ∧ qz_I h 770 2 ≤ 4096 := ez_fB (cl := 11) (k := 2) hI.1 (hI.2.1 770 (by decide)) tq_75 rfl rfl (by decide)
  refine rd_mlA0 (d := d + 2) hI (by omega) (by omega) (fun s g I9 f9 j9 z9 => kS s g (hm.f7 hI f9 j9)) (fun hs l g τ1 A a I1 hA hfl => ?_) (fun hs l g τ1 a I1 hno => ?_)
  · skip
    have t7 : τ1 770 = 75 := I1.2.1 770 (by decide)
    have hl3 := a.2.1
    have l78 := ez_l78 I1.1 hl3.1
    have hlz : lz l := ⟨fun e => (by have t := hl3.1; rw [e, t7] at t; cases t), fun e => (by have t := hl3.1; rw [e, I1.2.1 771 (by decide)] at t; cases t), fun e => (by have t := hl3.1; rw [e, I1.2.1 789 (by decide)] at t; cases t), fun e => (by have t := hl3.1; rw [e, I1.2.1 790 (by decide)] at t; cases t)⟩
    have tt := ez_tls I1.1 t7
    have usp : τ1 (qz_P g l 7) = 15 := by rw [l78.1]; exact hl3.2.1
    have ucp : τ1 (qz_P g l 8) = 16 := by rw [l78.2]; exact hl3.2.2
    have eb : mb g = mb h := funext fun k => by unfold mb qz_I; rw [a.c hI.2.1 (hI.2.1 771 (by decide)) rfl]
    have a8 := a.2.2.2.2.2.2.2.1
    have en : pn g = pn h := a8 10 (by decide) (by decide)
    have ec : lc g = lc h := a8 12 (by decide) (by decide)
    have hbn : 0 < qz_I h 770 2 := rz_A_pos (by decide) hA
    have hlc2 : lc h ≤ 255 := by omega
    have b10 : 0 ≤ pn g ∧ pn g ≤ 38500 := ez_fB (cl := 11) (k := 10) I1.1 t7 tq_75 rfl rfl (by decide)
    have nN : 1024 ≤ qz_N g (po g) ∧ qz_N g (po g) ≤ 77100 := ez_len I1.1 tt.2 tq_17 rfl
    have np := I1.2.2.1.2.2
    have FF : ∀ k, 0 ≤ k → k < 7 → (0 ≤ mf g k ∧ mf g k ≤ mt g k) ∧ mt g k ≤ qz_I h 770 2 ∧ (mf g k < mt g k → ¬ bk (mb g (mf g k)) ∧ ¬ bk (mb g (mt g k - 1))) ∧ (∀ j, mf g k ≤ j → j < mt g k → 0 ≤ mb g j ∧ mb g j ≤ 127) := fun k k0 k1 => by rw [(hfl k k0 k1).1, (hfl k k0 k1).2, eb]; exact rz_A_fl hA b2.2 k0 (by show k < ((7 : Nat) : Int); omega)
    have hF : ∀ k, 0 ≤ k → k < 7 → (0 ≤ mf g k ∧ mf g k ≤ mt g k) ∧ mt g k ≤ 4096 := fun k k0 k1 => ⟨(FF k k0 k1).1, by have := (FF k k0 k1).2.1; omega⟩
    have hTr : ∀ k, 0 ≤ k → k < 7 → mf g k < mt g k → ¬ bk (mb g (mf g k)) ∧ ¬ bk (mb g (mt g k - 1)) := fun k k0 k1 => (FF k k0 k1).2.2.1
    have hnl := nl_aq hI a
    have hlg0 : l2 (l + 1) (l + 2) g := ⟨fun j => by rw [a.2.2.2.1, a.2.2.2.2.1]; omega, by rw [a.2.2.2.1, a.2.2.2.2.1]; omega⟩
    have hl2 : l2 (qz_P g l 7) (qz_P g l 8) g := by rw [l78.1, l78.2]; exact hlg0
    have hc0 : ∀ j, qz_I g (qz_P g l 8) j = 0 := fun j => by rw [l78.2]; exact a.2.2.2.2.1 j
    have cr := a.2.2.2.2.2.2.2.2.2
    refine ez_go (n := 1) (pc' := 97) (L' := [(3, .inr (.inr (some (l)))), (2, .inl (pn h)), (0, .inr (.inr (some (770)))), (1, .inl (0))]) (st' := [.inl (0)]) rfl ?_
    refine ez_if rfl rfl ⟨by decide, by decide⟩ (fun (c1 : (0 : Int) ≠ (0)) => absurd c1 (by decide)) (fun _ => ?_)
    refine ez_go (n := 2) (pc' := 102) (L' := [(3, .inr (.inr (some (l)))), (2, .inl (pn h)), (0, .inr (.inr (some (770)))), (1, .inl (0))]) (st' := [.inr (.inr (some (l))), .inr (.inr (some (770)))]) rfl ?_
    refine ez_cv I1.1 t7 rfl rfl rfl tq_75 rfl rfl rfl (rd_points (d := d) I1.1 t7 hl3.1 hlz usp ucp tt.2 b10.1 I1.2.2.1.1.2 (by omega) nN.1 (by omega) (by omega) hl2 (hc0 0) (hTr 3 (by omega) (by omega)) hF a.2.2.1.2.1 a.2.2.1.2.2 (fun first last cls dec hF2 g2 τ2 hB2 hp y1 y2 y4 y5 ys yc yu yo => ez_K0 ?_) (fun hno g2 τ2 A2 hB2 hp => ez_Kc (xc_exc hB2 rfl) rfl ?_))
    · skip
      rw [l78.1, l78.2] at hp; rw [l78.1] at ys; rw [l78.2] at yc
      have q2 := hp.1.lq
      have lg2 := hp.2.1
      have h42 : qz_I g2 l 0 = 4 → qz_I g2 (l + 1) 1 + 4 * qz_I g2 (l + 2) 1 ≤ qz_N g2 (po g2) := fun _ => hp.2.2
      have v7 : τ2 770 = 75 := (q2.1 770 (by rw [t7]; decide)).1.trans t7
      have hl4 : τ2 l = 13 ∧ τ2 (l + 1) = 15 ∧ τ2 (l + 2) = 16 := ⟨(q2.1 l (by rw [hl3.1]; decide)).1.trans hl3.1, (q2.1 _ (by rw [hl3.2.1]; decide)).1.trans hl3.2.1, (q2.1 _ (by rw [hl3.2.2]; decide)).1.trans hl3.2.2⟩
      have II := I1.lq hl3 hnl q2 hB2 lg2 h42
      have rr := q2.2.2.2.2.2.2.2.2.1
      have rp := pool_le hB2 q2.2.2.1
      have fq := fw_lq (fw_aq a hI.1 hI.2.1) q2 I1.1 t7 a.1 hl3
      have o1 := oL.aq hI a
      have o2 := oL.lq I1 hl3 hnl q2
      have o12 := o1.trans o2 (by omega)
      have q2n := q2.2.2.2.2.1
      refine ez_go (n := 2) (pc' := 168) (L' := [(3, .inr (.inr (some (l)))), (2, .inl (pn h)), (0, .inr (.inr (some (770)))), (1, .inl (0))]) (st' := []) rfl ?_
      refine ez_less [(1, .inl (0)), (3, .inr (.inr (some (l)))), (0, .inr (.inr (some (770))))] rfl ⟨rfl, rfl, rfl, trivial⟩ ?_
      have I2 := II.1
      have ec2 : lc g2 = lc h := (q2.2.2.2.1 12 (by decide) (by decide) (by decide) (by decide)).trans ec
      have tcp2 : τ2 (qz_P g2 l 8) = 16 := by rw [(ez_l78 hB2 hl4.1).2]; exact hl4.2.2
      refine rd_ml hB2 v7 hl4.1 (ez_tls hB2 v7).1 tcp2 ⟨by omega, by omega⟩ I2.2.2.1.1.1 (by omega) I2.2.2.1.2.1 I2.2.2.2.1.1 (by omega) (by omega) (fun g3 τ3 v hB3 u hv => kC hs _ g3 none (lnc_o (by decide)) (Or.inl ((hm.o o12 (by omega)).lu I2 hl4 u ⟨fun _ w => absurd (((yo 0 (by decide) (by decide) (by decide) (by decide) (by decide) (by decide) (by decide) (by decide)).trans a.2.2.1.1).symm.trans w) (by decide), fun a9 w => by cases w⟩)))
    · skip
      rw [l78.1, l78.2] at hp
      have q2 := hp.1.lq
      have lg2 := hp.2.1
      have h42 : qz_I g2 l 0 = 4 → qz_I g2 (l + 1) 1 + 4 * qz_I g2 (l + 2) 1 ≤ qz_N g2 (po g2) := fun _ => hp.2.2
      have v7 : τ2 770 = 75 := (q2.1 770 (by rw [t7]; decide)).1.trans t7
      have hl4 : τ2 l = 13 ∧ τ2 (l + 1) = 15 ∧ τ2 (l + 2) = 16 := ⟨(q2.1 l (by rw [hl3.1]; decide)).1.trans hl3.1, (q2.1 _ (by rw [hl3.2.1]; decide)).1.trans hl3.2.1, (q2.1 _ (by rw [hl3.2.2]; decide)).1.trans hl3.2.2⟩
      have II := I1.lq hl3 hnl q2 hB2 lg2 h42
      have rr := q2.2.2.2.2.2.2.2.2.1
      have rp := pool_le hB2 q2.2.2.1
      have fq := fw_lq (fw_aq a hI.1 hI.2.1) q2 I1.1 t7 a.1 hl3
      have o1 := oL.aq hI a
      have o2 := oL.lq I1 hl3 hnl q2
      have o12 := o1.trans o2 (by omega)
      have q2n := q2.2.2.2.2.1
      refine ez_less [(3, .inr (.inr (some (l)))), (2, .inl (pn h)), (0, .inr (.inr (some (770)))), (1, .inl (0))] rfl ⟨rfl, rfl, rfl, rfl, trivial⟩ ?_
      refine rd_mlE (d := d + 9) (n := pn h) (xc_B hB2 (by omega) (by omega)) v7 (by omega) (by omega) (fun g3 hB3 f3 j3 p3 z3 => kC hs _ g3 none (lnc_o (by decide)) (Or.inr ⟨hm.o (o12.trans (oL.f II.1 (fun q hq h7 _ => by rw [f3.2.2 q (dz_beq_ne h7), xc_t hB2 hq]) (fun j hj => by rw [j3 j (by omega) (by omega)]; unfold qz_I; rw [xc_t hB2 (by rw [v7]; decide)])) (by omega)) (by omega), rfl⟩))
  · skip
    have t7 : τ1 770 = 75 := I1.2.1 770 (by decide)
    have en : pn g = pn h := a.2.2.2.2.2.2.2.1 10 (by decide) (by decide)
    have b10 : 0 ≤ pn g ∧ pn g ≤ 38500 := ez_fB (cl := 11) (k := 10) I1.1 t7 tq_75 rfl rfl (by decide)
    have cr := a.2.2.2.2.2.2.2.2.2
    have o1 := oL.aq hI a
    exact rd_mlE (d := d + 9) (n := pn h) (xc_B I1.1 (by omega) (by omega)) t7 (by omega) (by omega) (fun g3 hB3 f3 j3 p3 z3 => kC hs _ g3 none (lnc_o (by decide)) (Or.inr ⟨hm.o (o1.trans (oL.f I1 (fun q hq h7 _ => by rw [f3.2.2 q (dz_beq_ne h7), xc_t I1.1 hq]) (fun j hj => by rw [j3 j (by omega) (by omega)]; unfold qz_I; rw [xc_t I1.1 (by rw [t7]; decide)])) (by omega)) (by omega), rfl⟩))

theorem rd_mlK1 (hI : mI τ h Ls 0) (hm : mC h Cs) (hlc : qz_I h 770 2 = 0 ∨ lc h ≤ 255) (hr1 : h.1 + 25000 ≤ 600192) (hr2 : h.2.1 + 900000 ≤ 7302232) (kS : qz_I h 770 7 ≠ 0 → ∀ g, mC g Cs → Q (.inl (some (ez_v (.inl 0))), g)) (kC : qz_I h 770 7 = 0 → ∀ o g cc, lnc (mb h) (qz_I h 770 2) 1 cc → (mC g (Cs ++ [cc]) ∨ (mC g Cs ∧ cc = none)) → Q (o, g)) : ez_W (d + 10) cm_276 0 [(0, .inr (.inr (some (770)))), (1, .inl (1))] [] h Q := by
  have b2 : 0 ≤ qz_I h 770 2 ∧ qz_I h 770 2 ≤ 4096 := ez_fB (cl := 11) (k := 2) hI.1 (hI.2.1 770 (by decide)) tq_75 rfl rfl (by decide)
  refine rd_mlA1 (d := d + 2) hI (by omega) (by omega) (fun s g I9 f9 j9 z9 => kS s g (hm.f7 hI f9 j9)) (fun hs l g τ1 A a I1 hA hfl => ?_) (fun hs l g τ1 a I1 hno => ?_)
  · skip
    have t7 : τ1 770 = 75 := I1.2.1 770 (by decide)
    have hl3 := a.2.1
    have l78 := ez_l78 I1.1 hl3.1
    have hlz : lz l := ⟨fun e => (by have t := hl3.1; rw [e, t7] at t; cases t), fun e => (by have t := hl3.1; rw [e, I1.2.1 771 (by decide)] at t; cases t), fun e => (by have t := hl3.1; rw [e, I1.2.1 789 (by decide)] at t; cases t), fun e => (by have t := hl3.1; rw [e, I1.2.1 790 (by decide)] at t; cases t)⟩
    have tt := ez_tls I1.1 t7
    have usp : τ1 (qz_P g l 7) = 15 := by rw [l78.1]; exact hl3.2.1
    have ucp : τ1 (qz_P g l 8) = 16 := by rw [l78.2]; exact hl3.2.2
    have eb : mb g = mb h := funext fun k => by unfold mb qz_I; rw [a.c hI.2.1 (hI.2.1 771 (by decide)) rfl]
    have a8 := a.2.2.2.2.2.2.2.1
    have en : pn g = pn h := a8 10 (by decide) (by decide)
    have ec : lc g = lc h := a8 12 (by decide) (by decide)
    have hbn : 0 < qz_I h 770 2 := rz_A_pos (by decide) hA
    have hlc2 : lc h ≤ 255 := by omega
    have b10 : 0 ≤ pn g ∧ pn g ≤ 38500 := ez_fB (cl := 11) (k := 10) I1.1 t7 tq_75 rfl rfl (by decide)
    have nN : 1024 ≤ qz_N g (po g) ∧ qz_N g (po g) ≤ 77100 := ez_len I1.1 tt.2 tq_17 rfl
    have np := I1.2.2.1.2.2
    have FF : ∀ k, 0 ≤ k → k < 5 → (0 ≤ mf g k ∧ mf g k ≤ mt g k) ∧ mt g k ≤ qz_I h 770 2 ∧ (mf g k < mt g k → ¬ bk (mb g (mf g k)) ∧ ¬ bk (mb g (mt g k - 1))) ∧ (∀ j, mf g k ≤ j → j < mt g k → 0 ≤ mb g j ∧ mb g j ≤ 127) := fun k k0 k1 => by rw [(hfl k k0 k1).1, (hfl k k0 k1).2, eb]; exact rz_A_fl hA b2.2 k0 (by show k < ((5 : Nat) : Int); omega)
    have hF : ∀ k, 0 ≤ k → k < 5 → (0 ≤ mf g k ∧ mf g k ≤ mt g k) ∧ mt g k ≤ 4096 := fun k k0 k1 => ⟨(FF k k0 k1).1, by have := (FF k k0 k1).2.1; omega⟩
    have hTr : ∀ k, 0 ≤ k → k < 5 → mf g k < mt g k → ¬ bk (mb g (mf g k)) ∧ ¬ bk (mb g (mt g k - 1)) := fun k k0 k1 => (FF k k0 k1).2.2.1
    have hnl := nl_aq hI a
    have hlg0 : l2 (l + 1) (l + 2) g := ⟨fun j => by rw [a.2.2.2.1, a.2.2.2.2.1]; omega, by rw [a.2.2.2.1, a.2.2.2.2.1]; omega⟩
    have hl2 : l2 (qz_P g l 7) (qz_P g l 8) g := by rw [l78.1, l78.2]; exact hlg0
    have hc0 : ∀ j, qz_I g (qz_P g l 8) j = 0 := fun j => by rw [l78.2]; exact a.2.2.2.2.1 j
    have cr := a.2.2.2.2.2.2.2.2.2
    refine ez_go (n := 1) (pc' := 97) (L' := [(3, .inr (.inr (some (l)))), (2, .inl (pn h)), (0, .inr (.inr (some (770)))), (1, .inl (1))]) (st' := [.inl (1)]) rfl ?_
    refine ez_if rfl rfl ⟨by decide, by decide⟩ (fun _ => ?_) (fun (c1 : ¬((1 : Int) ≠ (0))) => absurd c1 (by decide))
    refine ez_go (n := 2) (pc' := 110) (L' := [(3, .inr (.inr (some (l)))), (2, .inl (pn h)), (0, .inr (.inr (some (770)))), (1, .inl (1))]) (st' := [.inl (1), .inl (1)]) rfl ?_
    refine ez_icmp rfl rfl ⟨by decide, by decide⟩ ⟨by decide, by decide⟩ (fun (c2 : (1 : Int) ≠ (1)) => absurd c2 (by decide)) (fun _ => ?_)
    refine ez_go (n := 2) (pc' := 115) (L' := [(3, .inr (.inr (some (l)))), (2, .inl (pn h)), (0, .inr (.inr (some (770)))), (1, .inl (1))]) (st' := [.inr (.inr (some (l))), .inr (.inr (some (770)))]) rfl ?_
    refine ez_cv I1.1 t7 rfl rfl rfl tq_75 rfl rfl rfl (rd_cases (d := d) I1.1 t7 hl3.1 hlz usp ucp tt.2 b10.1 (by omega) nN.1 (by omega) (by omega) I1.2.2.1.1.2 hl2.1 hc0 hF hTr cr.2.2.2.1 I1.2.2.2.2.2.1.1 I1.2.2.2.2.2.1.2 (FF 4 (by omega) (by omega)).2.2.2 (fun g2 τ2 A2 hB2 hp hA2 hk hG9 h12 hcd hrw => ez_K0 ?_) (fun g2 τ2 A2 hB2 hp hk hnG => ez_Kc (xc_exc hB2 rfl) rfl ?_))
    · skip
      rw [l78.1, l78.2] at hp
      have k2 : qz_I g2 l 0 = 1 := hk.trans a.2.2.1.1
      have q2 := hp.1
      have lg2 := hp.2
      have h42 : qz_I g2 l 0 = 4 → qz_I g2 (l + 1) 1 + 4 * qz_I g2 (l + 2) 1 ≤ qz_N g2 (po g2) := fun w => by omega
      have F4 := FF 4 (by omega) (by omega)
      have v7 : τ2 770 = 75 := (q2.1 770 (by rw [t7]; decide)).1.trans t7
      have hl4 : τ2 l = 13 ∧ τ2 (l + 1) = 15 ∧ τ2 (l + 2) = 16 := ⟨(q2.1 l (by rw [hl3.1]; decide)).1.trans hl3.1, (q2.1 _ (by rw [hl3.2.1]; decide)).1.trans hl3.2.1, (q2.1 _ (by rw [hl3.2.2]; decide)).1.trans hl3.2.2⟩
      have II := I1.lq hl3 hnl q2 hB2 lg2 h42
      have rr := q2.2.2.2.2.2.2.2.2.1
      have rp := pool_le hB2 q2.2.2.1
      have fq := fw_lq (fw_aq a hI.1 hI.2.1) q2 I1.1 t7 a.1 hl3
      have o1 := oL.aq hI a
      have o2 := oL.lq I1 hl3 hnl q2
      have o12 := o1.trans o2 (by omega)
      have q2n := q2.2.2.2.2.1
      refine ez_go (n := 2) (pc' := 168) (L' := [(3, .inr (.inr (some (l)))), (2, .inl (pn h)), (0, .inr (.inr (some (770)))), (1, .inl (1))]) (st' := []) rfl ?_
      refine ez_less [(1, .inl (1)), (3, .inr (.inr (some (l)))), (0, .inr (.inr (some (770))))] rfl ⟨rfl, rfl, rfl, trivial⟩ ?_
      have I2 := II.1
      have ec2 : lc g2 = lc h := (q2.2.2.2.1 12 (by decide) (by decide) (by decide) (by decide)).trans ec
      have tcp2 : τ2 (qz_P g2 l 8) = 16 := by rw [(ez_l78 hB2 hl4.1).2]; exact hl4.2.2
      refine rd_ml hB2 v7 hl4.1 (ez_tls hB2 v7).1 tcp2 ⟨by omega, by omega⟩ I2.2.2.1.1.1 (by omega) I2.2.2.1.2.1 I2.2.2.2.1.1 (by omega) (by omega) (fun g3 τ3 v hB3 u hv => kC hs _ g3 none (lnc_o (by decide)) (Or.inl ((hm.o o12 (by omega)).lu I2 hl4 u ⟨fun _ w => absurd ((k2).symm.trans w) (by decide), fun a9 w => by cases w⟩)))
    · skip
      rw [l78.1, l78.2] at hp
      have k2 : qz_I g2 l 0 = 1 := hk.trans a.2.2.1.1
      have q2 := hp.1
      have lg2 := hp.2
      have h42 : qz_I g2 l 0 = 4 → qz_I g2 (l + 1) 1 + 4 * qz_I g2 (l + 2) 1 ≤ qz_N g2 (po g2) := fun w => by omega
      have F4 := FF 4 (by omega) (by omega)
      have v7 : τ2 770 = 75 := (q2.1 770 (by rw [t7]; decide)).1.trans t7
      have hl4 : τ2 l = 13 ∧ τ2 (l + 1) = 15 ∧ τ2 (l + 2) = 16 := ⟨(q2.1 l (by rw [hl3.1]; decide)).1.trans hl3.1, (q2.1 _ (by rw [hl3.2.1]; decide)).1.trans hl3.2.1, (q2.1 _ (by rw [hl3.2.2]; decide)).1.trans hl3.2.2⟩
      have II := I1.lq hl3 hnl q2 hB2 lg2 h42
      have rr := q2.2.2.2.2.2.2.2.2.1
      have rp := pool_le hB2 q2.2.2.1
      have fq := fw_lq (fw_aq a hI.1 hI.2.1) q2 I1.1 t7 a.1 hl3
      have o1 := oL.aq hI a
      have o2 := oL.lq I1 hl3 hnl q2
      have o12 := o1.trans o2 (by omega)
      have q2n := q2.2.2.2.2.1
      refine ez_less [(3, .inr (.inr (some (l)))), (2, .inl (pn h)), (0, .inr (.inr (some (770)))), (1, .inl (1))] rfl ⟨rfl, rfl, rfl, rfl, trivial⟩ ?_
      refine rd_mlE (d := d + 9) (n := pn h) (xc_B hB2 (by omega) (by omega)) v7 (by omega) (by omega) (fun g3 hB3 f3 j3 p3 z3 => kC hs _ g3 none (lnc_o (by decide)) (Or.inr ⟨hm.o (o12.trans (oL.f II.1 (fun q hq h7 _ => by rw [f3.2.2 q (dz_beq_ne h7), xc_t hB2 hq]) (fun j hj => by rw [j3 j (by omega) (by omega)]; unfold qz_I; rw [xc_t hB2 (by rw [v7]; decide)])) (by omega)) (by omega), rfl⟩))
  · skip
    have t7 : τ1 770 = 75 := I1.2.1 770 (by decide)
    have en : pn g = pn h := a.2.2.2.2.2.2.2.1 10 (by decide) (by decide)
    have b10 : 0 ≤ pn g ∧ pn g ≤ 38500 := ez_fB (cl := 11) (k := 10) I1.1 t7 tq_75 rfl rfl (by decide)
    have cr := a.2.2.2.2.2.2.2.2.2
    have o1 := oL.aq hI a
    exact rd_mlE (d := d + 9) (n := pn h) (xc_B I1.1 (by omega) (by omega)) t7 (by omega) (by omega) (fun g3 hB3 f3 j3 p3 z3 => kC hs _ g3 none (lnc_o (by decide)) (Or.inr ⟨hm.o (o1.trans (oL.f I1 (fun q hq h7 _ => by rw [f3.2.2 q (dz_beq_ne h7), xc_t I1.1 hq]) (fun j hj => by rw [j3 j (by omega) (by omega)]; unfold qz_I; rw [xc_t I1.1 (by rw [t7]; decide)])) (by omega)) (by omega), rfl⟩))

theorem rd_mlK2 (hI : mI τ h Ls 0) (hm : mC h Cs) (hlc : qz_I h 770 2 = 0 ∨ lc h ≤ 255) (hr1 : h.1 + 25000 ≤ 600192) (hr2 : h.2.1 + 900000 ≤ 7302232) (kS : qz_I h 770 7 ≠ 0 → ∀ g, mC g Cs → Q (.inl (some (ez_v (.inl 0))), g)) (kC : qz_I h 770 7 = 0 → ∀ o g cc, lnc (mb h) (qz_I h 770 2) 2 cc → (mC g (Cs ++ [cc]) ∨ (mC g Cs ∧ cc = none)) → Q (o, g)) : ez_W (d + 10) cm_276 0 [(0, .inr (.inr (some (770)))), (1, .inl (2))] [] h Q := by
  have b2 : 0 ≤ qz_I h 770 2 ∧ qz_I h 770 2 ≤ 4096 := ez_fB (cl := 11) (k := 2) hI.1 (hI.2.1 770 (by decide)) tq_75 rfl rfl (by decide)
  refine rd_mlA2 (d := d + 2) hI (by omega) (by omega) (fun s g I9 f9 j9 z9 => kS s g (hm.f7 hI f9 j9)) (fun hs l g τ1 A a I1 hA hfl => ?_) (fun hs l g τ1 a I1 hno => ?_)
  · skip
    have t7 : τ1 770 = 75 := I1.2.1 770 (by decide)
    have hl3 := a.2.1
    have l78 := ez_l78 I1.1 hl3.1
    have hlz : lz l := ⟨fun e => (by have t := hl3.1; rw [e, t7] at t; cases t), fun e => (by have t := hl3.1; rw [e, I1.2.1 771 (by decide)] at t; cases t), fun e => (by have t := hl3.1; rw [e, I1.2.1 789 (by decide)] at t; cases t), fun e => (by have t := hl3.1; rw [e, I1.2.1 790 (by decide)] at t; cases t)⟩
    have tt := ez_tls I1.1 t7
    have usp : τ1 (qz_P g l 7) = 15 := by rw [l78.1]; exact hl3.2.1
    have ucp : τ1 (qz_P g l 8) = 16 := by rw [l78.2]; exact hl3.2.2
    have eb : mb g = mb h := funext fun k => by unfold mb qz_I; rw [a.c hI.2.1 (hI.2.1 771 (by decide)) rfl]
    have a8 := a.2.2.2.2.2.2.2.1
    have en : pn g = pn h := a8 10 (by decide) (by decide)
    have ec : lc g = lc h := a8 12 (by decide) (by decide)
    have hbn : 0 < qz_I h 770 2 := rz_A_pos (by decide) hA
    have hlc2 : lc h ≤ 255 := by omega
    have b10 : 0 ≤ pn g ∧ pn g ≤ 38500 := ez_fB (cl := 11) (k := 10) I1.1 t7 tq_75 rfl rfl (by decide)
    have nN : 1024 ≤ qz_N g (po g) ∧ qz_N g (po g) ≤ 77100 := ez_len I1.1 tt.2 tq_17 rfl
    have np := I1.2.2.1.2.2
    have FF : ∀ k, 0 ≤ k → k < 3 → (0 ≤ mf g k ∧ mf g k ≤ mt g k) ∧ mt g k ≤ qz_I h 770 2 ∧ (mf g k < mt g k → ¬ bk (mb g (mf g k)) ∧ ¬ bk (mb g (mt g k - 1))) ∧ (∀ j, mf g k ≤ j → j < mt g k → 0 ≤ mb g j ∧ mb g j ≤ 127) := fun k k0 k1 => by rw [(hfl k k0 k1).1, (hfl k k0 k1).2, eb]; exact rz_A_fl hA b2.2 k0 (by show k < ((3 : Nat) : Int); omega)
    have hF : ∀ k, 0 ≤ k → k < 3 → (0 ≤ mf g k ∧ mf g k ≤ mt g k) ∧ mt g k ≤ 4096 := fun k k0 k1 => ⟨(FF k k0 k1).1, by have := (FF k k0 k1).2.1; omega⟩
    have hTr : ∀ k, 0 ≤ k → k < 3 → mf g k < mt g k → ¬ bk (mb g (mf g k)) ∧ ¬ bk (mb g (mt g k - 1)) := fun k k0 k1 => (FF k k0 k1).2.2.1
    have hnl := nl_aq hI a
    have hlg0 : l2 (l + 1) (l + 2) g := ⟨fun j => by rw [a.2.2.2.1, a.2.2.2.2.1]; omega, by rw [a.2.2.2.1, a.2.2.2.2.1]; omega⟩
    have hl2 : l2 (qz_P g l 7) (qz_P g l 8) g := by rw [l78.1, l78.2]; exact hlg0
    have hc0 : ∀ j, qz_I g (qz_P g l 8) j = 0 := fun j => by rw [l78.2]; exact a.2.2.2.2.1 j
    have cr := a.2.2.2.2.2.2.2.2.2
    refine ez_go (n := 1) (pc' := 97) (L' := [(3, .inr (.inr (some (l)))), (2, .inl (pn h)), (0, .inr (.inr (some (770)))), (1, .inl (2))]) (st' := [.inl (2)]) rfl ?_
    refine ez_if rfl rfl ⟨by decide, by decide⟩ (fun _ => ?_) (fun (c1 : ¬((2 : Int) ≠ (0))) => absurd c1 (by decide))
    refine ez_go (n := 2) (pc' := 110) (L' := [(3, .inr (.inr (some (l)))), (2, .inl (pn h)), (0, .inr (.inr (some (770)))), (1, .inl (2))]) (st' := [.inl (1), .inl (2)]) rfl ?_
    refine ez_icmp rfl rfl ⟨by decide, by decide⟩ ⟨by decide, by decide⟩ (fun _ => ?_) (fun (c2 : ¬((2 : Int) ≠ (1))) => absurd c2 (by decide))
    refine ez_go (n := 2) (pc' := 123) (L' := [(3, .inr (.inr (some (l)))), (2, .inl (pn h)), (0, .inr (.inr (some (770)))), (1, .inl (2))]) (st' := [.inl (2), .inl (2)]) rfl ?_
    refine ez_icmp rfl rfl ⟨by decide, by decide⟩ ⟨by decide, by decide⟩ (fun (c3 : (2 : Int) ≠ (2)) => absurd c3 (by decide)) (fun _ => ?_)
    refine ez_go (n := 2) (pc' := 128) (L' := [(3, .inr (.inr (some (l)))), (2, .inl (pn h)), (0, .inr (.inr (some (770)))), (1, .inl (2))]) (st' := [.inr (.inr (some (l))), .inr (.inr (some (770)))]) rfl ?_
    refine ez_cv I1.1 t7 rfl rfl rfl tq_75 rfl rfl rfl (rd_folding (d := d) I1.1 t7 hl3.1 hlz usp ucp tt.2 b10.1 I1.2.2.1.1.2 (by omega) nN.1 (by omega) (by omega) hl2.1 hc0 hF hTr (fun g2 τ2 A2 hB2 hp hA2 hk hG9 h12 h1c h5c hvs => ez_K0 ?_) (fun g2 τ2 A2 hB2 hp hk hnG => ez_Kc (xc_exc hB2 rfl) rfl ?_))
    · skip
      rw [l78.1, l78.2] at hp
      have k2 : qz_I g2 l 0 = 2 := hk.trans a.2.2.1.1
      have q2 := hp.1.lq
      have lg2 := hp.2
      have h42 : qz_I g2 l 0 = 4 → qz_I g2 (l + 1) 1 + 4 * qz_I g2 (l + 2) 1 ≤ qz_N g2 (po g2) := fun w => by omega
      have v7 : τ2 770 = 75 := (q2.1 770 (by rw [t7]; decide)).1.trans t7
      have hl4 : τ2 l = 13 ∧ τ2 (l + 1) = 15 ∧ τ2 (l + 2) = 16 := ⟨(q2.1 l (by rw [hl3.1]; decide)).1.trans hl3.1, (q2.1 _ (by rw [hl3.2.1]; decide)).1.trans hl3.2.1, (q2.1 _ (by rw [hl3.2.2]; decide)).1.trans hl3.2.2⟩
      have II := I1.lq hl3 hnl q2 hB2 lg2 h42
      have rr := q2.2.2.2.2.2.2.2.2.1
      have rp := pool_le hB2 q2.2.2.1
      have fq := fw_lq (fw_aq a hI.1 hI.2.1) q2 I1.1 t7 a.1 hl3
      have o1 := oL.aq hI a
      have o2 := oL.lq I1 hl3 hnl q2
      have o12 := o1.trans o2 (by omega)
      have q2n := q2.2.2.2.2.1
      refine ez_go (n := 2) (pc' := 168) (L' := [(3, .inr (.inr (some (l)))), (2, .inl (pn h)), (0, .inr (.inr (some (770)))), (1, .inl (2))]) (st' := []) rfl ?_
      refine ez_less [(1, .inl (2)), (3, .inr (.inr (some (l)))), (0, .inr (.inr (some (770))))] rfl ⟨rfl, rfl, rfl, trivial⟩ ?_
      have I2 := II.1
      have ec2 : lc g2 = lc h := (q2.2.2.2.1 12 (by decide) (by decide) (by decide) (by decide)).trans ec
      have tcp2 : τ2 (qz_P g2 l 8) = 16 := by rw [(ez_l78 hB2 hl4.1).2]; exact hl4.2.2
      refine rd_ml hB2 v7 hl4.1 (ez_tls hB2 v7).1 tcp2 ⟨by omega, by omega⟩ I2.2.2.1.1.1 (by omega) I2.2.2.1.2.1 I2.2.2.2.1.1 (by omega) (by omega) (fun g3 τ3 v hB3 u hv => kC hs _ g3 none (lnc_o (by decide)) (Or.inl ((hm.o o12 (by omega)).lu I2 hl4 u ⟨fun _ w => absurd ((k2).symm.trans w) (by decide), fun a9 w => by cases w⟩)))
    · skip
      rw [l78.1, l78.2] at hp
      have k2 : qz_I g2 l 0 = 2 := hk.trans a.2.2.1.1
      have q2 := hp.1.lq
      have lg2 := hp.2
      have h42 : qz_I g2 l 0 = 4 → qz_I g2 (l + 1) 1 + 4 * qz_I g2 (l + 2) 1 ≤ qz_N g2 (po g2) := fun w => by omega
      have v7 : τ2 770 = 75 := (q2.1 770 (by rw [t7]; decide)).1.trans t7
      have hl4 : τ2 l = 13 ∧ τ2 (l + 1) = 15 ∧ τ2 (l + 2) = 16 := ⟨(q2.1 l (by rw [hl3.1]; decide)).1.trans hl3.1, (q2.1 _ (by rw [hl3.2.1]; decide)).1.trans hl3.2.1, (q2.1 _ (by rw [hl3.2.2]; decide)).1.trans hl3.2.2⟩
      have II := I1.lq hl3 hnl q2 hB2 lg2 h42
      have rr := q2.2.2.2.2.2.2.2.2.1
      have rp := pool_le hB2 q2.2.2.1
      have fq := fw_lq (fw_aq a hI.1 hI.2.1) q2 I1.1 t7 a.1 hl3
      have o1 := oL.aq hI a
      have o2 := oL.lq I1 hl3 hnl q2
      have o12 := o1.trans o2 (by omega)
      have q2n := q2.2.2.2.2.1
      refine ez_less [(3, .inr (.inr (some (l)))), (2, .inl (pn h)), (0, .inr (.inr (some (770)))), (1, .inl (2))] rfl ⟨rfl, rfl, rfl, rfl, trivial⟩ ?_
      refine rd_mlE (d := d + 9) (n := pn h) (xc_B hB2 (by omega) (by omega)) v7 (by omega) (by omega) (fun g3 hB3 f3 j3 p3 z3 => kC hs _ g3 none (lnc_o (by decide)) (Or.inr ⟨hm.o (o12.trans (oL.f II.1 (fun q hq h7 _ => by rw [f3.2.2 q (dz_beq_ne h7), xc_t hB2 hq]) (fun j hj => by rw [j3 j (by omega) (by omega)]; unfold qz_I; rw [xc_t hB2 (by rw [v7]; decide)])) (by omega)) (by omega), rfl⟩))
  · skip
    have t7 : τ1 770 = 75 := I1.2.1 770 (by decide)
    have en : pn g = pn h := a.2.2.2.2.2.2.2.1 10 (by decide) (by decide)
    have b10 : 0 ≤ pn g ∧ pn g ≤ 38500 := ez_fB (cl := 11) (k := 10) I1.1 t7 tq_75 rfl rfl (by decide)
    have cr := a.2.2.2.2.2.2.2.2.2
    have o1 := oL.aq hI a
    exact rd_mlE (d := d + 9) (n := pn h) (xc_B I1.1 (by omega) (by omega)) t7 (by omega) (by omega) (fun g3 hB3 f3 j3 p3 z3 => kC hs _ g3 none (lnc_o (by decide)) (Or.inr ⟨hm.o (o1.trans (oL.f I1 (fun q hq h7 _ => by rw [f3.2.2 q (dz_beq_ne h7), xc_t I1.1 hq]) (fun j hj => by rw [j3 j (by omega) (by omega)]; unfold qz_I; rw [xc_t I1.1 (by rw [t7]; decide)])) (by omega)) (by omega), rfl⟩))

theorem rd_mlK3 (hI : mI τ h Ls 0) (hm : mC h Cs) (hlc : qz_I h 770 2 = 0 ∨ lc h ≤ 255) (hr1 : h.1 + 25000 ≤ 600192) (hr2 : h.2.1 + 900000 ≤ 7302232) (kS : qz_I h 770 7 ≠ 0 → ∀ g, mC g Cs → Q (.inl (some (ez_v (.inl 0))), g)) (kC : qz_I h 770 7 = 0 → ∀ o g cc, lnc (mb h) (qz_I h 770 2) 3 cc → (mC g (Cs ++ [cc]) ∨ (mC g Cs ∧ cc = none)) → Q (o, g)) : ez_W (d + 10) cm_276 0 [(0, .inr (.inr (some (770)))), (1, .inl (3))] [] h Q := by
  have b2 : 0 ≤ qz_I h 770 2 ∧ qz_I h 770 2 ≤ 4096 := ez_fB (cl := 11) (k := 2) hI.1 (hI.2.1 770 (by decide)) tq_75 rfl rfl (by decide)
  refine rd_mlA3 (d := d + 2) hI (by omega) (by omega) (fun s g I9 f9 j9 z9 => kS s g (hm.f7 hI f9 j9)) (fun hs l g τ1 A a I1 hA hfl => ?_) (fun hs l g τ1 a I1 hno => ?_)
  · skip
    have t7 : τ1 770 = 75 := I1.2.1 770 (by decide)
    have hl3 := a.2.1
    have l78 := ez_l78 I1.1 hl3.1
    have hlz : lz l := ⟨fun e => (by have t := hl3.1; rw [e, t7] at t; cases t), fun e => (by have t := hl3.1; rw [e, I1.2.1 771 (by decide)] at t; cases t), fun e => (by have t := hl3.1; rw [e, I1.2.1 789 (by decide)] at t; cases t), fun e => (by have t := hl3.1; rw [e, I1.2.1 790 (by decide)] at t; cases t)⟩
    have tt := ez_tls I1.1 t7
    have usp : τ1 (qz_P g l 7) = 15 := by rw [l78.1]; exact hl3.2.1
    have ucp : τ1 (qz_P g l 8) = 16 := by rw [l78.2]; exact hl3.2.2
    have eb : mb g = mb h := funext fun k => by unfold mb qz_I; rw [a.c hI.2.1 (hI.2.1 771 (by decide)) rfl]
    have a8 := a.2.2.2.2.2.2.2.1
    have en : pn g = pn h := a8 10 (by decide) (by decide)
    have ec : lc g = lc h := a8 12 (by decide) (by decide)
    have hbn : 0 < qz_I h 770 2 := rz_A_pos (by decide) hA
    have hlc2 : lc h ≤ 255 := by omega
    have b10 : 0 ≤ pn g ∧ pn g ≤ 38500 := ez_fB (cl := 11) (k := 10) I1.1 t7 tq_75 rfl rfl (by decide)
    have nN : 1024 ≤ qz_N g (po g) ∧ qz_N g (po g) ≤ 77100 := ez_len I1.1 tt.2 tq_17 rfl
    have np := I1.2.2.1.2.2
    have FF : ∀ k, 0 ≤ k → k < 2 → (0 ≤ mf g k ∧ mf g k ≤ mt g k) ∧ mt g k ≤ qz_I h 770 2 ∧ (mf g k < mt g k → ¬ bk (mb g (mf g k)) ∧ ¬ bk (mb g (mt g k - 1))) ∧ (∀ j, mf g k ≤ j → j < mt g k → 0 ≤ mb g j ∧ mb g j ≤ 127) := fun k k0 k1 => by rw [(hfl k k0 k1).1, (hfl k k0 k1).2, eb]; exact rz_A_fl hA b2.2 k0 (by show k < ((2 : Nat) : Int); omega)
    have hF : ∀ k, 0 ≤ k → k < 2 → (0 ≤ mf g k ∧ mf g k ≤ mt g k) ∧ mt g k ≤ 4096 := fun k k0 k1 => ⟨(FF k k0 k1).1, by have := (FF k k0 k1).2.1; omega⟩
    have hTr : ∀ k, 0 ≤ k → k < 2 → mf g k < mt g k → ¬ bk (mb g (mf g k)) ∧ ¬ bk (mb g (mt g k - 1)) := fun k k0 k1 => (FF k k0 k1).2.2.1
    have hnl := nl_aq hI a
    have hlg0 : l2 (l + 1) (l + 2) g := ⟨fun j => by rw [a.2.2.2.1, a.2.2.2.2.1]; omega, by rw [a.2.2.2.1, a.2.2.2.2.1]; omega⟩
    have hl2 : l2 (qz_P g l 7) (qz_P g l 8) g := by rw [l78.1, l78.2]; exact hlg0
    have hc0 : ∀ j, qz_I g (qz_P g l 8) j = 0 := fun j => by rw [l78.2]; exact a.2.2.2.2.1 j
    have cr := a.2.2.2.2.2.2.2.2.2
    refine ez_go (n := 1) (pc' := 97) (L' := [(3, .inr (.inr (some (l)))), (2, .inl (pn h)), (0, .inr (.inr (some (770)))), (1, .inl (3))]) (st' := [.inl (3)]) rfl ?_
    refine ez_if rfl rfl ⟨by decide, by decide⟩ (fun _ => ?_) (fun (c1 : ¬((3 : Int) ≠ (0))) => absurd c1 (by decide))
    refine ez_go (n := 2) (pc' := 110) (L' := [(3, .inr (.inr (some (l)))), (2, .inl (pn h)), (0, .inr (.inr (some (770)))), (1, .inl (3))]) (st' := [.inl (1), .inl (3)]) rfl ?_
    refine ez_icmp rfl rfl ⟨by decide, by decide⟩ ⟨by decide, by decide⟩ (fun _ => ?_) (fun (c2 : ¬((3 : Int) ≠ (1))) => absurd c2 (by decide))
    refine ez_go (n := 2) (pc' := 123) (L' := [(3, .inr (.inr (some (l)))), (2, .inl (pn h)), (0, .inr (.inr (some (770)))), (1, .inl (3))]) (st' := [.inl (2), .inl (3)]) rfl ?_
    refine ez_icmp rfl rfl ⟨by decide, by decide⟩ ⟨by decide, by decide⟩ (fun _ => ?_) (fun (c3 : ¬((3 : Int) ≠ (2))) => absurd c3 (by decide))
    refine ez_go (n := 2) (pc' := 136) (L' := [(3, .inr (.inr (some (l)))), (2, .inl (pn h)), (0, .inr (.inr (some (770)))), (1, .inl (3))]) (st' := [.inl (3), .inl (3)]) rfl ?_
    refine ez_icmp rfl rfl ⟨by decide, by decide⟩ ⟨by decide, by decide⟩ (fun (c4 : (3 : Int) ≠ (3)) => absurd c4 (by decide)) (fun _ => ?_)
    refine ez_go (n := 2) (pc' := 141) (L' := [(3, .inr (.inr (some (l)))), (2, .inl (pn h)), (0, .inr (.inr (some (770)))), (1, .inl (3))]) (st' := [.inr (.inr (some (l))), .inr (.inr (some (770)))]) rfl ?_
    refine ez_cv I1.1 t7 rfl rfl rfl tq_75 rfl rfl rfl (rd_property (d := d) I1.1 t7 hl3.1 hlz I1.2.2.2.2.2.1.1 I1.2.2.2.2.2.1.2 (fun s w hs => (nz_hz I1.1 I1.2.1 s w hs).1) (hF 0 (by omega) (by omega)) (hF 1 (by omega) (by omega)) (FF 1 (by omega) (by omega)).2.2.2 (by omega) (by omega) (fun hrg hG9 g2 τ2 hB2 hp y1 y2 y5 ypv yo r1 r2 => ez_K0 ?_) (fun hno hnG g2 τ2 hB2 hp r1 r2 => ez_Kc (xc_exc hB2 rfl) rfl ?_))
    · skip
      have F1 := FF 1 (by omega) (by omega)
      have q2 := hp.lq (X := lX l (l + 1) (l + 2)) (e := 5 * (mt g 1 - mf g 1) + 40) (lX_l _ _ _) t7 hl3.1 tt.2 I1.2.2.1.1.2 (by omega) (by omega)
      have lg2 := hlg0.1.py hp t7 hl3.1 hl3.2.1 hl3.2.2 tt.2
      have z1 : ∀ j, qz_I g2 (l + 1) j = 0 := fun j => by rw [← a.2.2.2.1 j]; unfold qz_I; rw [(hp.1 (l + 1) (by rw [hl3.2.1]; decide)).2 (fun e => by have t := hl3.2.1; rw [e, t7] at t; cases t) (by omega) (by rw [hl3.2.1]; decide) (by rw [hl3.2.1]; decide)]
      have z2 : ∀ j, qz_I g2 (l + 2) j = 0 := fun j => by rw [← a.2.2.2.2.1 j]; unfold qz_I; rw [(hp.1 (l + 2) (by rw [hl3.2.2]; decide)).2 (fun e => by have t := hl3.2.2; rw [e, t7] at t; cases t) (by omega) (by rw [hl3.2.2]; decide) (by rw [hl3.2.2]; decide)]
      have nn0 := qz_N_nn g2 (po g2)
      have h42 : qz_I g2 l 0 = 4 → qz_I g2 (l + 1) 1 + 4 * qz_I g2 (l + 2) 1 ≤ qz_N g2 (po g2) := fun _ => by rw [z1, z2]; omega
      have v7 : τ2 770 = 75 := (q2.1 770 (by rw [t7]; decide)).1.trans t7
      have hl4 : τ2 l = 13 ∧ τ2 (l + 1) = 15 ∧ τ2 (l + 2) = 16 := ⟨(q2.1 l (by rw [hl3.1]; decide)).1.trans hl3.1, (q2.1 _ (by rw [hl3.2.1]; decide)).1.trans hl3.2.1, (q2.1 _ (by rw [hl3.2.2]; decide)).1.trans hl3.2.2⟩
      have II := I1.lq hl3 hnl q2 hB2 lg2 h42
      have rr := q2.2.2.2.2.2.2.2.2.1
      have rp := pool_le hB2 q2.2.2.1
      have fq := fw_lq (fw_aq a hI.1 hI.2.1) q2 I1.1 t7 a.1 hl3
      have o1 := oL.aq hI a
      have o2 := oL.lq I1 hl3 hnl q2
      have o12 := o1.trans o2 (by omega)
      have q2n := q2.2.2.2.2.1
      refine ez_go (n := 2) (pc' := 168) (L' := [(3, .inr (.inr (some (l)))), (2, .inl (pn h)), (0, .inr (.inr (some (770)))), (1, .inl (3))]) (st' := []) rfl ?_
      refine ez_less [(1, .inl (3)), (3, .inr (.inr (some (l)))), (0, .inr (.inr (some (770))))] rfl ⟨rfl, rfl, rfl, trivial⟩ ?_
      have I2 := II.1
      have ec2 : lc g2 = lc h := (q2.2.2.2.1 12 (by decide) (by decide) (by decide) (by decide)).trans ec
      have tcp2 : τ2 (qz_P g2 l 8) = 16 := by rw [(ez_l78 hB2 hl4.1).2]; exact hl4.2.2
      refine rd_ml hB2 v7 hl4.1 (ez_tls hB2 v7).1 tcp2 ⟨by omega, by omega⟩ I2.2.2.1.1.1 (by omega) I2.2.2.1.2.1 I2.2.2.2.1.1 (by omega) (by omega) (fun g3 τ3 v hB3 u hv => kC hs _ g3 none (lnc_o (by decide)) (Or.inl ((hm.o o12 (by omega)).lu I2 hl4 u ⟨fun _ w => absurd (((yo 0 (by decide) (by decide) (by decide) (by decide)).trans a.2.2.1.1).symm.trans w) (by decide), fun a9 w => by cases w⟩)))
    · skip
      have F1 := FF 1 (by omega) (by omega)
      have q2 := hp.lq (X := lX l (l + 1) (l + 2)) (e := 5 * (mt g 1 - mf g 1) + 40) (lX_l _ _ _) t7 hl3.1 tt.2 I1.2.2.1.1.2 (by omega) (by omega)
      have lg2 := hlg0.1.py hp t7 hl3.1 hl3.2.1 hl3.2.2 tt.2
      have z1 : ∀ j, qz_I g2 (l + 1) j = 0 := fun j => by rw [← a.2.2.2.1 j]; unfold qz_I; rw [(hp.1 (l + 1) (by rw [hl3.2.1]; decide)).2 (fun e => by have t := hl3.2.1; rw [e, t7] at t; cases t) (by omega) (by rw [hl3.2.1]; decide) (by rw [hl3.2.1]; decide)]
      have z2 : ∀ j, qz_I g2 (l + 2) j = 0 := fun j => by rw [← a.2.2.2.2.1 j]; unfold qz_I; rw [(hp.1 (l + 2) (by rw [hl3.2.2]; decide)).2 (fun e => by have t := hl3.2.2; rw [e, t7] at t; cases t) (by omega) (by rw [hl3.2.2]; decide) (by rw [hl3.2.2]; decide)]
      have nn0 := qz_N_nn g2 (po g2)
      have h42 : qz_I g2 l 0 = 4 → qz_I g2 (l + 1) 1 + 4 * qz_I g2 (l + 2) 1 ≤ qz_N g2 (po g2) := fun _ => by rw [z1, z2]; omega
      have v7 : τ2 770 = 75 := (q2.1 770 (by rw [t7]; decide)).1.trans t7
      have hl4 : τ2 l = 13 ∧ τ2 (l + 1) = 15 ∧ τ2 (l + 2) = 16 := ⟨(q2.1 l (by rw [hl3.1]; decide)).1.trans hl3.1, (q2.1 _ (by rw [hl3.2.1]; decide)).1.trans hl3.2.1, (q2.1 _ (by rw [hl3.2.2]; decide)).1.trans hl3.2.2⟩
      have II := I1.lq hl3 hnl q2 hB2 lg2 h42
      have rr := q2.2.2.2.2.2.2.2.2.1
      have rp := pool_le hB2 q2.2.2.1
      have fq := fw_lq (fw_aq a hI.1 hI.2.1) q2 I1.1 t7 a.1 hl3
      have o1 := oL.aq hI a
      have o2 := oL.lq I1 hl3 hnl q2
      have o12 := o1.trans o2 (by omega)
      have q2n := q2.2.2.2.2.1
      refine ez_less [(3, .inr (.inr (some (l)))), (2, .inl (pn h)), (0, .inr (.inr (some (770)))), (1, .inl (3))] rfl ⟨rfl, rfl, rfl, rfl, trivial⟩ ?_
      refine rd_mlE (d := d + 9) (n := pn h) (xc_B hB2 (by omega) (by omega)) v7 (by omega) (by omega) (fun g3 hB3 f3 j3 p3 z3 => kC hs _ g3 none (lnc_o (by decide)) (Or.inr ⟨hm.o (o12.trans (oL.f II.1 (fun q hq h7 _ => by rw [f3.2.2 q (dz_beq_ne h7), xc_t hB2 hq]) (fun j hj => by rw [j3 j (by omega) (by omega)]; unfold qz_I; rw [xc_t hB2 (by rw [v7]; decide)])) (by omega)) (by omega), rfl⟩))
  · skip
    have t7 : τ1 770 = 75 := I1.2.1 770 (by decide)
    have en : pn g = pn h := a.2.2.2.2.2.2.2.1 10 (by decide) (by decide)
    have b10 : 0 ≤ pn g ∧ pn g ≤ 38500 := ez_fB (cl := 11) (k := 10) I1.1 t7 tq_75 rfl rfl (by decide)
    have cr := a.2.2.2.2.2.2.2.2.2
    have o1 := oL.aq hI a
    exact rd_mlE (d := d + 9) (n := pn h) (xc_B I1.1 (by omega) (by omega)) t7 (by omega) (by omega) (fun g3 hB3 f3 j3 p3 z3 => kC hs _ g3 none (lnc_o (by decide)) (Or.inr ⟨hm.o (o1.trans (oL.f I1 (fun q hq h7 _ => by rw [f3.2.2 q (dz_beq_ne h7), xc_t I1.1 hq]) (fun j hj => by rw [j3 j (by omega) (by omega)]; unfold qz_I; rw [xc_t I1.1 (by rw [t7]; decide)])) (by omega)) (by omega), rfl⟩))

theorem rd_mlK4 (hI : mI τ h Ls 0) (hm : mC h Cs) (hlc : qz_I h 770 2 = 0 ∨ lc h ≤ 255) (hr1 : h.1 + 25000 ≤ 600192) (hr2 : h.2.1 + 900000 ≤ 7302232) (kS : qz_I h 770 7 ≠ 0 → ∀ g, mC g Cs → Q (.inl (some (ez_v (.inl 0))), g)) (kC : qz_I h 770 7 = 0 → ∀ o g cc, lnc (mb h) (qz_I h 770 2) 4 cc → (mC g (Cs ++ [cc]) ∨ (mC g Cs ∧ cc = none)) → Q (o, g)) : ez_W (d + 10) cm_276 0 [(0, .inr (.inr (some (770)))), (1, .inl (4))] [] h Q := by
  have b2 : 0 ≤ qz_I h 770 2 ∧ qz_I h 770 2 ≤ 4096 := ez_fB (cl := 11) (k := 2) hI.1 (hI.2.1 770 (by decide)) tq_75 rfl rfl (by decide)
  refine rd_mlA4 (d := d + 2) hI (by omega) (by omega) (fun s g I9 f9 j9 z9 => kS s g (hm.f7 hI f9 j9)) (fun hs l g τ1 A a I1 hA hfl => ?_) (fun hs l g τ1 a I1 hno => ?_)
  · skip
    have t7 : τ1 770 = 75 := I1.2.1 770 (by decide)
    have hl3 := a.2.1
    have l78 := ez_l78 I1.1 hl3.1
    have hlz : lz l := ⟨fun e => (by have t := hl3.1; rw [e, t7] at t; cases t), fun e => (by have t := hl3.1; rw [e, I1.2.1 771 (by decide)] at t; cases t), fun e => (by have t := hl3.1; rw [e, I1.2.1 789 (by decide)] at t; cases t), fun e => (by have t := hl3.1; rw [e, I1.2.1 790 (by decide)] at t; cases t)⟩
    have tt := ez_tls I1.1 t7
    have usp : τ1 (qz_P g l 7) = 15 := by rw [l78.1]; exact hl3.2.1
    have ucp : τ1 (qz_P g l 8) = 16 := by rw [l78.2]; exact hl3.2.2
    have eb : mb g = mb h := funext fun k => by unfold mb qz_I; rw [a.c hI.2.1 (hI.2.1 771 (by decide)) rfl]
    have a8 := a.2.2.2.2.2.2.2.1
    have en : pn g = pn h := a8 10 (by decide) (by decide)
    have ec : lc g = lc h := a8 12 (by decide) (by decide)
    have hbn : 0 < qz_I h 770 2 := rz_A_pos (by decide) hA
    have hlc2 : lc h ≤ 255 := by omega
    have b10 : 0 ≤ pn g ∧ pn g ≤ 38500 := ez_fB (cl := 11) (k := 10) I1.1 t7 tq_75 rfl rfl (by decide)
    have nN : 1024 ≤ qz_N g (po g) ∧ qz_N g (po g) ≤ 77100 := ez_len I1.1 tt.2 tq_17 rfl
    have np := I1.2.2.1.2.2
    have FF : ∀ k, 0 ≤ k → k < 2 → (0 ≤ mf g k ∧ mf g k ≤ mt g k) ∧ mt g k ≤ qz_I h 770 2 ∧ (mf g k < mt g k → ¬ bk (mb g (mf g k)) ∧ ¬ bk (mb g (mt g k - 1))) ∧ (∀ j, mf g k ≤ j → j < mt g k → 0 ≤ mb g j ∧ mb g j ≤ 127) := fun k k0 k1 => by rw [(hfl k k0 k1).1, (hfl k k0 k1).2, eb]; exact rz_A_fl hA b2.2 k0 (by show k < ((2 : Nat) : Int); omega)
    have hF : ∀ k, 0 ≤ k → k < 2 → (0 ≤ mf g k ∧ mf g k ≤ mt g k) ∧ mt g k ≤ 4096 := fun k k0 k1 => ⟨(FF k k0 k1).1, by have := (FF k k0 k1).2.1; omega⟩
    have hTr : ∀ k, 0 ≤ k → k < 2 → mf g k < mt g k → ¬ bk (mb g (mf g k)) ∧ ¬ bk (mb g (mt g k - 1)) := fun k k0 k1 => (FF k k0 k1).2.2.1
    have hnl := nl_aq hI a
    have hlg0 : l2 (l + 1) (l + 2) g := ⟨fun j => by rw [a.2.2.2.1, a.2.2.2.2.1]; omega, by rw [a.2.2.2.1, a.2.2.2.2.1]; omega⟩
    have hl2 : l2 (qz_P g l 7) (qz_P g l 8) g := by rw [l78.1, l78.2]; exact hlg0
    have hc0 : ∀ j, qz_I g (qz_P g l 8) j = 0 := fun j => by rw [l78.2]; exact a.2.2.2.2.1 j
    have cr := a.2.2.2.2.2.2.2.2.2
    refine ez_go (n := 1) (pc' := 97) (L' := [(3, .inr (.inr (some (l)))), (2, .inl (pn h)), (0, .inr (.inr (some (770)))), (1, .inl (4))]) (st' := [.inl (4)]) rfl ?_
    refine ez_if rfl rfl ⟨by decide, by decide⟩ (fun _ => ?_) (fun (c1 : ¬((4 : Int) ≠ (0))) => absurd c1 (by decide))
    refine ez_go (n := 2) (pc' := 110) (L' := [(3, .inr (.inr (some (l)))), (2, .inl (pn h)), (0, .inr (.inr (some (770)))), (1, .inl (4))]) (st' := [.inl (1), .inl (4)]) rfl ?_
    refine ez_icmp rfl rfl ⟨by decide, by decide⟩ ⟨by decide, by decide⟩ (fun _ => ?_) (fun (c2 : ¬((4 : Int) ≠ (1))) => absurd c2 (by decide))
    refine ez_go (n := 2) (pc' := 123) (L' := [(3, .inr (.inr (some (l)))), (2, .inl (pn h)), (0, .inr (.inr (some (770)))), (1, .inl (4))]) (st' := [.inl (2), .inl (4)]) rfl ?_
    refine ez_icmp rfl rfl ⟨by decide, by decide⟩ ⟨by decide, by decide⟩ (fun _ => ?_) (fun (c3 : ¬((4 : Int) ≠ (2))) => absurd c3 (by decide))
    refine ez_go (n := 2) (pc' := 136) (L' := [(3, .inr (.inr (some (l)))), (2, .inl (pn h)), (0, .inr (.inr (some (770)))), (1, .inl (4))]) (st' := [.inl (3), .inl (4)]) rfl ?_
    refine ez_icmp rfl rfl ⟨by decide, by decide⟩ ⟨by decide, by decide⟩ (fun _ => ?_) (fun (c4 : ¬((4 : Int) ≠ (3))) => absurd c4 (by decide))
    refine ez_go (n := 2) (pc' := 149) (L' := [(3, .inr (.inr (some (l)))), (2, .inl (pn h)), (0, .inr (.inr (some (770)))), (1, .inl (4))]) (st' := [.inr (.inr (some (l))), .inr (.inr (some (770)))]) rfl ?_
    have cA : ez_W (d + 9) cm_236 0 [(0, .inr (.inr (some (770)))), (1, .inr (.inr (some (l))))] [] g (fun G => (∃ g2 τ2 c2 A2, G = (.inl none, g2) ∧ ez_B τ2 g2 ∧ co τ1 g τ2 g2 l c2 0 A2 ∧ c2 ≤ 18 ∧ rz_G4 (mb g) (mf g) (mt g) ∧ (∀ vs, rz_rw (mb g) 3 (mf g 0) (mt g 0) = some vs → qz_I g2 (qz_P g l 8) 0 = (vs.length : Int))) ∨ (∃ g2 τ2 A2, G = (.inr g2.1, xc g2 1) ∧ ez_B τ2 g2 ∧ (pj (lX l (qz_P g l 7) (qz_P g l 8)) τ1 g τ2 g2 A2 ∧ l2 (qz_P g l 7) (qz_P g l 8) g2) ∧ qz_I g2 l 0 = qz_I g l 0 ∧ ¬ rz_G4 (mb g) (mf g) (mt g))) := rd_collation (d := d) I1.1 t7 hl3.1 hlz usp ucp tt.2 b10.1 I1.2.2.1.1.2 (by omega) nN.1 (by omega) (by omega) hl2 hc0 hF hTr (fun g2 τ2 c2 A2 hB2 hp c18 hG9 hv9 => Or.inl ⟨g2, τ2, c2, A2, rfl, hB2, hp, c18, hG9, hv9⟩) (fun g2 τ2 A2 hB2 hp hk hnG => Or.inr ⟨g2, τ2, A2, rfl, hB2, hp, hk, hnG⟩)
    have cB : ez_W (d + 9) cm_236 0 [(0, .inr (.inr (some (770)))), (1, .inr (.inr (some (l))))] [] g (fun G => (∃ g2 τ2 c2 A2, ∃ q : Nat, ∃ vs, G = (.inl none, g2) ∧ co τ1 g τ2 g2 l c2 0 A2 ∧ (q : Int) = c2 ∧ rz_rw (mb g) 3 (mf g 0) (mt g 0) = some vs ∧ nz_el (mb g) (mt g 1) q (mf g 1) ∧ (1 ≤ q ∧ q ≤ 18) ∧ A2 = vs ++ fl4 (nz_ev (mb g) (mt g 1) q (mf g 1)) ∧ qz_I g2 (qz_P g l 8) 0 = (vs.length : Int) ∧ qz_I g2 (qz_P g l 7) 0 = pn g ∧ qz_I g2 (qz_P g l 7) 1 = pn g + (vs.length : Int)) ∨ (∃ r k2, G = (.inr r, k2))) := rd_collK (d := d) I1.1 t7 hl3.1 hlz usp ucp tt.2 b10.1 I1.2.2.1.1.2 (by omega) nN.1 (by omega) (by omega) hl2 hc0 hF hTr (fun g2 τ2 c2 A2 q vs hB2 hp y1 y2 y3 y4 y5 y6 y7 y8 => Or.inl ⟨g2, τ2, c2, A2, q, vs, rfl, hp, y1, y2, y3, y4, y5, y6, y7, y8⟩) (fun g2 τ2 A2 hB2 hp hk hnG => Or.inr ⟨_, _, rfl⟩)
    refine ez_cv I1.1 t7 rfl rfl rfl tq_75 rfl rfl rfl (ez_mono (ez_and cA cB) (fun G hG => ?_))
    obtain ⟨hG1, hG2⟩ := hG
    rcases hG1 with ⟨g2, τ2, c2, A2, eG, hB2, hp, c18, hG9, hv9⟩ | ⟨g2, τ2, A2, eG, hB2, hp, hk, hnG⟩
    · subst eG
      rcases hG2 with ⟨g5, τ5, c5, A5, q, vs, eG, hp5, y1, y2, y3, y4, y5, y6, y7, y8⟩ | ⟨r9, k9, eG⟩
      rotate_left
      · cases eG
      cases eG
      refine ez_K0 ?_
      have hp2 := hp.l2 (by omega)
      have q2 := hp.1.lq
      rw [l78.1, l78.2] at q2 hp2
      have lg2 := hp2.1
      have h42 : qz_I g2 l 0 = 4 → qz_I g2 (l + 1) 1 + 4 * qz_I g2 (l + 2) 1 ≤ qz_N g2 (po g2) := fun _ => hp2.2
      have v7 : τ2 770 = 75 := (q2.1 770 (by rw [t7]; decide)).1.trans t7
      have hl4 : τ2 l = 13 ∧ τ2 (l + 1) = 15 ∧ τ2 (l + 2) = 16 := ⟨(q2.1 l (by rw [hl3.1]; decide)).1.trans hl3.1, (q2.1 _ (by rw [hl3.2.1]; decide)).1.trans hl3.2.1, (q2.1 _ (by rw [hl3.2.2]; decide)).1.trans hl3.2.2⟩
      have II := I1.lq hl3 hnl q2 hB2 lg2 h42
      have rr := q2.2.2.2.2.2.2.2.2.1
      have rp := pool_le hB2 q2.2.2.1
      have fq := fw_lq (fw_aq a hI.1 hI.2.1) q2 I1.1 t7 a.1 hl3
      have o1 := oL.aq hI a
      have o2 := oL.lq I1 hl3 hnl q2
      have o12 := o1.trans o2 (by omega)
      have q2n := q2.2.2.2.2.1
      refine ez_go (n := 1) (pc' := 168) (L' := [(3, .inr (.inr (some (l)))), (2, .inl (pn h)), (0, .inr (.inr (some (770)))), (1, .inl (4))]) (st' := []) rfl ?_
      refine ez_less [(1, .inl (4)), (3, .inr (.inr (some (l)))), (0, .inr (.inr (some (770))))] rfl ⟨rfl, rfl, rfl, trivial⟩ ?_
      have mcl : mCl g2 l (some (vs, nz_ev (mb g) (mt g 1) q (mf g 1))) := mCl_co I1.1 hl3.1 hp5 a.2.2.1.1 b10.1 y1 (nz_ev_len _ _ _ _) y4 y5 (nz_ev_ok _ _ _ _ y3) ⟨⟨(rw_p9 y2).2, by have := rw_18 y2; omega⟩, (rw_p9 y2).1⟩ y6 y7 y8
      have lnc9 : lnc (mb h) (qz_I h 770 2) 4 (some (vs, nz_ev (mb g) (mt g 1) q (mf g 1))) := Or.inl ⟨rfl, vs, _, ⟨A, q, hA, by rw [← (hfl 0 (by omega) (by omega)).1, ← (hfl 0 (by omega) (by omega)).2, ← eb]; exact y2, by rw [← (hfl 1 (by omega) (by omega)).2, ← (hfl 1 (by omega) (by omega)).1, ← eb]; exact y3, y4, by rw [← (hfl 1 (by omega) (by omega)).2, ← (hfl 1 (by omega) (by omega)).1, ← eb]⟩, rfl⟩
      have I2 := II.1
      have ec2 : lc g2 = lc h := (q2.2.2.2.1 12 (by decide) (by decide) (by decide) (by decide)).trans ec
      have tcp2 : τ2 (qz_P g2 l 8) = 16 := by rw [(ez_l78 hB2 hl4.1).2]; exact hl4.2.2
      refine rd_ml hB2 v7 hl4.1 (ez_tls hB2 v7).1 tcp2 ⟨by omega, by omega⟩ I2.2.2.1.1.1 (by omega) I2.2.2.1.2.1 I2.2.2.2.1.1 (by omega) (by omega) (fun g3 τ3 v hB3 u hv => kC hs _ g3 _ lnc9 (Or.inl ((hm.o o12 (by omega)).lu I2 hl4 u mcl)))
    · subst eG
      refine ez_Kc (xc_exc hB2 rfl) rfl ?_
      rw [l78.1, l78.2] at hp
      have q2 := hp.1.lq
      have lg2 := hp.2.1
      have h42 : qz_I g2 l 0 = 4 → qz_I g2 (l + 1) 1 + 4 * qz_I g2 (l + 2) 1 ≤ qz_N g2 (po g2) := fun _ => hp.2.2
      have v7 : τ2 770 = 75 := (q2.1 770 (by rw [t7]; decide)).1.trans t7
      have hl4 : τ2 l = 13 ∧ τ2 (l + 1) = 15 ∧ τ2 (l + 2) = 16 := ⟨(q2.1 l (by rw [hl3.1]; decide)).1.trans hl3.1, (q2.1 _ (by rw [hl3.2.1]; decide)).1.trans hl3.2.1, (q2.1 _ (by rw [hl3.2.2]; decide)).1.trans hl3.2.2⟩
      have II := I1.lq hl3 hnl q2 hB2 lg2 h42
      have rr := q2.2.2.2.2.2.2.2.2.1
      have rp := pool_le hB2 q2.2.2.1
      have fq := fw_lq (fw_aq a hI.1 hI.2.1) q2 I1.1 t7 a.1 hl3
      have o1 := oL.aq hI a
      have o2 := oL.lq I1 hl3 hnl q2
      have o12 := o1.trans o2 (by omega)
      have q2n := q2.2.2.2.2.1
      refine ez_less [(3, .inr (.inr (some (l)))), (2, .inl (pn h)), (0, .inr (.inr (some (770)))), (1, .inl (4))] rfl ⟨rfl, rfl, rfl, rfl, trivial⟩ ?_
      refine rd_mlE (d := d + 9) (n := pn h) (xc_B hB2 (by omega) (by omega)) v7 (by omega) (by omega) (fun g3 hB3 f3 j3 p3 z3 => kC hs _ g3 none (Or.inr ⟨fun w => by obtain ⟨-, vs, es, A5, q, w1, w2, w3, w4, -⟩ := w; have eA := rz_A_uniq hA w1; subst eA; exact hnG (by unfold rz_G4; rw [eb, (hfl 0 (by omega) (by omega)).1, (hfl 0 (by omega) (by omega)).2, (hfl 1 (by omega) (by omega)).1, (hfl 1 (by omega) (by omega)).2]; exact ⟨fun y => (by rw [y] at w2; cases w2), q, w4, w3⟩), rfl⟩) (Or.inr ⟨hm.o (o12.trans (oL.f II.1 (fun q hq h7 _ => by rw [f3.2.2 q (dz_beq_ne h7), xc_t hB2 hq]) (fun j hj => by rw [j3 j (by omega) (by omega)]; unfold qz_I; rw [xc_t hB2 (by rw [v7]; decide)])) (by omega)) (by omega), rfl⟩))
  · skip
    have t7 : τ1 770 = 75 := I1.2.1 770 (by decide)
    have en : pn g = pn h := a.2.2.2.2.2.2.2.1 10 (by decide) (by decide)
    have b10 : 0 ≤ pn g ∧ pn g ≤ 38500 := ez_fB (cl := 11) (k := 10) I1.1 t7 tq_75 rfl rfl (by decide)
    have cr := a.2.2.2.2.2.2.2.2.2
    have o1 := oL.aq hI a
    exact rd_mlE (d := d + 9) (n := pn h) (xc_B I1.1 (by omega) (by omega)) t7 (by omega) (by omega) (fun g3 hB3 f3 j3 p3 z3 => kC hs _ g3 none (Or.inr ⟨fun w => by obtain ⟨-, vs, es, A5, q, w1, -⟩ := w; exact hno ⟨A5, w1⟩, rfl⟩) (Or.inr ⟨hm.o (o1.trans (oL.f I1 (fun q hq h7 _ => by rw [f3.2.2 q (dz_beq_ne h7), xc_t I1.1 hq]) (fun j hj => by rw [j3 j (by omega) (by omega)]; unfold qz_I; rw [xc_t I1.1 (by rw [t7]; decide)])) (by omega)) (by omega), rfl⟩))

end EzKk

/-! COLLATION: what is kept between the calls. -/
def r5K (τ : Nat → Nat) (h : cz_H) (Ls : List vz) : Prop := (τ 204 = 50 ∧ τ 744 = 10 ∧ τ 749 = 10) ∧ (∃ Cs R, mC h Cs ∧ cEr τ h (cLK Cs) R ∧ (R.length : Int) ≤ qz_I h 202 5) ∧ (clr h 744 ∧ clr h 749) ∧ qz_P h 770 39 ≠ qz_P h 770 40 ∧ ∀ x, (vF Ls x).1 ≤ 254
theorem clr_c5 {h g : cz_H} {r : Nat} (c : clr h r) (e : g.2.2 r = h.2.2 r) : clr g r := by
  unfold clr qz_I at c ⊢
  rw [e]; exact c
theorem mC_tr5 {τ : Nat → Nat} {h g : cz_H} {Cs : List cEo} (m : mC h Cs) (L : ∀ i : Nat, (i : Int) < lc h → τ (qz_P h (ls h) i) = 13 ∧ τ (qz_P h (ls h) i + 1) = 15 ∧ τ (qz_P h (ls h) i + 2) = 16) (tp : τ (po h) = 17) (tl : τ (ls h) = 18) (cel : ∀ x t, τ x = t → (t = 13 ∨ t = 15 ∨ t = 16 ∨ t = 17 ∨ t = 18) → g.2.2 x = h.2.2 x) (f7 : ∀ j, j = 9 ∨ j = 10 ∨ j = 11 ∨ j = 12 → qz_I g 770 j = qz_I h 770 j) : mC g Cs := by
  have el : ls g = ls h := by unfold ls qz_P; rw [f7 11 (by decide)]
  have ep : po g = po h := by unfold po qz_P; rw [f7 9 (by decide)]
  have en : pn g = pn h := f7 10 (by decide)
  have ec : lc g = lc h := f7 12 (by decide)
  have cl := cel _ _ tl (by decide)
  have cp := cel _ _ tp (by decide)
  refine ⟨m.1.trans ec.symm, fun k c hk => ?_⟩
  have hl : (k : Int) < lc h := by have := (List.getElem?_eq_some_iff.mp hk).1; have := m.1; omega
  obtain ⟨t0, t1, t2⟩ := L k hl
  rw [show qz_P g (ls g) k = qz_P h (ls h) k by rw [el]; unfold qz_P qz_I; rw [cl]]
  exact (m.2 k c hk).tr (by unfold qz_I; rw [cel _ _ t0 (by decide)]) (fun j => by unfold qz_I; rw [cel _ _ t1 (by decide)]) (fun j => by unfold qz_I; rw [cel _ _ t2 (by decide)]) (Int.le_of_eq en.symm) (fun j _ _ => by unfold pl qz_I; rw [ep, cp])
abbrev kp5 (t : Nat) : Prop := t = 7 ∨ t = 9 ∨ t = 10 ∨ t = 13 ∨ t = 15 ∨ t = 16 ∨ t = 17 ∨ t = 18 ∨ t = 50 ∨ t = 51
theorem r5_tr {τ τ3 : Nat → Nat} {h g : cz_H} {Ls : List vz} (q : r5K τ h Ls) (L : ∀ i : Nat, (i : Int) < lc h → τ (qz_P h (ls h) i) = 13 ∧ τ (qz_P h (ls h) i + 1) = 15 ∧ τ (qz_P h (ls h) i + 2) = 16) (tp : τ (po h) = 17) (tl : τ (ls h) = 18) (T : ∀ x t, τ x = t → kp5 t → τ3 x = t ∧ g.2.2 x = h.2.2 x) (t5 : τ 205 = 51) (i4 : qz_I g 202 4 = qz_I h 202 4) (i5 : qz_I g 202 5 = qz_I h 202 5) (f7 : ∀ j, j = 9 ∨ j = 10 ∨ j = 11 ∨ j = 12 ∨ j = 39 ∨ j = 40 → qz_I g 770 j = qz_I h 770 j) : r5K τ3 g Ls := by
  obtain ⟨⟨q1, q2, q3⟩, ⟨Cs, R, m, c, l⟩, ⟨a1, a2⟩, n, n9⟩ := q
  refine ⟨⟨(T _ _ q1 (by decide)).1, (T _ _ q2 (by decide)).1, (T _ _ q3 (by decide)).1⟩, ⟨Cs, R, mC_tr5 m L tp tl (fun x t hx ht => (T x t hx (by unfold kp5; omega)).2) (fun j hj => f7 j (by omega)), c.tr i4 (T _ _ q1 (by decide)).2 (T _ _ t5 (by decide)).2 (fun x hx => ?_), by rw [i5]; exact l⟩, ⟨clr_c5 a1 (T _ _ q2 (by decide)).2, clr_c5 a2 (T _ _ q3 (by decide)).2⟩, ?_, n9⟩
  · rcases hx with e | e
    · obtain ⟨b1, b2⟩ := T x _ e (by decide); exact ⟨b1.trans e.symm, b2⟩
    · obtain ⟨b1, b2⟩ := T x _ e (by decide); exact ⟨b1.trans e.symm, b2⟩
  · unfold qz_P; rw [f7 39 (by decide), f7 40 (by decide)]; exact n
theorem r5_of {τ : Nat → Nat} {h : cz_H} {Ls : List vz} {Cs : List cEo} {R : List (List Int × List eL)} (hX : jz_X τ) (m : mC h Cs) (c : cEr τ h (cLK Cs) R) (l : (R.length : Int) ≤ qz_I h 202 5) (a1 : clr h 744) (a2 : clr h 749) (n : qz_P h 770 39 ≠ qz_P h 770 40) (n9 : ∀ x, (vF Ls x).1 ≤ 254) : r5K τ h Ls := ⟨⟨hX 204 (by decide), hX 744 (by decide), hX 749 (by decide)⟩, ⟨Cs, R, m, c, l⟩, ⟨a1, a2⟩, n, n9⟩
/-- nothing told yet -/
theorem r5_0 {τ : Nat → Nat} {h : cz_H} (hX : jz_X τ) (l0 : qz_I h 770 12 = 0) (e0 : qz_I h 202 4 = 0) (l5 : qz_I h 202 5 = 0) (a1 : clr h 744) (a2 : clr h 749) (n : qz_P h 770 39 ≠ qz_P h 770 40) : r5K τ h [] := by
  refine r5_of (Cs := []) (R := []) hX ⟨?_, fun k c hk => (by cases hk)⟩ ⟨?_, fun i a ha => (by cases ha), fun i j a b _ ha => (by cases ha), fun row e he => ?_⟩ ?_ a1 a2 n (fun x => by show (0 : Int) ≤ 254; decide)
  · show ((0 : Nat) : Int) = qz_I h 770 12; rw [l0]; rfl
  · show ((0 : Nat) : Int) = qz_I h 202 4; rw [e0]; rfl
  · have he : (none : Option (List eL)) = some e := he; cases he
  · show ((0 : Nat) : Int) ≤ qz_I h 202 5; rw [l5]; exact Int.le_refl _
theorem d254_step {b : Int → Int} {n kind : Int} {F F' : rz_W} {E E' : Int → Prop} (hd : ∀ x, (F x).1 ≤ 254) (h : rz_step b n kind F E F' E') : ∀ x, (F' x).1 ≤ 254 := by
  by_cases k0 : kind = 0
  · rcases h.1 k0 with ⟨f, l, c, dd, a1, a2, a3⟩ | ⟨a1, a2, a3⟩
    · intro x
      rw [a2 x]
      split
      · obtain ⟨A, hA, hF⟩ := a1
        exact hF.2.2.1.2.1.2
      · exact hd x
    · rw [a2]; exact hd
  · by_cases k3 : kind = 3
    · rcases h.2.1 k3 with ⟨f, l, a1, a2, a3⟩ | ⟨a1, a2, a3⟩
      · rw [a2]; exact hd
      · rw [a2]; exact hd
    · rw [(h.2.2 k0 k3).1]; exact hd
