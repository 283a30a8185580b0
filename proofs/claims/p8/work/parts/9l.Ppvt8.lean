/-! The model: normal, take. (Written by wip/p2/py/pvt8.py.) -/
section EzMr
variable {d : Nat} {h : cz_H} {τ : Nat → Nat} {Q : cz_F → Prop} {l : List Int}
theorem ocp_nk {g : cz_H} (hB : ez_B τ h) (hX : jz_X τ) (f : ez_fr (ocp τ) h g) (i7 : ∀ j, j ≠ 30 → qz_I g 770 j = qz_I h 770 j) : nk τ h τ g := by
  have t770 : τ 770 = 75 := hX 770 (by decide)
  have ts := ez_tsk hB t770
  have no : ∀ q, q ≠ 770 → τ q ≠ 83 → τ q ≠ 85 → ocp τ q = false := fun q q1 q2 q3 => by unfold ocp; rw [dz_beq_ne q1, dz_beq_ne q2, dz_beq_ne q3]; rfl
  have e : sk g = sk h := by unfold sk qz_P; rw [i7 24 (by decide)]
  have eN : qz_N g (sk h) = qz_N h (sk h) := f.N (no _ (fun w => by rw [w, t770] at ts; cases ts) (by rw [ts]; decide) (by rw [ts]; decide))
  exact ⟨fun q _ => ⟨rfl, fun q1 _ q3 q4 _ => f.2.2 q (no q q1 q3 q4)⟩, fun q h1 h2 => absurd h1 h2, fun j _ _ j3 => i7 j j3, by rw [e, eN]; exact Int.le_refl _, by rw [e, eN, f.1, f.2.1]; omega, by rw [f.1]; exact Nat.le_refl _, by rw [f.2.1]; exact Nat.le_refl _⟩
/-- so much room is taken at most -/
theorem nk.rm {τ1 : Nat → Nat} {g : cz_H} (a : nk τ h τ1 g) (hB : ez_B τ h) (hB1 : ez_B τ1 g) (t770 : τ 770 = 75) (u770 : τ1 770 = 75) : g.2.1 ≤ h.2.1 + 37400 ∧ g.1 ≤ h.1 + 300 := by
  have n1 : 64 ≤ qz_N h (sk h) ∧ qz_N h (sk h) ≤ 18700 := ez_len hB (ez_tsk hB t770) tq_21 rfl
  have n2 : 64 ≤ qz_N g (sk g) ∧ qz_N g (sk g) ≤ 18700 := ez_len hB1 (ez_tsk hB1 u770) tq_21 rfl
  obtain ⟨-, -, -, -, a5, -⟩ := a
  omega
/-- all rows of the text are points of which DATA tell -/
def nmC (τ : Nat → Nat) (h : cz_H) (Ls : List vz) : Prop := mI τ h Ls 0 ∧ eD τ h (vF Ls) ∧ pQ h (vF Ls) (vE Ls) ∧ uz_wf (vF Ls) ∧ uz_S (vF Ls) (vE Ls) ∧ ∀ x, (vF Ls x).2 ≠ none → az (vF Ls) 501 x
theorem nmC.k {τ1 : Nat → Nat} {g : cz_H} {Ls : List vz} (c : nmC τ h Ls) (a : nk τ h τ1 g) (hB : ez_B τ1 g) : nmC τ1 g Ls := ⟨a.mIx c.1 hB, a.eDx c.2.1 c.1.2.1 hB, a.pQx c.2.2.1 c.1.1 c.1.2.1, c.2.2.2.1, c.2.2.2.2.1, c.2.2.2.2.2⟩
/-- the full decomposition, with fuel, and not too long -/
theorem nmC.f {Ls : List vz} (c : nmC τ h Ls) (x : Int) (cb : Bool) : ∃ l, uz_f (vF Ls) cb 502 x = some l ∧ l.length ≤ 40 := by
  by_cases e : hz x
  · refine ⟨hz_sy x, by unfold uz_f; rw [if_pos e], ?_⟩
    have := hz_sy_len x
    omega
  · by_cases e2 : (vF Ls x).2 = none
    · exact ⟨[x], by unfold uz_f; rw [if_neg e, e2], by decide⟩
    · obtain ⟨l, hl⟩ := az_f cb 501 x (c.2.2.2.2.2 x e2)
      obtain ⟨l2, h2, h3⟩ := c.2.2.2.2.1.2.2.1 x e2 cb
      have := uz_uniq ⟨_, hl⟩ h2
      subst this
      exact ⟨l, uz_f_mono _ _ _ _ _ hl 1, h3⟩
theorem rd_mnj_s {q : Nat} {m i n fm : Int} {fl : List Int} (t770 : τ 770 = 75) (hm : m = (fl.length : Int)) (fl4 : fl.length ≤ 40) (pf : ptl fl) (h4h : ∀ (j : Nat) v, fl[j]? = some v → qz_I h 794 j = v) (hr1 : h.1 + 1 ≤ 600192) (hr2 : h.2.1 + 6 ≤ 7302232) (k1 : ∀ g, ez_B τ g → ez_fr (nz_PL 796) h g → (∀ j, j ≠ 30 → qz_I g 770 j = qz_I h 770 j) → tm g (l ++ fl) → ez_W (d + 6) cm_283 63 [(4, .inl (i)), (0, .inr (.inr (some (770)))), (1, .inr (.inr (some (q)))), (2, .inl (n)), (3, .inl (fm))] [] g Q) (k0 : ∀ g, ez_B τ g → ez_fr (nz_PL 796) h g → (∀ j, j ≠ 30 → qz_I g 770 j = qz_I h 770 j) → 2000 < l.length + fl.length → Q (.inr g.1, xc g 0)) : ∀ (c : Nat) (j : Int) (g : cz_H), c = (m - j).toNat → 0 ≤ j → j ≤ m → ez_B τ g → ez_fr (nz_PL 796) h g → (∀ j, j ≠ 30 → qz_I g 770 j = qz_I h 770 j) → tm g (l ++ fl.take j.toNat) → ez_W (d + 6) cm_283 39 [(6, .inl (j)), (5, .inl (m)), (4, .inl (i)), (0, .inr (.inr (some (770)))), (1, .inr (.inr (some (q)))), (2, .inl (n)), (3, .inl (fm))] [] g Q := by
  intro c
  induction c with
  | zero =>
    intro j g hc j0 j1 hBg hf hi ag
    have h4 : ∀ (j : Nat) v, fl[j]? = some v → qz_I g 794 j = v := fun j v hv => (hf.I rfl j).trans (h4h j v hv)
    have c1 := hf.1; have c2 := hf.2.1
    refine ez_go (n := 2) (pc' := 43) (L' := [(6, .inl (j)), (5, .inl (m)), (4, .inl (i)), (0, .inr (.inr (some (770)))), (1, .inr (.inr (some (q)))), (2, .inl (n)), (3, .inl (fm))]) (st' := [.inl (m), .inl (j)]) rfl ?_
    refine ez_icmp rfl rfl ⟨by first | omega | exact (sz_i32 _).1, by first | omega | exact (sz_i32 _).2⟩ ⟨by first | omega | exact (sz_i32 _).1, by first | omega | exact (sz_i32 _).2⟩ (fun (c1 : (m) ≤ (j)) => ?_) (fun (c1 : ¬((m) ≤ (j))) => ?_)
    · skip
      refine ez_less [(4, .inl (i)), (0, .inr (.inr (some (770)))), (1, .inr (.inr (some (q)))), (2, .inl (n)), (3, .inl (fm))] rfl ⟨rfl, rfl, rfl, rfl, rfl, trivial⟩ ?_
      rw [List.take_of_length_le (by omega)] at ag
      exact k1 g hBg hf hi ag
    · exfalso; omega
  | succ c ih =>
    intro j g hc j0 j1 hBg hf hi ag
    have h4 : ∀ (j : Nat) v, fl[j]? = some v → qz_I g 794 j = v := fun j v hv => (hf.I rfl j).trans (h4h j v hv)
    have c1 := hf.1; have c2 := hf.2.1
    refine ez_go (n := 2) (pc' := 43) (L' := [(6, .inl (j)), (5, .inl (m)), (4, .inl (i)), (0, .inr (.inr (some (770)))), (1, .inr (.inr (some (q)))), (2, .inl (n)), (3, .inl (fm))]) (st' := [.inl (m), .inl (j)]) rfl ?_
    refine ez_icmp rfl rfl ⟨by first | omega | exact (sz_i32 _).1, by first | omega | exact (sz_i32 _).2⟩ ⟨by first | omega | exact (sz_i32 _).1, by first | omega | exact (sz_i32 _).2⟩ (fun (c1 : (m) ≤ (j)) => ?_) (fun (c1 : ¬((m) ≤ (j))) => ?_)
    · exfalso; omega
    · skip
      refine ez_go (n := 2) (pc' := 48) (L' := [(6, .inl (j)), (5, .inl (m)), (4, .inl (i)), (0, .inr (.inr (some (770)))), (1, .inr (.inr (some (q)))), (2, .inl (n)), (3, .inl (fm))]) (st' := [.inr (.inr (some (770))), .inr (.inr (some (770)))]) rfl ?_
      refine ez_gC (p := 794) (tg := 82) hBg t770 rfl rfl tq_75 rfl rfl (fun (t794 : _ = 82) => ?_)
      refine ez_go (n := 1) (pc' := 53) (L' := [(6, .inl (j)), (5, .inl (m)), (4, .inl (i)), (0, .inr (.inr (some (770)))), (1, .inr (.inr (some (q)))), (2, .inl (n)), (3, .inl (fm))]) (st' := [.inl (j), .inr (.inr (some (794))), .inr (.inr (some (770)))]) rfl ?_
      have n3 : 64 ≤ qz_N g 794 ∧ qz_N g 794 ≤ 64 := ez_len hBg t794 tq_82 rfl
      refine ez_aI hBg t794 rfl tq_82 rfl rfl (by omega) (by omega) (fun (b2 : -2147483648 ≤ qz_I g 794 (j).toNat) (b2' : qz_I g 794 (j).toNat ≤ 2147483647) => ?_)
      have l9 : j.toNat < fl.length := by omega
      have ev := h4 _ _ (List.getElem?_eq_getElem l9)
      have vb := ptl_at pf (List.getElem?_eq_getElem l9)
      rw [show qz_I g 794 (j).toNat = fl[j.toNat] from ev]
      refine ez_cv hBg t770 rfl rfl rfl tq_75 rfl rfl rfl (rd_make hBg t770 ag ⟨by omega, by omega⟩ (by omega) (by omega) (fun lt g2 hB2 f2 i2 a2 => ez_K0 ?_) (fun ge => ez_Kp (xc_exc hBg rfl) rfl ?_))
      · skip
        refine ez_go (n := 2) (pc' := 39) (L' := [(6, .inl (j + 1)), (5, .inl (m)), (4, .inl (i)), (0, .inr (.inr (some (770)))), (1, .inr (.inr (some (q)))), (2, .inl (n)), (3, .inl (fm))]) (st' := []) rfl ?_
        refine ez_less [(6, .inl (j + 1)), (5, .inl (m)), (4, .inl (i)), (0, .inr (.inr (some (770)))), (1, .inr (.inr (some (q)))), (2, .inl (n)), (3, .inl (fm))] rfl ⟨rfl, rfl, rfl, rfl, rfl, rfl, rfl, trivial⟩ ?_
        refine ih (j + 1) g2 (by omega) (by omega) (by omega) hB2 (hf.trans f2) (fun i hi9 => (i2 i hi9).trans (hi i hi9)) ?_
        rw [show (j + 1).toNat = j.toNat + 1 by omega, List.take_add_one, List.getElem?_eq_getElem l9, ← List.append_assoc]; exact a2
      · exact k0 g hBg hf hi (by rw [List.length_append, List.length_take] at ge; omega)

theorem nmC_allL {Ls : List vz} (c : nmC τ h Ls) (cb : Bool) : ∀ {u : List Int}, ptl u → ∃ l, uz_FL (vF Ls) cb u l
  | [], _ => ⟨[], uz_nil _ cb⟩
  | x :: u, hu => by
    obtain ⟨p, p1, -⟩ := c.f x cb
    obtain ⟨q, q1⟩ := nmC_allL c cb (u := u) (fun v hv => hu v (List.mem_cons_of_mem _ hv))
    exact ⟨p ++ q, uz_cons ⟨_, p1⟩ q1⟩
theorem rd_mno_s1 {Ls : List vz} {q : Nat} {n fm : Int} {u : List Int} (c : nmC τ h Ls) (tq : τ q = 37) (hn : n = (u.length : Int)) (n2 : n ≤ 2000) (uq : ∀ (j : Nat) v, u[j]? = some v → qz_I h q j = v) (up : ptl u) (fmr : 0 ≤ fm ∧ fm ≤ 3) (hr1 : h.1 + 500 ≤ 600192) (hr2 : h.2.1 + 100000 ≤ 7302232) (fc : fm % 2 = 1) (k1 : ∀ m, uz_FL (vF Ls) true u m → m.length ≤ 2000 → ∀ g τ1, ez_B τ1 g → nk τ h τ1 g → tm g m → ez_W (d + 6) cm_283 69 [(0, .inr (.inr (some (770)))), (1, .inr (.inr (some (q)))), (2, .inl (n)), (3, .inl (fm))] [] g Q) (k0 : ∀ m, uz_FL (vF Ls) true u m → 2000 < m.length → ∀ g τ1, ez_B τ1 g → nk τ h τ1 g → Q (.inr g.1, xc g 0)) : ∀ (ct : Nat) (i : Int) (g : cz_H) (τ1 : Nat → Nat) (ml : List Int), ct = (n - i).toNat → 0 ≤ i → i ≤ n → ez_B τ1 g → nk τ h τ1 g → uz_FL (vF Ls) true (u.take i.toNat) ml → tm g ml → ez_W (d + 6) cm_283 8 [(4, .inl (i)), (0, .inr (.inr (some (770)))), (1, .inr (.inr (some (q)))), (2, .inl (n)), (3, .inl (fm))] [] g Q := by
  intro ct
  induction ct with
  | zero =>
    intro i g τ1 ml hc i0 i1 hBg hk um ag
    have cg := c.k hk hBg
    have u770 : τ1 770 = 75 := cg.1.2.1 770 (by decide)
    have rm := hk.rm c.1.1 hBg (c.1.2.1 770 (by decide)) u770
    have u1q : τ1 q = 37 := (hk.1 q (by rw [tq]; decide)).1.trans tq
    have uqg : ∀ (j : Nat) v, u[j]? = some v → qz_I g q j = v := fun j v hv => by rw [show qz_I g q j = qz_I h q j by unfold qz_I; rw [hk.C c.1.2.1 (by rw [tq]; decide) (by rw [tq]; decide) (by rw [tq]; decide) (by rw [tq]; decide) (by rw [tq]; decide) (by rw [tq]; decide)]]; exact uq j v hv
    refine ez_go (n := 2) (pc' := 11) (L' := [(4, .inl (i)), (0, .inr (.inr (some (770)))), (1, .inr (.inr (some (q)))), (2, .inl (n)), (3, .inl (fm))]) (st' := [.inl (n), .inl (i)]) rfl ?_
    refine ez_icmp rfl rfl ⟨by first | omega | exact (sz_i32 _).1, by first | omega | exact (sz_i32 _).2⟩ ⟨by first | omega | exact (sz_i32 _).1, by first | omega | exact (sz_i32 _).2⟩ (fun (c1 : (n) ≤ (i)) => ?_) (fun (c1 : ¬((n) ≤ (i))) => ?_)
    · skip
      refine ez_less [(0, .inr (.inr (some (770)))), (1, .inr (.inr (some (q)))), (2, .inl (n)), (3, .inl (fm))] rfl ⟨rfl, rfl, rfl, rfl, trivial⟩ ?_
      rw [List.take_of_length_le (by omega)] at um
      exact k1 ml um (by have := ag.1; have : 0 ≤ qz_I g 770 30 ∧ qz_I g 770 30 ≤ 2000 := ez_fB (cl := 11) (k := 30) hBg u770 tq_75 rfl rfl (by decide); omega) g τ1 hBg hk ag
    · exfalso; omega
  | succ ct ih =>
    intro i g τ1 ml hc i0 i1 hBg hk um ag
    have cg := c.k hk hBg
    have u770 : τ1 770 = 75 := cg.1.2.1 770 (by decide)
    have rm := hk.rm c.1.1 hBg (c.1.2.1 770 (by decide)) u770
    have u1q : τ1 q = 37 := (hk.1 q (by rw [tq]; decide)).1.trans tq
    have uqg : ∀ (j : Nat) v, u[j]? = some v → qz_I g q j = v := fun j v hv => by rw [show qz_I g q j = qz_I h q j by unfold qz_I; rw [hk.C c.1.2.1 (by rw [tq]; decide) (by rw [tq]; decide) (by rw [tq]; decide) (by rw [tq]; decide) (by rw [tq]; decide) (by rw [tq]; decide)]]; exact uq j v hv
    refine ez_go (n := 2) (pc' := 11) (L' := [(4, .inl (i)), (0, .inr (.inr (some (770)))), (1, .inr (.inr (some (q)))), (2, .inl (n)), (3, .inl (fm))]) (st' := [.inl (n), .inl (i)]) rfl ?_
    refine ez_icmp rfl rfl ⟨by first | omega | exact (sz_i32 _).1, by first | omega | exact (sz_i32 _).2⟩ ⟨by first | omega | exact (sz_i32 _).1, by first | omega | exact (sz_i32 _).2⟩ (fun (c1 : (n) ≤ (i)) => ?_) (fun (c1 : ¬((n) ≤ (i))) => ?_)
    · exfalso; omega
    · skip
      refine ez_go (n := 3) (pc' := 18) (L' := [(4, .inl (i)), (0, .inr (.inr (some (770)))), (1, .inr (.inr (some (q)))), (2, .inl (n)), (3, .inl (fm))]) (st' := [.inl (i), .inr (.inr (some (q))), .inr (.inr (some (770)))]) rfl ?_
      have n3 : 2000 ≤ qz_N g q ∧ qz_N g q ≤ 2000 := ez_len hBg u1q tq_37 rfl
      refine ez_aI hBg u1q rfl tq_37 rfl rfl (by omega) (by omega) (fun (b2 : -2147483648 ≤ qz_I g q (i).toNat) (b2' : qz_I g q (i).toNat ≤ 2147483647) => ?_)
      refine ez_go (n := 2) (pc' := 21) (L' := [(4, .inl (i)), (0, .inr (.inr (some (770)))), (1, .inr (.inr (some (q)))), (2, .inl (n)), (3, .inl (fm))]) (st' := [.inl (2), .inl (fm), .inl (qz_I g q (i).toNat), .inr (.inr (some (770)))]) rfl ?_
      refine ez_rem rfl (by omega) (by omega) (by omega) (by omega) ?_
      refine ez_go (n := 1) (pc' := 23) (L' := [(4, .inl (i)), (0, .inr (.inr (some (770)))), (1, .inr (.inr (some (q)))), (2, .inl (n)), (3, .inl (fm))]) (st' := [.inl (1), .inl ((fm) % (2)), .inl (qz_I g q (i).toNat), .inr (.inr (some (770)))]) rfl ?_
      refine ez_icmp rfl rfl ⟨by first | omega | exact (sz_i32 _).1, by first | omega | exact (sz_i32 _).2⟩ ⟨by first | omega | exact (sz_i32 _).1, by first | omega | exact (sz_i32 _).2⟩ (fun (c4 : ((fm) % (2)) ≠ (1)) => ?_) (fun (c4 : ¬(((fm) % (2)) ≠ (1))) => ?_)
      · exfalso; omega
      · skip
        refine ez_go (n := 2) (pc' := 31) (L' := [(4, .inl (i)), (0, .inr (.inr (some (770)))), (1, .inr (.inr (some (q)))), (2, .inl (n)), (3, .inl (fm))]) (st' := [.inl (1), .inl (qz_I g q (i).toNat), .inr (.inr (some (770)))]) rfl ?_
        have l9 : i.toNat < u.length := by omega
        have ev := uqg _ _ (List.getElem?_eq_getElem l9)
        have vb := ptl_at up (List.getElem?_eq_getElem l9)
        rw [show qz_I g q (i).toNat = u[i.toNat] from ev]
        obtain ⟨fl, fl1, fl2⟩ := cg.f u[i.toNat] true
        have pf := uz_F_ptl cg.2.2.2.1 vb.1 vb.2 ⟨_, fl1⟩
        refine ez_cv hBg u770 rfl rfl rfl tq_75 rfl rfl rfl (rd_full (cb := true) (n := 502) (l := fl) cg.2.1 (cg.1.2.1 794 (by decide)) (by omega) (by omega) ⟨by omega, by omega⟩ ⟨by omega, by omega⟩ (by decide) fl1 (by decide) (fun _ g2 τ2 hB2 f2 _ h4 => ez_K1 ?_) (fun w => absurd w (by omega)))
        have nk2 := hk.trans (nk.of f2)
        have cg2 := c.k nk2 hB2
        have v770 : τ2 770 = 75 := cg2.1.2.1 770 (by decide)
        have rm2 := nk2.rm c.1.1 hB2 (c.1.2.1 770 (by decide)) v770
        have t2q : τ2 q = 37 := (nk2.1 q (by rw [tq]; decide)).1.trans tq
        have ag2 : tm g2 ml := ⟨(f2.2.2.1 30 (by decide) (by decide)).trans ag.1, fun j v hv => by rw [show qz_I g2 796 j = qz_I g 796 j by unfold qz_I; rw [(f2.1 796 (by rw [cg.1.2.1 796 (by decide)]; decide)).2 (by decide) (by decide) (by rw [cg.1.2.1 796 (by decide)]; decide)]]; exact ag.2 j v hv⟩
        refine ez_go (n := 3) (pc' := 39) (L' := [(6, .inl (0)), (5, .inl ((fl.length : Int))), (4, .inl (i)), (0, .inr (.inr (some (770)))), (1, .inr (.inr (some (q)))), (2, .inl (n)), (3, .inl (fm))]) (st' := []) rfl ?_
        refine ez_less [(6, .inl (0)), (5, .inl ((fl.length : Int))), (4, .inl (i)), (0, .inr (.inr (some (770)))), (1, .inr (.inr (some (q)))), (2, .inl (n)), (3, .inl (fm))] rfl ⟨rfl, rfl, rfl, rfl, rfl, rfl, rfl, trivial⟩ ?_
        have hv : u[i.toNat]? = some u[i.toNat] := List.getElem?_eq_getElem l9
        refine rd_mnj_s (h := g2) (l := ml) v770 rfl fl2 pf h4 (by omega) (by omega) (fun g3 hB3 f3 i3 a3 => ?_) (fun g3 hB3 f3 i3 lt => ?_) _ 0 g2 rfl (by omega) (by omega) hB2 (ez_fr.refl _ _) (fun _ _ => rfl) (by rw [show (0 : Int).toNat = 0 from rfl, List.take_zero, List.append_nil]; exact ag2)
        · have nk3 := nk2.trans (nk.fr hB2 v770 cg2.1.2.1 f3 (fun q9 hq9 => by unfold nz_PL at hq9; rcases Bool.or_eq_true_iff.mp hq9 with w | w; (· exact Or.inl (Nat.eq_of_beq_eq_true w)); (· exact Or.inr (Or.inl (Nat.eq_of_beq_eq_true w)))) i3)
          refine ez_go (n := 2) (pc' := 8) (L' := [(4, .inl (i + 1)), (0, .inr (.inr (some (770)))), (1, .inr (.inr (some (q)))), (2, .inl (n)), (3, .inl (fm))]) (st' := []) rfl ?_
          refine ez_less [(4, .inl (i + 1)), (0, .inr (.inr (some (770)))), (1, .inr (.inr (some (q)))), (2, .inl (n)), (3, .inl (fm))] rfl ⟨rfl, rfl, rfl, rfl, rfl, trivial⟩ ?_
          exact ih (i + 1) g3 τ2 (ml ++ fl) (by omega) (by omega) (by omega) hB3 nk3 (by rw [show (i + 1).toNat = i.toNat + 1 by omega]; exact uz_FL_take (l := u) hv um ⟨_, fl1⟩) a3
        · have nk3 := nk2.trans (nk.fr hB2 v770 cg2.1.2.1 f3 (fun q9 hq9 => by unfold nz_PL at hq9; rcases Bool.or_eq_true_iff.mp hq9 with w | w; (· exact Or.inl (Nat.eq_of_beq_eq_true w)); (· exact Or.inr (Or.inl (Nat.eq_of_beq_eq_true w)))) i3)
          obtain ⟨m3, u3⟩ := nmC_allL c true up
          have le := uz_FL_le (i := i.toNat + 1) (uz_FL_take (l := u) hv um ⟨_, fl1⟩) u3
          rw [List.length_append] at le
          exact k0 m3 u3 (by omega) g3 τ2 hB3 nk3

theorem rd_mno_s0 {Ls : List vz} {q : Nat} {n fm : Int} {u : List Int} (c : nmC τ h Ls) (tq : τ q = 37) (hn : n = (u.length : Int)) (n2 : n ≤ 2000) (uq : ∀ (j : Nat) v, u[j]? = some v → qz_I h q j = v) (up : ptl u) (fmr : 0 ≤ fm ∧ fm ≤ 3) (hr1 : h.1 + 500 ≤ 600192) (hr2 : h.2.1 + 100000 ≤ 7302232) (fc : fm % 2 ≠ 1) (k1 : ∀ m, uz_FL (vF Ls) false u m → m.length ≤ 2000 → ∀ g τ1, ez_B τ1 g → nk τ h τ1 g → tm g m → ez_W (d + 6) cm_283 69 [(0, .inr (.inr (some (770)))), (1, .inr (.inr (some (q)))), (2, .inl (n)), (3, .inl (fm))] [] g Q) (k0 : ∀ m, uz_FL (vF Ls) false u m → 2000 < m.length → ∀ g τ1, ez_B τ1 g → nk τ h τ1 g → Q (.inr g.1, xc g 0)) : ∀ (ct : Nat) (i : Int) (g : cz_H) (τ1 : Nat → Nat) (ml : List Int), ct = (n - i).toNat → 0 ≤ i → i ≤ n → ez_B τ1 g → nk τ h τ1 g → uz_FL (vF Ls) false (u.take i.toNat) ml → tm g ml → ez_W (d + 6) cm_283 8 [(4, .inl (i)), (0, .inr (.inr (some (770)))), (1, .inr (.inr (some (q)))), (2, .inl (n)), (3, .inl (fm))] [] g Q := by
  intro ct
  induction ct with
  | zero =>
    intro i g τ1 ml hc i0 i1 hBg hk um ag
    have cg := c.k hk hBg
    have u770 : τ1 770 = 75 := cg.1.2.1 770 (by decide)
    have rm := hk.rm c.1.1 hBg (c.1.2.1 770 (by decide)) u770
    have u1q : τ1 q = 37 := (hk.1 q (by rw [tq]; decide)).1.trans tq
    have uqg : ∀ (j : Nat) v, u[j]? = some v → qz_I g q j = v := fun j v hv => by rw [show qz_I g q j = qz_I h q j by unfold qz_I; rw [hk.C c.1.2.1 (by rw [tq]; decide) (by rw [tq]; decide) (by rw [tq]; decide) (by rw [tq]; decide) (by rw [tq]; decide) (by rw [tq]; decide)]]; exact uq j v hv
    refine ez_go (n := 2) (pc' := 11) (L' := [(4, .inl (i)), (0, .inr (.inr (some (770)))), (1, .inr (.inr (some (q)))), (2, .inl (n)), (3, .inl (fm))]) (st' := [.inl (n), .inl (i)]) rfl ?_
    refine ez_icmp rfl rfl ⟨by first | omega | exact (sz_i32 _).1, by first | omega | exact (sz_i32 _).2⟩ ⟨by first | omega | exact (sz_i32 _).1, by first | omega | exact (sz_i32 _).2⟩ (fun (c1 : (n) ≤ (i)) => ?_) (fun (c1 : ¬((n) ≤ (i))) => ?_)
    · skip
      refine ez_less [(0, .inr (.inr (some (770)))), (1, .inr (.inr (some (q)))), (2, .inl (n)), (3, .inl (fm))] rfl ⟨rfl, rfl, rfl, rfl, trivial⟩ ?_
      rw [List.take_of_length_le (by omega)] at um
      exact k1 ml um (by have := ag.1; have : 0 ≤ qz_I g 770 30 ∧ qz_I g 770 30 ≤ 2000 := ez_fB (cl := 11) (k := 30) hBg u770 tq_75 rfl rfl (by decide); omega) g τ1 hBg hk ag
    · exfalso; omega
  | succ ct ih =>
    intro i g τ1 ml hc i0 i1 hBg hk um ag
    have cg := c.k hk hBg
    have u770 : τ1 770 = 75 := cg.1.2.1 770 (by decide)
    have rm := hk.rm c.1.1 hBg (c.1.2.1 770 (by decide)) u770
    have u1q : τ1 q = 37 := (hk.1 q (by rw [tq]; decide)).1.trans tq
    have uqg : ∀ (j : Nat) v, u[j]? = some v → qz_I g q j = v := fun j v hv => by rw [show qz_I g q j = qz_I h q j by unfold qz_I; rw [hk.C c.1.2.1 (by rw [tq]; decide) (by rw [tq]; decide) (by rw [tq]; decide) (by rw [tq]; decide) (by rw [tq]; decide) (by rw [tq]; decide)]]; exact uq j v hv
    refine ez_go (n := 2) (pc' := 11) (L' := [(4, .inl (i)), (0, .inr (.inr (some (770)))), (1, .inr (.inr (some (q)))), (2, .inl (n)), (3, .inl (fm))]) (st' := [.inl (n), .inl (i)]) rfl ?_
    refine ez_icmp rfl rfl ⟨by first | omega | exact (sz_i32 _).1, by first | omega | exact (sz_i32 _).2⟩ ⟨by first | omega | exact (sz_i32 _).1, by first | omega | exact (sz_i32 _).2⟩ (fun (c1 : (n) ≤ (i)) => ?_) (fun (c1 : ¬((n) ≤ (i))) => ?_)
    · exfalso; omega
    · skip
      refine ez_go (n := 3) (pc' := 18) (L' := [(4, .inl (i)), (0, .inr (.inr (some (770)))), (1, .inr (.inr (some (q)))), (2, .inl (n)), (3, .inl (fm))]) (st' := [.inl (i), .inr (.inr (some (q))), .inr (.inr (some (770)))]) rfl ?_
      have n3 : 2000 ≤ qz_N g q ∧ qz_N g q ≤ 2000 := ez_len hBg u1q tq_37 rfl
      refine ez_aI hBg u1q rfl tq_37 rfl rfl (by omega) (by omega) (fun (b2 : -2147483648 ≤ qz_I g q (i).toNat) (b2' : qz_I g q (i).toNat ≤ 2147483647) => ?_)
      refine ez_go (n := 2) (pc' := 21) (L' := [(4, .inl (i)), (0, .inr (.inr (some (770)))), (1, .inr (.inr (some (q)))), (2, .inl (n)), (3, .inl (fm))]) (st' := [.inl (2), .inl (fm), .inl (qz_I g q (i).toNat), .inr (.inr (some (770)))]) rfl ?_
      refine ez_rem rfl (by omega) (by omega) (by omega) (by omega) ?_
      refine ez_go (n := 1) (pc' := 23) (L' := [(4, .inl (i)), (0, .inr (.inr (some (770)))), (1, .inr (.inr (some (q)))), (2, .inl (n)), (3, .inl (fm))]) (st' := [.inl (1), .inl ((fm) % (2)), .inl (qz_I g q (i).toNat), .inr (.inr (some (770)))]) rfl ?_
      refine ez_icmp rfl rfl ⟨by first | omega | exact (sz_i32 _).1, by first | omega | exact (sz_i32 _).2⟩ ⟨by first | omega | exact (sz_i32 _).1, by first | omega | exact (sz_i32 _).2⟩ (fun (c4 : ((fm) % (2)) ≠ (1)) => ?_) (fun (c4 : ¬(((fm) % (2)) ≠ (1))) => ?_)
      · skip
        refine ez_go (n := 1) (pc' := 31) (L' := [(4, .inl (i)), (0, .inr (.inr (some (770)))), (1, .inr (.inr (some (q)))), (2, .inl (n)), (3, .inl (fm))]) (st' := [.inl (0), .inl (qz_I g q (i).toNat), .inr (.inr (some (770)))]) rfl ?_
        have l9 : i.toNat < u.length := by omega
        have ev := uqg _ _ (List.getElem?_eq_getElem l9)
        have vb := ptl_at up (List.getElem?_eq_getElem l9)
        rw [show qz_I g q (i).toNat = u[i.toNat] from ev]
        obtain ⟨fl, fl1, fl2⟩ := cg.f u[i.toNat] false
        have pf := uz_F_ptl cg.2.2.2.1 vb.1 vb.2 ⟨_, fl1⟩
        refine ez_cv hBg u770 rfl rfl rfl tq_75 rfl rfl rfl (rd_full (cb := false) (n := 502) (l := fl) cg.2.1 (cg.1.2.1 794 (by decide)) (by omega) (by omega) ⟨by omega, by omega⟩ ⟨by omega, by omega⟩ (by decide) fl1 (by decide) (fun _ g2 τ2 hB2 f2 _ h4 => ez_K1 ?_) (fun w => absurd w (by omega)))
        have nk2 := hk.trans (nk.of f2)
        have cg2 := c.k nk2 hB2
        have v770 : τ2 770 = 75 := cg2.1.2.1 770 (by decide)
        have rm2 := nk2.rm c.1.1 hB2 (c.1.2.1 770 (by decide)) v770
        have t2q : τ2 q = 37 := (nk2.1 q (by rw [tq]; decide)).1.trans tq
        have ag2 : tm g2 ml := ⟨(f2.2.2.1 30 (by decide) (by decide)).trans ag.1, fun j v hv => by rw [show qz_I g2 796 j = qz_I g 796 j by unfold qz_I; rw [(f2.1 796 (by rw [cg.1.2.1 796 (by decide)]; decide)).2 (by decide) (by decide) (by rw [cg.1.2.1 796 (by decide)]; decide)]]; exact ag.2 j v hv⟩
        refine ez_go (n := 3) (pc' := 39) (L' := [(6, .inl (0)), (5, .inl ((fl.length : Int))), (4, .inl (i)), (0, .inr (.inr (some (770)))), (1, .inr (.inr (some (q)))), (2, .inl (n)), (3, .inl (fm))]) (st' := []) rfl ?_
        refine ez_less [(6, .inl (0)), (5, .inl ((fl.length : Int))), (4, .inl (i)), (0, .inr (.inr (some (770)))), (1, .inr (.inr (some (q)))), (2, .inl (n)), (3, .inl (fm))] rfl ⟨rfl, rfl, rfl, rfl, rfl, rfl, rfl, trivial⟩ ?_
        have hv : u[i.toNat]? = some u[i.toNat] := List.getElem?_eq_getElem l9
        refine rd_mnj_s (h := g2) (l := ml) v770 rfl fl2 pf h4 (by omega) (by omega) (fun g3 hB3 f3 i3 a3 => ?_) (fun g3 hB3 f3 i3 lt => ?_) _ 0 g2 rfl (by omega) (by omega) hB2 (ez_fr.refl _ _) (fun _ _ => rfl) (by rw [show (0 : Int).toNat = 0 from rfl, List.take_zero, List.append_nil]; exact ag2)
        · have nk3 := nk2.trans (nk.fr hB2 v770 cg2.1.2.1 f3 (fun q9 hq9 => by unfold nz_PL at hq9; rcases Bool.or_eq_true_iff.mp hq9 with w | w; (· exact Or.inl (Nat.eq_of_beq_eq_true w)); (· exact Or.inr (Or.inl (Nat.eq_of_beq_eq_true w)))) i3)
          refine ez_go (n := 2) (pc' := 8) (L' := [(4, .inl (i + 1)), (0, .inr (.inr (some (770)))), (1, .inr (.inr (some (q)))), (2, .inl (n)), (3, .inl (fm))]) (st' := []) rfl ?_
          refine ez_less [(4, .inl (i + 1)), (0, .inr (.inr (some (770)))), (1, .inr (.inr (some (q)))), (2, .inl (n)), (3, .inl (fm))] rfl ⟨rfl, rfl, rfl, rfl, rfl, trivial⟩ ?_
          exact ih (i + 1) g3 τ2 (ml ++ fl) (by omega) (by omega) (by omega) hB3 nk3 (by rw [show (i + 1).toNat = i.toNat + 1 by omega]; exact uz_FL_take (l := u) hv um ⟨_, fl1⟩) a3
        · have nk3 := nk2.trans (nk.fr hB2 v770 cg2.1.2.1 f3 (fun q9 hq9 => by unfold nz_PL at hq9; rcases Bool.or_eq_true_iff.mp hq9 with w | w; (· exact Or.inl (Nat.eq_of_beq_eq_true w)); (· exact Or.inr (Or.inl (Nat.eq_of_beq_eq_true w)))) i3)
          obtain ⟨m3, u3⟩ := nmC_allL c false up
          have le := uz_FL_le (i := i.toNat + 1) (uz_FL_take (l := u) hv um ⟨_, fl1⟩) u3
          rw [List.length_append] at le
          exact k0 m3 u3 (by omega) g3 τ2 hB3 nk3
      · exfalso; omega

theorem rd_mne_s {Ls : List vz} {q : Nat} {n fm : Int} {u : List Int} (c : nmC τ h Ls) (tq : τ q = 37) (hn : n = (u.length : Int)) (n2 : n ≤ 2000) (uq : ∀ (j : Nat) v, u[j]? = some v → qz_I h q j = v) (up : ptl u) (fmr : 0 ≤ fm ∧ fm ≤ 3) (hr1 : h.1 + 500 ≤ 600192) (hr2 : h.2.1 + 100000 ≤ 7302232) {cb : Bool} {m : List Int} {g : cz_H} {τ1 : Nat → Nat} (um : uz_FL (vF Ls) cb u m) (ml : m.length ≤ 2000) (hBg : ez_B τ1 g) (hk : nk τ h τ1 g) (ag : tm g m) (k1 : ∀ m res, uz_FL (vF Ls) cb u m → m.length ≤ 2000 → nfR (vF Ls) (vE Ls) fm m res → ptl res → ∀ g τ1, ez_B τ1 g → nk τ h τ1 g → tm g res → Q (.inl none, g)) : ez_W (d + 6) cm_283 69 [(0, .inr (.inr (some (770)))), (1, .inr (.inr (some (q)))), (2, .inl (n)), (3, .inl (fm))] [] g Q := by
  have cg := c.k hk hBg
  have u770 : τ1 770 = 75 := cg.1.2.1 770 (by decide)
  have pm := uz_FL_ptl cg.2.2.2.1 up um
  refine ez_go (n := 1) (pc' := 70) (L' := [(0, .inr (.inr (some (770)))), (1, .inr (.inr (some (q)))), (2, .inl (n)), (3, .inl (fm))]) (st' := [.inr (.inr (some (770)))]) rfl ?_
  refine ez_cv hBg u770 rfl rfl rfl tq_75 rfl rfl rfl (rd_mord cg.1 cg.2.2.2.1 ag pm (fun g2 o2 p2 => ez_K0 ?_))
  have nk2 := hk.trans (orz_nk hBg cg.1.2.1 o2)
  have hB2 := o2.1
  have cg2 := c.k nk2 hB2
  have ok1 := kok_srt (kok_zl (F := vF Ls) pm)
  have l2 : qz_I g2 770 30 = ((os_srt (zl (vF Ls) m)).length : Int) := by rw [os_srt_len, zl_len, o2.s u770 30]; exact ag.1
  refine ez_go (n := 2) (pc' := 75) (L' := [(0, .inr (.inr (some (770)))), (1, .inr (.inr (some (q)))), (2, .inl (n)), (3, .inl (fm))]) (st' := [.inl (1), .inl (fm)]) rfl ?_
  refine ez_icmp rfl rfl ⟨by first | omega | exact (sz_i32 _).1, by first | omega | exact (sz_i32 _).2⟩ ⟨by first | omega | exact (sz_i32 _).1, by first | omega | exact (sz_i32 _).2⟩ (fun (c1 : (fm) ≤ (1)) => ?_) (fun (c1 : ¬((fm) ≤ (1))) => ?_)
  · skip
    exact ez_ret0 rfl rfl (k1 m _ um ml ⟨os_srt (zl (vF Ls) m), by rw [if_neg (by omega)], rfl⟩ (kok_ptl ok1) g2 τ1 hB2 nk2 ⟨by rw [l2, List.length_map], fun j v hv => by rw [List.getElem?_map] at hv; obtain ⟨z, z1, z2⟩ := Option.map_eq_some_iff.mp hv; rw [← z2]; exact (p2 j z z1).1⟩)
  · skip
    refine ez_go (n := 1) (pc' := 79) (L' := [(0, .inr (.inr (some (770)))), (1, .inr (.inr (some (q)))), (2, .inl (n)), (3, .inl (fm))]) (st' := [.inr (.inr (some (770)))]) rfl ?_
    refine ez_cv hB2 u770 rfl rfl rfl tq_75 rfl rfl rfl (rd_mcps cg2.1 cg2.2.2.2.1 cg2.2.1 cg2.2.2.1 l2 ok1 p2 (fun g4 K hB4 f4 i4 kc okK tK => ez_K0 ?_))
    have nk4 := nk2.trans (ocp_nk hB2 cg2.1.2.1 f4 i4)
    exact ez_ret0 rfl rfl (k1 m _ um ml ⟨K, by rw [if_pos (by omega)]; exact kc, rfl⟩ (kok_ptl okK) g4 τ1 hB4 nk4 tK)

theorem rd_mnorm_s {Ls : List vz} {q : Nat} {n fm : Int} {u : List Int} (c : nmC τ h Ls) (tq : τ q = 37) (hn : n = (u.length : Int)) (n2 : n ≤ 2000) (uq : ∀ (j : Nat) v, u[j]? = some v → qz_I h q j = v) (up : ptl u) (fmr : 0 ≤ fm ∧ fm ≤ 3) (hr1 : h.1 + 500 ≤ 600192) (hr2 : h.2.1 + 100000 ≤ 7302232) (k1 : ∀ m res, uz_FL (vF Ls) (decide (fm = 1 ∨ fm = 3)) u m → m.length ≤ 2000 → nfR (vF Ls) (vE Ls) fm m res → ptl res → ∀ g τ1, ez_B τ1 g → nk τ h τ1 g → tm g res → Q (.inl none, g)) (k0 : ∀ m, uz_FL (vF Ls) (decide (fm = 1 ∨ fm = 3)) u m → 2000 < m.length → ∀ g τ1, ez_B τ1 g → nk τ h τ1 g → Q (.inr g.1, xc g 0)) : ez_W (d + 6) cm_283 0 [(0, .inr (.inr (some (770)))), (1, .inr (.inr (some (q)))), (2, .inl (n)), (3, .inl (fm))] [] h Q := by
  have t770 : τ 770 = 75 := c.1.2.1 770 (by decide)
  refine ez_go (n := 2) (pc' := 2) (L' := [(0, .inr (.inr (some (770)))), (1, .inr (.inr (some (q)))), (2, .inl (n)), (3, .inl (fm))]) (st' := [.inl (0), .inr (.inr (some (770)))]) rfl ?_
  refine ez_pf c.1.1 t770 rfl rfl tq_75 rfl rfl rfl rfl (ez_vdI rfl rfl (by omega) (by omega)) (fun hB1 w2 => ?_)
  have z30 : qz_I (dz_put h 770 30 (ez_v (.inl (0)))) 770 30 = 0 := w2.trans rfl
  have i30 : ∀ j, j ≠ 30 → qz_I (dz_put h 770 30 (ez_v (.inl (0)))) 770 j = qz_I h 770 j := fun j hj => ez_put_I (fun w => hj w.2)
  have f30 : ez_fr (ez_one 770) h (dz_put h 770 30 (ez_v (.inl (0)))) := (ez_fr.refl (ez_one 770) h).put rfl _ _
  have hB1 := hB1
  generalize (dz_put h 770 30 (ez_v (.inl (0)))) = g1 at *
  have nk1 := nk.fr c.1.1 t770 c.1.2.1 f30 (fun q9 hq9 => Or.inl (Nat.eq_of_beq_eq_true hq9)) i30
  refine ez_go (n := 2) (pc' := 8) (L' := [(4, .inl (0)), (0, .inr (.inr (some (770)))), (1, .inr (.inr (some (q)))), (2, .inl (n)), (3, .inl (fm))]) (st' := []) rfl ?_
  refine ez_less [(4, .inl (0)), (0, .inr (.inr (some (770)))), (1, .inr (.inr (some (q)))), (2, .inl (n)), (3, .inl (fm))] rfl ⟨rfl, rfl, rfl, rfl, rfl, trivial⟩ ?_
  by_cases fc : fm % 2 = 1
  · have ec : decide (fm = 1 ∨ fm = 3) = true := decide_eq_true (by omega)
    rw [ec] at k1 k0
    exact rd_mno_s1 c tq hn n2 uq up fmr hr1 hr2 fc (fun m um ml g τ1 hBg hk ag => rd_mne_s c tq hn n2 uq up fmr hr1 hr2 um ml hBg hk ag k1) k0 _ 0 g1 τ [] rfl (by omega) (by omega) hB1 nk1 (by rw [show (0 : Int).toNat = 0 from rfl, List.take_zero]; exact uz_nil _ _) ⟨z30, fun j v hv => by cases hv⟩
  · have ec : decide (fm = 1 ∨ fm = 3) = false := decide_eq_false (by omega)
    rw [ec] at k1 k0
    exact rd_mno_s0 c tq hn n2 uq up fmr hr1 hr2 fc (fun m um ml g τ1 hBg hk ag => rd_mne_s c tq hn n2 uq up fmr hr1 hr2 um ml hBg hk ag k1) k0 _ 0 g1 τ [] rfl (by omega) (by omega) hB1 nk1 (by rw [show (0 : Int).toNat = 0 from rfl, List.take_zero]; exact uz_nil _ _) ⟨z30, fun j v hv => by cases hv⟩

theorem rd_mnj_k {q : Nat} {m i n fm : Int} {fl : List Int} (t770 : τ 770 = 75) (hm : m = (fl.length : Int)) (fl4 : fl.length ≤ 40) (pf : ptl fl) (h4h : ∀ (j : Nat) v, fl[j]? = some v → qz_I h 794 j = v) (hr1 : h.1 + 1 ≤ 600192) (hr2 : h.2.1 + 6 ≤ 7302232) (k1 : ∀ g, ez_B τ g → ez_fr (nz_PL 796) h g → (∀ j, j ≠ 30 → qz_I g 770 j = qz_I h 770 j) → tm g (l ++ fl) → ez_W (d + 6) cm_283 63 [(4, .inl (i)), (0, .inr (.inr (some (770)))), (1, .inr (.inr (some (q)))), (2, .inl (n)), (3, .inl (fm))] [] g Q) (k0 : ∀ g, ez_B τ g → ez_fr (nz_PL 796) h g → (∀ j, j ≠ 30 → qz_I g 770 j = qz_I h 770 j) → 2000 < l.length + fl.length → Q (.inr g.1, xc g 0)) : ∀ (c : Nat) (j : Int) (g : cz_H), c = (m - j).toNat → 0 ≤ j → j ≤ m → ez_B τ g → ez_fr (nz_PL 796) h g → (∀ j, j ≠ 30 → qz_I g 770 j = qz_I h 770 j) → tm g (l ++ fl.take j.toNat) → ez_W (d + 6) cm_283 39 [(6, .inl (j)), (5, .inl (m)), (4, .inl (i)), (0, .inr (.inr (some (770)))), (1, .inr (.inr (some (q)))), (2, .inl (n)), (3, .inl (fm))] [] g Q := by
  intro c
  induction c with
  | zero =>
    intro j g hc j0 j1 hBg hf hi ag
    have h4 : ∀ (j : Nat) v, fl[j]? = some v → qz_I g 794 j = v := fun j v hv => (hf.I rfl j).trans (h4h j v hv)
    have c1 := hf.1; have c2 := hf.2.1
    refine ez_go (n := 2) (pc' := 43) (L' := [(6, .inl (j)), (5, .inl (m)), (4, .inl (i)), (0, .inr (.inr (some (770)))), (1, .inr (.inr (some (q)))), (2, .inl (n)), (3, .inl (fm))]) (st' := [.inl (m), .inl (j)]) rfl ?_
    refine ez_icmp rfl rfl ⟨by first | omega | exact (sz_i32 _).1, by first | omega | exact (sz_i32 _).2⟩ ⟨by first | omega | exact (sz_i32 _).1, by first | omega | exact (sz_i32 _).2⟩ (fun (c1 : (m) ≤ (j)) => ?_) (fun (c1 : ¬((m) ≤ (j))) => ?_)
    · skip
      refine ez_less [(4, .inl (i)), (0, .inr (.inr (some (770)))), (1, .inr (.inr (some (q)))), (2, .inl (n)), (3, .inl (fm))] rfl ⟨rfl, rfl, rfl, rfl, rfl, trivial⟩ ?_
      rw [List.take_of_length_le (by omega)] at ag
      exact k1 g hBg hf hi ag
    · exfalso; omega
  | succ c ih =>
    intro j g hc j0 j1 hBg hf hi ag
    have h4 : ∀ (j : Nat) v, fl[j]? = some v → qz_I g 794 j = v := fun j v hv => (hf.I rfl j).trans (h4h j v hv)
    have c1 := hf.1; have c2 := hf.2.1
    refine ez_go (n := 2) (pc' := 43) (L' := [(6, .inl (j)), (5, .inl (m)), (4, .inl (i)), (0, .inr (.inr (some (770)))), (1, .inr (.inr (some (q)))), (2, .inl (n)), (3, .inl (fm))]) (st' := [.inl (m), .inl (j)]) rfl ?_
    refine ez_icmp rfl rfl ⟨by first | omega | exact (sz_i32 _).1, by first | omega | exact (sz_i32 _).2⟩ ⟨by first | omega | exact (sz_i32 _).1, by first | omega | exact (sz_i32 _).2⟩ (fun (c1 : (m) ≤ (j)) => ?_) (fun (c1 : ¬((m) ≤ (j))) => ?_)
    · exfalso; omega
    · skip
      refine ez_go (n := 2) (pc' := 48) (L' := [(6, .inl (j)), (5, .inl (m)), (4, .inl (i)), (0, .inr (.inr (some (770)))), (1, .inr (.inr (some (q)))), (2, .inl (n)), (3, .inl (fm))]) (st' := [.inr (.inr (some (770))), .inr (.inr (some (770)))]) rfl ?_
      refine ez_gC (p := 794) (tg := 82) hBg t770 rfl rfl tq_75 rfl rfl (fun (t794 : _ = 82) => ?_)
      refine ez_go (n := 1) (pc' := 53) (L' := [(6, .inl (j)), (5, .inl (m)), (4, .inl (i)), (0, .inr (.inr (some (770)))), (1, .inr (.inr (some (q)))), (2, .inl (n)), (3, .inl (fm))]) (st' := [.inl (j), .inr (.inr (some (794))), .inr (.inr (some (770)))]) rfl ?_
      have n3 : 64 ≤ qz_N g 794 ∧ qz_N g 794 ≤ 64 := ez_len hBg t794 tq_82 rfl
      refine ez_aI hBg t794 rfl tq_82 rfl rfl (by omega) (by omega) (fun (b2 : -2147483648 ≤ qz_I g 794 (j).toNat) (b2' : qz_I g 794 (j).toNat ≤ 2147483647) => ?_)
      have l9 : j.toNat < fl.length := by omega
      have ev := h4 _ _ (List.getElem?_eq_getElem l9)
      have vb := ptl_at pf (List.getElem?_eq_getElem l9)
      rw [show qz_I g 794 (j).toNat = fl[j.toNat] from ev]
      refine ez_cv hBg t770 rfl rfl rfl tq_75 rfl rfl rfl (rd_make hBg t770 ag ⟨by omega, by omega⟩ (by omega) (by omega) (fun lt g2 hB2 f2 i2 a2 => ez_K0 ?_) (fun ge => ez_Kp (xc_exc hBg rfl) rfl ?_))
      · skip
        refine ez_go (n := 2) (pc' := 39) (L' := [(6, .inl (j + 1)), (5, .inl (m)), (4, .inl (i)), (0, .inr (.inr (some (770)))), (1, .inr (.inr (some (q)))), (2, .inl (n)), (3, .inl (fm))]) (st' := []) rfl ?_
        refine ez_less [(6, .inl (j + 1)), (5, .inl (m)), (4, .inl (i)), (0, .inr (.inr (some (770)))), (1, .inr (.inr (some (q)))), (2, .inl (n)), (3, .inl (fm))] rfl ⟨rfl, rfl, rfl, rfl, rfl, rfl, rfl, trivial⟩ ?_
        refine ih (j + 1) g2 (by omega) (by omega) (by omega) hB2 (hf.trans f2) (fun i hi9 => (i2 i hi9).trans (hi i hi9)) ?_
        rw [show (j + 1).toNat = j.toNat + 1 by omega, List.take_add_one, List.getElem?_eq_getElem l9, ← List.append_assoc]; exact a2
      · exact k0 g hBg hf hi (by rw [List.length_append, List.length_take] at ge; omega)

theorem rd_mno_k1 {Ls : List vz} {q : Nat} {n fm : Int} {u : List Int} (c : nmC τ h Ls) (tq : τ q = 84) (hn : n = (u.length : Int)) (n2 : n ≤ 2000) (uq : ∀ (j : Nat) v, u[j]? = some v → qz_I h q j = v) (up : ptl u) (fmr : 0 ≤ fm ∧ fm ≤ 3) (hr1 : h.1 + 500 ≤ 600192) (hr2 : h.2.1 + 100000 ≤ 7302232) (fc : fm % 2 = 1) (k1 : ∀ m, uz_FL (vF Ls) true u m → m.length ≤ 2000 → ∀ g τ1, ez_B τ1 g → nk τ h τ1 g → tm g m → ez_W (d + 6) cm_283 69 [(0, .inr (.inr (some (770)))), (1, .inr (.inr (some (q)))), (2, .inl (n)), (3, .inl (fm))] [] g Q) (k0 : ∀ m, uz_FL (vF Ls) true u m → 2000 < m.length → ∀ g τ1, ez_B τ1 g → nk τ h τ1 g → Q (.inr g.1, xc g 0)) : ∀ (ct : Nat) (i : Int) (g : cz_H) (τ1 : Nat → Nat) (ml : List Int), ct = (n - i).toNat → 0 ≤ i → i ≤ n → ez_B τ1 g → nk τ h τ1 g → uz_FL (vF Ls) true (u.take i.toNat) ml → tm g ml → ez_W (d + 6) cm_283 8 [(4, .inl (i)), (0, .inr (.inr (some (770)))), (1, .inr (.inr (some (q)))), (2, .inl (n)), (3, .inl (fm))] [] g Q := by
  intro ct
  induction ct with
  | zero =>
    intro i g τ1 ml hc i0 i1 hBg hk um ag
    have cg := c.k hk hBg
    have u770 : τ1 770 = 75 := cg.1.2.1 770 (by decide)
    have rm := hk.rm c.1.1 hBg (c.1.2.1 770 (by decide)) u770
    have u1q : τ1 q = 84 := (hk.1 q (by rw [tq]; decide)).1.trans tq
    have uqg : ∀ (j : Nat) v, u[j]? = some v → qz_I g q j = v := fun j v hv => by rw [show qz_I g q j = qz_I h q j by unfold qz_I; rw [hk.C c.1.2.1 (by rw [tq]; decide) (by rw [tq]; decide) (by rw [tq]; decide) (by rw [tq]; decide) (by rw [tq]; decide) (by rw [tq]; decide)]]; exact uq j v hv
    refine ez_go (n := 2) (pc' := 11) (L' := [(4, .inl (i)), (0, .inr (.inr (some (770)))), (1, .inr (.inr (some (q)))), (2, .inl (n)), (3, .inl (fm))]) (st' := [.inl (n), .inl (i)]) rfl ?_
    refine ez_icmp rfl rfl ⟨by first | omega | exact (sz_i32 _).1, by first | omega | exact (sz_i32 _).2⟩ ⟨by first | omega | exact (sz_i32 _).1, by first | omega | exact (sz_i32 _).2⟩ (fun (c1 : (n) ≤ (i)) => ?_) (fun (c1 : ¬((n) ≤ (i))) => ?_)
    · skip
      refine ez_less [(0, .inr (.inr (some (770)))), (1, .inr (.inr (some (q)))), (2, .inl (n)), (3, .inl (fm))] rfl ⟨rfl, rfl, rfl, rfl, trivial⟩ ?_
      rw [List.take_of_length_le (by omega)] at um
      exact k1 ml um (by have := ag.1; have : 0 ≤ qz_I g 770 30 ∧ qz_I g 770 30 ≤ 2000 := ez_fB (cl := 11) (k := 30) hBg u770 tq_75 rfl rfl (by decide); omega) g τ1 hBg hk ag
    · exfalso; omega
  | succ ct ih =>
    intro i g τ1 ml hc i0 i1 hBg hk um ag
    have cg := c.k hk hBg
    have u770 : τ1 770 = 75 := cg.1.2.1 770 (by decide)
    have rm := hk.rm c.1.1 hBg (c.1.2.1 770 (by decide)) u770
    have u1q : τ1 q = 84 := (hk.1 q (by rw [tq]; decide)).1.trans tq
    have uqg : ∀ (j : Nat) v, u[j]? = some v → qz_I g q j = v := fun j v hv => by rw [show qz_I g q j = qz_I h q j by unfold qz_I; rw [hk.C c.1.2.1 (by rw [tq]; decide) (by rw [tq]; decide) (by rw [tq]; decide) (by rw [tq]; decide) (by rw [tq]; decide) (by rw [tq]; decide)]]; exact uq j v hv
    refine ez_go (n := 2) (pc' := 11) (L' := [(4, .inl (i)), (0, .inr (.inr (some (770)))), (1, .inr (.inr (some (q)))), (2, .inl (n)), (3, .inl (fm))]) (st' := [.inl (n), .inl (i)]) rfl ?_
    refine ez_icmp rfl rfl ⟨by first | omega | exact (sz_i32 _).1, by first | omega | exact (sz_i32 _).2⟩ ⟨by first | omega | exact (sz_i32 _).1, by first | omega | exact (sz_i32 _).2⟩ (fun (c1 : (n) ≤ (i)) => ?_) (fun (c1 : ¬((n) ≤ (i))) => ?_)
    · exfalso; omega
    · skip
      refine ez_go (n := 3) (pc' := 18) (L' := [(4, .inl (i)), (0, .inr (.inr (some (770)))), (1, .inr (.inr (some (q)))), (2, .inl (n)), (3, .inl (fm))]) (st' := [.inl (i), .inr (.inr (some (q))), .inr (.inr (some (770)))]) rfl ?_
      have n3 : 2000 ≤ qz_N g q ∧ qz_N g q ≤ 2000 := ez_len hBg u1q tq_84 rfl
      refine ez_aI hBg u1q rfl tq_84 rfl rfl (by omega) (by omega) (fun (b2 : -2147483648 ≤ qz_I g q (i).toNat) (b2' : qz_I g q (i).toNat ≤ 2147483647) => ?_)
      refine ez_go (n := 2) (pc' := 21) (L' := [(4, .inl (i)), (0, .inr (.inr (some (770)))), (1, .inr (.inr (some (q)))), (2, .inl (n)), (3, .inl (fm))]) (st' := [.inl (2), .inl (fm), .inl (qz_I g q (i).toNat), .inr (.inr (some (770)))]) rfl ?_
      refine ez_rem rfl (by omega) (by omega) (by omega) (by omega) ?_
      refine ez_go (n := 1) (pc' := 23) (L' := [(4, .inl (i)), (0, .inr (.inr (some (770)))), (1, .inr (.inr (some (q)))), (2, .inl (n)), (3, .inl (fm))]) (st' := [.inl (1), .inl ((fm) % (2)), .inl (qz_I g q (i).toNat), .inr (.inr (some (770)))]) rfl ?_
      refine ez_icmp rfl rfl ⟨by first | omega | exact (sz_i32 _).1, by first | omega | exact (sz_i32 _).2⟩ ⟨by first | omega | exact (sz_i32 _).1, by first | omega | exact (sz_i32 _).2⟩ (fun (c4 : ((fm) % (2)) ≠ (1)) => ?_) (fun (c4 : ¬(((fm) % (2)) ≠ (1))) => ?_)
      · exfalso; omega
      · skip
        refine ez_go (n := 2) (pc' := 31) (L' := [(4, .inl (i)), (0, .inr (.inr (some (770)))), (1, .inr (.inr (some (q)))), (2, .inl (n)), (3, .inl (fm))]) (st' := [.inl (1), .inl (qz_I g q (i).toNat), .inr (.inr (some (770)))]) rfl ?_
        have l9 : i.toNat < u.length := by omega
        have ev := uqg _ _ (List.getElem?_eq_getElem l9)
        have vb := ptl_at up (List.getElem?_eq_getElem l9)
        rw [show qz_I g q (i).toNat = u[i.toNat] from ev]
        obtain ⟨fl, fl1, fl2⟩ := cg.f u[i.toNat] true
        have pf := uz_F_ptl cg.2.2.2.1 vb.1 vb.2 ⟨_, fl1⟩
        refine ez_cv hBg u770 rfl rfl rfl tq_75 rfl rfl rfl (rd_full (cb := true) (n := 502) (l := fl) cg.2.1 (cg.1.2.1 794 (by decide)) (by omega) (by omega) ⟨by omega, by omega⟩ ⟨by omega, by omega⟩ (by decide) fl1 (by decide) (fun _ g2 τ2 hB2 f2 _ h4 => ez_K1 ?_) (fun w => absurd w (by omega)))
        have nk2 := hk.trans (nk.of f2)
        have cg2 := c.k nk2 hB2
        have v770 : τ2 770 = 75 := cg2.1.2.1 770 (by decide)
        have rm2 := nk2.rm c.1.1 hB2 (c.1.2.1 770 (by decide)) v770
        have t2q : τ2 q = 84 := (nk2.1 q (by rw [tq]; decide)).1.trans tq
        have ag2 : tm g2 ml := ⟨(f2.2.2.1 30 (by decide) (by decide)).trans ag.1, fun j v hv => by rw [show qz_I g2 796 j = qz_I g 796 j by unfold qz_I; rw [(f2.1 796 (by rw [cg.1.2.1 796 (by decide)]; decide)).2 (by decide) (by decide) (by rw [cg.1.2.1 796 (by decide)]; decide)]]; exact ag.2 j v hv⟩
        refine ez_go (n := 3) (pc' := 39) (L' := [(6, .inl (0)), (5, .inl ((fl.length : Int))), (4, .inl (i)), (0, .inr (.inr (some (770)))), (1, .inr (.inr (some (q)))), (2, .inl (n)), (3, .inl (fm))]) (st' := []) rfl ?_
        refine ez_less [(6, .inl (0)), (5, .inl ((fl.length : Int))), (4, .inl (i)), (0, .inr (.inr (some (770)))), (1, .inr (.inr (some (q)))), (2, .inl (n)), (3, .inl (fm))] rfl ⟨rfl, rfl, rfl, rfl, rfl, rfl, rfl, trivial⟩ ?_
        have hv : u[i.toNat]? = some u[i.toNat] := List.getElem?_eq_getElem l9
        refine rd_mnj_k (h := g2) (l := ml) v770 rfl fl2 pf h4 (by omega) (by omega) (fun g3 hB3 f3 i3 a3 => ?_) (fun g3 hB3 f3 i3 lt => ?_) _ 0 g2 rfl (by omega) (by omega) hB2 (ez_fr.refl _ _) (fun _ _ => rfl) (by rw [show (0 : Int).toNat = 0 from rfl, List.take_zero, List.append_nil]; exact ag2)
        · have nk3 := nk2.trans (nk.fr hB2 v770 cg2.1.2.1 f3 (fun q9 hq9 => by unfold nz_PL at hq9; rcases Bool.or_eq_true_iff.mp hq9 with w | w; (· exact Or.inl (Nat.eq_of_beq_eq_true w)); (· exact Or.inr (Or.inl (Nat.eq_of_beq_eq_true w)))) i3)
          refine ez_go (n := 2) (pc' := 8) (L' := [(4, .inl (i + 1)), (0, .inr (.inr (some (770)))), (1, .inr (.inr (some (q)))), (2, .inl (n)), (3, .inl (fm))]) (st' := []) rfl ?_
          refine ez_less [(4, .inl (i + 1)), (0, .inr (.inr (some (770)))), (1, .inr (.inr (some (q)))), (2, .inl (n)), (3, .inl (fm))] rfl ⟨rfl, rfl, rfl, rfl, rfl, trivial⟩ ?_
          exact ih (i + 1) g3 τ2 (ml ++ fl) (by omega) (by omega) (by omega) hB3 nk3 (by rw [show (i + 1).toNat = i.toNat + 1 by omega]; exact uz_FL_take (l := u) hv um ⟨_, fl1⟩) a3
        · have nk3 := nk2.trans (nk.fr hB2 v770 cg2.1.2.1 f3 (fun q9 hq9 => by unfold nz_PL at hq9; rcases Bool.or_eq_true_iff.mp hq9 with w | w; (· exact Or.inl (Nat.eq_of_beq_eq_true w)); (· exact Or.inr (Or.inl (Nat.eq_of_beq_eq_true w)))) i3)
          obtain ⟨m3, u3⟩ := nmC_allL c true up
          have le := uz_FL_le (i := i.toNat + 1) (uz_FL_take (l := u) hv um ⟨_, fl1⟩) u3
          rw [List.length_append] at le
          exact k0 m3 u3 (by omega) g3 τ2 hB3 nk3

theorem rd_mno_k0 {Ls : List vz} {q : Nat} {n fm : Int} {u : List Int} (c : nmC τ h Ls) (tq : τ q = 84) (hn : n = (u.length : Int)) (n2 : n ≤ 2000) (uq : ∀ (j : Nat) v, u[j]? = some v → qz_I h q j = v) (up : ptl u) (fmr : 0 ≤ fm ∧ fm ≤ 3) (hr1 : h.1 + 500 ≤ 600192) (hr2 : h.2.1 + 100000 ≤ 7302232) (fc : fm % 2 ≠ 1) (k1 : ∀ m, uz_FL (vF Ls) false u m → m.length ≤ 2000 → ∀ g τ1, ez_B τ1 g → nk τ h τ1 g → tm g m → ez_W (d + 6) cm_283 69 [(0, .inr (.inr (some (770)))), (1, .inr (.inr (some (q)))), (2, .inl (n)), (3, .inl (fm))] [] g Q) (k0 : ∀ m, uz_FL (vF Ls) false u m → 2000 < m.length → ∀ g τ1, ez_B τ1 g → nk τ h τ1 g → Q (.inr g.1, xc g 0)) : ∀ (ct : Nat) (i : Int) (g : cz_H) (τ1 : Nat → Nat) (ml : List Int), ct = (n - i).toNat → 0 ≤ i → i ≤ n → ez_B τ1 g → nk τ h τ1 g → uz_FL (vF Ls) false (u.take i.toNat) ml → tm g ml → ez_W (d + 6) cm_283 8 [(4, .inl (i)), (0, .inr (.inr (some (770)))), (1, .inr (.inr (some (q)))), (2, .inl (n)), (3, .inl (fm))] [] g Q := by
  intro ct
  induction ct with
  | zero =>
    intro i g τ1 ml hc i0 i1 hBg hk um ag
    have cg := c.k hk hBg
    have u770 : τ1 770 = 75 := cg.1.2.1 770 (by decide)
    have rm := hk.rm c.1.1 hBg (c.1.2.1 770 (by decide)) u770
    have u1q : τ1 q = 84 := (hk.1 q (by rw [tq]; decide)).1.trans tq
    have uqg : ∀ (j : Nat) v, u[j]? = some v → qz_I g q j = v := fun j v hv => by rw [show qz_I g q j = qz_I h q j by unfold qz_I; rw [hk.C c.1.2.1 (by rw [tq]; decide) (by rw [tq]; decide) (by rw [tq]; decide) (by rw [tq]; decide) (by rw [tq]; decide) (by rw [tq]; decide)]]; exact uq j v hv
    refine ez_go (n := 2) (pc' := 11) (L' := [(4, .inl (i)), (0, .inr (.inr (some (770)))), (1, .inr (.inr (some (q)))), (2, .inl (n)), (3, .inl (fm))]) (st' := [.inl (n), .inl (i)]) rfl ?_
    refine ez_icmp rfl rfl ⟨by first | omega | exact (sz_i32 _).1, by first | omega | exact (sz_i32 _).2⟩ ⟨by first | omega | exact (sz_i32 _).1, by first | omega | exact (sz_i32 _).2⟩ (fun (c1 : (n) ≤ (i)) => ?_) (fun (c1 : ¬((n) ≤ (i))) => ?_)
    · skip
      refine ez_less [(0, .inr (.inr (some (770)))), (1, .inr (.inr (some (q)))), (2, .inl (n)), (3, .inl (fm))] rfl ⟨rfl, rfl, rfl, rfl, trivial⟩ ?_
      rw [List.take_of_length_le (by omega)] at um
      exact k1 ml um (by have := ag.1; have : 0 ≤ qz_I g 770 30 ∧ qz_I g 770 30 ≤ 2000 := ez_fB (cl := 11) (k := 30) hBg u770 tq_75 rfl rfl (by decide); omega) g τ1 hBg hk ag
    · exfalso; omega
  | succ ct ih =>
    intro i g τ1 ml hc i0 i1 hBg hk um ag
    have cg := c.k hk hBg
    have u770 : τ1 770 = 75 := cg.1.2.1 770 (by decide)
    have rm := hk.rm c.1.1 hBg (c.1.2.1 770 (by decide)) u770
    have u1q : τ1 q = 84 := (hk.1 q (by rw [tq]; decide)).1.trans tq
    have uqg : ∀ (j : Nat) v, u[j]? = some v → qz_I g q j = v := fun j v hv => by rw [show qz_I g q j = qz_I h q j by unfold qz_I; rw [hk.C c.1.2.1 (by rw [tq]; decide) (by rw [tq]; decide) (by rw [tq]; decide) (by rw [tq]; decide) (by rw [tq]; decide) (by rw [tq]; decide)]]; exact uq j v hv
    refine ez_go (n := 2) (pc' := 11) (L' := [(4, .inl (i)), (0, .inr (.inr (some (770)))), (1, .inr (.inr (some (q)))), (2, .inl (n)), (3, .inl (fm))]) (st' := [.inl (n), .inl (i)]) rfl ?_
    refine ez_icmp rfl rfl ⟨by first | omega | exact (sz_i32 _).1, by first | omega | exact (sz_i32 _).2⟩ ⟨by first | omega | exact (sz_i32 _).1, by first | omega | exact (sz_i32 _).2⟩ (fun (c1 : (n) ≤ (i)) => ?_) (fun (c1 : ¬((n) ≤ (i))) => ?_)
    · exfalso; omega
    · skip
      refine ez_go (n := 3) (pc' := 18) (L' := [(4, .inl (i)), (0, .inr (.inr (some (770)))), (1, .inr (.inr (some (q)))), (2, .inl (n)), (3, .inl (fm))]) (st' := [.inl (i), .inr (.inr (some (q))), .inr (.inr (some (770)))]) rfl ?_
      have n3 : 2000 ≤ qz_N g q ∧ qz_N g q ≤ 2000 := ez_len hBg u1q tq_84 rfl
      refine ez_aI hBg u1q rfl tq_84 rfl rfl (by omega) (by omega) (fun (b2 : -2147483648 ≤ qz_I g q (i).toNat) (b2' : qz_I g q (i).toNat ≤ 2147483647) => ?_)
      refine ez_go (n := 2) (pc' := 21) (L' := [(4, .inl (i)), (0, .inr (.inr (some (770)))), (1, .inr (.inr (some (q)))), (2, .inl (n)), (3, .inl (fm))]) (st' := [.inl (2), .inl (fm), .inl (qz_I g q (i).toNat), .inr (.inr (some (770)))]) rfl ?_
      refine ez_rem rfl (by omega) (by omega) (by omega) (by omega) ?_
      refine ez_go (n := 1) (pc' := 23) (L' := [(4, .inl (i)), (0, .inr (.inr (some (770)))), (1, .inr (.inr (some (q)))), (2, .inl (n)), (3, .inl (fm))]) (st' := [.inl (1), .inl ((fm) % (2)), .inl (qz_I g q (i).toNat), .inr (.inr (some (770)))]) rfl ?_
      refine ez_icmp rfl rfl ⟨by first | omega | exact (sz_i32 _).1, by first | omega | exact (sz_i32 _).2⟩ ⟨by first | omega | exact (sz_i32 _).1, by first | omega | exact (sz_i32 _).2⟩ (fun (c4 : ((fm) % (2)) ≠ (1)) => ?_) (fun (c4 : ¬(((fm) % (2)) ≠ (1))) => ?_)
      · skip
        refine ez_go (n := 1) (pc' := 31) (L' := [(4, .inl (i)), (0, .inr (.inr (some (770)))), (1, .inr (.inr (some (q)))), (2, .inl (n)), (3, .inl (fm))]) (st' := [.inl (0), .inl (qz_I g q (i).toNat), .inr (.inr (some (770)))]) rfl ?_
        have l9 : i.toNat < u.length := by omega
        have ev := uqg _ _ (List.getElem?_eq_getElem l9)
        have vb := ptl_at up (List.getElem?_eq_getElem l9)
        rw [show qz_I g q (i).toNat = u[i.toNat] from ev]
        obtain ⟨fl, fl1, fl2⟩ := cg.f u[i.toNat] false
        have pf := uz_F_ptl cg.2.2.2.1 vb.1 vb.2 ⟨_, fl1⟩
        refine ez_cv hBg u770 rfl rfl rfl tq_75 rfl rfl rfl (rd_full (cb := false) (n := 502) (l := fl) cg.2.1 (cg.1.2.1 794 (by decide)) (by omega) (by omega) ⟨by omega, by omega⟩ ⟨by omega, by omega⟩ (by decide) fl1 (by decide) (fun _ g2 τ2 hB2 f2 _ h4 => ez_K1 ?_) (fun w => absurd w (by omega)))
        have nk2 := hk.trans (nk.of f2)
        have cg2 := c.k nk2 hB2
        have v770 : τ2 770 = 75 := cg2.1.2.1 770 (by decide)
        have rm2 := nk2.rm c.1.1 hB2 (c.1.2.1 770 (by decide)) v770
        have t2q : τ2 q = 84 := (nk2.1 q (by rw [tq]; decide)).1.trans tq
        have ag2 : tm g2 ml := ⟨(f2.2.2.1 30 (by decide) (by decide)).trans ag.1, fun j v hv => by rw [show qz_I g2 796 j = qz_I g 796 j by unfold qz_I; rw [(f2.1 796 (by rw [cg.1.2.1 796 (by decide)]; decide)).2 (by decide) (by decide) (by rw [cg.1.2.1 796 (by decide)]; decide)]]; exact ag.2 j v hv⟩
        refine ez_go (n := 3) (pc' := 39) (L' := [(6, .inl (0)), (5, .inl ((fl.length : Int))), (4, .inl (i)), (0, .inr (.inr (some (770)))), (1, .inr (.inr (some (q)))), (2, .inl (n)), (3, .inl (fm))]) (st' := []) rfl ?_
        refine ez_less [(6, .inl (0)), (5, .inl ((fl.length : Int))), (4, .inl (i)), (0, .inr (.inr (some (770)))), (1, .inr (.inr (some (q)))), (2, .inl (n)), (3, .inl (fm))] rfl ⟨rfl, rfl, rfl, rfl, rfl, rfl, rfl, trivial⟩ ?_
        have hv : u[i.toNat]? = some u[i.toNat] := List.getElem?_eq_getElem l9
        refine rd_mnj_k (h := g2) (l := ml) v770 rfl fl2 pf h4 (by omega) (by omega) (fun g3 hB3 f3 i3 a3 => ?_) (fun g3 hB3 f3 i3 lt => ?_) _ 0 g2 rfl (by omega) (by omega) hB2 (ez_fr.refl _ _) (fun _ _ => rfl) (by rw [show (0 : Int).toNat = 0 from rfl, List.take_zero, List.append_nil]; exact ag2)
        · have nk3 := nk2.trans (nk.fr hB2 v770 cg2.1.2.1 f3 (fun q9 hq9 => by unfold nz_PL at hq9; rcases Bool.or_eq_true_iff.mp hq9 with w | w; (· exact Or.inl (Nat.eq_of_beq_eq_true w)); (· exact Or.inr (Or.inl (Nat.eq_of_beq_eq_true w)))) i3)
          refine ez_go (n := 2) (pc' := 8) (L' := [(4, .inl (i + 1)), (0, .inr (.inr (some (770)))), (1, .inr (.inr (some (q)))), (2, .inl (n)), (3, .inl (fm))]) (st' := []) rfl ?_
          refine ez_less [(4, .inl (i + 1)), (0, .inr (.inr (some (770)))), (1, .inr (.inr (some (q)))), (2, .inl (n)), (3, .inl (fm))] rfl ⟨rfl, rfl, rfl, rfl, rfl, trivial⟩ ?_
          exact ih (i + 1) g3 τ2 (ml ++ fl) (by omega) (by omega) (by omega) hB3 nk3 (by rw [show (i + 1).toNat = i.toNat + 1 by omega]; exact uz_FL_take (l := u) hv um ⟨_, fl1⟩) a3
        · have nk3 := nk2.trans (nk.fr hB2 v770 cg2.1.2.1 f3 (fun q9 hq9 => by unfold nz_PL at hq9; rcases Bool.or_eq_true_iff.mp hq9 with w | w; (· exact Or.inl (Nat.eq_of_beq_eq_true w)); (· exact Or.inr (Or.inl (Nat.eq_of_beq_eq_true w)))) i3)
          obtain ⟨m3, u3⟩ := nmC_allL c false up
          have le := uz_FL_le (i := i.toNat + 1) (uz_FL_take (l := u) hv um ⟨_, fl1⟩) u3
          rw [List.length_append] at le
          exact k0 m3 u3 (by omega) g3 τ2 hB3 nk3
      · exfalso; omega

theorem rd_mne_k {Ls : List vz} {q : Nat} {n fm : Int} {u : List Int} (c : nmC τ h Ls) (tq : τ q = 84) (hn : n = (u.length : Int)) (n2 : n ≤ 2000) (uq : ∀ (j : Nat) v, u[j]? = some v → qz_I h q j = v) (up : ptl u) (fmr : 0 ≤ fm ∧ fm ≤ 3) (hr1 : h.1 + 500 ≤ 600192) (hr2 : h.2.1 + 100000 ≤ 7302232) {cb : Bool} {m : List Int} {g : cz_H} {τ1 : Nat → Nat} (um : uz_FL (vF Ls) cb u m) (ml : m.length ≤ 2000) (hBg : ez_B τ1 g) (hk : nk τ h τ1 g) (ag : tm g m) (k1 : ∀ m res, uz_FL (vF Ls) cb u m → m.length ≤ 2000 → nfR (vF Ls) (vE Ls) fm m res → ptl res → ∀ g τ1, ez_B τ1 g → nk τ h τ1 g → tm g res → Q (.inl none, g)) : ez_W (d + 6) cm_283 69 [(0, .inr (.inr (some (770)))), (1, .inr (.inr (some (q)))), (2, .inl (n)), (3, .inl (fm))] [] g Q := by
  have cg := c.k hk hBg
  have u770 : τ1 770 = 75 := cg.1.2.1 770 (by decide)
  have pm := uz_FL_ptl cg.2.2.2.1 up um
  refine ez_go (n := 1) (pc' := 70) (L' := [(0, .inr (.inr (some (770)))), (1, .inr (.inr (some (q)))), (2, .inl (n)), (3, .inl (fm))]) (st' := [.inr (.inr (some (770)))]) rfl ?_
  refine ez_cv hBg u770 rfl rfl rfl tq_75 rfl rfl rfl (rd_mord cg.1 cg.2.2.2.1 ag pm (fun g2 o2 p2 => ez_K0 ?_))
  have nk2 := hk.trans (orz_nk hBg cg.1.2.1 o2)
  have hB2 := o2.1
  have cg2 := c.k nk2 hB2
  have ok1 := kok_srt (kok_zl (F := vF Ls) pm)
  have l2 : qz_I g2 770 30 = ((os_srt (zl (vF Ls) m)).length : Int) := by rw [os_srt_len, zl_len, o2.s u770 30]; exact ag.1
  refine ez_go (n := 2) (pc' := 75) (L' := [(0, .inr (.inr (some (770)))), (1, .inr (.inr (some (q)))), (2, .inl (n)), (3, .inl (fm))]) (st' := [.inl (1), .inl (fm)]) rfl ?_
  refine ez_icmp rfl rfl ⟨by first | omega | exact (sz_i32 _).1, by first | omega | exact (sz_i32 _).2⟩ ⟨by first | omega | exact (sz_i32 _).1, by first | omega | exact (sz_i32 _).2⟩ (fun (c1 : (fm) ≤ (1)) => ?_) (fun (c1 : ¬((fm) ≤ (1))) => ?_)
  · skip
    exact ez_ret0 rfl rfl (k1 m _ um ml ⟨os_srt (zl (vF Ls) m), by rw [if_neg (by omega)], rfl⟩ (kok_ptl ok1) g2 τ1 hB2 nk2 ⟨by rw [l2, List.length_map], fun j v hv => by rw [List.getElem?_map] at hv; obtain ⟨z, z1, z2⟩ := Option.map_eq_some_iff.mp hv; rw [← z2]; exact (p2 j z z1).1⟩)
  · skip
    refine ez_go (n := 1) (pc' := 79) (L' := [(0, .inr (.inr (some (770)))), (1, .inr (.inr (some (q)))), (2, .inl (n)), (3, .inl (fm))]) (st' := [.inr (.inr (some (770)))]) rfl ?_
    refine ez_cv hB2 u770 rfl rfl rfl tq_75 rfl rfl rfl (rd_mcps cg2.1 cg2.2.2.2.1 cg2.2.1 cg2.2.2.1 l2 ok1 p2 (fun g4 K hB4 f4 i4 kc okK tK => ez_K0 ?_))
    have nk4 := nk2.trans (ocp_nk hB2 cg2.1.2.1 f4 i4)
    exact ez_ret0 rfl rfl (k1 m _ um ml ⟨K, by rw [if_pos (by omega)]; exact kc, rfl⟩ (kok_ptl okK) g4 τ1 hB4 nk4 tK)

theorem rd_mnorm_k {Ls : List vz} {q : Nat} {n fm : Int} {u : List Int} (c : nmC τ h Ls) (tq : τ q = 84) (hn : n = (u.length : Int)) (n2 : n ≤ 2000) (uq : ∀ (j : Nat) v, u[j]? = some v → qz_I h q j = v) (up : ptl u) (fmr : 0 ≤ fm ∧ fm ≤ 3) (hr1 : h.1 + 500 ≤ 600192) (hr2 : h.2.1 + 100000 ≤ 7302232) (k1 : ∀ m res, uz_FL (vF Ls) (decide (fm = 1 ∨ fm = 3)) u m → m.length ≤ 2000 → nfR (vF Ls) (vE Ls) fm m res → ptl res → ∀ g τ1, ez_B τ1 g → nk τ h τ1 g → tm g res → Q (.inl none, g)) (k0 : ∀ m, uz_FL (vF Ls) (decide (fm = 1 ∨ fm = 3)) u m → 2000 < m.length → ∀ g τ1, ez_B τ1 g → nk τ h τ1 g → Q (.inr g.1, xc g 0)) : ez_W (d + 6) cm_283 0 [(0, .inr (.inr (some (770)))), (1, .inr (.inr (some (q)))), (2, .inl (n)), (3, .inl (fm))] [] h Q := by
  have t770 : τ 770 = 75 := c.1.2.1 770 (by decide)
  refine ez_go (n := 2) (pc' := 2) (L' := [(0, .inr (.inr (some (770)))), (1, .inr (.inr (some (q)))), (2, .inl (n)), (3, .inl (fm))]) (st' := [.inl (0), .inr (.inr (some (770)))]) rfl ?_
  refine ez_pf c.1.1 t770 rfl rfl tq_75 rfl rfl rfl rfl (ez_vdI rfl rfl (by omega) (by omega)) (fun hB1 w2 => ?_)
  have z30 : qz_I (dz_put h 770 30 (ez_v (.inl (0)))) 770 30 = 0 := w2.trans rfl
  have i30 : ∀ j, j ≠ 30 → qz_I (dz_put h 770 30 (ez_v (.inl (0)))) 770 j = qz_I h 770 j := fun j hj => ez_put_I (fun w => hj w.2)
  have f30 : ez_fr (ez_one 770) h (dz_put h 770 30 (ez_v (.inl (0)))) := (ez_fr.refl (ez_one 770) h).put rfl _ _
  have hB1 := hB1
  generalize (dz_put h 770 30 (ez_v (.inl (0)))) = g1 at *
  have nk1 := nk.fr c.1.1 t770 c.1.2.1 f30 (fun q9 hq9 => Or.inl (Nat.eq_of_beq_eq_true hq9)) i30
  refine ez_go (n := 2) (pc' := 8) (L' := [(4, .inl (0)), (0, .inr (.inr (some (770)))), (1, .inr (.inr (some (q)))), (2, .inl (n)), (3, .inl (fm))]) (st' := []) rfl ?_
  refine ez_less [(4, .inl (0)), (0, .inr (.inr (some (770)))), (1, .inr (.inr (some (q)))), (2, .inl (n)), (3, .inl (fm))] rfl ⟨rfl, rfl, rfl, rfl, rfl, trivial⟩ ?_
  by_cases fc : fm % 2 = 1
  · have ec : decide (fm = 1 ∨ fm = 3) = true := decide_eq_true (by omega)
    rw [ec] at k1 k0
    exact rd_mno_k1 c tq hn n2 uq up fmr hr1 hr2 fc (fun m um ml g τ1 hBg hk ag => rd_mne_k c tq hn n2 uq up fmr hr1 hr2 um ml hBg hk ag k1) k0 _ 0 g1 τ [] rfl (by omega) (by omega) hB1 nk1 (by rw [show (0 : Int).toNat = 0 from rfl, List.take_zero]; exact uz_nil _ _) ⟨z30, fun j v hv => by cases hv⟩
  · have ec : decide (fm = 1 ∨ fm = 3) = false := decide_eq_false (by omega)
    rw [ec] at k1 k0
    exact rd_mno_k0 c tq hn n2 uq up fmr hr1 hr2 fc (fun m um ml g τ1 hBg hk ag => rd_mne_k c tq hn n2 uq up fmr hr1 hr2 um ml hBg hk ag k1) k0 _ 0 g1 τ [] rfl (by omega) (by omega) hB1 nk1 (by rw [show (0 : Int).toNat = 0 from rfl, List.take_zero]; exact uz_nil _ _) ⟨z30, fun j v hv => by cases hv⟩

/-- a slot's row and its length in the model -/
def mx (h : cz_H) (t : Nat) (l : List Int) : Prop := qz_I h 782 t = (l.length : Int) ∧ ∀ (j : Nat) v, l[j]? = some v → qz_I h (774 + t) j = v
def mx_P (t z : Nat) : Bool := Nat.beq z (774 + t) || Nat.beq z 782
theorem mx_Pa (t : Nat) : mx_P t (774 + t) = true := by unfold mx_P; rw [Nat.beq_refl]; rfl
theorem mx_Pb (t : Nat) : mx_P t 782 = true := by unfold mx_P; exact Bool.or_true _
theorem mx_Pn {t z : Nat} (h1 : z ≠ 774 + t) (h2 : z ≠ 782) : mx_P t z = false := by unfold mx_P; rw [dz_beq_ne h1, dz_beq_ne h2]; rfl
/-- where the slots are -/
def slt (h : cz_H) : Prop := ∀ t : Nat, t < 8 → qz_I h 195 t = 755 + 2 * (t : Int) ∧ qz_I h 773 t = 775 + (t : Int)
theorem slt.k {h g : cz_H} (s : slt h) (e1 : g.2.2 195 = h.2.2 195) (e2 : g.2.2 773 = h.2.2 773) : slt g := fun t ht => by unfold qz_I; rw [e1, e2]; exact s t ht
theorem mx_tag {τ : Nat → Nat} (hX : jz_X τ) {t : Nat} (ht : t < 8) : τ (774 + t) = 37 ∧ τ (754 + 2 * t) = 88 ∧ τ (754 + 2 * t + 1) = 89 := by
  have : t = 0 ∨ t = 1 ∨ t = 2 ∨ t = 3 ∨ t = 4 ∨ t = 5 ∨ t = 6 ∨ t = 7 := by omega
  rcases this with e | e | e | e | e | e | e | e <;> (subst e; exact ⟨hX _ (by decide), hX _ (by decide), hX _ (by decide)⟩)
theorem rd_mtk_l {t : Int} (hX : jz_X τ) (sl : slt h) (a : tm h l) (pr : ∀ (j : Nat) v, l[j]? = some v → ez_rg v) (ll : l.length ≤ 2000) (t0 : 0 ≤ t) (t7 : t ≤ 7) (k : ∀ g, ez_B τ g → ez_fr (mx_P t.toNat) h g → mx g t.toNat l → Q (.inl (some (ez_v (.inl (l.length : Int)))), g)) : ∀ (m : Nat) (j : Int) (g : cz_H), m = ((l.length : Int) - j).toNat → 0 ≤ j → j ≤ (l.length : Int) → ez_B τ g → ez_fr (mx_P t.toNat) h g → (∀ (i : Nat) v, (i : Int) < j → l[i]? = some v → qz_I g (774 + t.toNat) i = v) → ez_W d cm_302 2 [(2, .inl (j)), (0, .inr (.inr (some (770)))), (1, .inl (t))] [] g Q := by
  have t770 : τ 770 = 75 := hX 770 (by decide)
  have tt := mx_tag hX (show t.toNat < 8 by omega)
  intro m
  induction m with
  | zero =>
    intro j g hm j0 j1 hBg hf hv9
    have c73 : ∀ i, qz_I g 773 i = qz_I h 773 i := fun i => hf.I (mx_Pn (by omega) (by decide)) i
    have c96 : ∀ i, qz_I g 796 i = qz_I h 796 i := fun i => hf.I (mx_Pn (by omega) (by decide)) i
    have c30 : qz_I g 770 30 = (l.length : Int) := (hf.I (mx_Pn (by omega) (by decide)) 30).trans a.1
    refine ez_go (n := 2) (pc' := 4) (L' := [(2, .inl (j)), (0, .inr (.inr (some (770)))), (1, .inl (t))]) (st' := [.inr (.inr (some (770))), .inl (j)]) rfl ?_
    refine ez_gI hBg t770 rfl rfl tq_75 rfl rfl (fun (b1 : 0 ≤ qz_I g 770 30) (b1' : qz_I g 770 30 ≤ 2000) => ?_)
    refine ez_icmp rfl rfl ⟨by first | omega | exact (sz_i32 _).1, by first | omega | exact (sz_i32 _).2⟩ ⟨by first | omega | exact (sz_i32 _).1, by first | omega | exact (sz_i32 _).2⟩ (fun (c2 : (qz_I g 770 30) ≤ (j)) => ?_) (fun (c2 : ¬((qz_I g 770 30) ≤ (j))) => ?_)
    · skip
      refine ez_go (n := 1) (pc' := 31) (L' := [(2, .inl (j)), (0, .inr (.inr (some (770)))), (1, .inl (t))]) (st' := [.inr (.inr (some (770)))]) rfl ?_
      refine ez_gC (p := 782) (tg := 79) hBg t770 rfl rfl tq_75 rfl rfl (fun (t782 : _ = 79) => ?_)
      refine ez_go (n := 2) (pc' := 36) (L' := [(2, .inl (j)), (0, .inr (.inr (some (770)))), (1, .inl (t))]) (st' := [.inr (.inr (some (770))), .inl (t), .inr (.inr (some (782)))]) rfl ?_
      refine ez_gI hBg t770 rfl rfl tq_75 rfl rfl (fun (b3 : 0 ≤ qz_I g 770 30) (b3' : qz_I g 770 30 ≤ 2000) => ?_)
      have n6 : 8 ≤ qz_N g 782 ∧ qz_N g 782 ≤ 8 := ez_len hBg t782 tq_79 rfl
      refine ez_as hBg t782 rfl tq_79 rfl rfl (by omega) (by omega) (ez_vdI rfl rfl (by omega) (by omega)) (fun hB4 w5 => ?_)
      refine ez_go (n := 1) (pc' := 41) (L' := [(2, .inl (j)), (0, .inr (.inr (some (770)))), (1, .inl (t))]) (st' := [.inr (.inr (some (770)))]) rfl ?_
      refine ez_gI hB4 t770 rfl rfl tq_75 rfl rfl (fun (b7 : 0 ≤ qz_I (dz_put g 782 (t).toNat (ez_v (.inl (qz_I g 770 30)))) 770 30) (b7' : qz_I (dz_put g 782 (t).toNat (ez_v (.inl (qz_I g 770 30)))) 770 30 ≤ 2000) => ?_)
      have e5 : qz_I (dz_put g 782 (t).toNat (ez_v (.inl (qz_I g 770 30)))) 770 30 = (l.length : Int) := (ez_put_I (fun w => absurd w.1 (by decide))).trans c30
      rw [e5]
      refine ez_retI rfl rfl (k _ hB4 (hf.put (mx_Pb t.toNat) _ _) ⟨?_, fun i v hv => ?_⟩)
      · rw [w5, c30]; exact rz_rd ⟨by omega, by omega⟩
      · rw [ez_put_I (fun w => by omega)]; exact hv9 i v (by have := (List.getElem?_eq_some_iff.mp hv).1; omega) hv
    · exfalso; omega
  | succ m ih =>
    intro j g hm j0 j1 hBg hf hv9
    have c73 : ∀ i, qz_I g 773 i = qz_I h 773 i := fun i => hf.I (mx_Pn (by omega) (by decide)) i
    have c96 : ∀ i, qz_I g 796 i = qz_I h 796 i := fun i => hf.I (mx_Pn (by omega) (by decide)) i
    have c30 : qz_I g 770 30 = (l.length : Int) := (hf.I (mx_Pn (by omega) (by decide)) 30).trans a.1
    refine ez_go (n := 2) (pc' := 4) (L' := [(2, .inl (j)), (0, .inr (.inr (some (770)))), (1, .inl (t))]) (st' := [.inr (.inr (some (770))), .inl (j)]) rfl ?_
    refine ez_gI hBg t770 rfl rfl tq_75 rfl rfl (fun (b1 : 0 ≤ qz_I g 770 30) (b1' : qz_I g 770 30 ≤ 2000) => ?_)
    refine ez_icmp rfl rfl ⟨by first | omega | exact (sz_i32 _).1, by first | omega | exact (sz_i32 _).2⟩ ⟨by first | omega | exact (sz_i32 _).1, by first | omega | exact (sz_i32 _).2⟩ (fun (c2 : (qz_I g 770 30) ≤ (j)) => ?_) (fun (c2 : ¬((qz_I g 770 30) ≤ (j))) => ?_)
    · skip
      refine ez_go (n := 1) (pc' := 31) (L' := [(2, .inl (j)), (0, .inr (.inr (some (770)))), (1, .inl (t))]) (st' := [.inr (.inr (some (770)))]) rfl ?_
      refine ez_gC (p := 782) (tg := 79) hBg t770 rfl rfl tq_75 rfl rfl (fun (t782 : _ = 79) => ?_)
      refine ez_go (n := 2) (pc' := 36) (L' := [(2, .inl (j)), (0, .inr (.inr (some (770)))), (1, .inl (t))]) (st' := [.inr (.inr (some (770))), .inl (t), .inr (.inr (some (782)))]) rfl ?_
      refine ez_gI hBg t770 rfl rfl tq_75 rfl rfl (fun (b3 : 0 ≤ qz_I g 770 30) (b3' : qz_I g 770 30 ≤ 2000) => ?_)
      have n6 : 8 ≤ qz_N g 782 ∧ qz_N g 782 ≤ 8 := ez_len hBg t782 tq_79 rfl
      refine ez_as hBg t782 rfl tq_79 rfl rfl (by omega) (by omega) (ez_vdI rfl rfl (by omega) (by omega)) (fun hB4 w5 => ?_)
      refine ez_go (n := 1) (pc' := 41) (L' := [(2, .inl (j)), (0, .inr (.inr (some (770)))), (1, .inl (t))]) (st' := [.inr (.inr (some (770)))]) rfl ?_
      refine ez_gI hB4 t770 rfl rfl tq_75 rfl rfl (fun (b7 : 0 ≤ qz_I (dz_put g 782 (t).toNat (ez_v (.inl (qz_I g 770 30)))) 770 30) (b7' : qz_I (dz_put g 782 (t).toNat (ez_v (.inl (qz_I g 770 30)))) 770 30 ≤ 2000) => ?_)
      have e5 : qz_I (dz_put g 782 (t).toNat (ez_v (.inl (qz_I g 770 30)))) 770 30 = (l.length : Int) := (ez_put_I (fun w => absurd w.1 (by decide))).trans c30
      rw [e5]
      refine ez_retI rfl rfl (k _ hB4 (hf.put (mx_Pb t.toNat) _ _) ⟨?_, fun i v hv => ?_⟩)
      · rw [w5, c30]; exact rz_rd ⟨by omega, by omega⟩
      · rw [ez_put_I (fun w => by omega)]; exact hv9 i v (by have := (List.getElem?_eq_some_iff.mp hv).1; omega) hv
    · skip
      refine ez_go (n := 1) (pc' := 11) (L' := [(2, .inl (j)), (0, .inr (.inr (some (770)))), (1, .inl (t))]) (st' := [.inr (.inr (some (770)))]) rfl ?_
      refine ez_gC (p := 773) (tg := 78) hBg t770 rfl rfl tq_75 rfl rfl (fun (t773 : _ = 78) => ?_)
      refine ez_go (n := 1) (pc' := 15) (L' := [(2, .inl (j)), (0, .inr (.inr (some (770)))), (1, .inl (t))]) (st' := [.inl (t), .inr (.inr (some (773)))]) rfl ?_
      have n9 : 8 ≤ qz_N g 773 ∧ qz_N g 773 ≤ 8 := ez_len hBg t773 tq_78 rfl
      have y10 : 1 ≤ qz_I g 773 (t).toNat := (by have := (sl t.toNat (by omega)).2; rw [c73]; omega)
      have y11 : 1 ≤ qz_I g 773 (t).toNat ∧ qz_I g 773 (t).toNat ≤ 1000000 := ez_aB hBg t773 tq_78 rfl rfl (by decide) (by omega) (by omega)
      have y11' : ((qz_P g 773 (t).toNat : Nat) : Int) + 1 = qz_I g 773 (t).toNat := by unfold qz_P; omega
      refine ez_aR hBg t773 rfl tq_78 rfl rfl (by omega) (by omega) (by omega) (fun (t8 : _ = 37) => ?_)
      rw [show qz_P g 773 (t).toNat = 774 + t.toNat by unfold qz_P; have := (sl t.toNat (by omega)).2; rw [show qz_I g 773 (t).toNat = qz_I h 773 (t).toNat from c73 _]; omega]
      refine ez_go (n := 2) (pc' := 18) (L' := [(2, .inl (j)), (0, .inr (.inr (some (770)))), (1, .inl (t))]) (st' := [.inr (.inr (some (770))), .inl (j), .inr (.inr (some (774 + t.toNat)))]) rfl ?_
      refine ez_gC (p := 796) (tg := 83) hBg t770 rfl rfl tq_75 rfl rfl (fun (t796 : _ = 83) => ?_)
      refine ez_go (n := 1) (pc' := 22) (L' := [(2, .inl (j)), (0, .inr (.inr (some (770)))), (1, .inl (t))]) (st' := [.inl (j), .inr (.inr (some (796))), .inl (j), .inr (.inr (some (774 + t.toNat)))]) rfl ?_
      have n13 : 2000 ≤ qz_N g 796 ∧ qz_N g 796 ≤ 2000 := ez_len hBg t796 tq_83 rfl
      refine ez_aI hBg t796 rfl tq_83 rfl rfl (by omega) (by omega) (fun (b12 : -2147483648 ≤ qz_I g 796 (j).toNat) (b12' : qz_I g 796 (j).toNat ≤ 2147483647) => ?_)
      have n16 : 2000 ≤ qz_N g (774 + t.toNat) ∧ qz_N g (774 + t.toNat) ≤ 2000 := ez_len hBg tt.1 tq_37 rfl
      refine ez_as hBg tt.1 rfl tq_37 rfl rfl (by omega) (by omega) (ez_vdI rfl rfl (by omega) (by omega)) (fun hB14 w15 => ?_)
      refine ez_go (n := 2) (pc' := 2) (L' := [(2, .inl (j + 1)), (0, .inr (.inr (some (770)))), (1, .inl (t))]) (st' := []) rfl ?_
      refine ez_less [(2, .inl (j + 1)), (0, .inr (.inr (some (770)))), (1, .inl (t))] rfl ⟨rfl, rfl, rfl, trivial⟩ ?_
      refine ih (j + 1) _ (by omega) (by omega) (by omega) hB14 (hf.put (mx_Pa t.toNat) _ _) (fun i v hi hv => ?_)
      by_cases ei : (i : Int) = j
      · have e9 : i = j.toNat := by omega
        subst e9
        rw [w15, show qz_I g 796 (j).toNat = v from (c96 _).trans (a.2 _ v hv)]
        exact rz_rd (pr _ v hv)
      · rw [ez_put_I (fun w => by omega)]; exact hv9 i v (by omega) hv

theorem rd_mtk (hB : ez_B τ h) {t : Int} (hX : jz_X τ) (sl : slt h) (a : tm h l) (pr : ∀ (j : Nat) v, l[j]? = some v → ez_rg v) (ll : l.length ≤ 2000) (t0 : 0 ≤ t) (t7 : t ≤ 7) (k : ∀ g, ez_B τ g → ez_fr (mx_P t.toNat) h g → mx g t.toNat l → Q (.inl (some (ez_v (.inl (l.length : Int)))), g)) : ez_W d cm_302 0 [(0, .inr (.inr (some (770)))), (1, .inl (t))] [] h Q := by
  refine ez_go (n := 2) (pc' := 2) (L' := [(2, .inl (0)), (0, .inr (.inr (some (770)))), (1, .inl (t))]) (st' := []) rfl ?_
  refine ez_less [(2, .inl (0)), (0, .inr (.inr (some (770)))), (1, .inl (t))] rfl ⟨rfl, rfl, rfl, trivial⟩ ?_
  exact rd_mtk_l hX sl a pr ll t0 t7 k _ 0 h rfl (by omega) (by omega) hB (ez_fr.refl _ _) (fun i v hi => by omega)

end EzMr
