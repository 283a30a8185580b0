/-! The model: the decomposed points. -/
def dc (h : cz_H) : Nat := qz_P h 770 21
def bw (h : cz_H) : Nat := qz_P h 770 22
def cn (h : cz_H) : Int := qz_I h 770 23
def nz_P2 (a b q : Nat) : Bool := Nat.beq q a || Nat.beq q b
theorem nz_P2_l (a b : Nat) : nz_P2 a b a = true := by unfold nz_P2; rw [Nat.beq_refl]; rfl
theorem nz_P2_r (a b : Nat) : nz_P2 a b b = true := by unfold nz_P2; rw [Nat.beq_refl, Bool.or_true]
theorem nz_P2_n {a b q : Nat} (h1 : q ≠ a) (h2 : q ≠ b) : nz_P2 a b q = false := by unfold nz_P2; rw [dz_beq_ne h1, dz_beq_ne h2]; rfl
theorem ez_tdb {τ : Nat → Nat} {h : cz_H} (hB : ez_B τ h) (t770 : τ 770 = 75) : τ (dc h) = 19 ∧ τ (bw h) = 20 := by
  have b1 : 1 ≤ qz_I h 770 21 ∧ qz_I h 770 21 ≤ 1000000 := ez_fB (cl := 11) hB t770 tq_75 rfl rfl (by decide)
  have b2 : 1 ≤ qz_I h 770 22 ∧ qz_I h 770 22 ≤ 1000000 := ez_fB (cl := 11) hB t770 tq_75 rfl rfl (by decide)
  exact ⟨(ez_old (cl := 11) (k := 21) hB t770 tq_75 rfl rfl (by decide) (show qz_I h 770 21 = (dc h : Int) + 1 by unfold dc qz_P; omega)).1, (ez_old (cl := 11) (k := 22) hB t770 tq_75 rfl rfl (by decide) (show qz_I h 770 22 = (bw h : Int) + 1 by unfold bw qz_P; omega)).1⟩
/-- what is none of the LINES' business -/
theorem mI.gen {τ τ1 : Nat → Nat} {h g : cz_H} {Ls : List vz} {b : Int} (hI : mI τ h Ls b) (hB : ez_B τ1 g) (ht : ∀ q, τ q ≠ 0 → τ1 q = τ q) (hnew : ∀ q, τ q = 0 → τ1 q ≠ 13 ∧ τ1 q ≠ 15) (c : ∀ q, ((13 ≤ τ q ∧ τ q ≤ 18) ∨ (26 ≤ τ q ∧ τ q ≤ 28)) → g.2.2 q = h.2.2 q) (i : ∀ j, 8 ≤ j → j ≤ 12 → qz_I g 770 j = qz_I h 770 j) : mI τ1 g Ls b := by
  have hX := hI.2.1
  have t770 := hX 770 (by decide)
  have tt := ez_tls hI.1 t770
  have ep : po g = po h := by unfold po qz_P; rw [i 9 (by decide) (by decide)]
  have en : pn g = pn h := i 10 (by decide) (by decide)
  have cp := c (po h) (by omega)
  have eN : qz_N g (po h) = qz_N h (po h) := by unfold qz_N; rw [cp]
  have m := hI.2.2.2.2.1
  have old : ∀ r t, τ1 r = t → (t = 13 ∨ t = 15) → τ r = t := fun r t hr ht2 => by
    by_cases e0 : τ r = 0
    · have := hnew r e0; omega
    · rw [← ht r e0]; exact hr
  refine hI.tr hB ht (fun j hj => i j (by omega) (by omega)) (c _ (by omega)) (fun k hk => ?_) ⟨⟨by omega, by rw [en, ep, eN]; exact hI.2.2.1.1.2⟩, by rw [en]; exact hI.2.2.1.2.2⟩ (fun j _ _ => by unfold pl qz_I; rw [ep, cp]) (fun q hq => c q (by omega)) ⟨fun r hr => ?_, fun r hr => ?_⟩
  · obtain ⟨l1, l2, l3⟩ := hI.L hk
    exact ⟨c _ (by omega), c _ (by omega), c _ (by omega)⟩
  · have hr' := old r _ hr (by omega)
    obtain ⟨m1, m2⟩ := m.1 r hr'
    refine ⟨(ht _ (by omega)).trans m1, fun j => ?_⟩
    have := m2 j
    rw [ep, eN]; unfold qz_I at this ⊢; rw [c r (by omega), c (r + 1) (by omega)]; exact this
  · have hr' := old r _ hr (by omega)
    obtain ⟨m1, m2, m3⟩ := m.2 r hr'
    refine ⟨(ht _ (by omega)).trans m1, (ht _ (by omega)).trans m2, ?_⟩
    rw [ep, eN]; unfold qz_I at m3 ⊢; rw [c r (by omega), c (r + 1) (by omega), c (r + 2) (by omega)]; exact m3
/-- the arrays may be new ones, with the same in them -/
def gd (τ : Nat → Nat) (h : cz_H) (τ1 : Nat → Nat) (g : cz_H) : Prop :=
  (∀ q, τ q ≠ 0 → τ1 q = τ q ∧ (q ≠ 770 → τ q ≠ 19 → τ q ≠ 20 → g.2.2 q = h.2.2 q)) ∧ (∀ q, τ q = 0 → τ1 q ≠ 0 → τ1 q = 19 ∨ τ1 q = 20) ∧
  (∀ j, j ≠ 21 → j ≠ 22 → j ≠ 23 → qz_I g 770 j = qz_I h 770 j) ∧ (qz_N h (bw h) ≤ qz_N g (bw g) ∧ qz_N g (bw g) ≤ qz_N g (dc g)) ∧ ((g.2.1 : Int) - h.2.1 ≤ 4 * (qz_N g (bw g) - qz_N h (bw h)) ∧ 32 * ((g.1 : Int) - h.1) ≤ qz_N g (bw g) - qz_N h (bw h)) ∧ h.1 ≤ g.1 ∧ h.2.1 ≤ g.2.1
theorem gd.refl {τ : Nat → Nat} {h : cz_H} (hn : qz_N h (bw h) ≤ qz_N h (dc h)) : gd τ h τ h := ⟨fun q _ => ⟨rfl, fun _ _ _ => rfl⟩, fun q h1 h2 => absurd h1 h2, fun _ _ _ _ => rfl, ⟨Int.le_refl _, hn⟩, by omega, Nat.le_refl _, Nat.le_refl _⟩
theorem gd.trans {τ τ1 τ2 : Nat → Nat} {h g k : cz_H} (a : gd τ h τ1 g) (b : gd τ1 g τ2 k) : gd τ h τ2 k := by
  obtain ⟨a1, a2, a3, a4, a5, a6⟩ := a
  obtain ⟨b1, b2, b3, b4, b5, b6⟩ := b
  refine ⟨fun q hq => ?_, fun q q0 q1 => ?_, fun j j1 j2 j3 => (b3 j j1 j2 j3).trans (a3 j j1 j2 j3), by omega, by omega, by omega⟩
  · have y1 := a1 q hq
    have y2 := b1 q (by rw [y1.1]; exact hq)
    exact ⟨y2.1.trans y1.1, fun q1 q2 q3 => (y2.2 q1 (by rw [y1.1]; exact q2) (by rw [y1.1]; exact q3)).trans (y1.2 q1 q2 q3)⟩
  · by_cases e : τ1 q = 0
    · exact b2 q e q1
    · rw [(b1 q e).1]; exact a2 q q0 e
theorem gd.mI {τ τ1 : Nat → Nat} {h g : cz_H} {Ls : List vz} {b : Int} (a : gd τ h τ1 g) (hI : mI τ h Ls b) (hB : ez_B τ1 g) : mI τ1 g Ls b := by
  have t770 : τ 770 = 75 := hI.2.1 770 (by decide)
  refine hI.gen hB (fun q hq => (a.1 q hq).1) (fun q q0 => ?_) (fun q hq => (a.1 q (by omega)).2 (fun e => by rw [e, t770] at hq; omega) (by omega) (by omega)) (fun j j1 j2 => a.2.2.1 j (by omega) (by omega) (by omega))
  by_cases e : τ1 q = 0
  · omega
  · have := a.2.1 q q0 e; omega
theorem gd.lsx {τ τ1 : Nat → Nat} {h g : cz_H} (a : gd τ h τ1 g) (hB : ez_B τ h) (t770 : τ 770 = 75) : ls g = ls h ∧ lc g = lc h ∧ ∀ j, qz_I g (ls h) j = qz_I h (ls h) j := by
  have tt := ez_tls hB t770
  refine ⟨by unfold ls qz_P; rw [a.2.2.1 11 (by decide) (by decide) (by decide)], a.2.2.1 12 (by decide) (by decide) (by decide), fun j => ?_⟩
  unfold qz_I
  rw [(a.1 (ls h) (by rw [tt.1]; decide)).2 (fun e => by have t := tt.1; rw [e, t770] at t; cases t) (by rw [tt.1]; decide) (by rw [tt.1]; decide)]
/-! The model: collect, I: wider arrays. (Written by wip/p2/py/pv87.py.) -/
section EzCw
variable {d : Nat} {h : cz_H} {τ : Nat → Nat} {Q : cz_F → Prop} {l : Nat} {k : Int}
theorem rd_co_l {q3 q4 : Nat} (t770 : τ 770 = 75) (u3 : τ q3 = 19) (u4 : τ q4 = 20) (tdc : τ (dc h) = 19) (tbw : τ (bw h) = 20) (n73 : 770 ≠ q3) (n74 : 770 ≠ q4) (n34 : q3 ≠ q4) (nd3 : dc h ≠ q3) (nd4 : dc h ≠ q4) (nb3 : bw h ≠ q3) (nb4 : bw h ≠ q4) (hn3 : cn h ≤ qz_N h q3) (hn4 : cn h ≤ qz_N h q4) (hnd : cn h ≤ qz_N h (dc h)) (hnb : cn h ≤ qz_N h (bw h)) (hne : ∀ j : Nat, (j : Int) < cn h → 1 ≤ qz_I h (bw h) j) (kx : ∀ g, ez_B τ g → ez_fr (nz_P2 q3 q4) h g → qz_N g q3 = qz_N h q3 → qz_N g q4 = qz_N h q4 → (∀ j, 0 ≤ j → j < cn h → qz_I g q3 j.toNat = qz_I h (dc h) j.toNat) → (∀ j, 0 ≤ j → j < cn h → qz_I g q4 j.toNat = qz_I h (bw h) j.toNat) → ez_W d cm_237 124 [(4, .inr (.inr (some (q4)))), (3, .inr (.inr (some (q3)))), (1, .inl (k)), (2, .inr (.inr (some (l)))), (0, .inr (.inr (some (770))))] [] g Q) : ∀ (m : Nat) (i : Int) (g : cz_H), m = (cn h - i).toNat → 0 ≤ i → i ≤ cn h → ez_B τ g → ez_fr (nz_P2 q3 q4) h g → qz_N g q3 = qz_N h q3 → qz_N g q4 = qz_N h q4 → (∀ j, 0 ≤ j → j < i → qz_I g q3 j.toNat = qz_I h (dc h) j.toNat) → (∀ j, 0 ≤ j → j < i → qz_I g q4 j.toNat = qz_I h (bw h) j.toNat) → ez_W d cm_237 86 [(5, .inl (i)), (4, .inr (.inr (some (q4)))), (3, .inr (.inr (some (q3)))), (1, .inl (k)), (2, .inr (.inr (some (l)))), (0, .inr (.inr (some (770))))] [] g Q := by
  unfold cn at *
  intro m
  induction m with
  | zero =>
    intro i g hm i0 i1 hB hf nq3 nq4 h3 h4
    have f770 : ∀ j, qz_I g 770 j = qz_I h 770 j := fun j => hf.I (nz_P2_n n73 n74) j
    have edc : qz_P g 770 21 = dc h := by unfold dc qz_P; rw [f770]
    have ebw : qz_P g 770 22 = bw h := by unfold bw qz_P; rw [f770]
    have f23 := f770 23
    have npd : qz_N g (dc h) = qz_N h (dc h) := hf.N (nz_P2_n nd3 nd4)
    have npb : qz_N g (bw h) = qz_N h (bw h) := hf.N (nz_P2_n nb3 nb4)
    have fpd : ∀ j, qz_I g (dc h) j = qz_I h (dc h) j := fun j => hf.I (nz_P2_n nd3 nd4) j
    have fpb : ∀ j, qz_I g (bw h) j = qz_I h (bw h) j := fun j => hf.I (nz_P2_n nb3 nb4) j
    refine ez_go (n := 2) (pc' := 89) (L' := [(5, .inl (i)), (4, .inr (.inr (some (q4)))), (3, .inr (.inr (some (q3)))), (1, .inl (k)), (2, .inr (.inr (some (l)))), (0, .inr (.inr (some (770))))]) (st' := [.inr (.inr (some (770))), .inl (i)]) rfl ?_
    refine ez_gI hB t770 rfl rfl tq_75 rfl rfl (fun (b1 : 0 ≤ qz_I g 770 23) (b1' : qz_I g 770 23 ≤ 512) => ?_)
    refine ez_icmp rfl rfl ⟨by first | omega | exact (sz_i32 _).1, by first | omega | exact (sz_i32 _).2⟩ ⟨by first | omega | exact (sz_i32 _).1, by first | omega | exact (sz_i32 _).2⟩ (fun (c2 : (qz_I g 770 23) ≤ (i)) => ?_) (fun (c2 : ¬((qz_I g 770 23) ≤ (i))) => ?_)
    · skip
      refine ez_less [(4, .inr (.inr (some (q4)))), (3, .inr (.inr (some (q3)))), (1, .inl (k)), (2, .inr (.inr (some (l)))), (0, .inr (.inr (some (770))))] rfl ⟨rfl, rfl, rfl, rfl, rfl, trivial⟩ ?_
      exact kx g hB hf nq3 nq4 (fun j j0 j1 => h3 j j0 (by omega)) (fun j j0 j1 => h4 j j0 (by omega))
    · exfalso; omega
  | succ m ih =>
    intro i g hm i0 i1 hB hf nq3 nq4 h3 h4
    have f770 : ∀ j, qz_I g 770 j = qz_I h 770 j := fun j => hf.I (nz_P2_n n73 n74) j
    have edc : qz_P g 770 21 = dc h := by unfold dc qz_P; rw [f770]
    have ebw : qz_P g 770 22 = bw h := by unfold bw qz_P; rw [f770]
    have f23 := f770 23
    have npd : qz_N g (dc h) = qz_N h (dc h) := hf.N (nz_P2_n nd3 nd4)
    have npb : qz_N g (bw h) = qz_N h (bw h) := hf.N (nz_P2_n nb3 nb4)
    have fpd : ∀ j, qz_I g (dc h) j = qz_I h (dc h) j := fun j => hf.I (nz_P2_n nd3 nd4) j
    have fpb : ∀ j, qz_I g (bw h) j = qz_I h (bw h) j := fun j => hf.I (nz_P2_n nb3 nb4) j
    refine ez_go (n := 2) (pc' := 89) (L' := [(5, .inl (i)), (4, .inr (.inr (some (q4)))), (3, .inr (.inr (some (q3)))), (1, .inl (k)), (2, .inr (.inr (some (l)))), (0, .inr (.inr (some (770))))]) (st' := [.inr (.inr (some (770))), .inl (i)]) rfl ?_
    refine ez_gI hB t770 rfl rfl tq_75 rfl rfl (fun (b1 : 0 ≤ qz_I g 770 23) (b1' : qz_I g 770 23 ≤ 512) => ?_)
    refine ez_icmp rfl rfl ⟨by first | omega | exact (sz_i32 _).1, by first | omega | exact (sz_i32 _).2⟩ ⟨by first | omega | exact (sz_i32 _).1, by first | omega | exact (sz_i32 _).2⟩ (fun (c2 : (qz_I g 770 23) ≤ (i)) => ?_) (fun (c2 : ¬((qz_I g 770 23) ≤ (i))) => ?_)
    · exfalso; omega
    · skip
      refine ez_go (n := 3) (pc' := 99) (L' := [(5, .inl (i)), (4, .inr (.inr (some (q4)))), (3, .inr (.inr (some (q3)))), (1, .inl (k)), (2, .inr (.inr (some (l)))), (0, .inr (.inr (some (770))))]) (st' := [.inr (.inr (some (770))), .inl (i), .inr (.inr (some (q3)))]) rfl ?_
      refine ez_gR hB t770 rfl rfl tq_75 rfl rfl (fun (t3 : _ = 19) (t3' : 1 ≤ qz_I g 770 21) => ?_)
      rw [edc] at *
      refine ez_go (n := 1) (pc' := 104) (L' := [(5, .inl (i)), (4, .inr (.inr (some (q4)))), (3, .inr (.inr (some (q3)))), (1, .inl (k)), (2, .inr (.inr (some (l)))), (0, .inr (.inr (some (770))))]) (st' := [.inl (i), .inr (.inr (some ((dc h)))), .inl (i), .inr (.inr (some (q3)))]) rfl ?_
      have n5 : 64 ≤ qz_N g ((dc h)) ∧ qz_N g ((dc h)) ≤ 4096 := ez_len hB t3 tq_19 rfl
      refine ez_aI hB t3 rfl tq_19 rfl rfl (by omega) (by omega) (fun (b4 : -2147483648 ≤ qz_I g ((dc h)) (i).toNat) (b4' : qz_I g ((dc h)) (i).toNat ≤ 2147483647) => ?_)
      have n8 : 64 ≤ qz_N g q3 ∧ qz_N g q3 ≤ 4096 := ez_len hB u3 tq_19 rfl
      refine ez_as hB u3 rfl tq_19 rfl rfl (by omega) (by omega) (ez_vdI rfl rfl (by omega) (by omega)) (fun hB6 w7 => ?_)
      have fA : ez_fr (nz_P2 q3 q4) h (dz_put g q3 (i).toNat (ez_v (.inl (qz_I g ((dc h)) (i).toNat)))) := hf.put (nz_P2_l q3 q4) _ _
      have vA : qz_I (dz_put g q3 (i).toNat (ez_v (.inl (qz_I g ((dc h)) (i).toNat)))) q3 i.toNat = qz_I h (dc h) i.toNat := by rw [w7, rz_rd ⟨by omega, by omega⟩, fpd]
      have iA : ∀ j, j ≠ i.toNat → qz_I (dz_put g q3 (i).toNat (ez_v (.inl (qz_I g ((dc h)) (i).toNat)))) q3 j = qz_I g q3 j := fun j hj => ez_put_I (fun w => hj w.2)
      have jA : ∀ j, qz_I (dz_put g q3 (i).toNat (ez_v (.inl (qz_I g ((dc h)) (i).toNat)))) q4 j = qz_I g q4 j := fun j => ez_put_I (fun w => n34 w.1.symm)
      have nA3 : qz_N (dz_put g q3 (i).toNat (ez_v (.inl (qz_I g ((dc h)) (i).toNat)))) q3 = qz_N h q3 := by rw [ez_put_N]; exact nq3
      have nA4 : qz_N (dz_put g q3 (i).toNat (ez_v (.inl (qz_I g ((dc h)) (i).toNat)))) q4 = qz_N h q4 := by rw [ez_put_N]; exact nq4
      have hA := hB6
      generalize (dz_put g q3 (i).toNat (ez_v (.inl (qz_I g ((dc h)) (i).toNat)))) = gA at *
      have ebwA : qz_P gA 770 22 = bw h := by unfold bw qz_P; rw [fA.I (nz_P2_n n73 n74)]
      have fpbA : ∀ j, qz_I gA (bw h) j = qz_I h (bw h) j := fun j => fA.I (nz_P2_n nb3 nb4) j
      have npbA : qz_N gA (bw h) = qz_N h (bw h) := fA.N (nz_P2_n nb3 nb4)
      refine ez_go (n := 3) (pc' := 111) (L' := [(5, .inl (i)), (4, .inr (.inr (some (q4)))), (3, .inr (.inr (some (q3)))), (1, .inl (k)), (2, .inr (.inr (some (l)))), (0, .inr (.inr (some (770))))]) (st' := [.inr (.inr (some (770))), .inl (i), .inr (.inr (some (q4)))]) rfl ?_
      refine ez_gR hA t770 rfl rfl tq_75 rfl rfl (fun (t9 : _ = 20) (t9' : 1 ≤ qz_I gA 770 22) => ?_)
      rw [ebwA] at *
      refine ez_go (n := 1) (pc' := 116) (L' := [(5, .inl (i)), (4, .inr (.inr (some (q4)))), (3, .inr (.inr (some (q3)))), (1, .inl (k)), (2, .inr (.inr (some (l)))), (0, .inr (.inr (some (770))))]) (st' := [.inl (i), .inr (.inr (some ((bw h)))), .inl (i), .inr (.inr (some (q4)))]) rfl ?_
      have n11 : 64 ≤ qz_N gA ((bw h)) ∧ qz_N gA ((bw h)) ≤ 4096 := ez_len hA t9 tq_20 rfl
      have y12 : 1 ≤ qz_I gA ((bw h)) (i).toNat := by rw [fpbA]; exact hne i.toNat (by omega)
      have y13 : 0 ≤ qz_I gA ((bw h)) (i).toNat ∧ qz_I gA ((bw h)) (i).toNat ≤ 1000000 := ez_aB hA t9 tq_20 rfl rfl (by decide) (by omega) (by omega)
      have y13' : ((qz_P gA ((bw h)) (i).toNat : Nat) : Int) + 1 = qz_I gA ((bw h)) (i).toNat := by unfold qz_P; omega
      refine ez_aR hA t9 rfl tq_20 rfl rfl (by omega) (by omega) (by omega) (fun (t10 : _ = 13) => ?_)
      have n16 : 64 ≤ qz_N gA q4 ∧ qz_N gA q4 ≤ 4096 := ez_len hA u4 tq_20 rfl
      refine ez_aa hA u4 t10 rfl tq_20 tq_13 rfl rfl rfl (by omega) (by omega) (ez_vdR rfl t10 (by omega) (by omega)) (fun hB14 w15 => ?_)
      refine ez_go (n := 2) (pc' := 86) (L' := [(5, .inl (i + 1)), (4, .inr (.inr (some (q4)))), (3, .inr (.inr (some (q3)))), (1, .inl (k)), (2, .inr (.inr (some (l)))), (0, .inr (.inr (some (770))))]) (st' := []) rfl ?_
      refine ez_less [(5, .inl (i + 1)), (4, .inr (.inr (some (q4)))), (3, .inr (.inr (some (q3)))), (1, .inl (k)), (2, .inr (.inr (some (l)))), (0, .inr (.inr (some (770))))] rfl ⟨rfl, rfl, rfl, rfl, rfl, rfl, trivial⟩ ?_
      refine ih (i + 1) _ (by omega) (by omega) (by omega) hB14 (fA.put (nz_P2_r q3 q4) _ _) (by rw [ez_put_N]; exact nA3) (by rw [ez_put_N]; exact nA4) (fun j j0 j1 => ?_) (fun j j0 j1 => ?_)
      · rw [ez_put_I (fun w => n34 w.1)]
        by_cases e : j = i
        · rw [e]; exact vA
        · rw [iA _ (by omega)]; exact h3 j j0 (by omega)
      · by_cases e : j = i
        · rw [e, w15, ← fpbA]; show ((qz_P gA (bw h) i.toNat : Nat) : Int) + 1 = _; unfold qz_P; omega
        · rw [ez_put_I (by omega), jA]; exact h4 j j0 (by omega)
theorem rd_co_g (hB : ez_B τ h) (t770 : τ 770 = 75) (tl : τ l = 13) (hn : cn h ≤ qz_N h (bw h)) (hdb : qz_N h (bw h) ≤ qz_N h (dc h)) (hne : ∀ j : Nat, (j : Int) < cn h → 1 ≤ qz_I h (bw h) j) (hr1 : h.1 + 2 ≤ 600192) (hr2 : h.2.1 + 2100 ≤ 7302232) (kx : ∀ g τ1, ez_B τ1 g → gd τ h τ1 g → cn g = cn h → (∀ j : Nat, (j : Int) < cn h → qz_I g (dc g) j = qz_I h (dc h) j) → (∀ j : Nat, (j : Int) < cn h → qz_I g (bw g) j = qz_I h (bw h) j) → cn g < qz_N g (bw g) → ez_W d cm_237 135 [(1, .inl (k)), (2, .inr (.inr (some (l)))), (0, .inr (.inr (some (770))))] [] g Q) : ez_W d cm_237 51 [(1, .inl (k)), (2, .inr (.inr (some (l)))), (0, .inr (.inr (some (770))))] [] h Q := by
  have b23 : 0 ≤ qz_I h 770 23 ∧ qz_I h 770 23 ≤ 512 := ez_fB (cl := 11) (k := 23) hB t770 tq_75 rfl rfl (by decide)
  have tdc := (ez_tdb hB t770).1
  have tbw := (ez_tdb hB t770).2
  have lbw : 64 ≤ qz_N h (bw h) ∧ qz_N h (bw h) ≤ 4096 := ez_len hB tbw tq_20 rfl
  have hn' : qz_I h 770 23 ≤ qz_N h (bw h) := hn
  refine ez_go (n := 1) (pc' := 52) (L' := [(1, .inl (k)), (2, .inr (.inr (some (l)))), (0, .inr (.inr (some (770))))]) (st' := [.inr (.inr (some (770)))]) rfl ?_
  refine ez_gI hB t770 rfl rfl tq_75 rfl rfl (fun (b1 : 0 ≤ qz_I h 770 23) (b1' : qz_I h 770 23 ≤ 512) => ?_)
  refine ez_go (n := 1) (pc' := 56) (L' := [(1, .inl (k)), (2, .inr (.inr (some (l)))), (0, .inr (.inr (some (770))))]) (st' := [.inr (.inr (some (770))), .inl (qz_I h 770 23)]) rfl ?_
  refine ez_gR hB t770 rfl rfl tq_75 rfl rfl (fun (t2 : _ = 20) (t2' : 1 ≤ qz_I h 770 22) => ?_)
  rw [show qz_P h 770 22 = bw h from rfl] at *
  refine ez_al hB t2 rfl tq_20 rfl (fun (b3 : 64 ≤ qz_N h ((bw h))) (b3' : qz_N h ((bw h)) ≤ 4096) => ?_)
  refine ez_icmp rfl rfl ⟨by first | omega | exact (sz_i32 _).1, by first | omega | exact (sz_i32 _).2⟩ ⟨by first | omega | exact (sz_i32 _).1, by first | omega | exact (sz_i32 _).2⟩ (fun (c4 : (qz_I h 770 23) ≠ (qz_N h ((bw h)))) => ?_) (fun (c4 : ¬((qz_I h 770 23) ≠ (qz_N h ((bw h))))) => ?_)
  · skip
    refine ez_less [(1, .inl (k)), (2, .inr (.inr (some (l)))), (0, .inr (.inr (some (770))))] rfl ⟨rfl, rfl, rfl, trivial⟩ ?_
    exact kx h τ hB (gd.refl hdb) rfl (fun _ _ => rfl) (fun _ _ => rfl) (by unfold cn; omega)
  · skip
    refine ez_go (n := 2) (pc' := 65) (L' := [(1, .inl (k)), (2, .inr (.inr (some (l)))), (0, .inr (.inr (some (770))))]) (st' := [.inr (.inr (some (770))), .inl (2)]) rfl ?_
    refine ez_gI hB t770 rfl rfl tq_75 rfl rfl (fun (b5 : 0 ≤ qz_I h 770 23) (b5' : qz_I h 770 23 ≤ 512) => ?_)
    refine ez_go (n := 1) (pc' := 69) (L' := [(1, .inl (k)), (2, .inr (.inr (some (l)))), (0, .inr (.inr (some (770))))]) (st' := [.inl ((2) * (qz_I h 770 23))]) rfl ?_
    refine ez_nA' (t := 19) hB rfl rfl rfl tq_19 rfl rfl (by omega) (by show (64 : Int) ≤ _; omega) (by show _ ≤ (4096 : Int); omega) (by omega) (by omega) (by omega) (fun g6 τ6 p6 hB6 x6 o6 t6 z6 e6 N6 y6 => ?_)
    have c6 := x6.2
    have t770n6 := (x6.1 _ (by rw [t770]; decide)).1.trans t770
    have tln6 := (x6.1 _ (by rw [tl]; decide)).1.trans tl
    have t2n6 := (x6.1 _ (by rw [t2]; decide)).1.trans t2
    have t2n6 := (x6.1 _ (by rw [t2]; decide)).1.trans t2
    have f9 : ∀ j, qz_I g6 770 j = qz_I h 770 j := fun j => x6.I (by rw [t770]; decide) j
    have f923 := f9 23
    refine ez_go (n := 3) (pc' := 74) (L' := [(3, .inr (.inr (some (p6)))), (1, .inl (k)), (2, .inr (.inr (some (l)))), (0, .inr (.inr (some (770))))]) (st' := [.inr (.inr (some (770))), .inl (2)]) rfl ?_
    refine ez_gI hB6 t770n6 rfl rfl tq_75 rfl rfl (fun (b7 : 0 ≤ qz_I g6 770 23) (b7' : qz_I g6 770 23 ≤ 512) => ?_)
    refine ez_go (n := 1) (pc' := 78) (L' := [(3, .inr (.inr (some (p6)))), (1, .inl (k)), (2, .inr (.inr (some (l)))), (0, .inr (.inr (some (770))))]) (st' := [.inl ((2) * (qz_I g6 770 23))]) rfl ?_
    refine ez_nQ' (t := 20) hB6 rfl rfl tq_20 rfl rfl (by omega) (by show (64 : Int) ≤ _; omega) (by show _ ≤ (4096 : Int); omega) (by omega) (by omega) (by omega) (fun g8 τ8 p8 hB8 x8 o8 t8 z8 e8 N8 y8 => ?_)
    have c8 := x8.2
    have t770n6n8 := (x8.1 _ (by rw [t770n6]; decide)).1.trans t770n6
    have tln6n8 := (x8.1 _ (by rw [tln6]; decide)).1.trans tln6
    have t2n6n8 := (x8.1 _ (by rw [t2n6]; decide)).1.trans t2n6
    have t2n6n8 := (x8.1 _ (by rw [t2n6]; decide)).1.trans t2n6
    have t6n8 := (x8.1 _ (by rw [t6]; decide)).1.trans t6
    refine ez_go (n := 3) (pc' := 86) (L' := [(5, .inl (0)), (4, .inr (.inr (some (p8)))), (3, .inr (.inr (some (p6)))), (1, .inl (k)), (2, .inr (.inr (some (l)))), (0, .inr (.inr (some (770))))]) (st' := []) rfl ?_
    refine ez_less [(5, .inl (0)), (4, .inr (.inr (some (p8)))), (3, .inr (.inr (some (p6)))), (1, .inl (k)), (2, .inr (.inr (some (l)))), (0, .inr (.inr (some (770))))] rfl ⟨rfl, rfl, rfl, rfl, rfl, rfl, trivial⟩ ?_
    have X := x6.trans x8
    have z2 : τ p8 = 0 := by by_cases e : p8 = p6; (· rw [e]; exact z6); (· rw [← o6 _ e]; exact z8)
    have q73 : 770 ≠ p6 := fun e => by rw [← e, t770] at z6; cases z6
    have q74 : 770 ≠ p8 := fun e => by rw [← e, t770] at z2; cases z2
    have q34 : p6 ≠ p8 := fun e => by rw [← e, t6] at z8; cases z8
    have qd3 : dc h ≠ p6 := fun e => by rw [← e, tdc] at z6; cases z6
    have qd4 : dc h ≠ p8 := fun e => by rw [← e, tdc] at z2; cases z2
    have qb3 : bw h ≠ p6 := fun e => by rw [← e, tbw] at z6; cases z6
    have qb4 : bw h ≠ p8 := fun e => by rw [← e, tbw] at z2; cases z2
    have F9 : ∀ j, qz_I g8 770 j = qz_I h 770 j := fun j => X.I (by rw [t770]; decide) j
    have edc : dc g8 = dc h := by unfold dc qz_P; rw [F9]
    have ebw : bw g8 = bw h := by unfold bw qz_P; rw [F9]
    have ecn : cn g8 = cn h := F9 23
    have epd : ∀ j, qz_I g8 (dc h) j = qz_I h (dc h) j := fun j => X.I (by rw [tdc]; decide) _
    have epb : ∀ j, qz_I g8 (bw h) j = qz_I h (bw h) j := fun j => X.I (by rw [tbw]; decide) _
    have eNd : qz_N g8 (dc h) = qz_N h (dc h) := X.N (by rw [tdc]; decide)
    have eNb : qz_N g8 (bw h) = qz_N h (bw h) := X.N (by rw [tbw]; decide)
    have u3 : τ8 p6 = 19 := (x8.1 _ (by rw [t6]; decide)).1.trans t6
    have N3 : qz_N g8 p6 = 2 * cn h := by rw [x8.N (by rw [t6]; decide), N6]; rfl
    have N4 : qz_N g8 p8 = 2 * cn h := by rw [N8, f923]; rfl
    have hcN : cn h = qz_N h (bw h) := by unfold cn; omega
    refine rd_co_l (h := g8) t770n6n8 u3 t8 (by rw [edc]; exact (X.1 _ (by rw [tdc]; decide)).1.trans tdc) (by rw [ebw]; exact (X.1 _ (by rw [tbw]; decide)).1.trans tbw) q73 q74 q34 (by rw [edc]; exact qd3) (by rw [edc]; exact qd4) (by rw [ebw]; exact qb3) (by rw [ebw]; exact qb4) (by rw [ecn, N3]; omega) (by rw [ecn, N4]; omega) (by rw [ecn, edc, eNd]; omega) (by rw [ecn, ebw, eNb]; omega) (by rw [ecn, ebw]; exact fun j hj => by rw [epb]; exact hne j hj) (fun g2 hB2 f2 n23 n24 c3 c4 => ?_) _ 0 g8 rfl (by omega) (by rw [ecn]; unfold cn; omega) hB8 (ez_fr.refl _ _) rfl rfl (fun j j0 j1 => by omega) (fun j j0 j1 => by omega)
    refine ez_go (n := 2) (pc' := 126) (L' := [(4, .inr (.inr (some (p8)))), (3, .inr (.inr (some (p6)))), (1, .inl (k)), (2, .inr (.inr (some (l)))), (0, .inr (.inr (some (770))))]) (st' := [.inr (.inr (some (p6))), .inr (.inr (some (770)))]) rfl ?_
    refine ez_pf hB2 t770n6n8 rfl rfl tq_75 rfl rfl rfl rfl (ez_vdR rfl u3 (by omega) (by omega)) (fun hB9 w10 => ?_)
    have fV : ez_fr (ez_one 770) g2 (dz_put g2 770 21 (ez_v (.inr (.inr (some (p6)))))) := (ez_fr.refl (ez_one 770) g2).put rfl _ _
    have vV : qz_I (dz_put g2 770 21 (ez_v (.inr (.inr (some (p6)))))) 770 21 = (p6 : Int) + 1 := w10
    have iV : ∀ j, j ≠ 21 → qz_I (dz_put g2 770 21 (ez_v (.inr (.inr (some (p6)))))) 770 j = qz_I g2 770 j := fun j hj => ez_put_I (fun w => hj w.2)
    have hV := hB9
    generalize (dz_put g2 770 21 (ez_v (.inr (.inr (some (p6)))))) = g3 at *
    refine ez_go (n := 2) (pc' := 132) (L' := [(4, .inr (.inr (some (p8)))), (3, .inr (.inr (some (p6)))), (1, .inl (k)), (2, .inr (.inr (some (l)))), (0, .inr (.inr (some (770))))]) (st' := [.inr (.inr (some (p8))), .inr (.inr (some (770)))]) rfl ?_
    refine ez_pf hV t770n6n8 rfl rfl tq_75 rfl rfl rfl rfl (ez_vdR rfl t8 (by omega) (by omega)) (fun hB11 w12 => ?_)
    refine ez_less [(1, .inl (k)), (2, .inr (.inr (some (l)))), (0, .inr (.inr (some (770))))] rfl ⟨rfl, rfl, rfl, trivial⟩ ?_
    have fW : ez_fr (ez_one 770) g3 (dz_put g3 770 22 (ez_v (.inr (.inr (some (p8)))))) := (ez_fr.refl (ez_one 770) g3).put rfl _ _
    have vW : qz_I (dz_put g3 770 22 (ez_v (.inr (.inr (some (p8)))))) 770 22 = (p8 : Int) + 1 := w12
    have iW : ∀ j, j ≠ 22 → qz_I (dz_put g3 770 22 (ez_v (.inr (.inr (some (p8)))))) 770 j = qz_I g3 770 j := fun j hj => ez_put_I (fun w => hj w.2)
    have hW := hB11
    generalize (dz_put g3 770 22 (ez_v (.inr (.inr (some (p8)))))) = g4 at *
    have I7 : ∀ j, j ≠ 21 → j ≠ 22 → qz_I g4 770 j = qz_I h 770 j := fun j j1 j2 => by rw [iW j j2, iV j j1, f2.I (nz_P2_n q73 q74)]; exact F9 j
    have edc4 : dc g4 = p6 := by unfold dc qz_P; rw [iW 21 (by decide), vV]; omega
    have ebw4 : bw g4 = p8 := by unfold bw qz_P; rw [vW]; omega
    have C4 : ∀ q, q ≠ 770 → g4.2.2 q = g2.2.2 q := fun q hq => by rw [fW.2.2 q (dz_beq_ne hq), fV.2.2 q (dz_beq_ne hq)]
    have I3 : ∀ j, qz_I g4 p6 j = qz_I g2 p6 j := fun j => by unfold qz_I; rw [C4 _ (Ne.symm q73)]
    have I4 : ∀ j, qz_I g4 p8 j = qz_I g2 p8 j := fun j => by unfold qz_I; rw [C4 _ (Ne.symm q74)]
    have M3 : qz_N g4 p6 = 2 * cn h := by unfold qz_N; rw [C4 _ (Ne.symm q73)]; exact n23.trans N3
    have M4 : qz_N g4 p8 = 2 * cn h := by unfold qz_N; rw [C4 _ (Ne.symm q74)]; exact n24.trans N4
    have r1 : g4.1 = g8.1 := by rw [fW.1, fV.1, f2.1]
    have r2 : g4.2.1 = g8.2.1 := by rw [fW.2.1, fV.2.1, f2.2.1]
    have cX := X.2
    refine kx g4 τ8 hW ⟨fun q hq => ?_, fun q q0 q1 => ?_, fun j j1 j2 j3 => I7 j j1 j2, by rw [edc4, ebw4, M3, M4]; omega, by rw [ebw4, M4, r1, r2]; unfold cn at *; omega, by omega, by omega⟩ (I7 23 (by decide) (by decide)) (fun j hj => ?_) (fun j hj => ?_) (by rw [ebw4, M4]; show qz_I g4 770 23 < _; rw [I7 23 (by decide) (by decide)]; unfold cn; omega)
    · refine ⟨(X.1 q hq).1, fun q1 _ _ => ?_⟩
      rw [C4 q q1, f2.2.2 q (nz_P2_n (fun e => by rw [e] at hq; exact hq z6) (fun e => by rw [e] at hq; exact hq z2)), (X.1 q hq).2]
    · by_cases e2 : q = p8
      · rw [e2]; exact Or.inr t8
      · by_cases e1 : q = p6
        · rw [e1]; exact Or.inl u3
        · rw [o8 q e2, o6 q e1] at q1; exact absurd q0 q1
    · rw [edc4, I3]
      have := c3 (j : Int) (by omega) (by rw [ecn]; exact hj)
      rw [edc, Int.toNat_natCast, epd] at this; exact this
    · rw [ebw4, I4]
      have := c4 (j : Int) (by omega) (by rw [ecn]; exact hj)
      rw [ebw, Int.toNat_natCast, epb] at this; exact this

end EzCw
/-! The model: collect, II: a point put where it belongs. (Written by wip/p2/py/pv88.py.) -/
section EzCx
variable {d : Nat} {h : cz_H} {τ : Nat → Nat} {Q : cz_F → Prop} {l : Nat} {k : Int}
def nz_P3 (a b q : Nat) : Bool := Nat.beq q 770 || nz_P2 a b q
theorem nz_P3_n {a b q : Nat} (h0 : q ≠ 770) (h1 : q ≠ a) (h2 : q ≠ b) : nz_P3 a b q = false := by unfold nz_P3; rw [dz_beq_ne h0, nz_P2_n h1 h2]; rfl
theorem rd_co_s (t770 : τ 770 = 75) (tl : τ l = 13) (tdc : τ (dc h) = 19) (tbw : τ (bw h) = 20) (n7d : 770 ≠ dc h) (n7b : 770 ≠ bw h) (nld : l ≠ dc h) (nlb : l ≠ bw h) (ndb : dc h ≠ bw h) (c0 : 0 ≤ cn h) (c5 : cn h ≤ 511) (hnb : cn h < qz_N h (bw h)) (hdb : qz_N h (bw h) ≤ qz_N h (dc h)) (hne : ∀ j : Nat, (j : Int) < cn h → 1 ≤ qz_I h (bw h) j) (kx : ∀ g j, 0 ≤ j → j ≤ cn h → ez_B τ g → ez_fr (nz_P2 (dc h) (bw h)) h g → qz_N g (dc h) = qz_N h (dc h) → qz_N g (bw h) = qz_N h (bw h) → (∀ i : Nat, (i : Int) < j → qz_I g (dc h) i = qz_I h (dc h) i ∧ qz_I g (bw h) i = qz_I h (bw h) i) → (∀ i : Nat, j ≤ (i : Int) → (i : Int) < cn h → qz_I g (dc h) (i + 1) = qz_I h (dc h) i ∧ qz_I g (bw h) (i + 1) = qz_I h (bw h) i) → (∀ i : Nat, j ≤ (i : Int) → (i : Int) < cn h → qz_I h l 1 < qz_I h (dc h) i) → (j = 0 ∨ qz_I h (dc h) (j - 1).toNat ≤ qz_I h l 1) → ez_W d cm_237 193 [(3, .inl (j)), (1, .inl (k)), (2, .inr (.inr (some (l)))), (0, .inr (.inr (some (770))))] [] g Q) : ∀ (m : Nat) (j : Int) (g : cz_H), m = j.toNat → 0 ≤ j → j ≤ cn h → ez_B τ g → ez_fr (nz_P2 (dc h) (bw h)) h g → qz_N g (dc h) = qz_N h (dc h) → qz_N g (bw h) = qz_N h (bw h) → (∀ i : Nat, (i : Int) < j → qz_I g (dc h) i = qz_I h (dc h) i ∧ qz_I g (bw h) i = qz_I h (bw h) i) → (∀ i : Nat, j ≤ (i : Int) → (i : Int) < cn h → qz_I g (dc h) (i + 1) = qz_I h (dc h) i ∧ qz_I g (bw h) (i + 1) = qz_I h (bw h) i) → (∀ i : Nat, j ≤ (i : Int) → (i : Int) < cn h → qz_I h l 1 < qz_I h (dc h) i) → ez_W d cm_237 140 [(3, .inl (j)), (1, .inl (k)), (2, .inr (.inr (some (l)))), (0, .inr (.inr (some (770))))] [] g Q := by
  intro m
  induction m with
  | zero =>
    intro j g hm j0 j1 hB hf hd hb lo hi up
    have f770 : ∀ j, qz_I g 770 j = qz_I h 770 j := fun j => hf.I (nz_P2_n n7d n7b) j
    have fl1 : qz_I g l 1 = qz_I h l 1 := hf.I (nz_P2_n nld nlb) 1
    refine ez_go (n := 1) (pc' := 141) (L' := [(3, .inl (j)), (1, .inl (k)), (2, .inr (.inr (some (l)))), (0, .inr (.inr (some (770))))]) (st' := [.inl (j)]) rfl ?_
    refine ez_if rfl rfl ⟨by first | omega | exact (sz_i32 _).1, by first | omega | exact (sz_i32 _).2⟩ (fun (c1 : (j) ≤ (0)) => ?_) (fun (c1 : ¬((j) ≤ (0))) => ?_)
    · skip
      refine ez_less [(3, .inl (j)), (1, .inl (k)), (2, .inr (.inr (some (l)))), (0, .inr (.inr (some (770))))] rfl ⟨rfl, rfl, rfl, rfl, trivial⟩ ?_
      exact kx g j j0 j1 hB hf hd hb lo hi up (by first | (left; omega) | (right; rw [← (lo (j - 1).toNat (by omega)).1]; omega))
    · skip
      refine ez_go (n := 1) (pc' := 145) (L' := [(3, .inl (j)), (1, .inl (k)), (2, .inr (.inr (some (l)))), (0, .inr (.inr (some (770))))]) (st' := [.inr (.inr (some (770)))]) rfl ?_
      refine ez_gR hB t770 rfl rfl tq_75 rfl rfl (fun (t2 : _ = 19) (t2' : 1 ≤ qz_I g 770 21) => ?_)
      have ee1 : qz_P g 770 21 = dc h := by unfold dc qz_P; rw [f770]
      rw [ee1]
      refine ez_go (n := 3) (pc' := 151) (L' := [(3, .inl (j)), (1, .inl (k)), (2, .inr (.inr (some (l)))), (0, .inr (.inr (some (770))))]) (st' := [.inl ((j) - (1)), .inr (.inr (some ((dc h))))]) rfl ?_
      have n4 : 64 ≤ qz_N g ((dc h)) ∧ qz_N g ((dc h)) ≤ 4096 := ez_len hB tdc tq_19 rfl
      refine ez_aI hB tdc rfl tq_19 rfl rfl (by omega) (by omega) (fun (b3 : -2147483648 ≤ qz_I g ((dc h)) ((j) - (1)).toNat) (b3' : qz_I g ((dc h)) ((j) - (1)).toNat ≤ 2147483647) => ?_)
      refine ez_go (n := 1) (pc' := 153) (L' := [(3, .inl (j)), (1, .inl (k)), (2, .inr (.inr (some (l)))), (0, .inr (.inr (some (770))))]) (st' := [.inr (.inr (some (l))), .inl (qz_I g ((dc h)) ((j) - (1)).toNat)]) rfl ?_
      refine ez_gI hB tl rfl rfl tq_13 rfl rfl (fun (b5 : -2147483648 ≤ qz_I g l 1) (b5' : qz_I g l 1 ≤ 2147483647) => ?_)
      refine ez_icmp rfl rfl ⟨by first | omega | exact (sz_i32 _).1, by first | omega | exact (sz_i32 _).2⟩ ⟨by first | omega | exact (sz_i32 _).1, by first | omega | exact (sz_i32 _).2⟩ (fun (c6 : (qz_I g ((dc h)) ((j) - (1)).toNat) ≤ (qz_I g l 1)) => ?_) (fun (c6 : ¬((qz_I g ((dc h)) ((j) - (1)).toNat) ≤ (qz_I g l 1))) => ?_)
      · skip
        refine ez_less [(3, .inl (j)), (1, .inl (k)), (2, .inr (.inr (some (l)))), (0, .inr (.inr (some (770))))] rfl ⟨rfl, rfl, rfl, rfl, trivial⟩ ?_
        exact kx g j j0 j1 hB hf hd hb lo hi up (by first | (left; omega) | (right; rw [← (lo (j - 1).toNat (by omega)).1]; omega))
      · skip
        refine ez_go (n := 1) (pc' := 160) (L' := [(3, .inl (j)), (1, .inl (k)), (2, .inr (.inr (some (l)))), (0, .inr (.inr (some (770))))]) (st' := [.inr (.inr (some (770)))]) rfl ?_
        refine ez_gR hB t770 rfl rfl tq_75 rfl rfl (fun (t7 : _ = 19) (t7' : 1 ≤ qz_I g 770 21) => ?_)
        have ee2 : qz_P g 770 21 = dc h := by unfold dc qz_P; rw [f770]
        rw [ee2]
        refine ez_go (n := 2) (pc' := 165) (L' := [(3, .inl (j)), (1, .inl (k)), (2, .inr (.inr (some (l)))), (0, .inr (.inr (some (770))))]) (st' := [.inr (.inr (some (770))), .inl (j), .inr (.inr (some ((dc h))))]) rfl ?_
        refine ez_gR hB t770 rfl rfl tq_75 rfl rfl (fun (t8 : _ = 19) (t8' : 1 ≤ qz_I g 770 21) => ?_)
        have ee3 : qz_P g 770 21 = dc h := by unfold dc qz_P; rw [f770]
        rw [ee3]
        refine ez_go (n := 3) (pc' := 171) (L' := [(3, .inl (j)), (1, .inl (k)), (2, .inr (.inr (some (l)))), (0, .inr (.inr (some (770))))]) (st' := [.inl ((j) - (1)), .inr (.inr (some ((dc h)))), .inl (j), .inr (.inr (some ((dc h))))]) rfl ?_
        have n10 : 64 ≤ qz_N g ((dc h)) ∧ qz_N g ((dc h)) ≤ 4096 := ez_len hB tdc tq_19 rfl
        refine ez_aI hB tdc rfl tq_19 rfl rfl (by omega) (by omega) (fun (b9 : -2147483648 ≤ qz_I g ((dc h)) ((j) - (1)).toNat) (b9' : qz_I g ((dc h)) ((j) - (1)).toNat ≤ 2147483647) => ?_)
        have n13 : 64 ≤ qz_N g ((dc h)) ∧ qz_N g ((dc h)) ≤ 4096 := ez_len hB tdc tq_19 rfl
        refine ez_as hB tdc rfl tq_19 rfl rfl (by omega) (by omega) (ez_vdI rfl rfl (by omega) (by omega)) (fun hB11 w12 => ?_)
        have fA : ez_fr (nz_P2 (dc h) (bw h)) h (dz_put g ((dc h)) (j).toNat (ez_v (.inl (qz_I g ((dc h)) ((j) - (1)).toNat)))) := hf.put (nz_P2_l _ _) _ _
        have vA : qz_I (dz_put g ((dc h)) (j).toNat (ez_v (.inl (qz_I g ((dc h)) ((j) - (1)).toNat)))) (dc h) j.toNat = qz_I g (dc h) (j - 1).toNat := w12.trans (rz_rd ⟨by omega, by omega⟩)
        have iA : ∀ i, i ≠ j.toNat → qz_I (dz_put g ((dc h)) (j).toNat (ez_v (.inl (qz_I g ((dc h)) ((j) - (1)).toNat)))) (dc h) i = qz_I g (dc h) i := fun i hi => ez_put_I (fun w => hi w.2)
        have jA : ∀ i, qz_I (dz_put g ((dc h)) (j).toNat (ez_v (.inl (qz_I g ((dc h)) ((j) - (1)).toNat)))) (bw h) i = qz_I g (bw h) i := fun i => ez_put_I (fun w => ndb w.1.symm)
        have nA3 : qz_N (dz_put g ((dc h)) (j).toNat (ez_v (.inl (qz_I g ((dc h)) ((j) - (1)).toNat)))) (dc h) = qz_N h (dc h) := by rw [ez_put_N]; exact hd
        have nA4 : qz_N (dz_put g ((dc h)) (j).toNat (ez_v (.inl (qz_I g ((dc h)) ((j) - (1)).toNat)))) (bw h) = qz_N h (bw h) := by rw [ez_put_N]; exact hb
        have hA := hB11
        generalize (dz_put g ((dc h)) (j).toNat (ez_v (.inl (qz_I g ((dc h)) ((j) - (1)).toNat)))) = gA at *
        have f770A : ∀ j, qz_I gA 770 j = qz_I h 770 j := fun j => fA.I (nz_P2_n n7d n7b) j
        refine ez_go (n := 1) (pc' := 174) (L' := [(3, .inl (j)), (1, .inl (k)), (2, .inr (.inr (some (l)))), (0, .inr (.inr (some (770))))]) (st' := [.inr (.inr (some (770)))]) rfl ?_
        refine ez_gR hA t770 rfl rfl tq_75 rfl rfl (fun (t14 : _ = 20) (t14' : 1 ≤ qz_I gA 770 22) => ?_)
        have ee4 : qz_P gA 770 22 = bw h := by unfold bw qz_P; rw [f770A]
        rw [ee4]
        refine ez_go (n := 2) (pc' := 179) (L' := [(3, .inl (j)), (1, .inl (k)), (2, .inr (.inr (some (l)))), (0, .inr (.inr (some (770))))]) (st' := [.inr (.inr (some (770))), .inl (j), .inr (.inr (some ((bw h))))]) rfl ?_
        refine ez_gR hA t770 rfl rfl tq_75 rfl rfl (fun (t15 : _ = 20) (t15' : 1 ≤ qz_I gA 770 22) => ?_)
        have ee5 : qz_P gA 770 22 = bw h := by unfold bw qz_P; rw [f770A]
        rw [ee5]
        refine ez_go (n := 3) (pc' := 185) (L' := [(3, .inl (j)), (1, .inl (k)), (2, .inr (.inr (some (l)))), (0, .inr (.inr (some (770))))]) (st' := [.inl ((j) - (1)), .inr (.inr (some ((bw h)))), .inl (j), .inr (.inr (some ((bw h))))]) rfl ?_
        have n17 : 64 ≤ qz_N gA ((bw h)) ∧ qz_N gA ((bw h)) ≤ 4096 := ez_len hA tbw tq_20 rfl
        have y18 : 1 ≤ qz_I gA ((bw h)) ((j) - (1)).toNat := by rw [jA, (lo (j - 1).toNat (by omega)).2]; exact hne _ (by omega)
        have y19 : 0 ≤ qz_I gA ((bw h)) ((j) - (1)).toNat ∧ qz_I gA ((bw h)) ((j) - (1)).toNat ≤ 1000000 := ez_aB hA tbw tq_20 rfl rfl (by decide) (by omega) (by omega)
        have y19' : ((qz_P gA ((bw h)) ((j) - (1)).toNat : Nat) : Int) + 1 = qz_I gA ((bw h)) ((j) - (1)).toNat := by unfold qz_P; omega
        refine ez_aR hA tbw rfl tq_20 rfl rfl (by omega) (by omega) (by omega) (fun (t16 : _ = 13) => ?_)
        have n22 : 64 ≤ qz_N gA ((bw h)) ∧ qz_N gA ((bw h)) ≤ 4096 := ez_len hA tbw tq_20 rfl
        refine ez_aa hA tbw t16 rfl tq_20 tq_13 rfl rfl rfl (by omega) (by omega) (ez_vdR rfl t16 (by omega) (by omega)) (fun hB20 w21 => ?_)
        refine ez_go (n := 2) (pc' := 140) (L' := [(3, .inl (j + (-1))), (1, .inl (k)), (2, .inr (.inr (some (l)))), (0, .inr (.inr (some (770))))]) (st' := []) rfl ?_
        exfalso; omega
  | succ m ih =>
    intro j g hm j0 j1 hB hf hd hb lo hi up
    have f770 : ∀ j, qz_I g 770 j = qz_I h 770 j := fun j => hf.I (nz_P2_n n7d n7b) j
    have fl1 : qz_I g l 1 = qz_I h l 1 := hf.I (nz_P2_n nld nlb) 1
    refine ez_go (n := 1) (pc' := 141) (L' := [(3, .inl (j)), (1, .inl (k)), (2, .inr (.inr (some (l)))), (0, .inr (.inr (some (770))))]) (st' := [.inl (j)]) rfl ?_
    refine ez_if rfl rfl ⟨by first | omega | exact (sz_i32 _).1, by first | omega | exact (sz_i32 _).2⟩ (fun (c1 : (j) ≤ (0)) => ?_) (fun (c1 : ¬((j) ≤ (0))) => ?_)
    · skip
      refine ez_less [(3, .inl (j)), (1, .inl (k)), (2, .inr (.inr (some (l)))), (0, .inr (.inr (some (770))))] rfl ⟨rfl, rfl, rfl, rfl, trivial⟩ ?_
      exact kx g j j0 j1 hB hf hd hb lo hi up (by first | (left; omega) | (right; rw [← (lo (j - 1).toNat (by omega)).1]; omega))
    · skip
      refine ez_go (n := 1) (pc' := 145) (L' := [(3, .inl (j)), (1, .inl (k)), (2, .inr (.inr (some (l)))), (0, .inr (.inr (some (770))))]) (st' := [.inr (.inr (some (770)))]) rfl ?_
      refine ez_gR hB t770 rfl rfl tq_75 rfl rfl (fun (t2 : _ = 19) (t2' : 1 ≤ qz_I g 770 21) => ?_)
      have ee6 : qz_P g 770 21 = dc h := by unfold dc qz_P; rw [f770]
      rw [ee6]
      refine ez_go (n := 3) (pc' := 151) (L' := [(3, .inl (j)), (1, .inl (k)), (2, .inr (.inr (some (l)))), (0, .inr (.inr (some (770))))]) (st' := [.inl ((j) - (1)), .inr (.inr (some ((dc h))))]) rfl ?_
      have n4 : 64 ≤ qz_N g ((dc h)) ∧ qz_N g ((dc h)) ≤ 4096 := ez_len hB tdc tq_19 rfl
      refine ez_aI hB tdc rfl tq_19 rfl rfl (by omega) (by omega) (fun (b3 : -2147483648 ≤ qz_I g ((dc h)) ((j) - (1)).toNat) (b3' : qz_I g ((dc h)) ((j) - (1)).toNat ≤ 2147483647) => ?_)
      refine ez_go (n := 1) (pc' := 153) (L' := [(3, .inl (j)), (1, .inl (k)), (2, .inr (.inr (some (l)))), (0, .inr (.inr (some (770))))]) (st' := [.inr (.inr (some (l))), .inl (qz_I g ((dc h)) ((j) - (1)).toNat)]) rfl ?_
      refine ez_gI hB tl rfl rfl tq_13 rfl rfl (fun (b5 : -2147483648 ≤ qz_I g l 1) (b5' : qz_I g l 1 ≤ 2147483647) => ?_)
      refine ez_icmp rfl rfl ⟨by first | omega | exact (sz_i32 _).1, by first | omega | exact (sz_i32 _).2⟩ ⟨by first | omega | exact (sz_i32 _).1, by first | omega | exact (sz_i32 _).2⟩ (fun (c6 : (qz_I g ((dc h)) ((j) - (1)).toNat) ≤ (qz_I g l 1)) => ?_) (fun (c6 : ¬((qz_I g ((dc h)) ((j) - (1)).toNat) ≤ (qz_I g l 1))) => ?_)
      · skip
        refine ez_less [(3, .inl (j)), (1, .inl (k)), (2, .inr (.inr (some (l)))), (0, .inr (.inr (some (770))))] rfl ⟨rfl, rfl, rfl, rfl, trivial⟩ ?_
        exact kx g j j0 j1 hB hf hd hb lo hi up (by first | (left; omega) | (right; rw [← (lo (j - 1).toNat (by omega)).1]; omega))
      · skip
        refine ez_go (n := 1) (pc' := 160) (L' := [(3, .inl (j)), (1, .inl (k)), (2, .inr (.inr (some (l)))), (0, .inr (.inr (some (770))))]) (st' := [.inr (.inr (some (770)))]) rfl ?_
        refine ez_gR hB t770 rfl rfl tq_75 rfl rfl (fun (t7 : _ = 19) (t7' : 1 ≤ qz_I g 770 21) => ?_)
        have ee7 : qz_P g 770 21 = dc h := by unfold dc qz_P; rw [f770]
        rw [ee7]
        refine ez_go (n := 2) (pc' := 165) (L' := [(3, .inl (j)), (1, .inl (k)), (2, .inr (.inr (some (l)))), (0, .inr (.inr (some (770))))]) (st' := [.inr (.inr (some (770))), .inl (j), .inr (.inr (some ((dc h))))]) rfl ?_
        refine ez_gR hB t770 rfl rfl tq_75 rfl rfl (fun (t8 : _ = 19) (t8' : 1 ≤ qz_I g 770 21) => ?_)
        have ee8 : qz_P g 770 21 = dc h := by unfold dc qz_P; rw [f770]
        rw [ee8]
        refine ez_go (n := 3) (pc' := 171) (L' := [(3, .inl (j)), (1, .inl (k)), (2, .inr (.inr (some (l)))), (0, .inr (.inr (some (770))))]) (st' := [.inl ((j) - (1)), .inr (.inr (some ((dc h)))), .inl (j), .inr (.inr (some ((dc h))))]) rfl ?_
        have n10 : 64 ≤ qz_N g ((dc h)) ∧ qz_N g ((dc h)) ≤ 4096 := ez_len hB tdc tq_19 rfl
        refine ez_aI hB tdc rfl tq_19 rfl rfl (by omega) (by omega) (fun (b9 : -2147483648 ≤ qz_I g ((dc h)) ((j) - (1)).toNat) (b9' : qz_I g ((dc h)) ((j) - (1)).toNat ≤ 2147483647) => ?_)
        have n13 : 64 ≤ qz_N g ((dc h)) ∧ qz_N g ((dc h)) ≤ 4096 := ez_len hB tdc tq_19 rfl
        refine ez_as hB tdc rfl tq_19 rfl rfl (by omega) (by omega) (ez_vdI rfl rfl (by omega) (by omega)) (fun hB11 w12 => ?_)
        have fA : ez_fr (nz_P2 (dc h) (bw h)) h (dz_put g ((dc h)) (j).toNat (ez_v (.inl (qz_I g ((dc h)) ((j) - (1)).toNat)))) := hf.put (nz_P2_l _ _) _ _
        have vA : qz_I (dz_put g ((dc h)) (j).toNat (ez_v (.inl (qz_I g ((dc h)) ((j) - (1)).toNat)))) (dc h) j.toNat = qz_I g (dc h) (j - 1).toNat := w12.trans (rz_rd ⟨by omega, by omega⟩)
        have iA : ∀ i, i ≠ j.toNat → qz_I (dz_put g ((dc h)) (j).toNat (ez_v (.inl (qz_I g ((dc h)) ((j) - (1)).toNat)))) (dc h) i = qz_I g (dc h) i := fun i hi => ez_put_I (fun w => hi w.2)
        have jA : ∀ i, qz_I (dz_put g ((dc h)) (j).toNat (ez_v (.inl (qz_I g ((dc h)) ((j) - (1)).toNat)))) (bw h) i = qz_I g (bw h) i := fun i => ez_put_I (fun w => ndb w.1.symm)
        have nA3 : qz_N (dz_put g ((dc h)) (j).toNat (ez_v (.inl (qz_I g ((dc h)) ((j) - (1)).toNat)))) (dc h) = qz_N h (dc h) := by rw [ez_put_N]; exact hd
        have nA4 : qz_N (dz_put g ((dc h)) (j).toNat (ez_v (.inl (qz_I g ((dc h)) ((j) - (1)).toNat)))) (bw h) = qz_N h (bw h) := by rw [ez_put_N]; exact hb
        have hA := hB11
        generalize (dz_put g ((dc h)) (j).toNat (ez_v (.inl (qz_I g ((dc h)) ((j) - (1)).toNat)))) = gA at *
        have f770A : ∀ j, qz_I gA 770 j = qz_I h 770 j := fun j => fA.I (nz_P2_n n7d n7b) j
        refine ez_go (n := 1) (pc' := 174) (L' := [(3, .inl (j)), (1, .inl (k)), (2, .inr (.inr (some (l)))), (0, .inr (.inr (some (770))))]) (st' := [.inr (.inr (some (770)))]) rfl ?_
        refine ez_gR hA t770 rfl rfl tq_75 rfl rfl (fun (t14 : _ = 20) (t14' : 1 ≤ qz_I gA 770 22) => ?_)
        have ee9 : qz_P gA 770 22 = bw h := by unfold bw qz_P; rw [f770A]
        rw [ee9]
        refine ez_go (n := 2) (pc' := 179) (L' := [(3, .inl (j)), (1, .inl (k)), (2, .inr (.inr (some (l)))), (0, .inr (.inr (some (770))))]) (st' := [.inr (.inr (some (770))), .inl (j), .inr (.inr (some ((bw h))))]) rfl ?_
        refine ez_gR hA t770 rfl rfl tq_75 rfl rfl (fun (t15 : _ = 20) (t15' : 1 ≤ qz_I gA 770 22) => ?_)
        have ee10 : qz_P gA 770 22 = bw h := by unfold bw qz_P; rw [f770A]
        rw [ee10]
        refine ez_go (n := 3) (pc' := 185) (L' := [(3, .inl (j)), (1, .inl (k)), (2, .inr (.inr (some (l)))), (0, .inr (.inr (some (770))))]) (st' := [.inl ((j) - (1)), .inr (.inr (some ((bw h)))), .inl (j), .inr (.inr (some ((bw h))))]) rfl ?_
        have n17 : 64 ≤ qz_N gA ((bw h)) ∧ qz_N gA ((bw h)) ≤ 4096 := ez_len hA tbw tq_20 rfl
        have y18 : 1 ≤ qz_I gA ((bw h)) ((j) - (1)).toNat := by rw [jA, (lo (j - 1).toNat (by omega)).2]; exact hne _ (by omega)
        have y19 : 0 ≤ qz_I gA ((bw h)) ((j) - (1)).toNat ∧ qz_I gA ((bw h)) ((j) - (1)).toNat ≤ 1000000 := ez_aB hA tbw tq_20 rfl rfl (by decide) (by omega) (by omega)
        have y19' : ((qz_P gA ((bw h)) ((j) - (1)).toNat : Nat) : Int) + 1 = qz_I gA ((bw h)) ((j) - (1)).toNat := by unfold qz_P; omega
        refine ez_aR hA tbw rfl tq_20 rfl rfl (by omega) (by omega) (by omega) (fun (t16 : _ = 13) => ?_)
        have n22 : 64 ≤ qz_N gA ((bw h)) ∧ qz_N gA ((bw h)) ≤ 4096 := ez_len hA tbw tq_20 rfl
        refine ez_aa hA tbw t16 rfl tq_20 tq_13 rfl rfl rfl (by omega) (by omega) (ez_vdR rfl t16 (by omega) (by omega)) (fun hB20 w21 => ?_)
        refine ez_go (n := 2) (pc' := 140) (L' := [(3, .inl (j + (-1))), (1, .inl (k)), (2, .inr (.inr (some (l)))), (0, .inr (.inr (some (770))))]) (st' := []) rfl ?_
        refine ez_less [(3, .inl (j + (-1))), (1, .inl (k)), (2, .inr (.inr (some (l)))), (0, .inr (.inr (some (770))))] rfl ⟨rfl, rfl, rfl, rfl, trivial⟩ ?_
        have vB : qz_I (dz_put gA ((bw h)) (j).toNat (ez_v (.inr (.inr (some (qz_P gA ((bw h)) ((j) - (1)).toNat)))))) (bw h) j.toNat = qz_I gA (bw h) (j - 1).toNat := by rw [w21]; show ((qz_P gA (bw h) (j - 1).toNat : Nat) : Int) + 1 = _; unfold qz_P; omega
        have iB : ∀ i, i ≠ j.toNat → qz_I (dz_put gA ((bw h)) (j).toNat (ez_v (.inr (.inr (some (qz_P gA ((bw h)) ((j) - (1)).toNat)))))) (bw h) i = qz_I gA (bw h) i := fun i hi => ez_put_I (fun w => hi w.2)
        have jB : ∀ i, qz_I (dz_put gA ((bw h)) (j).toNat (ez_v (.inr (.inr (some (qz_P gA ((bw h)) ((j) - (1)).toNat)))))) (dc h) i = qz_I gA (dc h) i := fun i => ez_put_I (fun w => ndb w.1)
        have nB3 : qz_N (dz_put gA ((bw h)) (j).toNat (ez_v (.inr (.inr (some (qz_P gA ((bw h)) ((j) - (1)).toNat)))))) (dc h) = qz_N h (dc h) := by rw [ez_put_N]; exact nA3
        have nB4 : qz_N (dz_put gA ((bw h)) (j).toNat (ez_v (.inr (.inr (some (qz_P gA ((bw h)) ((j) - (1)).toNat)))))) (bw h) = qz_N h (bw h) := by rw [ez_put_N]; exact nA4
        have fB : ez_fr (nz_P2 (dc h) (bw h)) h (dz_put gA ((bw h)) (j).toNat (ez_v (.inr (.inr (some (qz_P gA ((bw h)) ((j) - (1)).toNat)))))) := fA.put (nz_P2_r _ _) _ _
        have hB9 := hB20
        generalize (dz_put gA ((bw h)) (j).toNat (ez_v (.inr (.inr (some (qz_P gA ((bw h)) ((j) - (1)).toNat)))))) = gB at *
        have lo' := lo (j - 1).toNat (by omega)
        refine ih (j + (-1)) gB (by omega) (by omega) (by omega) hB9 fB nB3 nB4 (fun i hi2 => ?_) (fun i i1 i2 => ?_) (fun i i1 i2 => ?_)
        · rw [jB, iA i (by omega), iB i (by omega), jA]; exact lo i (by omega)
        · by_cases e : i + 1 = j.toNat
          · have e2 : i = (j - 1).toNat := by omega
            rw [jB, e, vA, vB, jA, e2]; exact lo'
          · rw [jB, iA _ e, iB _ e, jA]; exact hi i (by omega) i2
        · by_cases e : (i : Int) = j - 1
          · have e2 : i = (j - 1).toNat := by omega
            rw [e2, ← lo'.1]; omega
          · exact up i (by omega) i2
theorem rd_co_e {g : cz_H} {j : Int} (t770 : τ 770 = 75) (tl : τ l = 13) (tdc : τ (dc h) = 19) (tbw : τ (bw h) = 20) (n7d : 770 ≠ dc h) (n7b : 770 ≠ bw h) (nld : l ≠ dc h) (nlb : l ≠ bw h) (ndb : dc h ≠ bw h) (c0 : 0 ≤ cn h) (c5 : cn h ≤ 511) (hnb : cn h < qz_N h (bw h)) (hdb : qz_N h (bw h) ≤ qz_N h (dc h)) (kx : ∀ g (j : Nat), (j : Int) ≤ cn h → ez_B τ g → ez_fr (nz_P3 (dc h) (bw h)) h g → (∀ i, i ≠ 23 → qz_I g 770 i = qz_I h 770 i) → cn g = cn h + 1 → (∀ i : Nat, i < j → qz_I g (dc h) i = qz_I h (dc h) i ∧ qz_I g (bw h) i = qz_I h (bw h) i) → (qz_I g (dc h) j = qz_I h l 1 ∧ qz_I g (bw h) j = (l : Int) + 1) → (∀ i : Nat, j ≤ i → (i : Int) < cn h → qz_I g (dc h) (i + 1) = qz_I h (dc h) i ∧ qz_I g (bw h) (i + 1) = qz_I h (bw h) i) → (j = 0 ∨ qz_I h (dc h) (j - 1) ≤ qz_I h l 1) → (∀ i : Nat, j ≤ i → (i : Int) < cn h → qz_I h l 1 < qz_I h (dc h) i) → qz_N g (dc h) = qz_N h (dc h) → qz_N g (bw h) = qz_N h (bw h) → ez_W d cm_237 220 [(1, .inl (k)), (0, .inr (.inr (some (770))))] [] g Q) (j0 : 0 ≤ j) (j1 : j ≤ cn h) (hBg : ez_B τ g) (hf : ez_fr (nz_P2 (dc h) (bw h)) h g) (hd : qz_N g (dc h) = qz_N h (dc h)) (hb : qz_N g (bw h) = qz_N h (bw h)) (lo : (∀ i : Nat, (i : Int) < j → qz_I g (dc h) i = qz_I h (dc h) i ∧ qz_I g (bw h) i = qz_I h (bw h) i)) (hi : ∀ i : Nat, j ≤ (i : Int) → (i : Int) < cn h → qz_I g (dc h) (i + 1) = qz_I h (dc h) i ∧ qz_I g (bw h) (i + 1) = qz_I h (bw h) i) (up : ∀ i : Nat, j ≤ (i : Int) → (i : Int) < cn h → qz_I h l 1 < qz_I h (dc h) i) (hj : j = 0 ∨ qz_I h (dc h) (j - 1).toNat ≤ qz_I h l 1) (hr1 : h.1 ≤ 600192) : ez_W d cm_237 193 [(3, .inl (j)), (1, .inl (k)), (2, .inr (.inr (some (l)))), (0, .inr (.inr (some (770))))] [] g Q := by
  have f770 : ∀ j, qz_I g 770 j = qz_I h 770 j := fun j => hf.I (nz_P2_n n7d n7b) j
  have fl1 : qz_I g l 1 = qz_I h l 1 := hf.I (nz_P2_n nld nlb) 1
  have ll := dz_here_lt (hBg.1 l (by rw [tl]; decide)).1
  have lg1 := hf.1
  have cne : cn h = qz_I h 770 23 := rfl
  refine ez_go (n := 1) (pc' := 194) (L' := [(3, .inl (j)), (1, .inl (k)), (2, .inr (.inr (some (l)))), (0, .inr (.inr (some (770))))]) (st' := [.inr (.inr (some (770)))]) rfl ?_
  refine ez_gR hBg t770 rfl rfl tq_75 rfl rfl (fun (t1 : _ = 19) (t1' : 1 ≤ qz_I g 770 21) => ?_)
  have ee11 : qz_P g 770 21 = dc h := by unfold dc qz_P; rw [f770]
  rw [ee11]
  refine ez_go (n := 2) (pc' := 199) (L' := [(3, .inl (j)), (1, .inl (k)), (2, .inr (.inr (some (l)))), (0, .inr (.inr (some (770))))]) (st' := [.inr (.inr (some (l))), .inl (j), .inr (.inr (some ((dc h))))]) rfl ?_
  refine ez_gI hBg tl rfl rfl tq_13 rfl rfl (fun (b2 : -2147483648 ≤ qz_I g l 1) (b2' : qz_I g l 1 ≤ 2147483647) => ?_)
  have n5 : 64 ≤ qz_N g ((dc h)) ∧ qz_N g ((dc h)) ≤ 4096 := ez_len hBg tdc tq_19 rfl
  refine ez_as hBg tdc rfl tq_19 rfl rfl (by omega) (by omega) (ez_vdI rfl rfl (by omega) (by omega)) (fun hB3 w4 => ?_)
  have fA : ez_fr (nz_P2 (dc h) (bw h)) h (dz_put g ((dc h)) (j).toNat (ez_v (.inl (qz_I g l 1)))) := hf.put (nz_P2_l _ _) _ _
  have vA : qz_I (dz_put g ((dc h)) (j).toNat (ez_v (.inl (qz_I g l 1)))) (dc h) j.toNat = qz_I h l 1 := by rw [w4, rz_rd ⟨by omega, by omega⟩]; exact fl1
  have iA : ∀ i, i ≠ j.toNat → qz_I (dz_put g ((dc h)) (j).toNat (ez_v (.inl (qz_I g l 1)))) (dc h) i = qz_I g (dc h) i := fun i hi => ez_put_I (fun w => hi w.2)
  have jA : ∀ i, qz_I (dz_put g ((dc h)) (j).toNat (ez_v (.inl (qz_I g l 1)))) (bw h) i = qz_I g (bw h) i := fun i => ez_put_I (fun w => ndb w.1.symm)
  have nA3 : qz_N (dz_put g ((dc h)) (j).toNat (ez_v (.inl (qz_I g l 1)))) (dc h) = qz_N h (dc h) := by rw [ez_put_N]; exact hd
  have nA4 : qz_N (dz_put g ((dc h)) (j).toNat (ez_v (.inl (qz_I g l 1)))) (bw h) = qz_N h (bw h) := by rw [ez_put_N]; exact hb
  have hA := hB3
  generalize (dz_put g ((dc h)) (j).toNat (ez_v (.inl (qz_I g l 1)))) = gA at *
  have f770A : ∀ j, qz_I gA 770 j = qz_I h 770 j := fun j => fA.I (nz_P2_n n7d n7b) j
  refine ez_go (n := 1) (pc' := 204) (L' := [(3, .inl (j)), (1, .inl (k)), (2, .inr (.inr (some (l)))), (0, .inr (.inr (some (770))))]) (st' := [.inr (.inr (some (770)))]) rfl ?_
  refine ez_gR hA t770 rfl rfl tq_75 rfl rfl (fun (t6 : _ = 20) (t6' : 1 ≤ qz_I gA 770 22) => ?_)
  have ee12 : qz_P gA 770 22 = bw h := by unfold bw qz_P; rw [f770A]
  rw [ee12]
  refine ez_go (n := 2) (pc' := 209) (L' := [(3, .inl (j)), (1, .inl (k)), (2, .inr (.inr (some (l)))), (0, .inr (.inr (some (770))))]) (st' := [.inr (.inr (some (l))), .inl (j), .inr (.inr (some ((bw h))))]) rfl ?_
  have n9 : 64 ≤ qz_N gA ((bw h)) ∧ qz_N gA ((bw h)) ≤ 4096 := ez_len hA tbw tq_20 rfl
  refine ez_aa hA tbw tl rfl tq_20 tq_13 rfl rfl rfl (by omega) (by omega) (ez_vdR rfl tl (by omega) (by omega)) (fun hB7 w8 => ?_)
  have vB : qz_I (dz_put gA ((bw h)) (j).toNat (ez_v (.inr (.inr (some (l)))))) (bw h) j.toNat = (l : Int) + 1 := w8
  have iB : ∀ i, i ≠ j.toNat → qz_I (dz_put gA ((bw h)) (j).toNat (ez_v (.inr (.inr (some (l)))))) (bw h) i = qz_I gA (bw h) i := fun i hi => ez_put_I (fun w => hi w.2)
  have jB : ∀ i, qz_I (dz_put gA ((bw h)) (j).toNat (ez_v (.inr (.inr (some (l)))))) (dc h) i = qz_I gA (dc h) i := fun i => ez_put_I (fun w => ndb w.1)
  have nB3 : qz_N (dz_put gA ((bw h)) (j).toNat (ez_v (.inr (.inr (some (l)))))) (dc h) = qz_N h (dc h) := by rw [ez_put_N]; exact nA3
  have nB4 : qz_N (dz_put gA ((bw h)) (j).toNat (ez_v (.inr (.inr (some (l)))))) (bw h) = qz_N h (bw h) := by rw [ez_put_N]; exact nA4
  have fB : ez_fr (nz_P2 (dc h) (bw h)) h (dz_put gA ((bw h)) (j).toNat (ez_v (.inr (.inr (some (l)))))) := fA.put (nz_P2_r _ _) _ _
  have hB9 := hB7
  generalize (dz_put gA ((bw h)) (j).toNat (ez_v (.inr (.inr (some (l)))))) = gB at *
  have f770B : ∀ j, qz_I gB 770 j = qz_I h 770 j := fun j => fB.I (nz_P2_n n7d n7b) j
  have f23B := f770B 23
  refine ez_go (n := 2) (pc' := 212) (L' := [(3, .inl (j)), (1, .inl (k)), (2, .inr (.inr (some (l)))), (0, .inr (.inr (some (770))))]) (st' := [.inr (.inr (some (770))), .inr (.inr (some (770)))]) rfl ?_
  refine ez_gI hB9 t770 rfl rfl tq_75 rfl rfl (fun (b10 : 0 ≤ qz_I gB 770 23) (b10' : qz_I gB 770 23 ≤ 512) => ?_)
  refine ez_go (n := 2) (pc' := 217) (L' := [(3, .inl (j)), (1, .inl (k)), (2, .inr (.inr (some (l)))), (0, .inr (.inr (some (770))))]) (st' := [.inl ((qz_I gB 770 23) + (1)), .inr (.inr (some (770)))]) rfl ?_
  refine ez_pf hB9 t770 rfl rfl tq_75 rfl rfl rfl rfl (ez_vdI rfl rfl (by omega) (by omega)) (fun hB11 w12 => ?_)
  refine ez_less [(1, .inl (k)), (0, .inr (.inr (some (770))))] rfl ⟨rfl, rfl, trivial⟩ ?_
  have vC : qz_I (dz_put gB 770 23 (ez_v (.inl ((qz_I gB 770 23) + (1))))) 770 23 = qz_I h 770 23 + 1 := by rw [w12, rz_rd ⟨by omega, by omega⟩, f23B]
  have iC : ∀ j, j ≠ 23 → qz_I (dz_put gB 770 23 (ez_v (.inl ((qz_I gB 770 23) + (1))))) 770 j = qz_I h 770 j := fun j hj => by rw [ez_put_I (fun w => hj w.2)]; exact f770B j
  have fC : ez_fr (ez_one 770) gB (dz_put gB 770 23 (ez_v (.inl ((qz_I gB 770 23) + (1))))) := (ez_fr.refl (ez_one 770) gB).put rfl _ _
  have hC := hB11
  generalize (dz_put gB 770 23 (ez_v (.inl ((qz_I gB 770 23) + (1))))) = gC at *
  have jC : ∀ q i, q ≠ 770 → qz_I gC q i = qz_I gB q i := fun q i hq => fC.I (dz_beq_ne hq) i
  have fD : ez_fr (nz_P3 (dc h) (bw h)) h gC := ⟨by rw [fC.1, fB.1], by rw [fC.2.1, fB.2.1], fun q hq => by rw [fC.2.2 q (Bool.or_eq_false_iff.mp hq).1, fB.2.2 q (Bool.or_eq_false_iff.mp hq).2]⟩
  refine kx gC j.toNat (by omega) hC fD iC vC (fun i hi2 => ?_) ?_ (fun i i1 i2 => ?_) ?_ (fun i i1 i2 => up i (by omega) i2) (by rw [fC.N (dz_beq_ne (Ne.symm n7d))]; exact nB3) (by rw [fC.N (dz_beq_ne (Ne.symm n7b))]; exact nB4)
  · rw [jC _ _ (Ne.symm n7d), jC _ _ (Ne.symm n7b), jB, iB _ (by omega), jA, iA _ (by omega)]; exact lo i (by omega)
  · rw [jC _ _ (Ne.symm n7d), jC _ _ (Ne.symm n7b), jB]; exact ⟨vA, vB⟩
  · rw [jC _ _ (Ne.symm n7d), jC _ _ (Ne.symm n7b), jB, iB _ (by omega), jA, iA _ (by omega)]; exact hi i (by omega) i2
  · rcases hj with e | e
    · exact Or.inl (by omega)
    · by_cases e0 : j = 0
      · exact Or.inl (by omega)
      · exact Or.inr (by rw [show j.toNat - 1 = (j - 1).toNat by omega]; exact e)

theorem rd_co_i (hB : ez_B τ h) (t770 : τ 770 = 75) (tl : τ l = 13) (tdc : τ (dc h) = 19) (tbw : τ (bw h) = 20) (n7d : 770 ≠ dc h) (n7b : 770 ≠ bw h) (nld : l ≠ dc h) (nlb : l ≠ bw h) (ndb : dc h ≠ bw h) (c0 : 0 ≤ cn h) (c5 : cn h ≤ 511) (hnb : cn h < qz_N h (bw h)) (hdb : qz_N h (bw h) ≤ qz_N h (dc h)) (hne : ∀ j : Nat, (j : Int) < cn h → 1 ≤ qz_I h (bw h) j) (hr1 : h.1 ≤ 600192) (kx : ∀ g (j : Nat), (j : Int) ≤ cn h → ez_B τ g → ez_fr (nz_P3 (dc h) (bw h)) h g → (∀ i, i ≠ 23 → qz_I g 770 i = qz_I h 770 i) → cn g = cn h + 1 → (∀ i : Nat, i < j → qz_I g (dc h) i = qz_I h (dc h) i ∧ qz_I g (bw h) i = qz_I h (bw h) i) → (qz_I g (dc h) j = qz_I h l 1 ∧ qz_I g (bw h) j = (l : Int) + 1) → (∀ i : Nat, j ≤ i → (i : Int) < cn h → qz_I g (dc h) (i + 1) = qz_I h (dc h) i ∧ qz_I g (bw h) (i + 1) = qz_I h (bw h) i) → (j = 0 ∨ qz_I h (dc h) (j - 1) ≤ qz_I h l 1) → (∀ i : Nat, j ≤ i → (i : Int) < cn h → qz_I h l 1 < qz_I h (dc h) i) → qz_N g (dc h) = qz_N h (dc h) → qz_N g (bw h) = qz_N h (bw h) → ez_W d cm_237 220 [(1, .inl (k)), (0, .inr (.inr (some (770))))] [] g Q) : ez_W d cm_237 135 [(1, .inl (k)), (2, .inr (.inr (some (l)))), (0, .inr (.inr (some (770))))] [] h Q := by
  refine ez_go (n := 1) (pc' := 136) (L' := [(1, .inl (k)), (2, .inr (.inr (some (l)))), (0, .inr (.inr (some (770))))]) (st' := [.inr (.inr (some (770)))]) rfl ?_
  refine ez_gI hB t770 rfl rfl tq_75 rfl rfl (fun (b1 : 0 ≤ qz_I h 770 23) (b1' : qz_I h 770 23 ≤ 512) => ?_)
  refine ez_go (n := 1) (pc' := 140) (L' := [(3, .inl (qz_I h 770 23)), (1, .inl (k)), (2, .inr (.inr (some (l)))), (0, .inr (.inr (some (770))))]) (st' := []) rfl ?_
  refine ez_less [(3, .inl (qz_I h 770 23)), (1, .inl (k)), (2, .inr (.inr (some (l)))), (0, .inr (.inr (some (770))))] rfl ⟨rfl, rfl, rfl, rfl, trivial⟩ ?_
  refine rd_co_s t770 tl tdc tbw n7d n7b nld nlb ndb c0 c5 hnb hdb hne (fun g j a0 a1 a2 a3 a4 a5 a6 a7 a8 a9 => rd_co_e t770 tl tdc tbw n7d n7b nld nlb ndb c0 c5 hnb hdb kx a0 a1 a2 a3 a4 a5 a6 a7 a8 a9 hr1) _ (cn h) h rfl c0 (Int.le_refl _) hB (ez_fr.refl _ _) rfl rfl (fun i hi => ⟨rfl, rfl⟩) (fun i i1 i2 => by omega) (fun i i1 i2 => by omega)

end EzCx
/-! The model: the decomposed points, in their order. -/
def cg (Ls : List vz) (v : Nat → Int) (a b K : Int) : Prop := ∃ (k : Nat) (x : vz), Ls[k]? = some x ∧ (k : Int) < K ∧ (x.1 = 0 ∧ x.2.2.2.2.1 ≠ 0) ∧ x.2.1 = a ∧ (∀ (j : Nat) y, k < j → Ls[j]? = some y → ¬ cov y a) ∧ b = v k
def cE (Ls : List vz) (v A B : Nat → Int) (n K : Int) : Prop := (∀ i : Nat, (i : Int) < n → cg Ls v (A i) (B i) K) ∧ (∀ i j : Nat, i < j → (j : Int) < n → A i < A j) ∧ ∀ (k : Nat) x, (k : Int) < K → Ls[k]? = some x → x.1 = 0 → x.2.2.2.2.1 ≠ 0 → (∀ (j : Nat) y, k < j → Ls[j]? = some y → ¬ cov y x.2.1) → ∃ i : Nat, (i : Int) < n ∧ A i = x.2.1
theorem cg.mono {Ls : List vz} {v : Nat → Int} {a b K K' : Int} (c : cg Ls v a b K) (h : K ≤ K') : cg Ls v a b K' := by
  obtain ⟨k, x, h1, h2, h3⟩ := c
  exact ⟨k, x, h1, by omega, h3⟩
theorem cE_skip {Ls : List vz} {v A B : Nat → Int} {n K : Int} (c : cE Ls v A B n K) (h : ∀ x, Ls[K.toNat]? = some x → x.1 = 0 → x.2.2.2.2.1 ≠ 0 → ¬ (∀ (j : Nat) y, K.toNat < j → Ls[j]? = some y → ¬ cov y x.2.1)) : cE Ls v A B n (K + 1) := by
  refine ⟨fun i hi => (c.1 i hi).mono (by omega), c.2.1, fun k x hk hx x0 x5 hl => ?_⟩
  by_cases e : (k : Int) < K
  · exact c.2.2 k x e hx x0 x5 hl
  · have : k = K.toNat := by omega
    subst this
    exact absurd hl (h x hx x0 x5)
theorem cE_ins {Ls : List vz} {v A B A' B' : Nat → Int} {n K : Int} {x : vz} {p : Nat} (c : cE Ls v A B n K) (K0 : 0 ≤ K) (hx : Ls[K.toNat]? = some x) (x0 : x.1 = 0) (x5 : x.2.2.2.2.1 ≠ 0) (x1 : x.2.1 = x.2.2.1) (hl : ∀ (j : Nat) y, K.toNat < j → Ls[j]? = some y → ¬ cov y x.2.1) (hp : (p : Int) ≤ n) (lo : ∀ i : Nat, i < p → A' i = A i ∧ B' i = B i) (mid : A' p = x.2.1 ∧ B' p = v K.toNat) (hi : ∀ i : Nat, p ≤ i → (i : Int) < n → A' (i + 1) = A i ∧ B' (i + 1) = B i) (le : p = 0 ∨ A (p - 1) ≤ x.2.1) (gt : ∀ i : Nat, p ≤ i → (i : Int) < n → x.2.1 < A i) : cE Ls v A' B' (n + 1) (K + 1) := by
  have below : ∀ i : Nat, i < p → A i < x.2.1 := fun i hi2 => by
    have h1 : A (p - 1) ≤ x.2.1 := le.resolve_left (by omega)
    have h2 : A i ≤ A (p - 1) := by
      by_cases e : i = p - 1
      · rw [e]; exact Int.le_refl _
      · exact Int.le_of_lt (c.2.1 i (p - 1) (by omega) (by omega))
    have h3 : A i ≠ x.2.1 := fun e => by
      obtain ⟨k, y, c1, c2, c3, c4, c5, c6⟩ := c.1 i (by omega)
      exact c5 K.toNat x (by omega) hx ⟨x0, by omega, by omega⟩
    omega
  have up : ∀ i : Nat, p < i → (i : Int) < n + 1 → A' i = A (i - 1) ∧ B' i = B (i - 1) := fun i h1 h2 => by
    have := hi (i - 1) (by omega) (by omega)
    rw [show i - 1 + 1 = i by omega] at this
    exact this
  refine ⟨fun i hn => ?_, fun i j hij hj => ?_, fun k y hk hy y0 y5 hly => ?_⟩
  · rcases Nat.lt_trichotomy i p with e | e | e
    · rw [(lo i e).1, (lo i e).2]; exact (c.1 i (by omega)).mono (by omega)
    · subst e
      rw [mid.1, mid.2]
      exact ⟨K.toNat, x, hx, by omega, ⟨x0, x5⟩, rfl, hl, rfl⟩
    · rw [(up i e hn).1, (up i e hn).2]; exact (c.1 (i - 1) (by omega)).mono (by omega)
  · rcases Nat.lt_trichotomy i p with e | e | e
    · rcases Nat.lt_trichotomy j p with f | f | f
      · rw [(lo i e).1, (lo j f).1]; exact c.2.1 i j hij (by omega)
      · subst f; rw [(lo i e).1, mid.1]; exact below i e
      · rw [(lo i e).1, (up j f hj).1]
        have := below i e
        have := gt (j - 1) (by omega) (by omega)
        omega
    · subst e
      rw [mid.1, (up j hij hj).1]
      exact gt (j - 1) (by omega) (by omega)
    · rw [(up i e (by omega)).1, (up j (by omega) hj).1]
      exact c.2.1 (i - 1) (j - 1) (by omega) (by omega)
  · by_cases e : (k : Int) < K
    · obtain ⟨i, i1, i2⟩ := c.2.2 k y e hy y0 y5 hly
      by_cases ei : i < p
      · exact ⟨i, by omega, by rw [(lo i ei).1]; exact i2⟩
      · exact ⟨i + 1, by omega, by rw [(hi i (by omega) i1).1]; exact i2⟩
    · have : k = K.toNat := by omega
      subst this
      rw [hx] at hy; cases hy
      exact ⟨p, by omega, mid.1⟩
theorem cE_congr {Ls : List vz} {v v' A A' B B' : Nat → Int} {n K : Int} (c : cE Ls v A B n K) (hK : K ≤ (Ls.length : Int)) (hv : ∀ k : Nat, k < Ls.length → v' k = v k) (hA : ∀ i : Nat, (i : Int) < n → A' i = A i) (hB : ∀ i : Nat, (i : Int) < n → B' i = B i) : cE Ls v' A' B' n K := by
  refine ⟨fun i hi => ?_, fun i j hij hj => by rw [hA i (by omega), hA j hj]; exact c.2.1 i j hij hj, fun k x hk hx x0 x5 hl => ?_⟩
  · obtain ⟨k, x, c1, c2, c3, c4, c5, c6⟩ := c.1 i hi
    rw [hA i hi, hB i hi]
    exact ⟨k, x, c1, c2, c3, c4, c5, by rw [c6, hv k (by omega)]⟩
  · obtain ⟨i, i1, i2⟩ := c.2.2 k x hk hx x0 x5 hl
    exact ⟨i, i1, by rw [hA i i1]; exact i2⟩
/-- the model has them -/
def cD (h : cz_H) (Ls : List vz) (K : Int) : Prop := cE Ls (fun k => qz_I h (ls h) k) (fun i => qz_I h (dc h) i) (fun i => qz_I h (bw h) i) (cn h) K
/-- of what they are the points -/
theorem cD_F {τ : Nat → Nat} {h : cz_H} {Ls : List vz} {b : Int} (hI : mI τ h Ls b) (c : cD h Ls (lc h)) : (∀ i : Nat, (i : Int) < cn h → ∃ x, (vF Ls (qz_I h (dc h) i) = (x.2.2.2.1, some (x.2.2.2.2.1 - 1, x.2.2.2.2.2.1)) ∧ (0 < x.2.2.2.2.1 ∧ x.1 = 0)) ∧ vc h (qz_P h (bw h) i) x ∧ τ (qz_P h (bw h) i) = 13 ∧ 1 ≤ qz_I h (bw h) i) ∧ ∀ y, (vF Ls y).2 ≠ none → ∃ i : Nat, (i : Int) < cn h ∧ qz_I h (dc h) i = y := by
  have v := hI.2.2.2.2.2.2
  refine ⟨fun i hi => ?_, fun y hy => ?_⟩
  · obtain ⟨k, x, c1, c2, c3, c4, c5, c6⟩ := c.1 i hi
    have c6 : qz_I h (bw h) i = qz_I h (ls h) k := c6
    have c4 : x.2.1 = qz_I h (dc h) i := c4
    have c5 : ∀ (j : Nat) (y : vz), k < j → Ls[j]? = some y → ¬ cov y (qz_I h (dc h) i) := c5
    have eP : qz_P h (bw h) i = qz_P h (ls h) k := by unfold qz_P; rw [c6]
    have hk : (k : Int) < lc h := by have := (List.getElem?_eq_some_iff.mp c1).1; have := v.1; omega
    have hv := (v.2 k x c1).1
    have w := hv.2 c3.1
    have w2 := w.2 c3.2
    have e := vF_at c1 ⟨c3.1, by rw [c4]; exact Int.le_refl _, by rw [← w2.1, c4]; exact Int.le_refl _⟩ c5
    refine ⟨x, ⟨?_, by have := w.1; have := c3.2; omega, c3.1⟩, by rw [eP]; exact hv, by rw [eP]; exact (hI.L hk).1, by rw [c6]; exact hI.2.2.2.1.1 k hk⟩
    rw [e]; unfold vD; rw [if_neg c3.2]
  · have hex : ∃ (k : Nat) (x : vz), Ls[k]? = some x ∧ cov x y ∧ ∀ (j : Nat) z, k < j → Ls[j]? = some z → ¬ cov z y := by
      have key : ∀ m : Nat, (∃ (k : Nat) (x : vz), Ls[k]? = some x ∧ cov x y ∧ ∀ (j : Nat) z, k < j → Ls[j]? = some z → ¬ cov z y) ∨ ∀ (j : Nat) z, Ls.length - m ≤ j → Ls[j]? = some z → ¬ cov z y := by
        intro m
        induction m with
        | zero => exact Or.inr (fun j z hj hz => by have := (List.getElem?_eq_some_iff.mp hz).1; omega)
        | succ m ih =>
          rcases ih with h1 | h1
          · exact Or.inl h1
          · cases hz : Ls[Ls.length - (m + 1)]? with
            | none => exact Or.inr (fun j z hj hz2 => by
                by_cases e : j = Ls.length - (m + 1)
                · rw [e, hz] at hz2; cases hz2
                · exact h1 j z (by omega) hz2)
            | some x =>
              by_cases hc : cov x y
              · exact Or.inl ⟨_, x, hz, hc, fun j z hj hz2 => h1 j z (by omega) hz2⟩
              · exact Or.inr (fun j z hj hz2 => by
                  by_cases e : j = Ls.length - (m + 1)
                  · rw [e, hz] at hz2; cases hz2; exact hc
                  · exact h1 j z (by omega) hz2)
      rcases key Ls.length with h1 | h1
      · exact h1
      · exfalso
        rw [vF_none (fun j z hz => h1 j z (by omega) hz)] at hy
        exact hy rfl
    obtain ⟨k, x, e1, e2, e3⟩ := hex
    rw [vF_at e1 e2 e3] at hy
    have x5 : x.2.2.2.2.1 ≠ 0 := fun e => hy (by show vD x = none; unfold vD; rw [if_pos e])
    have hk : (k : Int) < lc h := by have := (List.getElem?_eq_some_iff.mp e1).1; have := v.1; omega
    have w := ((v.2 k x e1).1.2 e2.1).2 x5
    have ey : x.2.1 = y := by have := e2.2.1; have := e2.2.2; have := w.1; omega
    obtain ⟨i, i1, i2⟩ := c.2.2 k x hk e1 e2.1 x5 (by rw [ey]; exact e3)
    exact ⟨i, i1, by rw [← ey]; exact i2⟩
/-! The model: collect. (Written by wip/p2/py/pv89.py.) -/
section EzCy
variable {d : Nat} {h : cz_H} {τ : Nat → Nat} {Q : cz_F → Prop} {Ls : List vz} {b : Int}
theorem rd_collect_l (hI : mI τ h Ls b) (hlc : lc h ≤ 500) (hr1 : h.1 + 200 ≤ 600192) (hr2 : h.2.1 + 20000 ≤ 7302232) (kx : ∀ g τ1, ez_B τ1 g → gd τ h τ1 g → cD g Ls (lc g) → cn g ≤ lc h → cn g ≤ qz_N g (bw g) → Q (.inl none, g)) : ∀ (m : Nat) (k : Int) (g : cz_H) (τ1 : Nat → Nat), m = (lc h - k).toNat → 0 ≤ k → k ≤ lc h → ez_B τ1 g → gd τ h τ1 g → cD g Ls k → cn g ≤ k → cn g ≤ qz_N g (bw g) → ez_W (d + 1) cm_237 7 [(1, .inl (k)), (0, .inr (.inr (some (770))))] [] g Q := by
  have hB := hI.1
  have t770 : τ 770 = 75 := hI.2.1 770 (by decide)
  have lb0 : 64 ≤ qz_N h (bw h) := (ez_len hB (ez_tdb hB t770).2 tq_20 rfl).1
  intro m
  induction m with
  | zero =>
    intro k g τ1 hm k0 k1 hBg hg hc9 hcn hcb
    have u770 : τ1 770 = 75 := (hg.1 770 (by rw [t770]; decide)).1.trans t770
    have I1 := hg.mI hI hBg
    have elc : lc g = lc h := (hg.lsx hB t770).2.1
    have lce : lc g = qz_I g 770 12 := rfl
    have nls : lc g ≤ qz_N g (ls g) := I1.2.2.1.1.1
    have cne : cn g = qz_I g 770 23 := rfl
    have b23 : 0 ≤ qz_I g 770 23 ∧ qz_I g 770 23 ≤ 512 := ez_fB (cl := 11) (k := 23) hBg u770 tq_75 rfl rfl (by decide)
    have rr := hg.2.2.2.2.1
    have lgb : qz_N g (bw g) ≤ 4096 := (ez_len hBg (ez_tdb hBg u770).2 tq_20 rfl).2
    refine ez_go (n := 2) (pc' := 9) (L' := [(1, .inl (k)), (0, .inr (.inr (some (770))))]) (st' := [.inr (.inr (some (770))), .inl (k)]) rfl ?_
    refine ez_gI hBg u770 rfl rfl tq_75 rfl rfl (fun (b1 : 0 ≤ qz_I g 770 12) (b1' : qz_I g 770 12 ≤ 512) => ?_)
    refine ez_icmp rfl rfl ⟨by first | omega | exact (sz_i32 _).1, by first | omega | exact (sz_i32 _).2⟩ ⟨by first | omega | exact (sz_i32 _).1, by first | omega | exact (sz_i32 _).2⟩ (fun (c2 : (qz_I g 770 12) ≤ (k)) => ?_) (fun (c2 : ¬((qz_I g 770 12) ≤ (k))) => ?_)
    · skip
      have ek : k = lc g := by omega
      rw [ek] at hc9
      exact ez_ret0 rfl rfl (kx g τ1 hBg hg hc9 (by omega) hcb)
    · skip
      refine ez_go (n := 1) (pc' := 16) (L' := [(1, .inl (k)), (0, .inr (.inr (some (770))))]) (st' := [.inr (.inr (some (770)))]) rfl ?_
      refine ez_gR hBg u770 rfl rfl tq_75 rfl rfl (fun (t3 : _ = 18) (t3' : 1 ≤ qz_I g 770 11) => ?_)
      rw [show qz_P g 770 11 = ls g from rfl] at *
      refine ez_go (n := 1) (pc' := 20) (L' := [(1, .inl (k)), (0, .inr (.inr (some (770))))]) (st' := [.inl (k), .inr (.inr (some ((ls g))))]) rfl ?_
      have n5 : 64 ≤ qz_N g ((ls g)) ∧ qz_N g ((ls g)) ≤ 4096 := ez_len hBg t3 tq_18 rfl
      have y6 : 1 ≤ qz_I g ((ls g)) (k).toNat := (I1.at (k := k) (by omega) (by omega)).choose_spec.2.2.2
      have y7 : 0 ≤ qz_I g ((ls g)) (k).toNat ∧ qz_I g ((ls g)) (k).toNat ≤ 1000000 := ez_aB hBg t3 tq_18 rfl rfl (by decide) (by omega) (by omega)
      have y7' : ((qz_P g ((ls g)) (k).toNat : Nat) : Int) + 1 = qz_I g ((ls g)) (k).toNat := by unfold qz_P; omega
      refine ez_aR hBg t3 rfl tq_18 rfl rfl (by omega) (by omega) (by omega) (fun (t4 : _ = 13) => ?_)
      obtain ⟨x, hx, hvc, tll, -⟩ := I1.at (k := k) (by omega) (by omega)
      obtain ⟨⟨x0, x1, x2, x4, x5⟩, xr⟩ := id hvc
      generalize el : qz_P g (ls g) (k).toNat = l at hvc x0 x1 x2 x4 x5 xr tll ⊢
      refine ez_go (n := 2) (pc' := 23) (L' := [(2, .inr (.inr (some (l)))), (1, .inl (k)), (0, .inr (.inr (some (770))))]) (st' := [.inr (.inr (some (l)))]) rfl ?_
      refine ez_gI hBg tll rfl rfl tq_13 rfl rfl (fun (b8 : 0 ≤ qz_I g l 0) (b8' : qz_I g l 0 ≤ 4) => ?_)
      refine ez_if rfl rfl ⟨by first | omega | exact (sz_i32 _).1, by first | omega | exact (sz_i32 _).2⟩ (fun (c9 : (qz_I g l 0) ≠ (0)) => ?_) (fun (c9 : ¬((qz_I g l 0) ≠ (0))) => ?_)
      · skip
        exfalso; omega
      · skip
        refine ez_go (n := 1) (pc' := 30) (L' := [(2, .inr (.inr (some (l)))), (1, .inl (k)), (0, .inr (.inr (some (770))))]) (st' := [.inr (.inr (some (l)))]) rfl ?_
        refine ez_gI hBg tll rfl rfl tq_13 rfl rfl (fun (b10 : -2147483648 ≤ qz_I g l 5) (b10' : qz_I g l 5 ≤ 2147483647) => ?_)
        refine ez_if rfl rfl ⟨by first | omega | exact (sz_i32 _).1, by first | omega | exact (sz_i32 _).2⟩ (fun (c11 : (qz_I g l 5) = (0)) => ?_) (fun (c11 : ¬((qz_I g l 5) = (0))) => ?_)
        · skip
          exfalso; omega
        · skip
          refine ez_go (n := 2) (pc' := 38) (L' := [(2, .inr (.inr (some (l)))), (1, .inl (k)), (0, .inr (.inr (some (770))))]) (st' := [.inr (.inr (some (l))), .inr (.inr (some (770)))]) rfl ?_
          refine ez_gI hBg tll rfl rfl tq_13 rfl rfl (fun (b12 : -2147483648 ≤ qz_I g l 1) (b12' : qz_I g l 1 ≤ 2147483647) => ?_)
          have xt := (xr (by omega)).2 (by omega)
          refine ez_cv hBg u770 rfl rfl rfl tq_75 rfl rfl rfl (rd_told I1 ⟨by omega, by omega⟩ (fun hno => ?_) (fun k2 y hy hc hno => ez_KA ?_))
          · exact absurd (show cov x (qz_I g l 1) from ⟨by omega, by omega, by omega⟩) (hno _ _ hx)
          · skip
            have hk2 : (k2 : Int) < lc g := by have := (List.getElem?_eq_some_iff.mp hy).1; have := I1.2.2.2.2.2.2.1; omega
            have tl2 := (I1.L hk2).1
            refine ez_go (n := 1) (pc' := 45) (L' := [(2, .inr (.inr (some (l)))), (1, .inl (k)), (0, .inr (.inr (some (770))))]) (st' := [.inr (.inr (some (l))), .inr (.inr (some (qz_P g (ls g) k2)))]) rfl ?_
            refine ez_acq rfl rfl (ez_192 hBg tl2) (ez_192 hBg tll) (fun ea => ?_) (fun ea => ?_)
            · skip
              exfalso; omega
            · skip
              refine ez_go (n := 1) (pc' := 220) (L' := [(2, .inr (.inr (some (l)))), (1, .inl (k)), (0, .inr (.inr (some (770))))]) (st' := []) rfl ?_
              exfalso; omega
  | succ m ih =>
    intro k g τ1 hm k0 k1 hBg hg hc9 hcn hcb
    have u770 : τ1 770 = 75 := (hg.1 770 (by rw [t770]; decide)).1.trans t770
    have I1 := hg.mI hI hBg
    have elc : lc g = lc h := (hg.lsx hB t770).2.1
    have lce : lc g = qz_I g 770 12 := rfl
    have nls : lc g ≤ qz_N g (ls g) := I1.2.2.1.1.1
    have cne : cn g = qz_I g 770 23 := rfl
    have b23 : 0 ≤ qz_I g 770 23 ∧ qz_I g 770 23 ≤ 512 := ez_fB (cl := 11) (k := 23) hBg u770 tq_75 rfl rfl (by decide)
    have rr := hg.2.2.2.2.1
    have lgb : qz_N g (bw g) ≤ 4096 := (ez_len hBg (ez_tdb hBg u770).2 tq_20 rfl).2
    have K220 : ∀ g3 τ3, ez_B τ3 g3 → gd τ h τ3 g3 → cD g3 Ls (k + 1) → cn g3 ≤ k + 1 → cn g3 ≤ qz_N g3 (bw g3) → ez_W (d + 1) cm_237 220 [(1, .inl (k)), (0, .inr (.inr (some (770))))] [] g3 Q := by
      intro g3 τ3 a1 a2 a3 a4 a5
      refine ez_go (n := 2) (pc' := 7) (L' := [(1, .inl (k + 1)), (0, .inr (.inr (some (770))))]) (st' := []) rfl ?_
      refine ez_less [(1, .inl (k + 1)), (0, .inr (.inr (some (770))))] rfl ⟨rfl, rfl, trivial⟩ ?_
      exact ih (k + 1) g3 τ3 (by omega) (by omega) (by omega) a1 a2 a3 (by omega) a5
    refine ez_go (n := 2) (pc' := 9) (L' := [(1, .inl (k)), (0, .inr (.inr (some (770))))]) (st' := [.inr (.inr (some (770))), .inl (k)]) rfl ?_
    refine ez_gI hBg u770 rfl rfl tq_75 rfl rfl (fun (b1 : 0 ≤ qz_I g 770 12) (b1' : qz_I g 770 12 ≤ 512) => ?_)
    refine ez_icmp rfl rfl ⟨by first | omega | exact (sz_i32 _).1, by first | omega | exact (sz_i32 _).2⟩ ⟨by first | omega | exact (sz_i32 _).1, by first | omega | exact (sz_i32 _).2⟩ (fun (c2 : (qz_I g 770 12) ≤ (k)) => ?_) (fun (c2 : ¬((qz_I g 770 12) ≤ (k))) => ?_)
    · skip
      have ek : k = lc g := by omega
      rw [ek] at hc9
      exact ez_ret0 rfl rfl (kx g τ1 hBg hg hc9 (by omega) hcb)
    · skip
      refine ez_go (n := 1) (pc' := 16) (L' := [(1, .inl (k)), (0, .inr (.inr (some (770))))]) (st' := [.inr (.inr (some (770)))]) rfl ?_
      refine ez_gR hBg u770 rfl rfl tq_75 rfl rfl (fun (t3 : _ = 18) (t3' : 1 ≤ qz_I g 770 11) => ?_)
      rw [show qz_P g 770 11 = ls g from rfl] at *
      refine ez_go (n := 1) (pc' := 20) (L' := [(1, .inl (k)), (0, .inr (.inr (some (770))))]) (st' := [.inl (k), .inr (.inr (some ((ls g))))]) rfl ?_
      have n5 : 64 ≤ qz_N g ((ls g)) ∧ qz_N g ((ls g)) ≤ 4096 := ez_len hBg t3 tq_18 rfl
      have y6 : 1 ≤ qz_I g ((ls g)) (k).toNat := (I1.at (k := k) (by omega) (by omega)).choose_spec.2.2.2
      have y7 : 0 ≤ qz_I g ((ls g)) (k).toNat ∧ qz_I g ((ls g)) (k).toNat ≤ 1000000 := ez_aB hBg t3 tq_18 rfl rfl (by decide) (by omega) (by omega)
      have y7' : ((qz_P g ((ls g)) (k).toNat : Nat) : Int) + 1 = qz_I g ((ls g)) (k).toNat := by unfold qz_P; omega
      refine ez_aR hBg t3 rfl tq_18 rfl rfl (by omega) (by omega) (by omega) (fun (t4 : _ = 13) => ?_)
      obtain ⟨x, hx, hvc, tll, -⟩ := I1.at (k := k) (by omega) (by omega)
      obtain ⟨⟨x0, x1, x2, x4, x5⟩, xr⟩ := id hvc
      generalize el : qz_P g (ls g) (k).toNat = l at hvc x0 x1 x2 x4 x5 xr tll ⊢
      refine ez_go (n := 2) (pc' := 23) (L' := [(2, .inr (.inr (some (l)))), (1, .inl (k)), (0, .inr (.inr (some (770))))]) (st' := [.inr (.inr (some (l)))]) rfl ?_
      refine ez_gI hBg tll rfl rfl tq_13 rfl rfl (fun (b8 : 0 ≤ qz_I g l 0) (b8' : qz_I g l 0 ≤ 4) => ?_)
      refine ez_if rfl rfl ⟨by first | omega | exact (sz_i32 _).1, by first | omega | exact (sz_i32 _).2⟩ (fun (c9 : (qz_I g l 0) ≠ (0)) => ?_) (fun (c9 : ¬((qz_I g l 0) ≠ (0))) => ?_)
      · skip
        refine ez_less [(1, .inl (k)), (0, .inr (.inr (some (770))))] rfl ⟨rfl, rfl, trivial⟩ ?_
        refine K220 g τ1 hBg hg (cE_skip hc9 (fun z hz z0 z5 => ?_)) (by omega) hcb
        rw [hx] at hz; cases hz
        exfalso; omega
      · skip
        refine ez_go (n := 1) (pc' := 30) (L' := [(2, .inr (.inr (some (l)))), (1, .inl (k)), (0, .inr (.inr (some (770))))]) (st' := [.inr (.inr (some (l)))]) rfl ?_
        refine ez_gI hBg tll rfl rfl tq_13 rfl rfl (fun (b10 : -2147483648 ≤ qz_I g l 5) (b10' : qz_I g l 5 ≤ 2147483647) => ?_)
        refine ez_if rfl rfl ⟨by first | omega | exact (sz_i32 _).1, by first | omega | exact (sz_i32 _).2⟩ (fun (c11 : (qz_I g l 5) = (0)) => ?_) (fun (c11 : ¬((qz_I g l 5) = (0))) => ?_)
        · skip
          refine ez_less [(1, .inl (k)), (0, .inr (.inr (some (770))))] rfl ⟨rfl, rfl, trivial⟩ ?_
          refine K220 g τ1 hBg hg (cE_skip hc9 (fun z hz z0 z5 => ?_)) (by omega) hcb
          rw [hx] at hz; cases hz
          exfalso; omega
        · skip
          refine ez_go (n := 2) (pc' := 38) (L' := [(2, .inr (.inr (some (l)))), (1, .inl (k)), (0, .inr (.inr (some (770))))]) (st' := [.inr (.inr (some (l))), .inr (.inr (some (770)))]) rfl ?_
          refine ez_gI hBg tll rfl rfl tq_13 rfl rfl (fun (b12 : -2147483648 ≤ qz_I g l 1) (b12' : qz_I g l 1 ≤ 2147483647) => ?_)
          have xt := (xr (by omega)).2 (by omega)
          refine ez_cv hBg u770 rfl rfl rfl tq_75 rfl rfl rfl (rd_told I1 ⟨by omega, by omega⟩ (fun hno => ?_) (fun k2 y hy hc hno => ez_KA ?_))
          · exact absurd (show cov x (qz_I g l 1) from ⟨by omega, by omega, by omega⟩) (hno _ _ hx)
          · skip
            have hk2 : (k2 : Int) < lc g := by have := (List.getElem?_eq_some_iff.mp hy).1; have := I1.2.2.2.2.2.2.1; omega
            have tl2 := (I1.L hk2).1
            refine ez_go (n := 1) (pc' := 45) (L' := [(2, .inr (.inr (some (l)))), (1, .inl (k)), (0, .inr (.inr (some (770))))]) (st' := [.inr (.inr (some (l))), .inr (.inr (some (qz_P g (ls g) k2)))]) rfl ?_
            refine ez_acq rfl rfl (ez_192 hBg tl2) (ez_192 hBg tll) (fun ea => ?_) (fun ea => ?_)
            · skip
              refine ez_less [(1, .inl (k)), (2, .inr (.inr (some (l)))), (0, .inr (.inr (some (770))))] rfl ⟨rfl, rfl, rfl, trivial⟩ ?_
              have ek : k2 = k.toNat := by
                refine I1.2.2.2.1.2 k2 k.toNat hk2 (by omega) ?_
                have c1 := I1.2.2.2.1.1 k2 hk2
                have c2 := I1.2.2.2.1.1 k.toNat (by omega)
                rw [← el] at ea
                unfold qz_P at ea
                omega
              subst ek
              rw [hx] at hy; cases hy
              have gn : ∀ j : Nat, (j : Int) < cn g → 1 ≤ qz_I g (bw g) j := fun j hj => by
                obtain ⟨k3, x3, c1, c2, c3, c4, c5, c6⟩ := hc9.1 j hj
                have c6' : qz_I g (bw g) j = qz_I g (ls g) k3 := c6
                rw [c6']; exact I1.2.2.2.1.1 k3 (by have := (List.getElem?_eq_some_iff.mp c1).1; have := I1.2.2.2.2.2.2.1; omega)
              refine rd_co_g hBg u770 tll hcb hg.2.2.2.1.2 gn (by omega) (by omega) (fun g2 τ2 hB2 G2 cn2 A2 B2 nb2 => ?_)
              have u2 : τ2 770 = 75 := (G2.1 770 (by rw [u770]; decide)).1.trans u770
              have tl3 : τ2 l = 13 := (G2.1 l (by rw [tll]; decide)).1.trans tll
              have td := ez_tdb hB2 u2
              have G3 := hg.trans G2
              have rr3 := G3.2.2.2.2.1
              have l2b : qz_N g2 (bw g2) ≤ 4096 := (ez_len hB2 td.2 tq_20 rfl).2
              have l1c : g2.2.2 l = g.2.2 l := (G2.1 l (by rw [tll]; decide)).2 (fun e => by rw [e, u770] at tll; cases tll) (by rw [tll]; decide) (by rw [tll]; decide)
              have l1e : qz_I g2 l 1 = qz_I g l 1 := by unfold qz_I; rw [l1c]
              have n7d : 770 ≠ dc g2 := fun e => by have t := td.1; rw [← e, u2] at t; cases t
              have n7b : 770 ≠ bw g2 := fun e => by have t := td.2; rw [← e, u2] at t; cases t
              have nld : l ≠ dc g2 := fun e => by have t := td.1; rw [← e, tl3] at t; cases t
              have nlb : l ≠ bw g2 := fun e => by have t := td.2; rw [← e, tl3] at t; cases t
              have ndb : dc g2 ≠ bw g2 := fun e => by have t := td.1; rw [e, td.2] at t; cases t
              refine rd_co_i hB2 u2 tl3 td.1 td.2 n7d n7b nld nlb ndb (by omega) (by omega) nb2 G2.2.2.2.1.2 (fun j hj => by rw [B2 j (by omega)]; exact gn j (by omega)) (by omega) (fun g3 j jn hB3 f3 i3 cn3 lo mid hi le gt nd3 nb3 => ?_)
              have ed3 : dc g3 = dc g2 := by unfold dc qz_P; rw [i3 21 (by decide)]
              have eb3 : bw g3 = bw g2 := by unfold bw qz_P; rw [i3 22 (by decide)]
              have H3 : gd τ2 g2 τ2 g3 := by
                refine ⟨fun q hq => ⟨rfl, fun q1 q2 q3 => f3.2.2 q (nz_P3_n q1 (fun e => by rw [e, td.1] at q2; exact q2 rfl) (fun e => by rw [e, td.2] at q3; exact q3 rfl))⟩, fun q q0 q1 => absurd q0 q1, fun j _ _ j3 => i3 j j3, ?_, ?_, by rw [f3.1]; exact Nat.le_refl _, by rw [f3.2.1]; exact Nat.le_refl _⟩
                · rw [ed3, eb3, nd3, nb3]; exact ⟨Int.le_refl _, G2.2.2.2.1.2⟩
                · rw [eb3, nb3, f3.1, f3.2.1]; omega
              have G4 := G3.trans H3
              have lse := (G2.trans H3).lsx hBg u770
              refine K220 g3 τ2 hB3 G4 ?_ (by omega) (by rw [eb3, nb3]; omega)
              show cE Ls (fun k => qz_I g3 (ls g3) k) (fun i => qz_I g3 (dc g3) i) (fun i => qz_I g3 (bw g3) i) (cn g3) (k + 1)
              rw [cn3, cn2]
              have hv : ∀ k : Nat, qz_I g3 (ls g3) k = qz_I g (ls g) k := fun k => by rw [lse.1]; exact lse.2.2 k
              rw [cn2] at jn hi gt
              rw [l1e] at mid le gt
              refine cE_congr (v := fun k => qz_I g (ls g) k) (A := fun i => qz_I g3 (dc g3) i) (B := fun i => qz_I g3 (bw g3) i) ?_ (by have := I1.2.2.2.2.2.2.1; omega) (fun k _ => hv k) (fun i _ => rfl) (fun i _ => rfl)
              refine cE_ins (p := j) hc9 (by omega) hx (by omega) (by omega) xt.1 (fun j2 y2 h1 h2 => by rw [← x1]; exact hno j2 y2 h1 h2) jn (fun i hi2 => ?_) ?_ (fun i i1 i2 => ?_) ?_ (fun i i1 i2 => ?_)
              · show qz_I g3 (dc g3) i = qz_I g (dc g) i ∧ qz_I g3 (bw g3) i = qz_I g (bw g) i
                rw [ed3, eb3, ← A2 i (by omega), ← B2 i (by omega)]; exact lo i hi2
              · show qz_I g3 (dc g3) j = x.2.1 ∧ qz_I g3 (bw g3) j = qz_I g (ls g) k.toNat
                rw [ed3, eb3, mid.1, mid.2, x1]; refine ⟨rfl, ?_⟩
                have c2 := I1.2.2.2.1.1 k.toNat (by omega)
                rw [← el]; unfold qz_P; omega
              · show qz_I g3 (dc g3) (i + 1) = qz_I g (dc g) i ∧ qz_I g3 (bw g3) (i + 1) = qz_I g (bw g) i
                rw [ed3, eb3, ← A2 i i2, ← B2 i i2]; exact hi i i1 i2
              · rcases le with e | e
                · exact Or.inl e
                · by_cases e0 : j = 0
                  · exact Or.inl e0
                  · exact Or.inr (by show qz_I g (dc g) (j - 1) ≤ x.2.1; rw [← A2 (j - 1) (by omega), ← x1]; exact e)
              · show x.2.1 < qz_I g (dc g) i
                rw [← A2 i i2, ← x1]; exact gt i i1 i2
            · skip
              refine ez_go (n := 1) (pc' := 220) (L' := [(2, .inr (.inr (some (l)))), (1, .inl (k)), (0, .inr (.inr (some (770))))]) (st' := []) rfl ?_
              refine ez_less [(1, .inl (k)), (0, .inr (.inr (some (770))))] rfl ⟨rfl, rfl, trivial⟩ ?_
              refine K220 g τ1 hBg hg (cE_skip hc9 (fun z hz z0 z5 => ?_)) (by omega) hcb
              rw [hx] at hz; cases hz
              intro hlast
              have hc2 : cov x x.2.1 := ⟨by omega, by omega, by omega⟩
              have xk : k2 = k.toNat := by
                rcases Nat.lt_trichotomy k2 k.toNat with e | e | e
                · exact absurd (by rw [x1]; exact hc2) (hno _ _ e hx)
                · exact e
                · exact absurd (by rw [← x1]; exact hc) (hlast _ _ e hy)
              exact ea (by rw [xk]; exact el)

theorem rd_collect (hI : mI τ h Ls b) (hdb : qz_N h (bw h) ≤ qz_N h (dc h)) (hlc : lc h ≤ 500) (hr1 : h.1 + 200 ≤ 600192) (hr2 : h.2.1 + 20000 ≤ 7302232) (kx : ∀ g τ1, ez_B τ1 g → gd τ h τ1 g → cD g Ls (lc g) → cn g ≤ lc h → cn g ≤ qz_N g (bw g) → Q (.inl none, g)) : ez_W (d + 1) cm_237 0 [(0, .inr (.inr (some (770))))] [] h Q := by
  have hB := hI.1
  have t770 : τ 770 = 75 := hI.2.1 770 (by decide)
  have lb0 : 64 ≤ qz_N h (bw h) := (ez_len hB (ez_tdb hB t770).2 tq_20 rfl).1
  refine ez_go (n := 2) (pc' := 2) (L' := [(0, .inr (.inr (some (770))))]) (st' := [.inl (0), .inr (.inr (some (770)))]) rfl ?_
  refine ez_pf hB t770 rfl rfl tq_75 rfl rfl rfl rfl (ez_vdI rfl rfl (by omega) (by omega)) (fun hB1 w2 => ?_)
  refine ez_go (n := 2) (pc' := 7) (L' := [(1, .inl (0)), (0, .inr (.inr (some (770))))]) (st' := []) rfl ?_
  refine ez_less [(1, .inl (0)), (0, .inr (.inr (some (770))))] rfl ⟨rfl, rfl, trivial⟩ ?_
  have v1 : qz_I (dz_put h 770 23 (ez_v (.inl (0)))) 770 23 = 0 := w2.trans (rz_rd ⟨by omega, by omega⟩)
  have i1 : ∀ j, j ≠ 23 → qz_I (dz_put h 770 23 (ez_v (.inl (0)))) 770 j = qz_I h 770 j := fun j hj => ez_put_I (fun w => hj w.2)
  have f1 : ez_fr (ez_one 770) h (dz_put h 770 23 (ez_v (.inl (0)))) := (ez_fr.refl (ez_one 770) h).put rfl _ _
  have hB1 := hB1
  generalize (dz_put h 770 23 (ez_v (.inl (0)))) = g1 at *
  have td := ez_tdb hB t770
  have ed : dc g1 = dc h := by unfold dc qz_P; rw [i1 21 (by decide)]
  have eb : bw g1 = bw h := by unfold bw qz_P; rw [i1 22 (by decide)]
  have nd : qz_N g1 (dc h) = qz_N h (dc h) := f1.N (dz_beq_ne (fun e => by have t := td.1; rw [e, t770] at t; cases t))
  have nb : qz_N g1 (bw h) = qz_N h (bw h) := f1.N (dz_beq_ne (fun e => by have t := td.2; rw [e, t770] at t; cases t))
  have v1' : cn g1 = 0 := v1
  have l0 : 0 ≤ lc h := by rw [← hI.2.2.2.2.2.2.1]; omega
  refine rd_collect_l hI hlc hr1 hr2 kx _ 0 g1 τ rfl (by omega) l0 hB1 ⟨fun q hq => ⟨rfl, fun q1 _ _ => f1.2.2 q (dz_beq_ne q1)⟩, fun q q0 q1 => absurd q0 q1, fun j _ _ j3 => i1 j j3, by rw [ed, eb, nd, nb]; exact ⟨Int.le_refl _, hdb⟩, by rw [eb, nb, f1.1, f1.2.1]; omega, by rw [f1.1]; exact Nat.le_refl _, by rw [f1.2.1]; exact Nat.le_refl _⟩ ⟨fun i hi => by rw [v1'] at hi; omega, fun i j hij hj => by rw [v1'] at hj; omega, fun k x hk => by omega⟩ (by omega) (by rw [v1', eb, nb]; omega)

end EzCy
/-! The model: the decomposed points as DATA have them. -/
def eR (τ : Nat → Nat) (h : cz_H) (F : rz_W) (i : Nat) : Prop := (1 ≤ qz_I h (bw h) i ∧ τ (qz_P h (bw h) i) = 13) ∧ ∃ cp vs, (F (qz_I h (dc h) i)).2 = some (cp, vs) ∧ qz_I h (qz_P h (bw h) i) 5 = cp + 1 ∧ (qz_I h (qz_P h (bw h) i + 2) 0 = (vs.length : Int) ∧ qz_I h (qz_P h (bw h) i + 1) 0 + (vs.length : Int) ≤ pn h ∧ 0 ≤ qz_I h (qz_P h (bw h) i + 1) 0) ∧ ∀ (j : Nat) v, vs[j]? = some v → pl h (qz_I h (qz_P h (bw h) i + 1) 0 + (j : Int)) = v
def eD (τ : Nat → Nat) (h : cz_H) (F : rz_W) : Prop := ez_B τ h ∧ τ 770 = 75 ∧ ((0 ≤ cn h ∧ cn h ≤ 500) ∧ cn h ≤ qz_N h (dc h) ∧ cn h ≤ qz_N h (bw h) ∧ pn h ≤ qz_N h (po h)) ∧ (∀ i j : Nat, i < j → (j : Int) < cn h → qz_I h (dc h) i < qz_I h (dc h) j) ∧ (∀ i : Nat, (i : Int) < cn h → eR τ h F i) ∧ (∀ y, (F y).2 ≠ none → ∃ i : Nat, (i : Int) < cn h ∧ qz_I h (dc h) i = y) ∧ (∀ r, τ r = 13 → τ (r + 1) = 15 ∧ τ (r + 2) = 16)
theorem eD_of {τ : Nat → Nat} {h : cz_H} {Ls : List vz} {b : Int} (hI : mI τ h Ls b) (c : cD h Ls (lc h)) (h5 : cn h ≤ 500) (hb : cn h ≤ qz_N h (bw h)) (hd : qz_N h (bw h) ≤ qz_N h (dc h)) : eD τ h (vF Ls) := by
  have t770 : τ 770 = 75 := hI.2.1 770 (by decide)
  have b23 : 0 ≤ qz_I h 770 23 ∧ qz_I h 770 23 ≤ 512 := ez_fB (cl := 11) (k := 23) hI.1 t770 tq_75 rfl rfl (by decide)
  obtain ⟨f1, f2⟩ := cD_F hI c
  refine ⟨hI.1, t770, ⟨⟨b23.1, h5⟩, by omega, hb, hI.2.2.1.1.2⟩, c.2.1, fun i hi => ?_, f2, fun r hr => ⟨(hI.2.2.2.2.1.2 r hr).1, (hI.2.2.2.2.1.2 r hr).2.1⟩⟩
  obtain ⟨x, ⟨e1, e2, e3⟩, e4, e5, e6⟩ := f1 i hi
  have w := (e4.2 e3).2 (by omega)
  refine ⟨⟨e6, e5⟩, x.2.2.2.2.1 - 1, x.2.2.2.2.2.1, by rw [e1], by rw [e4.1.2.2.2.2]; omega, w.2.1, w.2.2⟩
theorem eD.tr {τ τ1 : Nat → Nat} {h g : cz_H} {F : rz_W} (e : eD τ h F) (hB : ez_B τ1 g) (ht : ∀ q, τ q ≠ 0 → τ1 q = τ q) (hn : ∀ q, τ q = 0 → τ1 q ≠ 13) (h7 : ∀ j, j = 9 ∨ j = 10 ∨ j = 21 ∨ j = 22 ∨ j = 23 → qz_I g 770 j = qz_I h 770 j) (c : ∀ q, (13 ≤ τ q ∧ τ q ≤ 17) ∨ τ q = 19 ∨ τ q = 20 → g.2.2 q = h.2.2 q) : eD τ1 g F := by
  obtain ⟨e1, t770, ⟨e2, e3, e4, e5⟩, e6, e7, e8, e9⟩ := e
  have td := ez_tdb e1 t770
  have tt := ez_tls e1 t770
  have ed : dc g = dc h := by unfold dc qz_P; rw [h7 21 (by omega)]
  have eb : bw g = bw h := by unfold bw qz_P; rw [h7 22 (by omega)]
  have ec : cn g = cn h := h7 23 (by omega)
  have ep : po g = po h := by unfold po qz_P; rw [h7 9 (by omega)]
  have en : pn g = pn h := h7 10 (by omega)
  have cd := c (dc h) (by omega)
  have cb := c (bw h) (by omega)
  have cp := c (po h) (by omega)
  have id_ : ∀ j, qz_I g (dc h) j = qz_I h (dc h) j := fun j => by unfold qz_I; rw [cd]
  have ib : ∀ j, qz_I g (bw h) j = qz_I h (bw h) j := fun j => by unfold qz_I; rw [cb]
  have pb : ∀ j, qz_P g (bw h) j = qz_P h (bw h) j := fun j => by unfold qz_P; rw [ib]
  have epl : ∀ j, pl g j = pl h j := fun j => by unfold pl qz_I; rw [ep, cp]
  have Nd : qz_N g (dc h) = qz_N h (dc h) := by unfold qz_N; rw [cd]
  have Nb : qz_N g (bw h) = qz_N h (bw h) := by unfold qz_N; rw [cb]
  have Np : qz_N g (po h) = qz_N h (po h) := by unfold qz_N; rw [cp]
  refine ⟨hB, (ht 770 (by rw [t770]; decide)).trans t770, ⟨by rw [ec]; exact e2, by rw [ec, ed, Nd]; exact e3, by rw [ec, eb, Nb]; exact e4, by rw [en, ep, Np]; exact e5⟩, fun i j hij hj => ?_, fun i hi => ?_, fun y hy => ?_, fun r hr => ?_⟩
  · rw [ed, id_, id_]; exact e6 i j hij (by omega)
  · obtain ⟨⟨r1, r2⟩, cp', vs, r3, r4, r5, r6⟩ := e7 i (by omega)
    have r7 := e9 _ r2
    have k0 := c (qz_P h (bw h) i) (by omega)
    have k1 := c (qz_P h (bw h) i + 1) (by omega)
    have k2 := c (qz_P h (bw h) i + 2) (by omega)
    have i0 : ∀ j, qz_I g (qz_P h (bw h) i) j = qz_I h (qz_P h (bw h) i) j := fun j => by unfold qz_I; rw [k0]
    have i1 : ∀ j, qz_I g (qz_P h (bw h) i + 1) j = qz_I h (qz_P h (bw h) i + 1) j := fun j => by unfold qz_I; rw [k1]
    have i2 : ∀ j, qz_I g (qz_P h (bw h) i + 2) j = qz_I h (qz_P h (bw h) i + 2) j := fun j => by unfold qz_I; rw [k2]
    refine ⟨⟨by rw [eb, ib]; exact r1, by rw [eb, pb, ht _ (by omega)]; exact r2⟩, cp', vs, by rw [ed, id_]; exact r3, by rw [eb, pb, i0]; exact r4, by rw [eb, pb, i1, i2, en]; exact r5, fun j v hv => ?_⟩
    rw [eb, pb, i1, epl]; exact r6 j v hv
  · obtain ⟨i, i1, i2⟩ := e8 y hy
    exact ⟨i, by omega, by rw [ed, id_]; exact i2⟩
  · have hr' : τ r = 13 := by
      by_cases e0 : τ r = 0
      · exact absurd hr (hn r e0)
      · rw [← ht r e0]; exact hr
    have := e9 r hr'
    exact ⟨(ht _ (by omega)).trans this.1, (ht _ (by omega)).trans this.2⟩
/-- the row of a decomposed point -/
theorem eD.at {τ : Nat → Nat} {h : cz_H} {F : rz_W} (e : eD τ h F) {k : Int} (k0 : 0 ≤ k) (k1 : k < cn h) : (1 ≤ qz_I h (bw h) k.toNat ∧ τ (qz_P h (bw h) k.toNat) = 13) ∧ (qz_P h (qz_P h (bw h) k.toNat) 7 = qz_P h (bw h) k.toNat + 1 ∧ qz_P h (qz_P h (bw h) k.toNat) 8 = qz_P h (bw h) k.toNat + 2) ∧ ∃ cp vs, (F (qz_I h (dc h) k.toNat)).2 = some (cp, vs) ∧ qz_I h (qz_P h (bw h) k.toNat) 5 = cp + 1 ∧ (qz_I h (qz_P h (bw h) k.toNat + 2) 0 = (vs.length : Int) ∧ qz_I h (qz_P h (bw h) k.toNat + 1) 0 + (vs.length : Int) ≤ pn h ∧ 0 ≤ qz_I h (qz_P h (bw h) k.toNat + 1) 0) ∧ ∀ (j : Nat) v, vs[j]? = some v → pl h (qz_I h (qz_P h (bw h) k.toNat + 1) 0 + (j : Int)) = v := by
  obtain ⟨r1, r2⟩ := e.2.2.2.2.1 k.toNat (by omega)
  exact ⟨r1, ez_l78 e.1 r1.2, r2⟩
/-! The model: where. (Written by wip/p2/py/pv90.py.) -/
section EzWh
variable {d : Nat} {h : cz_H} {τ : Nat → Nat} {Q : cz_F → Prop} {F : rz_W}
theorem rd_where_l {p : Int} (e : eD τ h F) (pr : ez_rg p) (k1 : ∀ w : Nat, (w : Int) < cn h → qz_I h (dc h) w = p → Q (.inl (some (ez_v (.inl (w : Int)))), h)) (k0 : (∀ i : Nat, (i : Int) < cn h → qz_I h (dc h) i ≠ p) → Q (.inl (some (ez_v (.inl (-1)))), h)) : ∀ (n : Nat) (a z : Int), (z + 1 - a).toNat ≤ n → 0 ≤ a → a ≤ z + 1 → z < cn h → (∀ i : Nat, (i : Int) < a → qz_I h (dc h) i < p) → (∀ i : Nat, z < (i : Int) → (i : Int) < cn h → p < qz_I h (dc h) i) → ez_W d cm_308 9 [(2, .inl (a)), (3, .inl (z)), (0, .inr (.inr (some (770)))), (1, .inl (p))] [] h Q := by
  obtain ⟨hB, t770, ⟨c01, cnd, cnb, -⟩, es, -⟩ := id e
  have td := ez_tdb hB t770
  have cne : cn h = qz_I h 770 23 := rfl
  obtain ⟨pr0, pr1⟩ := id pr
  intro n
  induction n with
  | zero =>
    intro a z hn a0 a1 a2 lo9 hi9
    refine ez_go (n := 2) (pc' := 11) (L' := [(2, .inl (a)), (3, .inl (z)), (0, .inr (.inr (some (770)))), (1, .inl (p))]) (st' := [.inl (z), .inl (a)]) rfl ?_
    refine ez_icmp rfl rfl ⟨by first | omega | exact (sz_i32 _).1, by first | omega | exact (sz_i32 _).2⟩ ⟨by first | omega | exact (sz_i32 _).1, by first | omega | exact (sz_i32 _).2⟩ (fun (c1 : (z) < (a)) => ?_) (fun (c1 : ¬((z) < (a))) => ?_)
    · skip
      refine ez_go (n := 1) (pc' := 63) (L' := [(2, .inl (a)), (3, .inl (z)), (0, .inr (.inr (some (770)))), (1, .inl (p))]) (st' := [.inl (-1)]) rfl ?_
      exact ez_retI rfl rfl (k0 (fun i hi e => by by_cases w : (i : Int) < a; (· have := lo9 i w; omega); (· have := hi9 i (by omega) hi; omega)))
    · skip
      refine ez_go (n := 4) (pc' := 18) (L' := [(2, .inl (a)), (3, .inl (z)), (0, .inr (.inr (some (770)))), (1, .inl (p))]) (st' := [.inl (2), .inl ((a) + (z))]) rfl ?_
      refine ez_div rfl (by omega) (by omega) (by omega) (by omega) ?_
      refine ez_go (n := 2) (pc' := 22) (L' := [(4, .inl (((a) + (z)) / (2))), (2, .inl (a)), (3, .inl (z)), (0, .inr (.inr (some (770)))), (1, .inl (p))]) (st' := [.inr (.inr (some (770)))]) rfl ?_
      refine ez_gR hB t770 rfl rfl tq_75 rfl rfl (fun (t2 : _ = 19) (t2' : 1 ≤ qz_I h 770 21) => ?_)
      rw [show qz_P h 770 21 = dc h from rfl]
      refine ez_go (n := 1) (pc' := 27) (L' := [(4, .inl (((a) + (z)) / (2))), (2, .inl (a)), (3, .inl (z)), (0, .inr (.inr (some (770)))), (1, .inl (p))]) (st' := [.inl (((a) + (z)) / (2)), .inr (.inr (some ((dc h))))]) rfl ?_
      have n4 : 64 ≤ qz_N h ((dc h)) ∧ qz_N h ((dc h)) ≤ 4096 := ez_len hB td.1 tq_19 rfl
      refine ez_aI hB td.1 rfl tq_19 rfl rfl (by omega) (by omega) (fun (b3 : -2147483648 ≤ qz_I h ((dc h)) (((a) + (z)) / (2)).toNat) (b3' : qz_I h ((dc h)) (((a) + (z)) / (2)).toNat ≤ 2147483647) => ?_)
      refine ez_go (n := 1) (pc' := 29) (L' := [(4, .inl (((a) + (z)) / (2))), (2, .inl (a)), (3, .inl (z)), (0, .inr (.inr (some (770)))), (1, .inl (p))]) (st' := [.inl (p), .inl (qz_I h ((dc h)) (((a) + (z)) / (2)).toNat)]) rfl ?_
      refine ez_icmp rfl rfl ⟨by first | omega | exact (sz_i32 _).1, by first | omega | exact (sz_i32 _).2⟩ ⟨by first | omega | exact (sz_i32 _).1, by first | omega | exact (sz_i32 _).2⟩ (fun (c5 : (qz_I h ((dc h)) (((a) + (z)) / (2)).toNat) ≠ (p)) => ?_) (fun (c5 : ¬((qz_I h ((dc h)) (((a) + (z)) / (2)).toNat) ≠ (p))) => ?_)
      · skip
        refine ez_go (n := 1) (pc' := 36) (L' := [(4, .inl (((a) + (z)) / (2))), (2, .inl (a)), (3, .inl (z)), (0, .inr (.inr (some (770)))), (1, .inl (p))]) (st' := [.inr (.inr (some (770)))]) rfl ?_
        refine ez_gR hB t770 rfl rfl tq_75 rfl rfl (fun (t6 : _ = 19) (t6' : 1 ≤ qz_I h 770 21) => ?_)
        rw [show qz_P h 770 21 = dc h from rfl]
        refine ez_go (n := 1) (pc' := 41) (L' := [(4, .inl (((a) + (z)) / (2))), (2, .inl (a)), (3, .inl (z)), (0, .inr (.inr (some (770)))), (1, .inl (p))]) (st' := [.inl (((a) + (z)) / (2)), .inr (.inr (some ((dc h))))]) rfl ?_
        have n8 : 64 ≤ qz_N h ((dc h)) ∧ qz_N h ((dc h)) ≤ 4096 := ez_len hB td.1 tq_19 rfl
        refine ez_aI hB td.1 rfl tq_19 rfl rfl (by omega) (by omega) (fun (b7 : -2147483648 ≤ qz_I h ((dc h)) (((a) + (z)) / (2)).toNat) (b7' : qz_I h ((dc h)) (((a) + (z)) / (2)).toNat ≤ 2147483647) => ?_)
        refine ez_go (n := 1) (pc' := 43) (L' := [(4, .inl (((a) + (z)) / (2))), (2, .inl (a)), (3, .inl (z)), (0, .inr (.inr (some (770)))), (1, .inl (p))]) (st' := [.inl (p), .inl (qz_I h ((dc h)) (((a) + (z)) / (2)).toNat)]) rfl ?_
        refine ez_icmp rfl rfl ⟨by first | omega | exact (sz_i32 _).1, by first | omega | exact (sz_i32 _).2⟩ ⟨by first | omega | exact (sz_i32 _).1, by first | omega | exact (sz_i32 _).2⟩ (fun (c9 : (p) ≤ (qz_I h ((dc h)) (((a) + (z)) / (2)).toNat)) => ?_) (fun (c9 : ¬((p) ≤ (qz_I h ((dc h)) (((a) + (z)) / (2)).toNat))) => ?_)
        · skip
          refine ez_go (n := 5) (pc' := 9) (L' := [(3, .inl ((((a) + (z)) / (2)) - (1))), (4, .inl (((a) + (z)) / (2))), (2, .inl (a)), (0, .inr (.inr (some (770)))), (1, .inl (p))]) (st' := []) rfl ?_
          exfalso; omega
        · skip
          refine ez_go (n := 6) (pc' := 9) (L' := [(2, .inl ((((a) + (z)) / (2)) + (1))), (4, .inl (((a) + (z)) / (2))), (3, .inl (z)), (0, .inr (.inr (some (770)))), (1, .inl (p))]) (st' := []) rfl ?_
          exfalso; omega
      · skip
        refine ez_go (n := 1) (pc' := 34) (L' := [(4, .inl (((a) + (z)) / (2))), (2, .inl (a)), (3, .inl (z)), (0, .inr (.inr (some (770)))), (1, .inl (p))]) (st' := [.inl (((a) + (z)) / (2))]) rfl ?_
        exact ez_retI rfl rfl (by have w := k1 (((a) + (z)) / (2)).toNat (by omega) (by omega); rw [Int.toNat_of_nonneg (by omega)] at w; exact w)
  | succ n ih =>
    intro a z hn a0 a1 a2 lo9 hi9
    refine ez_go (n := 2) (pc' := 11) (L' := [(2, .inl (a)), (3, .inl (z)), (0, .inr (.inr (some (770)))), (1, .inl (p))]) (st' := [.inl (z), .inl (a)]) rfl ?_
    refine ez_icmp rfl rfl ⟨by first | omega | exact (sz_i32 _).1, by first | omega | exact (sz_i32 _).2⟩ ⟨by first | omega | exact (sz_i32 _).1, by first | omega | exact (sz_i32 _).2⟩ (fun (c1 : (z) < (a)) => ?_) (fun (c1 : ¬((z) < (a))) => ?_)
    · skip
      refine ez_go (n := 1) (pc' := 63) (L' := [(2, .inl (a)), (3, .inl (z)), (0, .inr (.inr (some (770)))), (1, .inl (p))]) (st' := [.inl (-1)]) rfl ?_
      exact ez_retI rfl rfl (k0 (fun i hi e => by by_cases w : (i : Int) < a; (· have := lo9 i w; omega); (· have := hi9 i (by omega) hi; omega)))
    · skip
      refine ez_go (n := 4) (pc' := 18) (L' := [(2, .inl (a)), (3, .inl (z)), (0, .inr (.inr (some (770)))), (1, .inl (p))]) (st' := [.inl (2), .inl ((a) + (z))]) rfl ?_
      refine ez_div rfl (by omega) (by omega) (by omega) (by omega) ?_
      refine ez_go (n := 2) (pc' := 22) (L' := [(4, .inl (((a) + (z)) / (2))), (2, .inl (a)), (3, .inl (z)), (0, .inr (.inr (some (770)))), (1, .inl (p))]) (st' := [.inr (.inr (some (770)))]) rfl ?_
      refine ez_gR hB t770 rfl rfl tq_75 rfl rfl (fun (t2 : _ = 19) (t2' : 1 ≤ qz_I h 770 21) => ?_)
      rw [show qz_P h 770 21 = dc h from rfl]
      refine ez_go (n := 1) (pc' := 27) (L' := [(4, .inl (((a) + (z)) / (2))), (2, .inl (a)), (3, .inl (z)), (0, .inr (.inr (some (770)))), (1, .inl (p))]) (st' := [.inl (((a) + (z)) / (2)), .inr (.inr (some ((dc h))))]) rfl ?_
      have n4 : 64 ≤ qz_N h ((dc h)) ∧ qz_N h ((dc h)) ≤ 4096 := ez_len hB td.1 tq_19 rfl
      refine ez_aI hB td.1 rfl tq_19 rfl rfl (by omega) (by omega) (fun (b3 : -2147483648 ≤ qz_I h ((dc h)) (((a) + (z)) / (2)).toNat) (b3' : qz_I h ((dc h)) (((a) + (z)) / (2)).toNat ≤ 2147483647) => ?_)
      refine ez_go (n := 1) (pc' := 29) (L' := [(4, .inl (((a) + (z)) / (2))), (2, .inl (a)), (3, .inl (z)), (0, .inr (.inr (some (770)))), (1, .inl (p))]) (st' := [.inl (p), .inl (qz_I h ((dc h)) (((a) + (z)) / (2)).toNat)]) rfl ?_
      refine ez_icmp rfl rfl ⟨by first | omega | exact (sz_i32 _).1, by first | omega | exact (sz_i32 _).2⟩ ⟨by first | omega | exact (sz_i32 _).1, by first | omega | exact (sz_i32 _).2⟩ (fun (c5 : (qz_I h ((dc h)) (((a) + (z)) / (2)).toNat) ≠ (p)) => ?_) (fun (c5 : ¬((qz_I h ((dc h)) (((a) + (z)) / (2)).toNat) ≠ (p))) => ?_)
      · skip
        refine ez_go (n := 1) (pc' := 36) (L' := [(4, .inl (((a) + (z)) / (2))), (2, .inl (a)), (3, .inl (z)), (0, .inr (.inr (some (770)))), (1, .inl (p))]) (st' := [.inr (.inr (some (770)))]) rfl ?_
        refine ez_gR hB t770 rfl rfl tq_75 rfl rfl (fun (t6 : _ = 19) (t6' : 1 ≤ qz_I h 770 21) => ?_)
        rw [show qz_P h 770 21 = dc h from rfl]
        refine ez_go (n := 1) (pc' := 41) (L' := [(4, .inl (((a) + (z)) / (2))), (2, .inl (a)), (3, .inl (z)), (0, .inr (.inr (some (770)))), (1, .inl (p))]) (st' := [.inl (((a) + (z)) / (2)), .inr (.inr (some ((dc h))))]) rfl ?_
        have n8 : 64 ≤ qz_N h ((dc h)) ∧ qz_N h ((dc h)) ≤ 4096 := ez_len hB td.1 tq_19 rfl
        refine ez_aI hB td.1 rfl tq_19 rfl rfl (by omega) (by omega) (fun (b7 : -2147483648 ≤ qz_I h ((dc h)) (((a) + (z)) / (2)).toNat) (b7' : qz_I h ((dc h)) (((a) + (z)) / (2)).toNat ≤ 2147483647) => ?_)
        refine ez_go (n := 1) (pc' := 43) (L' := [(4, .inl (((a) + (z)) / (2))), (2, .inl (a)), (3, .inl (z)), (0, .inr (.inr (some (770)))), (1, .inl (p))]) (st' := [.inl (p), .inl (qz_I h ((dc h)) (((a) + (z)) / (2)).toNat)]) rfl ?_
        refine ez_icmp rfl rfl ⟨by first | omega | exact (sz_i32 _).1, by first | omega | exact (sz_i32 _).2⟩ ⟨by first | omega | exact (sz_i32 _).1, by first | omega | exact (sz_i32 _).2⟩ (fun (c9 : (p) ≤ (qz_I h ((dc h)) (((a) + (z)) / (2)).toNat)) => ?_) (fun (c9 : ¬((p) ≤ (qz_I h ((dc h)) (((a) + (z)) / (2)).toNat))) => ?_)
        · skip
          refine ez_go (n := 5) (pc' := 9) (L' := [(3, .inl ((((a) + (z)) / (2)) - (1))), (4, .inl (((a) + (z)) / (2))), (2, .inl (a)), (0, .inr (.inr (some (770)))), (1, .inl (p))]) (st' := []) rfl ?_
          refine ez_less [(2, .inl (a)), (3, .inl ((((a) + (z)) / (2)) - (1))), (0, .inr (.inr (some (770)))), (1, .inl (p))] rfl ⟨rfl, rfl, rfl, rfl, trivial⟩ ?_
          refine ih _ _ (by omega) (by omega) (by omega) (by omega) (fun i hi => ?_) (fun i i1 i2 => ?_)
          · exact lo9 i hi
          · have := es (((a) + (z)) / (2)).toNat i
            by_cases e : i = (((a) + (z)) / (2)).toNat
            · rw [e]; omega
            · have := this (by omega) (by omega); omega
        · skip
          refine ez_go (n := 6) (pc' := 9) (L' := [(2, .inl ((((a) + (z)) / (2)) + (1))), (4, .inl (((a) + (z)) / (2))), (3, .inl (z)), (0, .inr (.inr (some (770)))), (1, .inl (p))]) (st' := []) rfl ?_
          refine ez_less [(2, .inl ((((a) + (z)) / (2)) + (1))), (3, .inl (z)), (0, .inr (.inr (some (770)))), (1, .inl (p))] rfl ⟨rfl, rfl, rfl, rfl, trivial⟩ ?_
          refine ih _ _ (by omega) (by omega) (by omega) (by omega) (fun i hi => ?_) (fun i i1 i2 => ?_)
          · have := es i (((a) + (z)) / (2)).toNat
            by_cases e : i = (((a) + (z)) / (2)).toNat
            · rw [e]; omega
            · have := this (by omega) (by omega); omega
          · exact hi9 i i1 i2
      · skip
        refine ez_go (n := 1) (pc' := 34) (L' := [(4, .inl (((a) + (z)) / (2))), (2, .inl (a)), (3, .inl (z)), (0, .inr (.inr (some (770)))), (1, .inl (p))]) (st' := [.inl (((a) + (z)) / (2))]) rfl ?_
        exact ez_retI rfl rfl (by have w := k1 (((a) + (z)) / (2)).toNat (by omega) (by omega); rw [Int.toNat_of_nonneg (by omega)] at w; exact w)

theorem rd_where {p : Int} (e : eD τ h F) (pr : ez_rg p) (k1 : ∀ w : Nat, (w : Int) < cn h → qz_I h (dc h) w = p → Q (.inl (some (ez_v (.inl (w : Int)))), h)) (k0 : (∀ i : Nat, (i : Int) < cn h → qz_I h (dc h) i ≠ p) → Q (.inl (some (ez_v (.inl (-1)))), h)) : ez_W d cm_308 0 [(0, .inr (.inr (some (770)))), (1, .inl (p))] [] h Q := by
  obtain ⟨hB, t770, ⟨c01, cnd, cnb, -⟩, es, -⟩ := id e
  have td := ez_tdb hB t770
  have cne : cn h = qz_I h 770 23 := rfl
  refine ez_go (n := 3) (pc' := 3) (L' := [(2, .inl (0)), (0, .inr (.inr (some (770)))), (1, .inl (p))]) (st' := [.inr (.inr (some (770)))]) rfl ?_
  refine ez_gI hB t770 rfl rfl tq_75 rfl rfl (fun (b1 : 0 ≤ qz_I h 770 23) (b1' : qz_I h 770 23 ≤ 512) => ?_)
  refine ez_go (n := 3) (pc' := 9) (L' := [(3, .inl ((qz_I h 770 23) - (1))), (2, .inl (0)), (0, .inr (.inr (some (770)))), (1, .inl (p))]) (st' := []) rfl ?_
  refine ez_less [(2, .inl (0)), (3, .inl ((qz_I h 770 23) - (1))), (0, .inr (.inr (some (770)))), (1, .inl (p))] rfl ⟨rfl, rfl, rfl, rfl, trivial⟩ ?_
  exact rd_where_l e pr k1 k0 _ _ _ (Nat.le_refl _) (by omega) (by omega) (by omega) (fun i hi => by omega) (fun i i1 i2 => by omega)

/-- where the point is, and what it is made of -/
theorem rd_where' {p : Int} (e : eD τ h F) (pr : ez_rg p) (k1 : ∀ w : Nat, (w : Int) < cn h → qz_I h (dc h) w = p → Q (.inl (some (ez_v (.inl (w : Int)))), h)) (k0 : (F p).2 = none → Q (.inl (some (ez_v (.inl (-1)))), h)) : ez_W d cm_308 0 [(0, .inr (.inr (some (770)))), (1, .inl (p))] [] h Q :=
  rd_where e pr k1 (fun hno => k0 (Classical.byContradiction fun w => by
    obtain ⟨i, i1, i2⟩ := e.2.2.2.2.2.1 p w
    exact hno i i1 i2))
end EzWh
/-! Counting what is left; what never ends. -/
def ndz (f : Nat → Int) : Nat → Int
  | 0 => 0
  | n + 1 => ndz f n + (if f n = 0 then 1 else 0)
theorem ndz_bd (f : Nat → Int) : ∀ n : Nat, 0 ≤ ndz f n ∧ ndz f n ≤ n
  | 0 => ⟨Int.le_refl _, Int.le_refl _⟩
  | n + 1 => by
    have := ndz_bd f n
    unfold ndz
    by_cases e : f n = 0
    · rw [if_pos e]; omega
    · rw [if_neg e]; omega
theorem ndz_congr {f g : Nat → Int} : ∀ n : Nat, (∀ i, i < n → f i = g i) → ndz f n = ndz g n
  | 0, _ => rfl
  | n + 1, h => by
    unfold ndz
    rw [ndz_congr n (fun i hi => h i (by omega)), h n (by omega)]
theorem ndz_set {f g : Nat → Int} {k : Nat} (h0 : f k = 0) (h1 : g k ≠ 0) (h2 : ∀ i, i ≠ k → g i = f i) : ∀ n : Nat, k < n → ndz g n = ndz f n - 1
  | 0, h => by omega
  | n + 1, h => by
    unfold ndz
    by_cases e : k = n
    · subst e
      rw [ndz_congr (f := g) (g := f) k (fun i hi => h2 i (by omega)), if_neg h1, if_pos h0]; omega
    · rw [ndz_set h0 h1 h2 n (by omega), h2 n (Ne.symm e)]; omega
theorem ndz_zero {f : Nat → Int} : ∀ n : Nat, ndz f n = 0 → ∀ i, i < n → f i ≠ 0
  | 0, _, i, hi => by omega
  | n + 1, h, i, hi => by
    have b := ndz_bd f n
    unfold ndz at h
    by_cases e : f n = 0
    · rw [if_pos e] at h; omega
    · rw [if_neg e] at h
      by_cases ei : i = n
      · rw [ei]; exact e
      · exact ndz_zero n (by omega) i (by omega)
theorem ndz_ex {f : Nat → Int} {n : Nat} (h : ndz f n ≠ 0) : ∃ i, i < n ∧ f i = 0 := Classical.byContradiction fun w => h (by
  have key : ∀ m : Nat, m ≤ n → ndz f m = 0 := by
    intro m
    induction m with
    | zero => intro _; rfl
    | succ m ih =>
      intro hm
      unfold ndz
      rw [ih (by omega), if_neg (fun e => w ⟨m, by omega, e⟩)]; rfl
  exact key n (Nat.le_refl _))
/-- a point that waits for another -/
def bl (F : rz_W) (A D : Nat → Int) (n : Int) (i : Nat) : Prop := ∃ cp vs, (F (A i)).2 = some (cp, vs) ∧ ∃ v ∈ vs, ∃ w : Nat, (w : Int) < n ∧ A w = v ∧ D w = 0
theorem bl_no {F : rz_W} {A D : Nat → Int} {n : Int} (h : ∀ i : Nat, (i : Int) < n → D i = 0 → bl F A D n i) (hh : ∀ i : Nat, (i : Int) < n → ¬ hz (A i)) : ∀ (m : Nat) (i : Nat), (i : Int) < n → D i = 0 → ¬ az F m (A i)
  | 0, i, _, _, a => a
  | m + 1, i, hi, hD, a => by
    obtain ⟨cp, vs, b1, v, b2, w, b3, b4, b5⟩ := h i hi hD
    rcases a with a | a | ⟨cp', vs', a1, a2⟩
    · exact hh i hi a
    · rw [b1] at a; cases a
    · rw [b1] at a1; cases a1
      exact bl_no h hh m w b3 b5 (by rw [b4]; exact a2 v b2)
theorem az_m {F : rz_W} {n m : Nat} {x : Int} (h : az F n x) (hm : n ≤ m) : az F m x := by
  have := az_mono F n x h (m - n)
  rw [show n + (m - n) = m by omega] at this
  exact this
theorem ndz_all {f : Nat → Int} : ∀ n : Nat, (∀ i, i < n → f i = 0) → ndz f n = n
  | 0, _ => rfl
  | n + 1, h => by
    unfold ndz
    rw [ndz_all n (fun i hi => h i (by omega)), if_pos (h n (by omega))]; omega
/-! The model: ends. (Written by wip/p2/py/pv91.py.) -/
section EzEn
variable {d : Nat} {h : cz_H} {τ : Nat → Nat} {Q : cz_F → Prop} {F : rz_W} {q : Nat}
theorem rd_en_j {k left more : Int} {l : Nat} {vs : List Int} (e : eD τ h F) (tq : τ q = 36) (nq : qz_N h q = cn h) (k0 : 0 ≤ k) (k1 : k < cn h) (ek1 : 1 ≤ qz_I h (bw h) k.toNat) (el : qz_P h (bw h) k.toNat = l) (tl : τ l = 13) (t15 : τ (l + 1) = 15) (t16 : τ (l + 2) = 16) (l7 : qz_P h l 7 = l + 1) (l8 : qz_P h l 8 = l + 2) (hlen : qz_I h (l + 2) (0 : Int).toNat = (vs.length : Int) ∧ qz_I h (l + 1) (0 : Int).toNat + (vs.length : Int) ≤ pn h ∧ 0 ≤ qz_I h (l + 1) (0 : Int).toNat) (hr : ∀ (j : Nat) v, vs[j]? = some v → qz_I h (po h) (qz_I h (l + 1) (0 : Int).toNat + (j : Int)).toNat = v) (kx : ∀ op, (op = 0 ∨ op = 1) → (op = 1 ↔ ∃ v ∈ vs, ∃ w : Nat, (w : Int) < cn h ∧ qz_I h (dc h) w = v ∧ qz_I h q w = 0) → ez_W (d + 1) cm_250 112 [(5, .inl (op)), (4, .inl (k)), (3, .inl (left)), (2, .inl (more)), (1, .inr (.inr (some (q)))), (0, .inr (.inr (some (770))))] [] h Q) : ∀ (m : Nat) (j op : Int), m = ((vs.length : Int) - j).toNat → 0 ≤ j → j ≤ (vs.length : Int) → (op = 0 ∨ op = 1) → (op = 1 ↔ ∃ i w : Nat, (i : Int) < j ∧ (w : Int) < cn h ∧ vs[i]? = some (qz_I h (dc h) w) ∧ qz_I h q w = 0) → ez_W (d + 1) cm_250 48 [(6, .inl (j)), (5, .inl (op)), (4, .inl (k)), (3, .inl (left)), (2, .inl (more)), (1, .inr (.inr (some (q)))), (0, .inr (.inr (some (770))))] [] h Q := by
  obtain ⟨hB, t770, ⟨c01, cnd, cnb, cnp⟩, es, -, -, -⟩ := id e
  have td := ez_tdb hB t770
  have tt := ez_tls hB t770
  have cne : cn h = qz_I h 770 23 := rfl
  intro m
  induction m with
  | zero =>
    intro j op hm j0 j1 hop1 hop
    refine ez_go (n := 2) (pc' := 51) (L' := [(6, .inl (j)), (5, .inl (op)), (4, .inl (k)), (3, .inl (left)), (2, .inl (more)), (1, .inr (.inr (some (q)))), (0, .inr (.inr (some (770))))]) (st' := [.inr (.inr (some (770))), .inl (j)]) rfl ?_
    refine ez_gR hB t770 rfl rfl tq_75 rfl rfl (fun (t1 : _ = 20) (t1' : 1 ≤ qz_I h 770 22) => ?_)
    rw [show qz_P h 770 22 = bw h from rfl]
    refine ez_go (n := 1) (pc' := 56) (L' := [(6, .inl (j)), (5, .inl (op)), (4, .inl (k)), (3, .inl (left)), (2, .inl (more)), (1, .inr (.inr (some (q)))), (0, .inr (.inr (some (770))))]) (st' := [.inl (k), .inr (.inr (some ((bw h)))), .inl (j)]) rfl ?_
    have n3 : 64 ≤ qz_N h ((bw h)) ∧ qz_N h ((bw h)) ≤ 4096 := ez_len hB td.2 tq_20 rfl
    have y4 : 1 ≤ qz_I h ((bw h)) (k).toNat := ek1
    have y5 : 0 ≤ qz_I h ((bw h)) (k).toNat ∧ qz_I h ((bw h)) (k).toNat ≤ 1000000 := ez_aB hB td.2 tq_20 rfl rfl (by decide) (by omega) (by omega)
    have y5' : ((qz_P h ((bw h)) (k).toNat : Nat) : Int) + 1 = qz_I h ((bw h)) (k).toNat := by unfold qz_P; omega
    refine ez_aR hB td.2 rfl tq_20 rfl rfl (by omega) (by omega) (by omega) (fun (t2 : _ = 13) => ?_)
    rw [el]
    refine ez_gR hB tl rfl rfl tq_13 rfl rfl (fun (t6 : _ = 16) (t6' : 1 ≤ qz_I h l 8) => ?_)
    rw [l8]
    refine ez_go (n := 1) (pc' := 61) (L' := [(6, .inl (j)), (5, .inl (op)), (4, .inl (k)), (3, .inl (left)), (2, .inl (more)), (1, .inr (.inr (some (q)))), (0, .inr (.inr (some (770))))]) (st' := [.inl (0), .inr (.inr (some ((l + 2)))), .inl (j)]) rfl ?_
    have n8 : 3 ≤ qz_N h ((l + 2)) ∧ qz_N h ((l + 2)) ≤ 3 := ez_len hB t16 tq_16 rfl
    refine ez_aI hB t16 rfl tq_16 rfl rfl (by omega) (by omega) (fun (b7 : 0 ≤ qz_I h ((l + 2)) (0 : Int).toNat) (b7' : qz_I h ((l + 2)) (0 : Int).toNat ≤ 18) => ?_)
    refine ez_icmp rfl rfl ⟨by first | omega | exact (sz_i32 _).1, by first | omega | exact (sz_i32 _).2⟩ ⟨by first | omega | exact (sz_i32 _).1, by first | omega | exact (sz_i32 _).2⟩ (fun (c9 : (qz_I h ((l + 2)) (0 : Int).toNat) ≤ (j)) => ?_) (fun (c9 : ¬((qz_I h ((l + 2)) (0 : Int).toNat) ≤ (j))) => ?_)
    · skip
      refine ez_less [(5, .inl (op)), (4, .inl (k)), (3, .inl (left)), (2, .inl (more)), (1, .inr (.inr (some (q)))), (0, .inr (.inr (some (770))))] rfl ⟨rfl, rfl, rfl, rfl, rfl, rfl, trivial⟩ ?_
      refine kx op hop1 ?_
      constructor
      · intro e1; obtain ⟨i, x, i1, i2, i3, i4⟩ := hop.mp e1; exact ⟨_, List.mem_of_getElem? i3, x, i2, rfl, i4⟩
      · rintro ⟨v, v1, x, i2, i3, i4⟩
        obtain ⟨i, hi⟩ := List.getElem?_of_mem v1
        have := (List.getElem?_eq_some_iff.mp hi).1
        exact hop.mpr ⟨i, x, by clear hop hop1; omega, i2, by rw [i3]; exact hi, i4⟩
    · skip
      refine ez_go (n := 2) (pc' := 67) (L' := [(6, .inl (j)), (5, .inl (op)), (4, .inl (k)), (3, .inl (left)), (2, .inl (more)), (1, .inr (.inr (some (q)))), (0, .inr (.inr (some (770))))]) (st' := [.inr (.inr (some (770))), .inr (.inr (some (770)))]) rfl ?_
      refine ez_gR hB t770 rfl rfl tq_75 rfl rfl (fun (t10 : _ = 17) (t10' : 1 ≤ qz_I h 770 9) => ?_)
      rw [show qz_P h 770 9 = po h from rfl]
      refine ez_go (n := 1) (pc' := 71) (L' := [(6, .inl (j)), (5, .inl (op)), (4, .inl (k)), (3, .inl (left)), (2, .inl (more)), (1, .inr (.inr (some (q)))), (0, .inr (.inr (some (770))))]) (st' := [.inr (.inr (some (770))), .inr (.inr (some ((po h)))), .inr (.inr (some (770)))]) rfl ?_
      refine ez_gR hB t770 rfl rfl tq_75 rfl rfl (fun (t11 : _ = 20) (t11' : 1 ≤ qz_I h 770 22) => ?_)
      rw [show qz_P h 770 22 = bw h from rfl]
      refine ez_go (n := 1) (pc' := 76) (L' := [(6, .inl (j)), (5, .inl (op)), (4, .inl (k)), (3, .inl (left)), (2, .inl (more)), (1, .inr (.inr (some (q)))), (0, .inr (.inr (some (770))))]) (st' := [.inl (k), .inr (.inr (some ((bw h)))), .inr (.inr (some ((po h)))), .inr (.inr (some (770)))]) rfl ?_
      have n13 : 64 ≤ qz_N h ((bw h)) ∧ qz_N h ((bw h)) ≤ 4096 := ez_len hB td.2 tq_20 rfl
      have y14 : 1 ≤ qz_I h ((bw h)) (k).toNat := ek1
      have y15 : 0 ≤ qz_I h ((bw h)) (k).toNat ∧ qz_I h ((bw h)) (k).toNat ≤ 1000000 := ez_aB hB td.2 tq_20 rfl rfl (by decide) (by omega) (by omega)
      have y15' : ((qz_P h ((bw h)) (k).toNat : Nat) : Int) + 1 = qz_I h ((bw h)) (k).toNat := by unfold qz_P; omega
      refine ez_aR hB td.2 rfl tq_20 rfl rfl (by omega) (by omega) (by omega) (fun (t12 : _ = 13) => ?_)
      rw [el]
      refine ez_gR hB tl rfl rfl tq_13 rfl rfl (fun (t16 : _ = 15) (t16' : 1 ≤ qz_I h l 7) => ?_)
      rw [l7]
      refine ez_go (n := 1) (pc' := 81) (L' := [(6, .inl (j)), (5, .inl (op)), (4, .inl (k)), (3, .inl (left)), (2, .inl (more)), (1, .inr (.inr (some (q)))), (0, .inr (.inr (some (770))))]) (st' := [.inl (0), .inr (.inr (some ((l + 1)))), .inr (.inr (some ((po h)))), .inr (.inr (some (770)))]) rfl ?_
      have n18 : 3 ≤ qz_N h ((l + 1)) ∧ qz_N h ((l + 1)) ≤ 3 := ez_len hB t15 tq_15 rfl
      refine ez_aI hB t15 rfl tq_15 rfl rfl (by omega) (by omega) (fun (b17 : 0 ≤ qz_I h ((l + 1)) (0 : Int).toNat) (b17' : qz_I h ((l + 1)) (0 : Int).toNat ≤ 38500) => ?_)
      refine ez_go (n := 2) (pc' := 85) (L' := [(6, .inl (j)), (5, .inl (op)), (4, .inl (k)), (3, .inl (left)), (2, .inl (more)), (1, .inr (.inr (some (q)))), (0, .inr (.inr (some (770))))]) (st' := [.inl ((qz_I h ((l + 1)) (0 : Int).toNat) + (j)), .inr (.inr (some ((po h)))), .inr (.inr (some (770)))]) rfl ?_
      have n20 : 1024 ≤ qz_N h ((po h)) ∧ qz_N h ((po h)) ≤ 77100 := ez_len hB tt.2 tq_17 rfl
      refine ez_aI hB tt.2 rfl tq_17 rfl rfl (by omega) (by omega) (fun (b19 : -2147483648 ≤ qz_I h ((po h)) ((qz_I h ((l + 1)) (0 : Int).toNat) + (j)).toNat) (b19' : qz_I h ((po h)) ((qz_I h ((l + 1)) (0 : Int).toNat) + (j)).toNat ≤ 2147483647) => ?_)
      obtain ⟨v, hv⟩ : ∃ v, vs[j.toNat]? = some v := ⟨_, List.getElem?_eq_getElem (show j.toNat < vs.length by omega)⟩
      have ev : qz_I h ((po h)) ((qz_I h ((l + 1)) (0 : Int).toNat) + (j)).toNat = v := by have w := hr j.toNat v hv; rw [Int.toNat_of_nonneg j0] at w; exact w
      have vb : ez_rg v := by rw [← ev]; exact ⟨by omega, by omega⟩
      rw [ev]
      refine ez_cv hB t770 rfl rfl rfl tq_75 rfl rfl rfl (rd_where' e vb (fun w hw ew => ez_K1 ?_) (fun hno => ez_K1 ?_))
      · skip
        have ewt : qz_I h q ((w : Int)).toNat = qz_I h q w := by rw [Int.toNat_natCast]
        refine ez_go (n := 2) (pc' := 93) (L' := [(7, .inl ((w : Int))), (6, .inl (j)), (5, .inl (op)), (4, .inl (k)), (3, .inl (left)), (2, .inl (more)), (1, .inr (.inr (some (q)))), (0, .inr (.inr (some (770))))]) (st' := [.inl ((w : Int))]) rfl ?_
        refine ez_if rfl rfl ⟨by first | omega | exact (sz_i32 _).1, by first | omega | exact (sz_i32 _).2⟩ (fun (c21 : ((w : Int)) < (0)) => ?_) (fun (c21 : ¬(((w : Int)) < (0))) => ?_)
        · skip
          refine ez_go (n := 2) (pc' := 48) (L' := [(6, .inl (j + 1)), (7, .inl ((w : Int))), (5, .inl (op)), (4, .inl (k)), (3, .inl (left)), (2, .inl (more)), (1, .inr (.inr (some (q)))), (0, .inr (.inr (some (770))))]) (st' := []) rfl ?_
          exfalso; clear hop hop1; omega
        · skip
          refine ez_go (n := 2) (pc' := 99) (L' := [(7, .inl ((w : Int))), (6, .inl (j)), (5, .inl (op)), (4, .inl (k)), (3, .inl (left)), (2, .inl (more)), (1, .inr (.inr (some (q)))), (0, .inr (.inr (some (770))))]) (st' := [.inl ((w : Int)), .inr (.inr (some (q)))]) rfl ?_
          have n23 : 0 ≤ qz_N h q ∧ qz_N h q ≤ 512 := ez_len hB tq tq_36 rfl
          refine ez_aI hB tq rfl tq_36 rfl rfl (by omega) (by omega) (fun (b22 : 0 ≤ qz_I h q ((w : Int)).toNat) (b22' : qz_I h q ((w : Int)).toNat ≤ 1) => ?_)
          refine ez_if rfl rfl ⟨by first | omega | exact (sz_i32 _).1, by first | omega | exact (sz_i32 _).2⟩ (fun (c24 : (qz_I h q ((w : Int)).toNat) ≠ (0)) => ?_) (fun (c24 : ¬((qz_I h q ((w : Int)).toNat) ≠ (0))) => ?_)
          · skip
            refine ez_go (n := 2) (pc' := 48) (L' := [(6, .inl (j + 1)), (7, .inl ((w : Int))), (5, .inl (op)), (4, .inl (k)), (3, .inl (left)), (2, .inl (more)), (1, .inr (.inr (some (q)))), (0, .inr (.inr (some (770))))]) (st' := []) rfl ?_
            exfalso; clear hop hop1; omega
          · skip
            refine ez_go (n := 4) (pc' := 48) (L' := [(6, .inl (j + 1)), (5, .inl (1)), (7, .inl ((w : Int))), (4, .inl (k)), (3, .inl (left)), (2, .inl (more)), (1, .inr (.inr (some (q)))), (0, .inr (.inr (some (770))))]) (st' := []) rfl ?_
            exfalso; clear hop hop1; omega
      · skip
        refine ez_go (n := 2) (pc' := 93) (L' := [(7, .inl (-1)), (6, .inl (j)), (5, .inl (op)), (4, .inl (k)), (3, .inl (left)), (2, .inl (more)), (1, .inr (.inr (some (q)))), (0, .inr (.inr (some (770))))]) (st' := [.inl (-1)]) rfl ?_
        refine ez_if rfl rfl ⟨by decide, by decide⟩ (fun _ => ?_) (fun (c25 : ¬((-1 : Int) < (0))) => absurd c25 (by decide))
        refine ez_go (n := 2) (pc' := 48) (L' := [(6, .inl (j + 1)), (7, .inl (-1)), (5, .inl (op)), (4, .inl (k)), (3, .inl (left)), (2, .inl (more)), (1, .inr (.inr (some (q)))), (0, .inr (.inr (some (770))))]) (st' := []) rfl ?_
        exfalso; clear hop hop1; omega
  | succ m ih =>
    intro j op hm j0 j1 hop1 hop
    refine ez_go (n := 2) (pc' := 51) (L' := [(6, .inl (j)), (5, .inl (op)), (4, .inl (k)), (3, .inl (left)), (2, .inl (more)), (1, .inr (.inr (some (q)))), (0, .inr (.inr (some (770))))]) (st' := [.inr (.inr (some (770))), .inl (j)]) rfl ?_
    refine ez_gR hB t770 rfl rfl tq_75 rfl rfl (fun (t1 : _ = 20) (t1' : 1 ≤ qz_I h 770 22) => ?_)
    rw [show qz_P h 770 22 = bw h from rfl]
    refine ez_go (n := 1) (pc' := 56) (L' := [(6, .inl (j)), (5, .inl (op)), (4, .inl (k)), (3, .inl (left)), (2, .inl (more)), (1, .inr (.inr (some (q)))), (0, .inr (.inr (some (770))))]) (st' := [.inl (k), .inr (.inr (some ((bw h)))), .inl (j)]) rfl ?_
    have n3 : 64 ≤ qz_N h ((bw h)) ∧ qz_N h ((bw h)) ≤ 4096 := ez_len hB td.2 tq_20 rfl
    have y4 : 1 ≤ qz_I h ((bw h)) (k).toNat := ek1
    have y5 : 0 ≤ qz_I h ((bw h)) (k).toNat ∧ qz_I h ((bw h)) (k).toNat ≤ 1000000 := ez_aB hB td.2 tq_20 rfl rfl (by decide) (by omega) (by omega)
    have y5' : ((qz_P h ((bw h)) (k).toNat : Nat) : Int) + 1 = qz_I h ((bw h)) (k).toNat := by unfold qz_P; omega
    refine ez_aR hB td.2 rfl tq_20 rfl rfl (by omega) (by omega) (by omega) (fun (t2 : _ = 13) => ?_)
    rw [el]
    refine ez_gR hB tl rfl rfl tq_13 rfl rfl (fun (t6 : _ = 16) (t6' : 1 ≤ qz_I h l 8) => ?_)
    rw [l8]
    refine ez_go (n := 1) (pc' := 61) (L' := [(6, .inl (j)), (5, .inl (op)), (4, .inl (k)), (3, .inl (left)), (2, .inl (more)), (1, .inr (.inr (some (q)))), (0, .inr (.inr (some (770))))]) (st' := [.inl (0), .inr (.inr (some ((l + 2)))), .inl (j)]) rfl ?_
    have n8 : 3 ≤ qz_N h ((l + 2)) ∧ qz_N h ((l + 2)) ≤ 3 := ez_len hB t16 tq_16 rfl
    refine ez_aI hB t16 rfl tq_16 rfl rfl (by omega) (by omega) (fun (b7 : 0 ≤ qz_I h ((l + 2)) (0 : Int).toNat) (b7' : qz_I h ((l + 2)) (0 : Int).toNat ≤ 18) => ?_)
    refine ez_icmp rfl rfl ⟨by first | omega | exact (sz_i32 _).1, by first | omega | exact (sz_i32 _).2⟩ ⟨by first | omega | exact (sz_i32 _).1, by first | omega | exact (sz_i32 _).2⟩ (fun (c9 : (qz_I h ((l + 2)) (0 : Int).toNat) ≤ (j)) => ?_) (fun (c9 : ¬((qz_I h ((l + 2)) (0 : Int).toNat) ≤ (j))) => ?_)
    · skip
      refine ez_less [(5, .inl (op)), (4, .inl (k)), (3, .inl (left)), (2, .inl (more)), (1, .inr (.inr (some (q)))), (0, .inr (.inr (some (770))))] rfl ⟨rfl, rfl, rfl, rfl, rfl, rfl, trivial⟩ ?_
      refine kx op hop1 ?_
      constructor
      · intro e1; obtain ⟨i, x, i1, i2, i3, i4⟩ := hop.mp e1; exact ⟨_, List.mem_of_getElem? i3, x, i2, rfl, i4⟩
      · rintro ⟨v, v1, x, i2, i3, i4⟩
        obtain ⟨i, hi⟩ := List.getElem?_of_mem v1
        have := (List.getElem?_eq_some_iff.mp hi).1
        exact hop.mpr ⟨i, x, by clear hop hop1; omega, i2, by rw [i3]; exact hi, i4⟩
    · skip
      refine ez_go (n := 2) (pc' := 67) (L' := [(6, .inl (j)), (5, .inl (op)), (4, .inl (k)), (3, .inl (left)), (2, .inl (more)), (1, .inr (.inr (some (q)))), (0, .inr (.inr (some (770))))]) (st' := [.inr (.inr (some (770))), .inr (.inr (some (770)))]) rfl ?_
      refine ez_gR hB t770 rfl rfl tq_75 rfl rfl (fun (t10 : _ = 17) (t10' : 1 ≤ qz_I h 770 9) => ?_)
      rw [show qz_P h 770 9 = po h from rfl]
      refine ez_go (n := 1) (pc' := 71) (L' := [(6, .inl (j)), (5, .inl (op)), (4, .inl (k)), (3, .inl (left)), (2, .inl (more)), (1, .inr (.inr (some (q)))), (0, .inr (.inr (some (770))))]) (st' := [.inr (.inr (some (770))), .inr (.inr (some ((po h)))), .inr (.inr (some (770)))]) rfl ?_
      refine ez_gR hB t770 rfl rfl tq_75 rfl rfl (fun (t11 : _ = 20) (t11' : 1 ≤ qz_I h 770 22) => ?_)
      rw [show qz_P h 770 22 = bw h from rfl]
      refine ez_go (n := 1) (pc' := 76) (L' := [(6, .inl (j)), (5, .inl (op)), (4, .inl (k)), (3, .inl (left)), (2, .inl (more)), (1, .inr (.inr (some (q)))), (0, .inr (.inr (some (770))))]) (st' := [.inl (k), .inr (.inr (some ((bw h)))), .inr (.inr (some ((po h)))), .inr (.inr (some (770)))]) rfl ?_
      have n13 : 64 ≤ qz_N h ((bw h)) ∧ qz_N h ((bw h)) ≤ 4096 := ez_len hB td.2 tq_20 rfl
      have y14 : 1 ≤ qz_I h ((bw h)) (k).toNat := ek1
      have y15 : 0 ≤ qz_I h ((bw h)) (k).toNat ∧ qz_I h ((bw h)) (k).toNat ≤ 1000000 := ez_aB hB td.2 tq_20 rfl rfl (by decide) (by omega) (by omega)
      have y15' : ((qz_P h ((bw h)) (k).toNat : Nat) : Int) + 1 = qz_I h ((bw h)) (k).toNat := by unfold qz_P; omega
      refine ez_aR hB td.2 rfl tq_20 rfl rfl (by omega) (by omega) (by omega) (fun (t12 : _ = 13) => ?_)
      rw [el]
      refine ez_gR hB tl rfl rfl tq_13 rfl rfl (fun (t16 : _ = 15) (t16' : 1 ≤ qz_I h l 7) => ?_)
      rw [l7]
      refine ez_go (n := 1) (pc' := 81) (L' := [(6, .inl (j)), (5, .inl (op)), (4, .inl (k)), (3, .inl (left)), (2, .inl (more)), (1, .inr (.inr (some (q)))), (0, .inr (.inr (some (770))))]) (st' := [.inl (0), .inr (.inr (some ((l + 1)))), .inr (.inr (some ((po h)))), .inr (.inr (some (770)))]) rfl ?_
      have n18 : 3 ≤ qz_N h ((l + 1)) ∧ qz_N h ((l + 1)) ≤ 3 := ez_len hB t15 tq_15 rfl
      refine ez_aI hB t15 rfl tq_15 rfl rfl (by omega) (by omega) (fun (b17 : 0 ≤ qz_I h ((l + 1)) (0 : Int).toNat) (b17' : qz_I h ((l + 1)) (0 : Int).toNat ≤ 38500) => ?_)
      refine ez_go (n := 2) (pc' := 85) (L' := [(6, .inl (j)), (5, .inl (op)), (4, .inl (k)), (3, .inl (left)), (2, .inl (more)), (1, .inr (.inr (some (q)))), (0, .inr (.inr (some (770))))]) (st' := [.inl ((qz_I h ((l + 1)) (0 : Int).toNat) + (j)), .inr (.inr (some ((po h)))), .inr (.inr (some (770)))]) rfl ?_
      have n20 : 1024 ≤ qz_N h ((po h)) ∧ qz_N h ((po h)) ≤ 77100 := ez_len hB tt.2 tq_17 rfl
      refine ez_aI hB tt.2 rfl tq_17 rfl rfl (by omega) (by omega) (fun (b19 : -2147483648 ≤ qz_I h ((po h)) ((qz_I h ((l + 1)) (0 : Int).toNat) + (j)).toNat) (b19' : qz_I h ((po h)) ((qz_I h ((l + 1)) (0 : Int).toNat) + (j)).toNat ≤ 2147483647) => ?_)
      obtain ⟨v, hv⟩ : ∃ v, vs[j.toNat]? = some v := ⟨_, List.getElem?_eq_getElem (show j.toNat < vs.length by omega)⟩
      have ev : qz_I h ((po h)) ((qz_I h ((l + 1)) (0 : Int).toNat) + (j)).toNat = v := by have w := hr j.toNat v hv; rw [Int.toNat_of_nonneg j0] at w; exact w
      have vb : ez_rg v := by rw [← ev]; exact ⟨by omega, by omega⟩
      rw [ev]
      refine ez_cv hB t770 rfl rfl rfl tq_75 rfl rfl rfl (rd_where' e vb (fun w hw ew => ez_K1 ?_) (fun hno => ez_K1 ?_))
      · skip
        have ewt : qz_I h q ((w : Int)).toNat = qz_I h q w := by rw [Int.toNat_natCast]
        refine ez_go (n := 2) (pc' := 93) (L' := [(7, .inl ((w : Int))), (6, .inl (j)), (5, .inl (op)), (4, .inl (k)), (3, .inl (left)), (2, .inl (more)), (1, .inr (.inr (some (q)))), (0, .inr (.inr (some (770))))]) (st' := [.inl ((w : Int))]) rfl ?_
        refine ez_if rfl rfl ⟨by first | omega | exact (sz_i32 _).1, by first | omega | exact (sz_i32 _).2⟩ (fun (c21 : ((w : Int)) < (0)) => ?_) (fun (c21 : ¬(((w : Int)) < (0))) => ?_)
        · skip
          refine ez_go (n := 2) (pc' := 48) (L' := [(6, .inl (j + 1)), (7, .inl ((w : Int))), (5, .inl (op)), (4, .inl (k)), (3, .inl (left)), (2, .inl (more)), (1, .inr (.inr (some (q)))), (0, .inr (.inr (some (770))))]) (st' := []) rfl ?_
          refine ez_less [(6, .inl (j + 1)), (5, .inl (op)), (4, .inl (k)), (3, .inl (left)), (2, .inl (more)), (1, .inr (.inr (some (q)))), (0, .inr (.inr (some (770))))] rfl ⟨rfl, rfl, rfl, rfl, rfl, rfl, rfl, trivial⟩ ?_
          refine ih (j + 1) (op) (by clear hop hop1; omega) (by clear hop hop1; omega) (by clear hop hop1; omega) hop1 ?_
          constructor
          · intro e1; obtain ⟨i, x, i1, i2, i3, i4⟩ := hop.mp e1; exact ⟨i, x, by clear hop hop1; omega, i2, i3, i4⟩
          · rintro ⟨i, x, i1, i2, i3, i4⟩
            by_cases e1 : i = j.toNat
            · exfalso; rw [e1, hv] at i3
              have i3 := Option.some.inj i3
              have ex : x = w := by rcases Nat.lt_trichotomy x w with y | y | y; (· have := e.2.2.2.1 x w y hw; clear hop hop1; omega); (· exact y); (· have := e.2.2.2.1 w x y i2; clear hop hop1; omega)
              rw [ex] at i4; clear hop hop1; omega
            · exact hop.mpr ⟨i, x, by clear hop hop1; omega, i2, i3, i4⟩
        · skip
          refine ez_go (n := 2) (pc' := 99) (L' := [(7, .inl ((w : Int))), (6, .inl (j)), (5, .inl (op)), (4, .inl (k)), (3, .inl (left)), (2, .inl (more)), (1, .inr (.inr (some (q)))), (0, .inr (.inr (some (770))))]) (st' := [.inl ((w : Int)), .inr (.inr (some (q)))]) rfl ?_
          have n23 : 0 ≤ qz_N h q ∧ qz_N h q ≤ 512 := ez_len hB tq tq_36 rfl
          refine ez_aI hB tq rfl tq_36 rfl rfl (by omega) (by omega) (fun (b22 : 0 ≤ qz_I h q ((w : Int)).toNat) (b22' : qz_I h q ((w : Int)).toNat ≤ 1) => ?_)
          refine ez_if rfl rfl ⟨by first | omega | exact (sz_i32 _).1, by first | omega | exact (sz_i32 _).2⟩ (fun (c24 : (qz_I h q ((w : Int)).toNat) ≠ (0)) => ?_) (fun (c24 : ¬((qz_I h q ((w : Int)).toNat) ≠ (0))) => ?_)
          · skip
            refine ez_go (n := 2) (pc' := 48) (L' := [(6, .inl (j + 1)), (7, .inl ((w : Int))), (5, .inl (op)), (4, .inl (k)), (3, .inl (left)), (2, .inl (more)), (1, .inr (.inr (some (q)))), (0, .inr (.inr (some (770))))]) (st' := []) rfl ?_
            refine ez_less [(6, .inl (j + 1)), (5, .inl (op)), (4, .inl (k)), (3, .inl (left)), (2, .inl (more)), (1, .inr (.inr (some (q)))), (0, .inr (.inr (some (770))))] rfl ⟨rfl, rfl, rfl, rfl, rfl, rfl, rfl, trivial⟩ ?_
            refine ih (j + 1) (op) (by clear hop hop1; omega) (by clear hop hop1; omega) (by clear hop hop1; omega) hop1 ?_
            constructor
            · intro e1; obtain ⟨i, x, i1, i2, i3, i4⟩ := hop.mp e1; exact ⟨i, x, by clear hop hop1; omega, i2, i3, i4⟩
            · rintro ⟨i, x, i1, i2, i3, i4⟩
              by_cases e1 : i = j.toNat
              · exfalso; rw [e1, hv] at i3
                have i3 := Option.some.inj i3
                have ex : x = w := by rcases Nat.lt_trichotomy x w with y | y | y; (· have := e.2.2.2.1 x w y hw; clear hop hop1; omega); (· exact y); (· have := e.2.2.2.1 w x y i2; clear hop hop1; omega)
                rw [ex] at i4; clear hop hop1; omega
              · exact hop.mpr ⟨i, x, by clear hop hop1; omega, i2, i3, i4⟩
          · skip
            refine ez_go (n := 4) (pc' := 48) (L' := [(6, .inl (j + 1)), (5, .inl (1)), (7, .inl ((w : Int))), (4, .inl (k)), (3, .inl (left)), (2, .inl (more)), (1, .inr (.inr (some (q)))), (0, .inr (.inr (some (770))))]) (st' := []) rfl ?_
            refine ez_less [(6, .inl (j + 1)), (5, .inl (1)), (4, .inl (k)), (3, .inl (left)), (2, .inl (more)), (1, .inr (.inr (some (q)))), (0, .inr (.inr (some (770))))] rfl ⟨rfl, rfl, rfl, rfl, rfl, rfl, rfl, trivial⟩ ?_
            refine ih (j + 1) (1) (by clear hop hop1; omega) (by clear hop hop1; omega) (by clear hop hop1; omega) (Or.inr rfl) ?_
            exact ⟨fun _ => ⟨j.toNat, w, by clear hop hop1; omega, hw, by rw [ew]; exact hv, by clear hop hop1; omega⟩, fun _ => rfl⟩
      · skip
        refine ez_go (n := 2) (pc' := 93) (L' := [(7, .inl (-1)), (6, .inl (j)), (5, .inl (op)), (4, .inl (k)), (3, .inl (left)), (2, .inl (more)), (1, .inr (.inr (some (q)))), (0, .inr (.inr (some (770))))]) (st' := [.inl (-1)]) rfl ?_
        refine ez_if rfl rfl ⟨by decide, by decide⟩ (fun _ => ?_) (fun (c25 : ¬((-1 : Int) < (0))) => absurd c25 (by decide))
        refine ez_go (n := 2) (pc' := 48) (L' := [(6, .inl (j + 1)), (7, .inl (-1)), (5, .inl (op)), (4, .inl (k)), (3, .inl (left)), (2, .inl (more)), (1, .inr (.inr (some (q)))), (0, .inr (.inr (some (770))))]) (st' := []) rfl ?_
        refine ez_less [(6, .inl (j + 1)), (5, .inl (op)), (4, .inl (k)), (3, .inl (left)), (2, .inl (more)), (1, .inr (.inr (some (q)))), (0, .inr (.inr (some (770))))] rfl ⟨rfl, rfl, rfl, rfl, rfl, rfl, rfl, trivial⟩ ?_
        refine ih (j + 1) (op) (by clear hop hop1; omega) (by clear hop hop1; omega) (by clear hop hop1; omega) hop1 ?_
        constructor
        · intro e1; obtain ⟨i, x, i1, i2, i3, i4⟩ := hop.mp e1; exact ⟨i, x, by clear hop hop1; omega, i2, i3, i4⟩
        · rintro ⟨i, x, i1, i2, i3, i4⟩
          by_cases e1 : i = j.toNat
          · exfalso; rw [e1, hv] at i3
            have i3 := Option.some.inj i3
            obtain ⟨cp, us, r1, -⟩ := (e.2.2.2.2.1 x i2).2; rw [← i3, hno] at r1; cases r1
          · exact hop.mpr ⟨i, x, by clear hop hop1; omega, i2, i3, i4⟩

end EzEn
/-! The model: ends, II. (Written by wip/p2/py/pv92.py.) -/
section EzEo
variable {d : Nat} {h : cz_H} {τ : Nat → Nat} {Q : cz_F → Prop} {F : rz_W} {q : Nat}
/-- within a pass: what is done, what waits -/
def enz (τ : Nat → Nat) (h : cz_H) (F : rz_W) (q : Nat) (g : cz_H) (left more k : Int) : Prop :=
  ez_B τ g ∧ ez_fr (ez_one q) h g ∧ qz_N g q = cn h ∧ left = ndz (fun i => qz_I g q i) (cn h).toNat ∧ (∀ i : Nat, (i : Int) < cn h → qz_I g q i ≠ 0 → az F (cn h - left + 1).toNat (qz_I h (dc h) i)) ∧ (more = 0 ∨ more = 1) ∧ (more = 0 → ∀ i : Nat, (i : Int) < k → qz_I g q i = 0 → bl F (fun i => qz_I h (dc h) i) (fun i => qz_I g q i) (cn h) i)
theorem eD.one {τ : Nat → Nat} {h g : cz_H} {F : rz_W} {q : Nat} (e : eD τ h F) (hB : ez_B τ g) (tq : 20 < τ q) (n7 : q ≠ 770) (f : ez_fr (ez_one q) h g) : eD τ g F ∧ dc g = dc h ∧ bw g = bw h ∧ cn g = cn h ∧ ∀ j, qz_I g (dc h) j = qz_I h (dc h) j := by
  have i7 : ∀ j, qz_I g 770 j = qz_I h 770 j := fun j => f.I (dz_beq_ne (Ne.symm n7)) j
  have td := ez_tdb e.1 e.2.1
  refine ⟨e.tr hB (fun _ _ => rfl) (fun q h0 => by rw [h0]; decide) (fun j _ => i7 j) (fun r hr => f.2.2 r (dz_beq_ne (fun w => by rw [w] at hr; omega))), by unfold dc qz_P; rw [i7], by unfold bw qz_P; rw [i7], i7 23, fun j => f.I (dz_beq_ne (fun w => by have t := td.1; rw [w] at t; omega)) j⟩
theorem rd_en_k {left0 : Int} (e : eD τ h F) (tq : τ q = 36) (n7 : q ≠ 770) (kx : ∀ g left more, enz τ h F q g left more (cn h) → 2 * left + more < 2 * left0 + 1 → ez_W (d + 1) cm_250 14 [(3, .inl (left)), (2, .inl (more)), (1, .inr (.inr (some (q)))), (0, .inr (.inr (some (770))))] [] g Q) : ∀ (m : Nat) (k : Int) (g : cz_H) (left more : Int), m = (cn h - k).toNat → 0 ≤ k → k ≤ cn h → enz τ h F q g left more k → 2 * left + more < 2 * left0 + 1 → ez_W (d + 1) cm_250 23 [(4, .inl (k)), (3, .inl (left)), (2, .inl (more)), (1, .inr (.inr (some (q)))), (0, .inr (.inr (some (770))))] [] g Q := by
  intro m
  induction m with
  | zero =>
    intro k g left more hm k0 k1 hen hmes
    obtain ⟨hBg, hf, nq, hl, haz, hm1, hbl⟩ := id hen
    obtain ⟨eg, edc, ebw, ecn, idc⟩ := e.one hBg (by omega) n7 hf
    have t770 := e.2.1
    have cne : cn g = qz_I g 770 23 := rfl
    have c01 := e.2.2.1.1
    have lb := ndz_bd (fun i => qz_I g q i) (cn h).toNat
    rw [← hl] at lb
    refine ez_go (n := 2) (pc' := 26) (L' := [(4, .inl (k)), (3, .inl (left)), (2, .inl (more)), (1, .inr (.inr (some (q)))), (0, .inr (.inr (some (770))))]) (st' := [.inr (.inr (some (770))), .inl (k)]) rfl ?_
    refine ez_gI hBg t770 rfl rfl tq_75 rfl rfl (fun (b1 : 0 ≤ qz_I g 770 23) (b1' : qz_I g 770 23 ≤ 512) => ?_)
    refine ez_icmp rfl rfl ⟨by first | exact opr.1 | (clear hm1; omega) | exact (sz_i32 _).1, by first | exact opr.2 | (clear hm1; omega) | exact (sz_i32 _).2⟩ ⟨by first | exact opr.1 | (clear hm1; omega) | exact (sz_i32 _).1, by first | exact opr.2 | (clear hm1; omega) | exact (sz_i32 _).2⟩ (fun (c2 : (qz_I g 770 23) ≤ (k)) => ?_) (fun (c2 : ¬((qz_I g 770 23) ≤ (k))) => ?_)
    · skip
      refine ez_go (n := 1) (pc' := 14) (L' := [(4, .inl (k)), (3, .inl (left)), (2, .inl (more)), (1, .inr (.inr (some (q)))), (0, .inr (.inr (some (770))))]) (st' := []) rfl ?_
      refine ez_less [(3, .inl (left)), (2, .inl (more)), (1, .inr (.inr (some (q)))), (0, .inr (.inr (some (770))))] rfl ⟨rfl, rfl, rfl, rfl, trivial⟩ ?_
      have ek : k = cn h := by omega
      rw [ek] at hen
      exact kx g left more hen hmes
    · skip
      refine ez_go (n := 2) (pc' := 35) (L' := [(4, .inl (k)), (3, .inl (left)), (2, .inl (more)), (1, .inr (.inr (some (q)))), (0, .inr (.inr (some (770))))]) (st' := [.inl (k), .inr (.inr (some (q)))]) rfl ?_
      have n4 : 0 ≤ qz_N g q ∧ qz_N g q ≤ 512 := ez_len hBg tq tq_36 rfl
      refine ez_aI hBg tq rfl tq_36 rfl rfl (by omega) (by omega) (fun (b3 : 0 ≤ qz_I g q (k).toNat) (b3' : qz_I g q (k).toNat ≤ 1) => ?_)
      refine ez_if rfl rfl ⟨by first | exact opr.1 | (clear hm1; omega) | exact (sz_i32 _).1, by first | exact opr.2 | (clear hm1; omega) | exact (sz_i32 _).2⟩ (fun (c5 : (qz_I g q (k).toNat) = (0)) => ?_) (fun (c5 : ¬((qz_I g q (k).toNat) = (0))) => ?_)
      · skip
        refine ez_go (n := 4) (pc' := 48) (L' := [(6, .inl (0)), (5, .inl (0)), (4, .inl (k)), (3, .inl (left)), (2, .inl (more)), (1, .inr (.inr (some (q)))), (0, .inr (.inr (some (770))))]) (st' := []) rfl ?_
        exfalso; omega
      · skip
        refine ez_go (n := 3) (pc' := 23) (L' := [(4, .inl (k + 1)), (3, .inl (left)), (2, .inl (more)), (1, .inr (.inr (some (q)))), (0, .inr (.inr (some (770))))]) (st' := []) rfl ?_
        exfalso; omega
  | succ m ih =>
    intro k g left more hm k0 k1 hen hmes
    obtain ⟨hBg, hf, nq, hl, haz, hm1, hbl⟩ := id hen
    obtain ⟨eg, edc, ebw, ecn, idc⟩ := e.one hBg (by omega) n7 hf
    have t770 := e.2.1
    have cne : cn g = qz_I g 770 23 := rfl
    have c01 := e.2.2.1.1
    have lb := ndz_bd (fun i => qz_I g q i) (cn h).toNat
    rw [← hl] at lb
    refine ez_go (n := 2) (pc' := 26) (L' := [(4, .inl (k)), (3, .inl (left)), (2, .inl (more)), (1, .inr (.inr (some (q)))), (0, .inr (.inr (some (770))))]) (st' := [.inr (.inr (some (770))), .inl (k)]) rfl ?_
    refine ez_gI hBg t770 rfl rfl tq_75 rfl rfl (fun (b1 : 0 ≤ qz_I g 770 23) (b1' : qz_I g 770 23 ≤ 512) => ?_)
    refine ez_icmp rfl rfl ⟨by first | exact opr.1 | (clear hm1; omega) | exact (sz_i32 _).1, by first | exact opr.2 | (clear hm1; omega) | exact (sz_i32 _).2⟩ ⟨by first | exact opr.1 | (clear hm1; omega) | exact (sz_i32 _).1, by first | exact opr.2 | (clear hm1; omega) | exact (sz_i32 _).2⟩ (fun (c2 : (qz_I g 770 23) ≤ (k)) => ?_) (fun (c2 : ¬((qz_I g 770 23) ≤ (k))) => ?_)
    · skip
      refine ez_go (n := 1) (pc' := 14) (L' := [(4, .inl (k)), (3, .inl (left)), (2, .inl (more)), (1, .inr (.inr (some (q)))), (0, .inr (.inr (some (770))))]) (st' := []) rfl ?_
      refine ez_less [(3, .inl (left)), (2, .inl (more)), (1, .inr (.inr (some (q)))), (0, .inr (.inr (some (770))))] rfl ⟨rfl, rfl, rfl, rfl, trivial⟩ ?_
      have ek : k = cn h := by omega
      rw [ek] at hen
      exact kx g left more hen hmes
    · skip
      refine ez_go (n := 2) (pc' := 35) (L' := [(4, .inl (k)), (3, .inl (left)), (2, .inl (more)), (1, .inr (.inr (some (q)))), (0, .inr (.inr (some (770))))]) (st' := [.inl (k), .inr (.inr (some (q)))]) rfl ?_
      have n4 : 0 ≤ qz_N g q ∧ qz_N g q ≤ 512 := ez_len hBg tq tq_36 rfl
      refine ez_aI hBg tq rfl tq_36 rfl rfl (by omega) (by omega) (fun (b3 : 0 ≤ qz_I g q (k).toNat) (b3' : qz_I g q (k).toNat ≤ 1) => ?_)
      refine ez_if rfl rfl ⟨by first | exact opr.1 | (clear hm1; omega) | exact (sz_i32 _).1, by first | exact opr.2 | (clear hm1; omega) | exact (sz_i32 _).2⟩ (fun (c5 : (qz_I g q (k).toNat) = (0)) => ?_) (fun (c5 : ¬((qz_I g q (k).toNat) = (0))) => ?_)
      · skip
        refine ez_go (n := 4) (pc' := 48) (L' := [(6, .inl (0)), (5, .inl (0)), (4, .inl (k)), (3, .inl (left)), (2, .inl (more)), (1, .inr (.inr (some (q)))), (0, .inr (.inr (some (770))))]) (st' := []) rfl ?_
        obtain ⟨⟨ek1, tl⟩, ⟨l7, l8⟩, cp, vs, F1, ty, hlen, hr⟩ := eg.at (k := k) (by omega) (by omega)
        have t56 := eg.2.2.2.2.2.2 _ tl
        generalize el : qz_P g (bw g) (k).toNat = l at tl l7 l8 ty hlen hr t56
        refine ez_less [(6, .inl (0)), (5, .inl (0)), (4, .inl (k)), (3, .inl (left)), (2, .inl (more)), (1, .inr (.inr (some (q)))), (0, .inr (.inr (some (770))))] rfl ⟨rfl, rfl, rfl, rfl, rfl, rfl, rfl, trivial⟩ ?_
        refine rd_en_j (d := d) eg tq (by rw [nq, ecn]) k0 (by omega) ek1 el tl t56.1 t56.2 l7 l8 hlen hr (fun op hop1 hop => ?_) _ 0 0 rfl (by omega) (by omega) (Or.inl rfl) ⟨fun w => absurd w (by decide), fun ⟨i, w, i1, _⟩ => by omega⟩
        have opr : ez_rg op := by rcases hop1 with w | w <;> rw [w] <;> exact ⟨by decide, by decide⟩
        refine ez_go (n := 1) (pc' := 114) (L' := [(5, .inl (op)), (4, .inl (k)), (3, .inl (left)), (2, .inl (more)), (1, .inr (.inr (some (q)))), (0, .inr (.inr (some (770))))]) (st' := [.inl (op)]) rfl ?_
        refine ez_if rfl rfl ⟨by first | exact opr.1 | (clear hm1; omega) | exact (sz_i32 _).1, by first | exact opr.2 | (clear hm1; omega) | exact (sz_i32 _).2⟩ (fun (c6 : (op) = (0)) => ?_) (fun (c6 : ¬((op) = (0))) => ?_)
        · skip
          refine ez_go (n := 3) (pc' := 124) (L' := [(5, .inl (op)), (4, .inl (k)), (3, .inl (left)), (2, .inl (more)), (1, .inr (.inr (some (q)))), (0, .inr (.inr (some (770))))]) (st' := [.inl (1), .inl (k), .inr (.inr (some (q)))]) rfl ?_
          have n9 : 0 ≤ qz_N g q ∧ qz_N g q ≤ 512 := ez_len hBg tq tq_36 rfl
          refine ez_az hBg tq rfl tq_36 rfl rfl (by omega) (by omega) (by omega) (ez_vdI rfl rfl (by omega) (by omega)) (fun hB7 w8 => ?_)
          refine ez_go (n := 5) (pc' := 23) (L' := [(4, .inl (k + 1)), (2, .inl (1)), (3, .inl (left + (-1))), (5, .inl (op)), (1, .inr (.inr (some (q)))), (0, .inr (.inr (some (770))))]) (st' := []) rfl ?_
          refine ez_less [(4, .inl (k + 1)), (3, .inl (left + (-1))), (2, .inl (1)), (1, .inr (.inr (some (q)))), (0, .inr (.inr (some (770))))] rfl ⟨rfl, rfl, rfl, rfl, rfl, trivial⟩ ?_
          have v1 : qz_I (dz_put g q (k).toNat (ez_v (.inl (1)))) q k.toNat = 1 := w8.trans (rz_rd ⟨by decide, by decide⟩)
          have i1 : ∀ j, j ≠ k.toNat → qz_I (dz_put g q (k).toNat (ez_v (.inl (1)))) q j = qz_I g q j := fun j hj => ez_put_I (fun w => hj w.2)
          have f1 : ez_fr (ez_one q) h (dz_put g q (k).toNat (ez_v (.inl (1)))) := hf.put (show Nat.beq q q = true from Nat.beq_refl q) _ _
          have N1 : qz_N (dz_put g q (k).toNat (ez_v (.inl (1)))) q = cn h := by rw [ez_put_N]; exact nq
          have hB1 := hB7
          generalize (dz_put g q (k).toNat (ez_v (.inl (1)))) = g1 at *
          have D0 : qz_I g q k.toNat = 0 := by omega
          have hs := ndz_set (f := fun i => qz_I g q i) (g := fun i => qz_I g1 q i) (k := k.toNat) D0 (by show qz_I g1 q k.toNat ≠ 0; rw [v1]; decide) i1 (cn h).toNat (by omega)
          rw [← hl] at hs
          have op0 : op ≠ 1 := by clear hop hop1 hm1; omega
          refine ih (k + 1) g1 (left + (-1)) 1 (by clear hop hop1 hm1; omega) (by clear hop hop1 hm1; omega) (by clear hop hop1 hm1; omega) ⟨hB1, f1, N1, by rw [hs]; rfl, fun i hi hD => ?_, Or.inr rfl, fun w => absurd w (by decide)⟩ (by clear hop hop1; rcases hm1 with w | w <;> omega)
          have ez1 : (cn h - (left + (-1)) + 1).toNat = (cn h - left + 1).toNat + 1 := by clear hop hop1 hm1; omega
          rw [ez1]
          by_cases ei : i = k.toNat
          · rw [ei]
            refine Or.inr (Or.inr ⟨cp, vs, by rw [← idc, ← edc]; exact F1, fun v hv => ?_⟩)
            cases hFv : (F v).2 with
            | none => exact az_m (show az F 1 v from Or.inr (Or.inl hFv)) (by clear hop hop1 hm1; omega)
            | some z =>
              obtain ⟨w, w1, w2⟩ := eg.2.2.2.2.2.1 v (by rw [hFv]; intro w; cases w)
              have w3 : qz_I g q w ≠ 0 := fun w3 => op0 (hop.mpr ⟨v, hv, w, w1, w2, w3⟩)
              rw [← w2, edc, idc]
              exact haz w (by rw [← ecn]; exact w1) w3
          · rw [i1 i ei] at hD
            exact az_m (haz i hi hD) (Nat.le_succ _)
        · skip
          refine ez_go (n := 3) (pc' := 23) (L' := [(4, .inl (k + 1)), (5, .inl (op)), (3, .inl (left)), (2, .inl (more)), (1, .inr (.inr (some (q)))), (0, .inr (.inr (some (770))))]) (st' := []) rfl ?_
          refine ez_less [(4, .inl (k + 1)), (3, .inl (left)), (2, .inl (more)), (1, .inr (.inr (some (q)))), (0, .inr (.inr (some (770))))] rfl ⟨rfl, rfl, rfl, rfl, rfl, trivial⟩ ?_
          refine ih (k + 1) g left more (by clear hop hop1; omega) (by clear hop hop1; omega) (by clear hop hop1; omega) ⟨hBg, hf, nq, hl, haz, hm1, fun m0 i hi hD => ?_⟩ hmes
          by_cases ei : i = k.toNat
          · have o1 : op = 1 := hop1.resolve_left (by assumption)
            obtain ⟨v, v1, w, w1, w2, w3⟩ := hop.mp o1
            rw [ei]
            exact ⟨cp, vs, by show (F (qz_I h (dc h) k.toNat)).2 = _; rw [← idc, ← edc]; exact F1, v, v1, w, by rw [← ecn]; exact w1, by show qz_I h (dc h) w = v; rw [← idc, ← edc]; exact w2, w3⟩
          · exact hbl m0 i (by clear hop hop1; omega) hD
      · skip
        refine ez_go (n := 3) (pc' := 23) (L' := [(4, .inl (k + 1)), (3, .inl (left)), (2, .inl (more)), (1, .inr (.inr (some (q)))), (0, .inr (.inr (some (770))))]) (st' := []) rfl ?_
        refine ez_less [(4, .inl (k + 1)), (3, .inl (left)), (2, .inl (more)), (1, .inr (.inr (some (q)))), (0, .inr (.inr (some (770))))] rfl ⟨rfl, rfl, rfl, rfl, rfl, trivial⟩ ?_
        refine ih (k + 1) g left more (by  omega) (by  omega) (by  omega) ⟨hBg, hf, nq, hl, haz, hm1, fun m0 i hi hD => ?_⟩ hmes
        by_cases ei : i = k.toNat
        · rw [ei] at hD; exfalso; omega
        · exact hbl m0 i (by  omega) hD

end EzEo
/-! The model: ends, III. (Written by wip/p2/py/pv93.py.) -/
section EzEp
variable {d : Nat} {h : cz_H} {τ : Nat → Nat} {Q : cz_F → Prop} {F : rz_W} {q : Nat}
theorem rd_en_o (e : eD τ h F) (tq : τ q = 36) (n7 : q ≠ 770) (hh : ∀ i : Nat, (i : Int) < cn h → ¬ hz (qz_I h (dc h) i)) (k1 : (∀ i : Nat, (i : Int) < cn h → az F (cn h + 1).toNat (qz_I h (dc h) i)) → ∀ g, ez_B τ g → ez_fr (ez_one q) h g → Q (.inl (some (ez_v (.inl 1))), g)) (k0 : ¬ uz_S2 F → ∀ g, ez_B τ g → ez_fr (ez_one q) h g → Q (.inl (some (ez_v (.inl 0))), g)) : ∀ (m : Nat) (g : cz_H) (left more : Int), (2 * left + more).toNat ≤ m → enz τ h F q g left more (cn h) → ez_W (d + 1) cm_250 14 [(3, .inl (left)), (2, .inl (more)), (1, .inr (.inr (some (q)))), (0, .inr (.inr (some (770))))] [] g Q := by
  intro m
  induction m with
  | zero =>
    intro g left more hm hen
    obtain ⟨hBg, hf, nq, hl, haz, hm1, hbl⟩ := id hen
    have c01 := e.2.2.1.1
    have lb := ndz_bd (fun i => qz_I g q i) (cn h).toNat
    rw [← hl] at lb
    have mr : ez_rg more := by rcases hm1 with w | w <;> rw [w] <;> exact ⟨by decide, by decide⟩
    refine ez_go (n := 1) (pc' := 15) (L' := [(3, .inl (left)), (2, .inl (more)), (1, .inr (.inr (some (q)))), (0, .inr (.inr (some (770))))]) (st' := [.inl (more)]) rfl ?_
    refine ez_if rfl rfl ⟨by first | exact mr.1 | (clear hm1; omega) | exact (sz_i32 _).1, by first | exact mr.2 | (clear hm1; omega) | exact (sz_i32 _).2⟩ (fun (c1 : (more) = (0)) => ?_) (fun (c1 : ¬((more) = (0))) => ?_)
    · skip
      refine ez_go (n := 1) (pc' := 140) (L' := [(3, .inl (left)), (2, .inl (more)), (1, .inr (.inr (some (q)))), (0, .inr (.inr (some (770))))]) (st' := [.inl (left)]) rfl ?_
      refine ez_if rfl rfl ⟨by first | exact mr.1 | (clear hm1; omega) | exact (sz_i32 _).1, by first | exact mr.2 | (clear hm1; omega) | exact (sz_i32 _).2⟩ (fun (c2 : (left) ≠ (0)) => ?_) (fun (c2 : ¬((left) ≠ (0))) => ?_)
      · skip
        refine ez_go (n := 1) (pc' := 148) (L' := [(3, .inl (left)), (2, .inl (more)), (1, .inr (.inr (some (q)))), (0, .inr (.inr (some (770))))]) (st' := [.inl (0)]) rfl ?_
        have m0 : more = 0 := by assumption
        refine ez_retZ rfl rfl (Or.inl rfl) (k0 (fun hS => ?_) g hBg hf)
        obtain ⟨i, i1, i2⟩ := ndz_ex (f := fun i => qz_I g q i) (n := (cn h).toNat) (by rw [← hl]; clear hm1; omega)
        obtain ⟨-, cp, vs, F1, -⟩ := e.2.2.2.2.1 i (by clear hm1; omega)
        obtain ⟨m2, hm2⟩ := hS (qz_I h (dc h) i) (by rw [F1]; intro w; cases w)
        exact bl_no (F := F) (A := fun i => qz_I h (dc h) i) (D := fun i => qz_I g q i) (n := cn h) (fun j hj hD => hbl m0 j hj hD) hh m2 i (by clear hm1; omega) i2 hm2
      · skip
        refine ez_go (n := 2) (pc' := 148) (L' := [(3, .inl (left)), (2, .inl (more)), (1, .inr (.inr (some (q)))), (0, .inr (.inr (some (770))))]) (st' := [.inl (1)]) rfl ?_
        have m0 : more = 0 := by assumption
        refine ez_retZ rfl rfl (Or.inr rfl) (k1 (fun i hi => ?_) g hBg hf)
        have l0 : left = 0 := by clear hm1; omega
        have D := ndz_zero (f := fun i => qz_I g q i) (cn h).toNat (by rw [← hl]; exact l0) i (by clear hm1; omega)
        have w := haz i hi D
        rw [l0, Int.sub_zero] at w
        exact w
    · skip
      refine ez_go (n := 4) (pc' := 23) (L' := [(4, .inl (0)), (2, .inl (0)), (3, .inl (left)), (1, .inr (.inr (some (q)))), (0, .inr (.inr (some (770))))]) (st' := []) rfl ?_
      exfalso; rcases hm1 with w | w; (· exact absurd w (by assumption)); (· omega)
  | succ m ih =>
    intro g left more hm hen
    obtain ⟨hBg, hf, nq, hl, haz, hm1, hbl⟩ := id hen
    have c01 := e.2.2.1.1
    have lb := ndz_bd (fun i => qz_I g q i) (cn h).toNat
    rw [← hl] at lb
    have mr : ez_rg more := by rcases hm1 with w | w <;> rw [w] <;> exact ⟨by decide, by decide⟩
    refine ez_go (n := 1) (pc' := 15) (L' := [(3, .inl (left)), (2, .inl (more)), (1, .inr (.inr (some (q)))), (0, .inr (.inr (some (770))))]) (st' := [.inl (more)]) rfl ?_
    refine ez_if rfl rfl ⟨by first | exact mr.1 | (clear hm1; omega) | exact (sz_i32 _).1, by first | exact mr.2 | (clear hm1; omega) | exact (sz_i32 _).2⟩ (fun (c1 : (more) = (0)) => ?_) (fun (c1 : ¬((more) = (0))) => ?_)
    · skip
      refine ez_go (n := 1) (pc' := 140) (L' := [(3, .inl (left)), (2, .inl (more)), (1, .inr (.inr (some (q)))), (0, .inr (.inr (some (770))))]) (st' := [.inl (left)]) rfl ?_
      refine ez_if rfl rfl ⟨by first | exact mr.1 | (clear hm1; omega) | exact (sz_i32 _).1, by first | exact mr.2 | (clear hm1; omega) | exact (sz_i32 _).2⟩ (fun (c2 : (left) ≠ (0)) => ?_) (fun (c2 : ¬((left) ≠ (0))) => ?_)
      · skip
        refine ez_go (n := 1) (pc' := 148) (L' := [(3, .inl (left)), (2, .inl (more)), (1, .inr (.inr (some (q)))), (0, .inr (.inr (some (770))))]) (st' := [.inl (0)]) rfl ?_
        have m0 : more = 0 := by assumption
        refine ez_retZ rfl rfl (Or.inl rfl) (k0 (fun hS => ?_) g hBg hf)
        obtain ⟨i, i1, i2⟩ := ndz_ex (f := fun i => qz_I g q i) (n := (cn h).toNat) (by rw [← hl]; clear hm1; omega)
        obtain ⟨-, cp, vs, F1, -⟩ := e.2.2.2.2.1 i (by clear hm1; omega)
        obtain ⟨m2, hm2⟩ := hS (qz_I h (dc h) i) (by rw [F1]; intro w; cases w)
        exact bl_no (F := F) (A := fun i => qz_I h (dc h) i) (D := fun i => qz_I g q i) (n := cn h) (fun j hj hD => hbl m0 j hj hD) hh m2 i (by clear hm1; omega) i2 hm2
      · skip
        refine ez_go (n := 2) (pc' := 148) (L' := [(3, .inl (left)), (2, .inl (more)), (1, .inr (.inr (some (q)))), (0, .inr (.inr (some (770))))]) (st' := [.inl (1)]) rfl ?_
        have m0 : more = 0 := by assumption
        refine ez_retZ rfl rfl (Or.inr rfl) (k1 (fun i hi => ?_) g hBg hf)
        have l0 : left = 0 := by clear hm1; omega
        have D := ndz_zero (f := fun i => qz_I g q i) (cn h).toNat (by rw [← hl]; exact l0) i (by clear hm1; omega)
        have w := haz i hi D
        rw [l0, Int.sub_zero] at w
        exact w
    · skip
      refine ez_go (n := 4) (pc' := 23) (L' := [(4, .inl (0)), (2, .inl (0)), (3, .inl (left)), (1, .inr (.inr (some (q)))), (0, .inr (.inr (some (770))))]) (st' := []) rfl ?_
      refine ez_less [(4, .inl (0)), (3, .inl (left)), (2, .inl (0)), (1, .inr (.inr (some (q)))), (0, .inr (.inr (some (770))))] rfl ⟨rfl, rfl, rfl, rfl, rfl, trivial⟩ ?_
      have m1 : more = 1 := hm1.resolve_left (by assumption)
      exact rd_en_k e tq n7 (left0 := left) (fun g2 left2 more2 hen2 hmes => ih g2 left2 more2 (by rw [m1] at hm; clear hm1; omega) hen2) _ 0 g left 0 rfl (by clear hm1; omega) (by clear hm1; omega) ⟨hBg, hf, nq, hl, haz, Or.inl rfl, fun _ i hi => by omega⟩ (by clear hm1; omega)

theorem rd_ends (e : eD τ h F) (hr1 : h.1 + 1 ≤ 600192) (hr2 : h.2.1 + 512 ≤ 7302232) (hh : ∀ i : Nat, (i : Int) < cn h → ¬ hz (qz_I h (dc h) i)) (k1 : (∀ i : Nat, (i : Int) < cn h → az F (cn h + 1).toNat (qz_I h (dc h) i)) → ∀ g τ1, ez_B τ1 g → ez_xt τ h τ1 g 1 512 → (∀ r, τ r = 0 → τ1 r ≠ 0 → τ1 r = 36) → Q (.inl (some (ez_v (.inl 1))), g)) (k0 : ¬ uz_S2 F → ∀ g τ1, ez_B τ1 g → ez_xt τ h τ1 g 1 512 → (∀ r, τ r = 0 → τ1 r ≠ 0 → τ1 r = 36) → Q (.inl (some (ez_v (.inl 0))), g)) : ez_W (d + 1) cm_250 0 [(0, .inr (.inr (some (770))))] [] h Q := by
  have hB := e.1
  have t770 := e.2.1
  have c01 := e.2.2.1.1
  refine ez_go (n := 1) (pc' := 1) (L' := [(0, .inr (.inr (some (770))))]) (st' := [.inr (.inr (some (770)))]) rfl ?_
  refine ez_gI hB t770 rfl rfl tq_75 rfl rfl (fun (b1 : 0 ≤ qz_I h 770 23) (b1' : qz_I h 770 23 ≤ 512) => ?_)
  refine ez_nA' (t := 36) hB rfl rfl rfl tq_36 rfl rfl (by omega) (by show (0 : Int) ≤ _; omega) (by show _ ≤ (512 : Int); omega) (by omega) (by omega) (by omega) (fun g2 τ2 p2 hB2 x2 o2 t2 z2 e2 N2 y2 => ?_)
  have c2 := x2.2
  have t770n2 := (x2.1 _ (by rw [t770]; decide)).1.trans t770
  refine ez_go (n := 4) (pc' := 10) (L' := [(2, .inl (1)), (1, .inr (.inr (some (p2)))), (0, .inr (.inr (some (770))))]) (st' := [.inr (.inr (some (770)))]) rfl ?_
  refine ez_gI hB2 t770n2 rfl rfl tq_75 rfl rfl (fun (b3 : 0 ≤ qz_I g2 770 23) (b3' : qz_I g2 770 23 ≤ 512) => ?_)
  refine ez_go (n := 1) (pc' := 14) (L' := [(3, .inl (qz_I g2 770 23)), (2, .inl (1)), (1, .inr (.inr (some (p2)))), (0, .inr (.inr (some (770))))]) (st' := []) rfl ?_
  have X2 : ∀ gz, ez_fr (ez_one p2) g2 gz → ez_xt τ h τ2 gz 1 512 := fun gz fz9 => ⟨fun r hr => ⟨(x2.1 r hr).1, by rw [fz9.2.2 r (dz_beq_ne (fun w => by rw [w] at hr; exact hr z2)), (x2.1 r hr).2]⟩, by rw [fz9.1]; exact x2.2.1, by rw [fz9.2.1]; have := x2.2.2; omega⟩
  have T2 : ∀ r, τ r = 0 → τ2 r ≠ 0 → τ2 r = 36 := fun r r0 r1 => by by_cases w : r = p2; (· rw [w]; exact t2); (· rw [o2 r w] at r1; exact absurd r0 r1)
  have t7 : p2 ≠ 770 := fun w => by rw [w, t770] at z2; cases z2
  have f7 : ∀ j, qz_I g2 770 j = qz_I h 770 j := fun j => x2.I (by rw [t770]; decide) j
  have eg : eD τ2 g2 F := e.tr hB2 (fun r hr => (x2.1 r hr).1) (fun r r0 => by by_cases w : r = p2; (· rw [w, t2]; decide); (· rw [o2 r w, r0]; decide)) (fun j _ => f7 j) (fun r hr => (x2.1 r (by omega)).2)
  have ecn : cn g2 = cn h := f7 23
  have edc : dc g2 = dc h := by unfold dc qz_P; rw [f7]
  have idc : ∀ j, qz_I g2 (dc h) j = qz_I h (dc h) j := fun j => x2.I (by rw [(ez_tdb hB t770).1]; decide) j
  have cne : cn h = qz_I h 770 23 := rfl
  rw [show qz_I g2 770 23 = cn g2 from rfl]
  refine ez_less [(3, .inl (cn g2)), (2, .inl (1)), (1, .inr (.inr (some (p2)))), (0, .inr (.inr (some (770))))] rfl ⟨rfl, rfl, rfl, rfl, trivial⟩ ?_
  refine rd_en_o eg t2 t7 (by rw [ecn, edc]; exact fun i hi => by rw [idc]; exact hh i hi) (fun ha gz hBz fz9 => ?_) (fun hs gz hBz fz9 => ?_) _ g2 (cn g2) 1 (Nat.le_refl _) ⟨hB2, ez_fr.refl _ _, by rw [N2, ecn]; rfl, ?_, fun i hi hD => absurd (y2 i) hD, Or.inr rfl, fun w => absurd w (by decide)⟩
  · refine k1 (fun i hi => ?_) gz τ2 hBz ?_ ?_
    · have w := ha i (by rw [ecn]; exact hi); rw [ecn, edc, idc] at w; exact w
    · exact X2 gz fz9
    · exact T2
  · exact k0 hs gz τ2 hBz (X2 gz fz9) T2
  · rw [ndz_all (f := fun i => qz_I g2 p2 i) (cn g2).toNat (fun i _ => y2 i), Int.toNat_of_nonneg (by rw [ecn]; omega)]

end EzEp
