/-! The model: push. (Written by wip/p2/py/pv94.py.) -/
/-- the stack -/
def sk (h : cz_H) : Nat := qz_P h 770 24
def skl (h : cz_H) (j : Int) : Int := qz_I h (sk h) j.toNat
def skn (h : cz_H) : Int := qz_I h 770 25
/-- one number more on the stack, which may be a new one -/
def kq (τ : Nat → Nat) (h : cz_H) (τ1 : Nat → Nat) (g : cz_H) (p : Int) : Prop :=
  (∀ q, τ q ≠ 0 → τ1 q = τ q ∧ (q ≠ 770 → q ≠ sk h → g.2.2 q = h.2.2 q)) ∧ (∀ q, τ q = 0 → τ1 q ≠ 0 → τ1 q = 21) ∧ τ1 (sk g) = 21 ∧
  (∀ j, j ≠ 24 → j ≠ 25 → qz_I g 770 j = qz_I h 770 j) ∧ skn g = skn h + 1 ∧ (∀ j, 0 ≤ j → j < skn h → skl g j = skl h j) ∧ skl g (skn h) = p ∧
  (skn g ≤ qz_N g (sk g) ∧ qz_N h (sk h) ≤ qz_N g (sk g)) ∧ ((g.2.1 : Int) - h.2.1 ≤ 2 * (qz_N g (sk g) - qz_N h (sk h)) ∧ 64 * ((g.1 : Int) - h.1) ≤ qz_N g (sk g) - qz_N h (sk h)) ∧ (h.1 ≤ g.1 ∧ h.2.1 ≤ g.2.1) ∧ (sk g = sk h ∨ τ (sk g) = 0) ∧ ((g.1 ≤ h.1 ∧ qz_N g (sk g) = qz_N h (sk h)) ∨ (g.1 ≤ h.1 + 1 ∧ qz_N g (sk g) = 2 * qz_N h (sk h))) ∧ ∀ q, τ q ≠ 0 → dz_al (g.2.2 q) = dz_al (h.2.2 q)
section EzPu
variable {d : Nat} {h : cz_H} {τ : Nat → Nat} {Q : cz_F → Prop}
theorem rd_push_l {p : Int} {q : Nat} (t770 : τ 770 = 75) (tq : τ q = 21) (tpo : τ (sk h) = 21) (n770 : 770 ≠ q) (npo : sk h ≠ q) (hn : skn h ≤ qz_N h q) (hn2 : skn h ≤ qz_N h (sk h)) (kx : ∀ g, ez_B τ g → ez_fr (ez_one q) h g → qz_N g q = qz_N h q → (∀ j, 0 ≤ j → j < skn h → qz_I g q j.toNat = skl h j) → ez_W d cm_293 46 [(2, .inr (.inr (some (q)))), (0, .inr (.inr (some (770)))), (1, .inl (p))] [] g Q) : ∀ (m : Nat) (i : Int) (g : cz_H), m = (skn h - i).toNat → 0 ≤ i → i ≤ skn h → ez_B τ g → ez_fr (ez_one q) h g → qz_N g q = qz_N h q → (∀ j, 0 ≤ j → j < i → qz_I g q j.toNat = skl h j) → ez_W d cm_293 23 [(3, .inl (i)), (2, .inr (.inr (some (q)))), (0, .inr (.inr (some (770)))), (1, .inl (p))] [] g Q := by
  unfold skl skn at *
  intro m
  induction m with
  | zero =>
    intro i g hm i0 i1 hB hf nq hc
    have f770 : ∀ j, qz_I g 770 j = qz_I h 770 j := fun j => hf.I (dz_beq_ne n770) j
    have ep : qz_P g 770 24 = sk h := by unfold sk qz_P; rw [f770]
    have f10 := f770 25
    have np : qz_N g (sk h) = qz_N h (sk h) := hf.N (dz_beq_ne npo)
    have fpo : ∀ j, qz_I g (sk h) j = qz_I h (sk h) j := fun j => hf.I (dz_beq_ne npo) j
    refine ez_go (n := 2) (pc' := 25) (L' := [(3, .inl (i)), (2, .inr (.inr (some (q)))), (0, .inr (.inr (some (770)))), (1, .inl (p))]) (st' := [.inr (.inr (some (770))), .inl (i)]) rfl ?_
    refine ez_gI hB t770 rfl rfl tq_75 rfl rfl (fun (b1 : 0 ≤ qz_I g 770 25) (b1' : qz_I g 770 25 ≤ 9300) => ?_)
    refine ez_icmp rfl rfl ⟨by first | omega | exact (sz_i32 _).1, by first | omega | exact (sz_i32 _).2⟩ ⟨by first | omega | exact (sz_i32 _).1, by first | omega | exact (sz_i32 _).2⟩ (fun (c2 : (qz_I g 770 25) ≤ (i)) => ?_) (fun (c2 : ¬((qz_I g 770 25) ≤ (i))) => ?_)
    · skip
      refine ez_less [(2, .inr (.inr (some (q)))), (0, .inr (.inr (some (770)))), (1, .inl (p))] rfl ⟨rfl, rfl, rfl, trivial⟩ ?_
      exact kx g hB hf nq (fun j j0 j1 => hc j j0 (by omega))
    · exfalso; omega
  | succ m ih =>
    intro i g hm i0 i1 hB hf nq hc
    have f770 : ∀ j, qz_I g 770 j = qz_I h 770 j := fun j => hf.I (dz_beq_ne n770) j
    have ep : qz_P g 770 24 = sk h := by unfold sk qz_P; rw [f770]
    have f10 := f770 25
    have np : qz_N g (sk h) = qz_N h (sk h) := hf.N (dz_beq_ne npo)
    have fpo : ∀ j, qz_I g (sk h) j = qz_I h (sk h) j := fun j => hf.I (dz_beq_ne npo) j
    refine ez_go (n := 2) (pc' := 25) (L' := [(3, .inl (i)), (2, .inr (.inr (some (q)))), (0, .inr (.inr (some (770)))), (1, .inl (p))]) (st' := [.inr (.inr (some (770))), .inl (i)]) rfl ?_
    refine ez_gI hB t770 rfl rfl tq_75 rfl rfl (fun (b1 : 0 ≤ qz_I g 770 25) (b1' : qz_I g 770 25 ≤ 9300) => ?_)
    refine ez_icmp rfl rfl ⟨by first | omega | exact (sz_i32 _).1, by first | omega | exact (sz_i32 _).2⟩ ⟨by first | omega | exact (sz_i32 _).1, by first | omega | exact (sz_i32 _).2⟩ (fun (c2 : (qz_I g 770 25) ≤ (i)) => ?_) (fun (c2 : ¬((qz_I g 770 25) ≤ (i))) => ?_)
    · exfalso; omega
    · skip
      refine ez_go (n := 3) (pc' := 34) (L' := [(3, .inl (i)), (2, .inr (.inr (some (q)))), (0, .inr (.inr (some (770)))), (1, .inl (p))]) (st' := [.inr (.inr (some (770))), .inl (i), .inr (.inr (some (q)))]) rfl ?_
      refine ez_gR hB t770 rfl rfl tq_75 rfl rfl (fun (t3 : _ = 21) (t3' : 1 ≤ qz_I g 770 24) => ?_)
      rw [ep] at *
      refine ez_go (n := 1) (pc' := 38) (L' := [(3, .inl (i)), (2, .inr (.inr (some (q)))), (0, .inr (.inr (some (770)))), (1, .inl (p))]) (st' := [.inl (i), .inr (.inr (some ((sk h)))), .inl (i), .inr (.inr (some (q)))]) rfl ?_
      have n5 : 64 ≤ qz_N g ((sk h)) ∧ qz_N g ((sk h)) ≤ 18700 := ez_len hB t3 tq_21 rfl
      refine ez_aI hB t3 rfl tq_21 rfl rfl (by omega) (by omega) (fun (b4 : -2147483648 ≤ qz_I g ((sk h)) (i).toNat) (b4' : qz_I g ((sk h)) (i).toNat ≤ 2147483647) => ?_)
      have n8 : 64 ≤ qz_N g q ∧ qz_N g q ≤ 18700 := ez_len hB tq tq_21 rfl
      refine ez_as hB tq rfl tq_21 rfl rfl (by omega) (by omega) (ez_vdI rfl rfl (by omega) (by omega)) (fun hB6 w7 => ?_)
      refine ez_go (n := 2) (pc' := 23) (L' := [(3, .inl (i + 1)), (2, .inr (.inr (some (q)))), (0, .inr (.inr (some (770)))), (1, .inl (p))]) (st' := []) rfl ?_
      refine ez_less [(3, .inl (i + 1)), (2, .inr (.inr (some (q)))), (0, .inr (.inr (some (770)))), (1, .inl (p))] rfl ⟨rfl, rfl, rfl, rfl, trivial⟩ ?_
      refine ih (i + 1) _ (by omega) (by omega) (by omega) hB6 (hf.put (show Nat.beq q q = true from Nat.beq_refl q) _ _) (by rw [ez_put_N]; exact nq) (fun j j0 j1 => ?_)
      by_cases e : j = i
      · rw [e, w7, rz_rd ⟨by omega, by omega⟩, fpo]
      · rw [ez_put_I (by omega)]; exact hc j j0 (by omega)
theorem rd_push_e {p : Int} (hB : ez_B τ h) (t770 : τ 770 = 75) (npo : sk h ≠ 770) (p0 : -2147483648 ≤ p) (p1 : p ≤ 2147483647) (hn : skn h < qz_N h (sk h)) (hm : skn h < 9300) (kx : ∀ g, ez_B τ g → ez_fr (nz_PL (sk h)) h g → sk g = sk h → (∀ j, j ≠ 25 → qz_I g 770 j = qz_I h 770 j) → skn g = skn h + 1 → (∀ j, 0 ≤ j → j < skn h → skl g j = skl h j) → skl g (skn h) = p → qz_N g (sk h) = qz_N h (sk h) → (∀ q, dz_al (g.2.2 q) = dz_al (h.2.2 q)) → Q (.inl none, g)) : ez_W d cm_293 51 [(0, .inr (.inr (some (770)))), (1, .inl (p))] [] h Q := by
  have hn' : qz_I h 770 25 < qz_N h (sk h) := hn
  have hm' : qz_I h 770 25 < 9300 := hm
  refine ez_go (n := 1) (pc' := 52) (L' := [(0, .inr (.inr (some (770)))), (1, .inl (p))]) (st' := [.inr (.inr (some (770)))]) rfl ?_
  refine ez_gR hB t770 rfl rfl tq_75 rfl rfl (fun (t1 : _ = 21) (t1' : 1 ≤ qz_I h 770 24) => ?_)
  rw [show qz_P h 770 24 = sk h from rfl] at *
  refine ez_go (n := 1) (pc' := 56) (L' := [(0, .inr (.inr (some (770)))), (1, .inl (p))]) (st' := [.inr (.inr (some (770))), .inr (.inr (some ((sk h))))]) rfl ?_
  refine ez_gI hB t770 rfl rfl tq_75 rfl rfl (fun (b2 : 0 ≤ qz_I h 770 25) (b2' : qz_I h 770 25 ≤ 9300) => ?_)
  refine ez_go (n := 1) (pc' := 60) (L' := [(0, .inr (.inr (some (770)))), (1, .inl (p))]) (st' := [.inl (p), .inl (qz_I h 770 25), .inr (.inr (some ((sk h))))]) rfl ?_
  have n5 : 64 ≤ qz_N h ((sk h)) ∧ qz_N h ((sk h)) ≤ 18700 := ez_len hB t1 tq_21 rfl
  refine ez_as hB t1 rfl tq_21 rfl rfl (by omega) (by omega) (ez_vdI rfl rfl (by omega) (by omega)) (fun hB3 w4 => ?_)
  refine ez_go (n := 2) (pc' := 63) (L' := [(0, .inr (.inr (some (770)))), (1, .inl (p))]) (st' := [.inr (.inr (some (770))), .inr (.inr (some (770)))]) rfl ?_
  refine ez_gI hB3 t770 rfl rfl tq_75 rfl rfl (fun (b6 : 0 ≤ qz_I (dz_put h ((sk h)) (qz_I h 770 25).toNat (ez_v (.inl (p)))) 770 25) (b6' : qz_I (dz_put h ((sk h)) (qz_I h 770 25).toNat (ez_v (.inl (p)))) 770 25 ≤ 9300) => ?_)
  have hc9 : qz_I (dz_put h ((sk h)) (qz_I h 770 25).toNat (ez_v (.inl (p)))) 770 25 = qz_I h 770 25 := ez_put_I (fun w => npo w.1.symm)
  refine ez_go (n := 2) (pc' := 68) (L' := [(0, .inr (.inr (some (770)))), (1, .inl (p))]) (st' := [.inl ((qz_I (dz_put h ((sk h)) (qz_I h 770 25).toNat (ez_v (.inl (p)))) 770 25) + (1)), .inr (.inr (some (770)))]) rfl ?_
  refine ez_pf hB3 t770 rfl rfl tq_75 rfl rfl rfl rfl (ez_vdI rfl rfl (by omega) (by omega)) (fun hB7 w8 => ?_)
  have ho : sk (dz_put (dz_put h ((sk h)) (qz_I h 770 25).toNat (ez_v (.inl (p)))) 770 25 (ez_v (.inl ((qz_I (dz_put h ((sk h)) (qz_I h 770 25).toNat (ez_v (.inl (p)))) 770 25) + (1))))) = sk h := by show qz_P (dz_put (dz_put h ((sk h)) (qz_I h 770 25).toNat (ez_v (.inl (p)))) 770 25 (ez_v (.inl ((qz_I (dz_put h ((sk h)) (qz_I h 770 25).toNat (ez_v (.inl (p)))) 770 25) + (1))))) 770 24 = sk h; rw [ez_put_P (by omega), ez_put_P (fun w => npo w.1.symm)]; rfl
  refine ez_ret0 rfl rfl (kx _ hB7 ⟨(((ez_fr.refl (nz_PL (sk h)) h).put (by unfold nz_PL; rw [Nat.beq_refl, Bool.or_true]) _ _).put (by unfold nz_PL; rfl) _ _).1, (((ez_fr.refl (nz_PL (sk h)) h).put (by unfold nz_PL; rw [Nat.beq_refl, Bool.or_true]) _ _).put (by unfold nz_PL; rfl) _ _).2.1, (((ez_fr.refl (nz_PL (sk h)) h).put (by unfold nz_PL; rw [Nat.beq_refl, Bool.or_true]) _ _).put (by unfold nz_PL; rfl) _ _).2.2⟩ ho (fun j hj => by rw [ez_put_I (fun w => hj w.2), ez_put_I (fun w => npo w.1.symm)]) (by unfold skn; rw [w8, rz_rd ⟨by omega, by omega⟩, hc9]) (fun j j0 j1 => ?_) ?_ (by rw [ez_put_N, ez_put_N]) (fun q => by rw [qz_put_al, qz_put_al]))
  · unfold skl; rw [ho, ez_put_I (fun w => npo w.1), ez_put_I (by unfold skn at j1; omega)]
  · unfold skl skn; rw [ho, ez_put_I (fun w => npo w.1), w4, rz_rd ⟨by omega, by omega⟩]

theorem rd_push {p : Int} (hB : ez_B τ h) (t770 : τ 770 = 75) (p0 : -2147483648 ≤ p) (p1 : p ≤ 2147483647) (hn : skn h ≤ qz_N h (sk h)) (hm : skn h < 9300) (hr1 : h.1 + 1 ≤ 600192) (hr2 : h.2.1 + 18700 ≤ 7302232) (kx : ∀ g τ1, ez_B τ1 g → kq τ h τ1 g p → Q (.inl none, g)) : ez_W d cm_293 0 [(0, .inr (.inr (some (770)))), (1, .inl (p))] [] h Q := by
  have b9 : 1 ≤ qz_I h 770 24 ∧ qz_I h 770 24 ≤ 1000000 := ez_fB (cl := 11) hB t770 tq_75 rfl rfl (by decide)
  have tpo : τ (sk h) = 21 := (ez_old (cl := 11) (k := 24) hB t770 tq_75 rfl rfl (by decide) (show qz_I h 770 24 = (sk h : Int) + 1 by unfold sk qz_P; omega)).1
  have npo : sk h ≠ 770 := fun e => by rw [e, t770] at tpo; cases tpo
  have hm' : qz_I h 770 25 < 9300 := hm
  have hn' : qz_I h 770 25 ≤ qz_N h (sk h) := hn
  have lpo : 64 ≤ qz_N h (sk h) ∧ qz_N h (sk h) ≤ 18700 := ez_len hB tpo tq_21 rfl
  refine ez_go (n := 1) (pc' := 1) (L' := [(0, .inr (.inr (some (770)))), (1, .inl (p))]) (st' := [.inr (.inr (some (770)))]) rfl ?_
  refine ez_gI hB t770 rfl rfl tq_75 rfl rfl (fun (b1 : 0 ≤ qz_I h 770 25) (b1' : qz_I h 770 25 ≤ 9300) => ?_)
  refine ez_go (n := 1) (pc' := 5) (L' := [(0, .inr (.inr (some (770)))), (1, .inl (p))]) (st' := [.inr (.inr (some (770))), .inl (qz_I h 770 25)]) rfl ?_
  refine ez_gR hB t770 rfl rfl tq_75 rfl rfl (fun (t2 : _ = 21) (t2' : 1 ≤ qz_I h 770 24) => ?_)
  rw [show qz_P h 770 24 = sk h from rfl] at *
  refine ez_al hB t2 rfl tq_21 rfl (fun (b3 : 64 ≤ qz_N h ((sk h))) (b3' : qz_N h ((sk h)) ≤ 18700) => ?_)
  refine ez_icmp rfl rfl ⟨by first | omega | exact (sz_i32 _).1, by first | omega | exact (sz_i32 _).2⟩ ⟨by first | omega | exact (sz_i32 _).1, by first | omega | exact (sz_i32 _).2⟩ (fun (c4 : (qz_I h 770 25) ≠ (qz_N h ((sk h)))) => ?_) (fun (c4 : ¬((qz_I h 770 25) ≠ (qz_N h ((sk h))))) => ?_)
  · skip
    refine ez_less [(0, .inr (.inr (some (770)))), (1, .inl (p))] rfl ⟨rfl, rfl, trivial⟩ ?_
    refine rd_push_e hB t770 npo p0 p1 (by unfold skn; omega) hm (fun g hBg f ho hj hn2 hl hp hN hal => kx g τ hBg ⟨fun q hq => ⟨rfl, fun q1 q2 => f.2.2 q (by unfold nz_PL; rw [dz_beq_ne q1, dz_beq_ne q2]; rfl)⟩, fun q h1 h2 => absurd h1 h2, by rw [ho]; exact tpo, fun j j9 j10 => hj j j10, hn2, hl, hp, ⟨by rw [ho, hN, hn2]; unfold skn; omega, by rw [ho, hN]; exact Int.le_refl _⟩, ⟨by rw [ho, hN, f.2.1]; omega, by rw [ho, hN, f.1]; omega⟩, ⟨by rw [f.1]; exact Nat.le_refl _, by rw [f.2.1]; exact Nat.le_refl _⟩, Or.inl ho, Or.inl ⟨by rw [f.1]; exact Nat.le_refl _, by rw [ho, hN]⟩, fun q _ => hal q⟩)
  · skip
    refine ez_go (n := 2) (pc' := 14) (L' := [(0, .inr (.inr (some (770)))), (1, .inl (p))]) (st' := [.inr (.inr (some (770))), .inl (2)]) rfl ?_
    refine ez_gI hB t770 rfl rfl tq_75 rfl rfl (fun (b5 : 0 ≤ qz_I h 770 25) (b5' : qz_I h 770 25 ≤ 9300) => ?_)
    refine ez_go (n := 1) (pc' := 18) (L' := [(0, .inr (.inr (some (770)))), (1, .inl (p))]) (st' := [.inl ((2) * (qz_I h 770 25))]) rfl ?_
    refine ez_nA' (t := 21) hB rfl rfl rfl tq_21 rfl rfl (by omega) (by show (64 : Int) ≤ _; omega) (by show _ ≤ (18700 : Int); omega) (by omega) (by omega) (by omega) (fun g6 τ6 p6 hB6 x6 o6 t6 z6 e6 N6 y6 => ?_)
    have c6 := x6.2
    have t770n6 := (x6.1 _ (by rw [t770]; decide)).1.trans t770
    have t2n6 := (x6.1 _ (by rw [t2]; decide)).1.trans t2
    have t2n6 := (x6.1 _ (by rw [t2]; decide)).1.trans t2
    have hq770 : 770 ≠ p6 := fun e => by rw [← e, t770] at z6; cases z6
    have hqpo : sk h ≠ p6 := fun e => by rw [← e, tpo] at z6; cases z6
    have f9 : ∀ j, qz_I g6 770 j = qz_I h 770 j := fun j => x6.I (by rw [t770]; decide) j
    have epo : sk g6 = sk h := by unfold sk qz_P; rw [f9]
    have epn : skn g6 = skn h := f9 25
    have epl : ∀ j, skl g6 j = skl h j := fun j => by unfold skl; rw [epo]; exact x6.I (by rw [tpo]; decide) _
    have eN : qz_N g6 (sk h) = qz_N h (sk h) := x6.N (by rw [tpo]; decide)
    refine ez_go (n := 3) (pc' := 23) (L' := [(3, .inl (0)), (2, .inr (.inr (some (p6)))), (0, .inr (.inr (some (770)))), (1, .inl (p))]) (st' := []) rfl ?_
    refine ez_less [(3, .inl (0)), (2, .inr (.inr (some (p6)))), (0, .inr (.inr (some (770)))), (1, .inl (p))] rfl ⟨rfl, rfl, rfl, rfl, trivial⟩ ?_
    have hcN : skn h = qz_N h (sk h) := by unfold skn; omega
    refine rd_push_l (h := g6) t770n6 t6 (by rw [epo]; exact (x6.1 _ (by rw [tpo]; decide)).1.trans tpo) hq770 (by rw [epo]; exact hqpo) (by rw [epn, N6]; unfold skn; omega) (by rw [epn, epo, eN]; omega) (fun g2 hB2 f2 n2 c2 => ?_) _ 0 g6 rfl (by omega) (by rw [epn]; unfold skn; omega) hB6 (ez_fr.refl _ _) rfl (fun j j0 j1 => by omega)
    refine ez_go (n := 2) (pc' := 48) (L' := [(2, .inr (.inr (some (p6)))), (0, .inr (.inr (some (770)))), (1, .inl (p))]) (st' := [.inr (.inr (some (p6))), .inr (.inr (some (770)))]) rfl ?_
    refine ez_pf hB2 t770n6 rfl rfl tq_75 rfl rfl rfl rfl (ez_vdR rfl t6 (by omega) (by omega)) (fun hB7 w8 => ?_)
    refine ez_less [(0, .inr (.inr (some (770)))), (1, .inl (p))] rfl ⟨rfl, rfl, trivial⟩ ?_
    have hpo3 : sk (dz_put g2 770 24 (ez_v (.inr (.inr (some (p6)))))) = p6 := by unfold sk qz_P; rw [w8]; show ((p6 : Int) + 1 - 1).toNat = p6; omega
    have h3j : ∀ j, j ≠ 24 → qz_I (dz_put g2 770 24 (ez_v (.inr (.inr (some (p6)))))) 770 j = qz_I h 770 j := fun j hj => by rw [ez_put_I (fun w => hj w.2), f2.I (dz_beq_ne hq770)]; exact f9 j
    have hpn3 : skn (dz_put g2 770 24 (ez_v (.inr (.inr (some (p6)))))) = skn h := h3j 25 (by decide)
    have hN3 : qz_N (dz_put g2 770 24 (ez_v (.inr (.inr (some (p6)))))) p6 = 2 * skn h := by rw [ez_put_N, n2, N6]; rfl
    have hpl3 : ∀ j, 0 ≤ j → j < skn h → skl (dz_put g2 770 24 (ez_v (.inr (.inr (some (p6)))))) j = skl h j := fun j j0 j1 => by unfold skl; rw [hpo3, ez_put_I (fun w => hq770 w.1.symm), c2 j j0 (by rw [epn]; exact j1), epl]; rfl
    have fr3 : ∀ q, q ≠ 770 → q ≠ p6 → ((dz_put g2 770 24 (ez_v (.inr (.inr (some (p6))))))).2.2 q = g6.2.2 q := fun q h1 h2 => by rw [qz_put_at _ _ _ _ h1, f2.2.2 q (dz_beq_ne h2)]
    have hal3 : ∀ q, τ q ≠ 0 → dz_al (((dz_put g2 770 24 (ez_v (.inr (.inr (some (p6))))))).2.2 q) = dz_al (h.2.2 q) := fun q hq => by rw [qz_put_al, f2.2.2 q (dz_beq_ne (fun e => by rw [e] at hq; exact hq z6)), (x6.1 q hq).2]
    have c31 : ((dz_put g2 770 24 (ez_v (.inr (.inr (some (p6))))))).1 = g6.1 := f2.1
    have c32 : ((dz_put g2 770 24 (ez_v (.inr (.inr (some (p6))))))).2.1 = g6.2.1 := f2.2.1
    have hB3 := hB7
    generalize (dz_put g2 770 24 (ez_v (.inr (.inr (some (p6)))))) = g3 at *
    refine rd_push_e hB3 t770n6 (by rw [hpo3]; exact hq770.symm) p0 p1 (by rw [hpn3, hpo3, hN3]; unfold skn at *; omega) (by rw [hpn3]; exact hm) (fun g4 hB4 f4 ho4 hj4 hn4 hl4 hp4 hN4 hal4 => ?_)
    rw [hpo3] at f4 ho4 hN4
    rw [hpn3] at hn4 hl4 hp4
    have cx := x6.2
    refine kx g4 τ6 hB4 ⟨fun q hq => ⟨(x6.1 q hq).1, fun q1 q2 => ?_⟩, fun q h1 h2 => ?_, by rw [ho4]; exact t6, fun j j9 j10 => (hj4 j j10).trans (h3j j j9), hn4, fun j j0 j1 => (hl4 j j0 j1).trans (hpl3 j j0 j1), hp4, ⟨by rw [ho4, hN4, hN3, hn4]; unfold skn at *; omega, by rw [ho4, hN4, hN3]; omega⟩, ⟨by rw [ho4, hN4, hN3, f4.2.1, c32]; unfold skn at *; omega, by rw [ho4, hN4, hN3, f4.1, c31]; unfold skn at *; omega⟩, ⟨by rw [f4.1, c31]; omega, by rw [f4.2.1, c32]; omega⟩, Or.inr (by rw [ho4]; exact z6), Or.inr ⟨by rw [f4.1, c31]; omega, by rw [ho4, hN4, hN3, hcN]⟩, fun q hq => by rw [hal4 q]; exact hal3 q hq⟩
    · have hqp : q ≠ p6 := fun e => by rw [e, z6] at hq; exact hq rfl
      rw [f4.2.2 q (by unfold nz_PL; rw [dz_beq_ne q1, dz_beq_ne hqp]; rfl), fr3 q q1 hqp, (x6.1 q hq).2]
    · by_cases e : q = p6
      · rw [e]; exact t6
      · rw [o6 q e] at h2; exact absurd h1 h2

end EzPu
/-! The model: what full leaves as it was. -/
/-- the model's cell, and the array of full, keep their shape -/
theorem al7 {τ τ1 : Nat → Nat} {h g : cz_H} (hB : ez_B τ h) (hB1 : ez_B τ1 g) (t770 : τ 770 = 75) (u770 : τ1 770 = 75) : dz_al (g.2.2 770) = dz_al (h.2.2 770) := by
  obtain ⟨-, ti, a2, a3, -⟩ := hB.1 770 (by rw [t770]; decide)
  obtain ⟨-, ti', b2, b3, -⟩ := hB1.1 770 (by rw [u770]; decide)
  rw [t770] at a2
  rw [u770, a2] at b2
  cases b2
  have e0 : ti.1 = 0 := by cases a2; rfl
  revert a3 b3
  unfold dz_sh dz_al
  rcases h.2.2 770 with q | q | q <;> rcases g.2.2 770 with q' | q' | q' <;> intro a3 b3
  · exact absurd (a3.1.symm.trans e0) (by decide)
  · exact absurd (a3.1.symm.trans e0) (by decide)
  · exact absurd (a3.1.symm.trans e0) (by decide)
  · exact absurd (b3.1.symm.trans e0) (by decide)
  · first | rfl | (simp only [a3.2.1, b3.2.1, a3.2.2, b3.2.2])
  · exact absurd (b3.1.symm.trans e0) (by decide)
  · exact absurd (a3.1.symm.trans e0) (by decide)
  · exact absurd (a3.1.symm.trans e0) (by decide)
  · exact absurd (a3.1.symm.trans e0) (by decide)
theorem al82 {τ : Nat → Nat} {h g : cz_H} (hB : ez_B τ h) (hB1 : ez_B τ g) {r : Nat} (e : τ r = 82) : dz_al (g.2.2 r) = dz_al (h.2.2 r) := by
  obtain ⟨-, ti, a2, a3, -⟩ := hB.1 r (by omega)
  obtain ⟨-, ti', b2, b3, -⟩ := hB1.1 r (by omega)
  rw [a2] at b2
  cases b2
  have e0 : ti.1 = 1 ∧ ti.2.2.2.1.1 = 64 ∧ ti.2.2.2.1.2 = 64 := by rw [e] at a2; cases a2; exact ⟨rfl, rfl, rfl⟩
  revert a3 b3
  unfold dz_sh dz_al
  rcases h.2.2 r with q | q | q <;> rcases g.2.2 r with q' | q' | q' <;> intro a3 b3
  · have x1 : q.1 = q'.1 := a3.2.1.trans b3.2.1.symm
    have x2 : q.2.1 = q'.2.1 := by have := a3.2.2; have := b3.2.2; omega
    show Sum.inl (q'.1, q'.2.1) = Sum.inl (q.1, q.2.1)
    rw [x1, x2]
  · exact absurd (b3.1.symm.trans e0.1) (by decide)
  · exact absurd (b3.1.symm.trans e0.1) (by decide)
  · exact absurd (a3.1.symm.trans e0.1) (by decide)
  · exact absurd (a3.1.symm.trans e0.1) (by decide)
  · exact absurd (a3.1.symm.trans e0.1) (by decide)
  · exact absurd (a3.1.symm.trans e0.1) (by decide)
  · exact absurd (a3.1.symm.trans e0.1) (by decide)
  · exact absurd (a3.1.symm.trans e0.1) (by decide)
def ff (τ : Nat → Nat) (h : cz_H) (τ1 : Nat → Nat) (g : cz_H) : Prop :=
  (∀ q, τ q ≠ 0 → τ1 q = τ q ∧ (q ≠ 770 → q ≠ 794 → τ q ≠ 21 → g.2.2 q = h.2.2 q)) ∧ (∀ q, τ q = 0 → τ1 q ≠ 0 → τ1 q = 21) ∧
  (∀ j, j ≠ 24 → j ≠ 25 → qz_I g 770 j = qz_I h 770 j) ∧ qz_N h (sk h) ≤ qz_N g (sk g) ∧ ((g.2.1 : Int) - h.2.1 ≤ 2 * (qz_N g (sk g) - qz_N h (sk h)) ∧ 64 * ((g.1 : Int) - h.1) ≤ qz_N g (sk g) - qz_N h (sk h)) ∧ (h.1 ≤ g.1 ∧ h.2.1 ≤ g.2.1) ∧ (∀ q, τ q ≠ 0 → dz_al (g.2.2 q) = dz_al (h.2.2 q)) ∧ ∃ m : Nat, g.1 ≤ h.1 + m ∧ ((2 ^ m : Nat) : Int) * qz_N h (sk h) ≤ qz_N g (sk g)
theorem ff.refl (τ : Nat → Nat) (h : cz_H) : ff τ h τ h := ⟨fun q _ => ⟨rfl, fun _ _ _ => rfl⟩, fun q h1 h2 => absurd h1 h2, fun _ _ _ => rfl, Int.le_refl _, by omega, ⟨Nat.le_refl _, Nat.le_refl _⟩, fun _ _ => rfl, 0, Nat.le_refl _, by rw [Nat.pow_zero]; omega⟩
theorem ff.trans {τ τ1 τ2 : Nat → Nat} {h g k : cz_H} (a : ff τ h τ1 g) (b : ff τ1 g τ2 k) : ff τ h τ2 k := by
  obtain ⟨a1, a2, a3, a4, a5, a6, a9, m, a7, a8⟩ := a
  obtain ⟨b1, b2, b3, b4, b5, b6, b9, n, b7, b8⟩ := b
  refine ⟨fun q hq => ?_, fun q q0 q1 => ?_, fun j j1 j2 => (b3 j j1 j2).trans (a3 j j1 j2), by omega, by omega, by omega, fun q hq => (b9 q (by rw [(a1 q hq).1]; exact hq)).trans (a9 q hq), m + n, by omega, ?_⟩
  · have y1 := a1 q hq
    have y2 := b1 q (by rw [y1.1]; exact hq)
    exact ⟨y2.1.trans y1.1, fun q1 q2 q3 => (y2.2 q1 q2 (by rw [y1.1]; exact q3)).trans (y1.2 q1 q2 q3)⟩
  · by_cases e : τ1 q = 0
    · exact b2 q e q1
    · rw [(b1 q e).1]; exact a2 q q0 e
  · refine Int.le_trans ?_ b8
    rw [Nat.add_comm m n, Nat.pow_add, Int.natCast_mul, Int.mul_assoc]
    exact Int.mul_le_mul_of_nonneg_left a8 (Int.natCast_nonneg _)
theorem ff.kq {τ τ1 : Nat → Nat} {h g : cz_H} {p : Int} (b : kq τ h τ1 g p) (ts : τ (sk h) = 21) : ff τ h τ1 g := by
  obtain ⟨b1, b2, b3, b4, b5, b6, b7, b8, b9, b10, b11⟩ := b
  refine ⟨fun q hq => ⟨(b1 q hq).1, fun q1 _ q3 => (b1 q hq).2 q1 (fun e => by rw [e] at q3; exact q3 ts)⟩, b2, b4, b8.2, b9, b10, b11.2.2, ?_⟩
  rcases b11.2.1 with w | w
  · exact ⟨0, by omega, by rw [Nat.pow_zero]; omega⟩
  · exact ⟨1, by omega, by rw [Nat.pow_one]; omega⟩
theorem ez_tsk {τ : Nat → Nat} {h : cz_H} (hB : ez_B τ h) (t770 : τ 770 = 75) : τ (sk h) = 21 := by
  have b1 : 1 ≤ qz_I h 770 24 ∧ qz_I h 770 24 ≤ 1000000 := ez_fB (cl := 11) hB t770 tq_75 rfl rfl (by decide)
  exact (ez_old (cl := 11) (k := 24) hB t770 tq_75 rfl rfl (by decide) (show qz_I h 770 24 = (sk h : Int) + 1 by unfold sk qz_P; omega)).1
/-- the number of points on the stack -/
theorem ff.n25 {τ : Nat → Nat} {h g : cz_H} (hB : ez_B τ h) (hB1 : ez_B τ g) (t770 : τ 770 = 75) (f : ez_fr (ez_one 770) h g) (i : ∀ j, j ≠ 25 → qz_I g 770 j = qz_I h 770 j) (ts : sk h ≠ 770) : ff τ h τ g := by
  have e : sk g = sk h := by unfold sk qz_P; rw [i 24 (by decide)]
  have eN : qz_N g (sk h) = qz_N h (sk h) := f.N (dz_beq_ne ts)
  exact ⟨fun q _ => ⟨rfl, fun q1 _ _ => f.2.2 q (dz_beq_ne q1)⟩, fun q h1 h2 => absurd h1 h2, fun j _ j2 => i j j2, by rw [e, eN]; exact Int.le_refl _, by rw [e, eN, f.1, f.2.1]; omega, ⟨by rw [f.1]; exact Nat.le_refl _, by rw [f.2.1]; exact Nat.le_refl _⟩, fun q _ => by by_cases w : q = 770; (· rw [w]; exact al7 hB hB1 t770 t770); (· rw [f.2.2 q (dz_beq_ne w)]), 0, by rw [f.1]; exact Nat.le_refl _, by rw [e, eN, Nat.pow_zero]; omega⟩
theorem ff.b794 {τ : Nat → Nat} {h g : cz_H} (hB : ez_B τ h) (hB1 : ez_B τ g) (t794 : τ 794 = 82) (f : ez_fr (ez_one 794) h g) (ts : sk h ≠ 794) : ff τ h τ g := by
  have i7 : ∀ j, qz_I g 770 j = qz_I h 770 j := fun j => f.I rfl j
  have e : sk g = sk h := by unfold sk qz_P; rw [i7 24]
  have eN : qz_N g (sk h) = qz_N h (sk h) := f.N (dz_beq_ne ts)
  exact ⟨fun q _ => ⟨rfl, fun _ q2 _ => f.2.2 q (dz_beq_ne q2)⟩, fun q h1 h2 => absurd h1 h2, fun j _ _ => i7 j, by rw [e, eN]; exact Int.le_refl _, by rw [e, eN, f.1, f.2.1]; omega, ⟨by rw [f.1]; exact Nat.le_refl _, by rw [f.2.1]; exact Nat.le_refl _⟩, fun q _ => by by_cases w : q = 794; (· rw [w]; exact al82 hB hB1 t794); (· rw [f.2.2 q (dz_beq_ne w)]), 0, by rw [f.1]; exact Nat.le_refl _, by rw [e, eN, Nat.pow_zero]; omega⟩
theorem ff.eDx {τ τ1 : Nat → Nat} {h g : cz_H} {F : rz_W} (a : ff τ h τ1 g) (e : eD τ h F) (t794 : τ 794 = 82) (hB : ez_B τ1 g) : eD τ1 g F := by
  refine e.tr hB (fun q hq => (a.1 q hq).1) (fun q q0 w => ?_) (fun j hj => a.2.2.1 j (by omega) (by omega)) (fun q hq => (a.1 q (by omega)).2 (fun w => by rw [w, e.2.1] at hq; omega) (fun w => by rw [w, t794] at hq; omega) (by omega))
  have := a.2.1 q q0 (by rw [w]; decide)
  omega
/-- the stack, and the points that are out -/
def fu (τ : Nat → Nat) (h : cz_H) (τ1 : Nat → Nat) (g : cz_H) (S B : List Int) : Prop :=
  ez_B τ1 g ∧ ff τ h τ1 g ∧ (skn g = (S.length : Int) ∧ skn g ≤ qz_N g (sk g)) ∧ (∀ (j : Nat) v, S[j]? = some v → skl g (j : Int) = v) ∧ ∀ (j : Nat) v, B[j]? = some v → qz_I g 794 j = v
theorem fu.push {τ τ1 τ2 : Nat → Nat} {h g g2 : cz_H} {S B : List Int} {v : Int} (a : fu τ h τ1 g S B) (b : kq τ1 g τ2 g2 v) (hB : ez_B τ2 g2) (t770 : τ1 770 = 75) (t794 : τ1 794 = 82) : fu τ h τ2 g2 (S ++ [v]) B := by
  obtain ⟨a1, a2, ⟨a3, a4⟩, a5, a6⟩ := a
  have ts := ez_tsk a1 t770
  have f := ff.kq b ts
  obtain ⟨b1, b2, b3, b4, b5, b6, b7, b8, b9, b10, b11⟩ := b
  refine ⟨hB, a2.trans f, ⟨by rw [b5, a3, List.length_append]; rfl, b8.1⟩, fun j w hj => ?_, fun j w hj => ?_⟩
  · by_cases e : j < S.length
    · rw [List.getElem?_append_left e] at hj
      rw [b6 _ (by omega) (by omega)]; exact a5 j w hj
    · rw [List.getElem?_append_right (by omega)] at hj
      have hl := (List.getElem?_eq_some_iff.mp hj).1
      have e0 : j - S.length = 0 := by simp at hl; omega
      rw [e0] at hj
      cases hj
      rw [show (j : Int) = skn g by omega]; exact b7
  · have e : qz_I g2 794 j = qz_I g 794 j := by unfold qz_I; rw [(b1 794 (by rw [t794]; decide)).2 (by decide) (fun w => by rw [w, ts] at t794; cases t794)]
    rw [e]; exact a6 j w hj
theorem fu.pop {τ τ1 : Nat → Nat} {h g g2 : cz_H} {S B : List Int} {v : Int} (a : fu τ h τ1 g (S ++ [v]) B) (hB : ez_B τ1 g2) (t770 : τ1 770 = 75) (f : ez_fr (ez_one 770) g g2) (i : ∀ j, j ≠ 25 → qz_I g2 770 j = qz_I g 770 j) (hs : skn g2 = skn g - 1) : fu τ h τ1 g2 S B ∧ skl g2 (skn g2) = v := by
  obtain ⟨a1, a2, ⟨a3, a4⟩, a5, a6⟩ := a
  have ts := ez_tsk a1 t770
  have n7 : sk g ≠ 770 := fun e => by rw [e, t770] at ts; cases ts
  have e : sk g2 = sk g := by unfold sk qz_P; rw [i 24 (by decide)]
  have eN : qz_N g2 (sk g) = qz_N g (sk g) := f.N (dz_beq_ne n7)
  have el : ∀ j, skl g2 j = skl g j := fun j => by unfold skl; rw [e, f.I (dz_beq_ne n7)]
  have ln : ((S ++ [v]).length : Int) = (S.length : Int) + 1 := by rw [List.length_append]; rfl
  refine ⟨⟨hB, a2.trans (ff.n25 a1 hB t770 f i n7), ⟨by omega, by rw [e, eN]; omega⟩, fun j w hj => ?_, fun j w hj => by rw [f.I rfl]; exact a6 j w hj⟩, ?_⟩
  · rw [el]; exact a5 j w (by rw [List.getElem?_append_left (List.getElem?_eq_some_iff.mp hj).1]; exact hj)
  · rw [el, hs, show skn g - 1 = ((S.length : Nat) : Int) by omega]
    exact a5 S.length v (by rw [List.getElem?_append_right (Nat.le_refl _), Nat.sub_self]; rfl)
theorem fu.out {τ τ1 : Nat → Nat} {h g g2 : cz_H} {S B : List Int} {v : Int} (a : fu τ h τ1 g S B) (hB : ez_B τ1 g2) (t770 : τ1 770 = 75) (t794 : τ1 794 = 82) (f : ez_fr (ez_one 794) g g2) (i : ∀ j, j ≠ B.length → qz_I g2 794 j = qz_I g 794 j) (hv : qz_I g2 794 B.length = v) : fu τ h τ1 g2 S (B ++ [v]) := by
  obtain ⟨a1, a2, ⟨a3, a4⟩, a5, a6⟩ := a
  have ts := ez_tsk a1 t770
  have n7 : sk g ≠ 794 := fun e => by rw [e, t794] at ts; cases ts
  have i7 : ∀ j, qz_I g2 770 j = qz_I g 770 j := fun j => f.I rfl j
  have e : sk g2 = sk g := by unfold sk qz_P; rw [i7 24]
  have eN : qz_N g2 (sk g) = qz_N g (sk g) := f.N (dz_beq_ne n7)
  have el : ∀ j, skl g2 j = skl g j := fun j => by unfold skl; rw [e, f.I (dz_beq_ne n7)]
  have en : skn g2 = skn g := i7 25
  refine ⟨hB, a2.trans (ff.b794 a1 hB t794 f n7), ⟨by omega, by rw [e, eN]; omega⟩, fun j w hj => by rw [el]; exact a5 j w hj, fun j w hj => ?_⟩
  by_cases e : j < B.length
  · rw [List.getElem?_append_left e] at hj
    rw [i j (by omega)]; exact a6 j w hj
  · rw [List.getElem?_append_right (by omega)] at hj
    have hl := (List.getElem?_eq_some_iff.mp hj).1
    have e0 : j - B.length = 0 := by simp at hl; omega
    rw [e0] at hj
    cases hj
    rw [show j = B.length by omega]; exact hv
theorem ff.m8 {τ τ1 : Nat → Nat} {h g : cz_H} (a : ff τ h τ1 g) (h1 : 64 ≤ qz_N h (sk h)) (h2 : qz_N g (sk g) ≤ 18700) : g.1 ≤ h.1 + 8 := by
  obtain ⟨m, m1, m2⟩ := a.2.2.2.2.2.2.2
  have hm : m < 9 := Classical.byContradiction fun w => by
    have h9 : 2 ^ 9 ≤ 2 ^ m := Nat.pow_le_pow_right (by decide) (by omega)
    have h9 : (512 : Nat) ≤ 2 ^ m := h9
    have h10 : ((512 : Nat) : Int) * qz_N h (sk h) ≤ ((2 ^ m : Nat) : Int) * qz_N h (sk h) := Int.mul_le_mul_of_nonneg_right (by exact_mod_cast h9) (by omega)
    have : ((512 : Nat) : Int) = 512 := rfl
    rw [this] at h10
    omega
  omega
theorem ff.dcx {τ τ1 : Nat → Nat} {h g : cz_H} {F : rz_W} (a : ff τ h τ1 g) (e : eD τ h F) (t794 : τ 794 = 82) : cn g = cn h ∧ ∀ j, qz_I g (dc g) j = qz_I h (dc h) j := by
  have td := ez_tdb e.1 e.2.1
  have ed : dc g = dc h := by unfold dc qz_P; rw [a.2.2.1 21 (by decide) (by decide)]
  refine ⟨a.2.2.1 23 (by decide) (by decide), fun j => ?_⟩
  rw [ed]
  unfold qz_I
  rw [(a.1 (dc h) (by rw [td.1]; decide)).2 (fun w => by have t := td.1; rw [w, e.2.1] at t; cases t) (fun w => by have t := td.1; rw [w, t794] at t; cases t) (by rw [td.1]; decide)]
theorem drop_rev {vs : List Int} {k : Nat} {v : Int} (h : vs[k]? = some v) : (vs.drop k).reverse = (vs.drop (k + 1)).reverse ++ [v] := by
  obtain ⟨hl, he⟩ := List.getElem?_eq_some_iff.mp h
  rw [List.drop_eq_getElem_cons hl, List.reverse_cons, he]
/-! The model: full. (Written by wip/p2/py/pv95.py.) -/
section EzFu
variable {d : Nat} {h : cz_H} {τ : Nat → Nat} {Q : cz_F → Prop} {F : rz_W} {p c : Int}
theorem rd_full_p {S B vs : List Int} {n x cp : Int} {w : Nat} (e : eD τ h F) (t794 : τ 794 = 82) (hr1 : h.1 + 100 ≤ 600192) (hr2 : h.2.1 + 60000 ≤ 7302232) (w1 : (w : Int) < cn h) (hw : qz_I h (dc h) w = x) (hF : (F x).2 = some (cp, vs)) (hv9 : vs.length ≤ 18) (hS : S.length + 18 ≤ 9300) (kx : ∀ g τ1, fu τ h τ1 g (S ++ vs.reverse) B → ez_W (d + 1) cm_261 12 [(3, .inl (n)), (0, .inr (.inr (some (770)))), (1, .inl (p)), (2, .inl (c))] [] g Q) : ∀ (m : Nat) (k : Int) (g : cz_H) (τ1 : Nat → Nat), m = (k + 1).toNat → -1 ≤ k → k < (vs.length : Int) → fu τ h τ1 g (S ++ (vs.drop (k + 1).toNat).reverse) B → ez_W (d + 1) cm_261 196 [(6, .inl (k)), (5, .inl ((w : Int))), (3, .inl (n)), (0, .inr (.inr (some (770)))), (1, .inl (p)), (2, .inl (c))] [] g Q := by
  intro m
  induction m with
  | zero =>
    intro k g τ1 hm k0 k1 hfu
    have hBg := hfu.1
    have eg := hfu.2.1.eDx e t794 hBg
    have dcx := hfu.2.1.dcx e t794
    have u770 : τ1 770 = 75 := eg.2.1
    have u794 : τ1 794 = 82 := (hfu.2.1.1 794 (by rw [t794]; decide)).1.trans t794
    have rr := hfu.2.2
    have ts := ez_tsk hBg u770
    have lsk : qz_N g (sk g) ≤ 18700 := (ez_len hBg ts tq_21 rfl).2
    have fr5 := hfu.2.1.2.2.2.2
    have sn3 := hfu.2.2.1.1
    have sn4 := hfu.2.2.1.2
    have n0 := qz_N_nn h (sk h)
    have c500 := e.2.2.1.1
    have lb0 : 64 ≤ qz_N h (sk h) := (ez_len e.1 (ez_tsk e.1 e.2.1) tq_21 rfl).1
    have m8 := hfu.2.1.m8 lb0 lsk
    obtain ⟨⟨ek1, tl⟩, ⟨l7, l8⟩, cp', vs', F1', ty, hlen, hr⟩ := eg.at (k := (w : Int)) (by omega) (by rw [dcx.1]; omega)
    rw [Int.toNat_natCast, dcx.2 w, hw, hF] at F1'
    cases F1'
    have t56 := eg.2.2.2.2.2.2 _ tl
    generalize el : qz_P g (bw g) ((w : Int)).toNat = l at tl l7 l8 ty hlen hr t56
    have hlen1 : qz_I g (l + 2) (0 : Int).toNat = (vs.length : Int) := hlen.1
    have hlen2 : qz_I g (l + 1) (0 : Int).toNat + (vs.length : Int) ≤ pn g := hlen.2.1
    have hlen3 : 0 ≤ qz_I g (l + 1) (0 : Int).toNat := hlen.2.2
    have cnp := eg.2.2.1.2.2.2
    have cnb := eg.2.2.1.2.2.1
    have td := ez_tdb eg.1 eg.2.1
    have tt := ez_tls eg.1 eg.2.1
    have sl9 : ((S ++ (vs.drop (k + 1).toNat).reverse).length : Int) ≤ (S.length : Int) + (vs.length : Int) - (k + 1) := by rw [List.length_append, List.length_reverse, List.length_drop]; omega
    refine ez_go (n := 1) (pc' := 198) (L' := [(6, .inl (k)), (5, .inl ((w : Int))), (3, .inl (n)), (0, .inr (.inr (some (770)))), (1, .inl (p)), (2, .inl (c))]) (st' := [.inl (k)]) rfl ?_
    refine ez_if rfl rfl ⟨by first | omega | exact (sz_i32 _).1, by first | omega | exact (sz_i32 _).2⟩ (fun (c1 : (k) < (0)) => ?_) (fun (c1 : ¬((k) < (0))) => ?_)
    · skip
      refine ez_go (n := 2) (pc' := 12) (L' := [(6, .inl (k)), (5, .inl ((w : Int))), (3, .inl (n)), (0, .inr (.inr (some (770)))), (1, .inl (p)), (2, .inl (c))]) (st' := []) rfl ?_
      refine ez_less [(3, .inl (n)), (0, .inr (.inr (some (770)))), (1, .inl (p)), (2, .inl (c))] rfl ⟨rfl, rfl, rfl, rfl, trivial⟩ ?_
      have e0 : (k + 1).toNat = 0 := by omega
      rw [e0, List.drop_zero] at hfu
      exact kx g τ1 hfu
    · skip
      refine ez_go (n := 2) (pc' := 203) (L' := [(6, .inl (k)), (5, .inl ((w : Int))), (3, .inl (n)), (0, .inr (.inr (some (770)))), (1, .inl (p)), (2, .inl (c))]) (st' := [.inr (.inr (some (770))), .inr (.inr (some (770)))]) rfl ?_
      refine ez_gR hBg u770 rfl rfl tq_75 rfl rfl (fun (t2 : _ = 17) (t2' : 1 ≤ qz_I g 770 9) => ?_)
      rw [show qz_P g 770 9 = po g from rfl]
      refine ez_go (n := 1) (pc' := 207) (L' := [(6, .inl (k)), (5, .inl ((w : Int))), (3, .inl (n)), (0, .inr (.inr (some (770)))), (1, .inl (p)), (2, .inl (c))]) (st' := [.inr (.inr (some (770))), .inr (.inr (some ((po g)))), .inr (.inr (some (770)))]) rfl ?_
      refine ez_gR hBg u770 rfl rfl tq_75 rfl rfl (fun (t3 : _ = 20) (t3' : 1 ≤ qz_I g 770 22) => ?_)
      rw [show qz_P g 770 22 = bw g from rfl]
      refine ez_go (n := 1) (pc' := 212) (L' := [(6, .inl (k)), (5, .inl ((w : Int))), (3, .inl (n)), (0, .inr (.inr (some (770)))), (1, .inl (p)), (2, .inl (c))]) (st' := [.inl ((w : Int)), .inr (.inr (some ((bw g)))), .inr (.inr (some ((po g)))), .inr (.inr (some (770)))]) rfl ?_
      have n5 : 64 ≤ qz_N g ((bw g)) ∧ qz_N g ((bw g)) ≤ 4096 := ez_len hBg td.2 tq_20 rfl
      have y6 : 1 ≤ qz_I g ((bw g)) ((w : Int)).toNat := ek1
      have y7 : 0 ≤ qz_I g ((bw g)) ((w : Int)).toNat ∧ qz_I g ((bw g)) ((w : Int)).toNat ≤ 1000000 := ez_aB hBg td.2 tq_20 rfl rfl (by decide) (by omega) (by omega)
      have y7' : ((qz_P g ((bw g)) ((w : Int)).toNat : Nat) : Int) + 1 = qz_I g ((bw g)) ((w : Int)).toNat := by unfold qz_P; omega
      refine ez_aR hBg td.2 rfl tq_20 rfl rfl (by omega) (by omega) (by omega) (fun (t4 : _ = 13) => ?_)
      rw [el]
      refine ez_gR hBg tl rfl rfl tq_13 rfl rfl (fun (t8 : _ = 15) (t8' : 1 ≤ qz_I g l 7) => ?_)
      rw [l7]
      refine ez_go (n := 1) (pc' := 217) (L' := [(6, .inl (k)), (5, .inl ((w : Int))), (3, .inl (n)), (0, .inr (.inr (some (770)))), (1, .inl (p)), (2, .inl (c))]) (st' := [.inl (0), .inr (.inr (some ((l + 1)))), .inr (.inr (some ((po g)))), .inr (.inr (some (770)))]) rfl ?_
      have n10 : 3 ≤ qz_N g ((l + 1)) ∧ qz_N g ((l + 1)) ≤ 3 := ez_len hBg t56.1 tq_15 rfl
      refine ez_aI hBg t56.1 rfl tq_15 rfl rfl (by omega) (by omega) (fun (b9 : 0 ≤ qz_I g ((l + 1)) (0 : Int).toNat) (b9' : qz_I g ((l + 1)) (0 : Int).toNat ≤ 38500) => ?_)
      refine ez_go (n := 2) (pc' := 221) (L' := [(6, .inl (k)), (5, .inl ((w : Int))), (3, .inl (n)), (0, .inr (.inr (some (770)))), (1, .inl (p)), (2, .inl (c))]) (st' := [.inl ((qz_I g ((l + 1)) (0 : Int).toNat) + (k)), .inr (.inr (some ((po g)))), .inr (.inr (some (770)))]) rfl ?_
      have n12 : 1024 ≤ qz_N g ((po g)) ∧ qz_N g ((po g)) ≤ 77100 := ez_len hBg tt.2 tq_17 rfl
      refine ez_aI hBg tt.2 rfl tq_17 rfl rfl (by omega) (by omega) (fun (b11 : -2147483648 ≤ qz_I g ((po g)) ((qz_I g ((l + 1)) (0 : Int).toNat) + (k)).toNat) (b11' : qz_I g ((po g)) ((qz_I g ((l + 1)) (0 : Int).toNat) + (k)).toNat ≤ 2147483647) => ?_)
      obtain ⟨v, hv⟩ : ∃ v, vs[k.toNat]? = some v := ⟨_, List.getElem?_eq_getElem (show k.toNat < vs.length by omega)⟩
      have ev : qz_I g ((po g)) ((qz_I g ((l + 1)) (0 : Int).toNat) + (k)).toNat = v := by have w9 := hr k.toNat v hv; rw [Int.toNat_of_nonneg (by omega)] at w9; exact w9
      have vb : ez_rg v := by rw [← ev]; exact ⟨by omega, by omega⟩
      rw [ev]
      refine ez_cv hBg u770 rfl rfl rfl tq_75 rfl rfl rfl (rd_push hBg u770 vb.1 vb.2 sn4 (by omega) (by omega) (by omega) (fun g2 τ2 hB2 k2 => ez_K0 ?_))
      have f2 := hfu.push k2 hB2 u770 u794
      refine ez_go (n := 2) (pc' := 196) (L' := [(6, .inl (k + (-1))), (5, .inl ((w : Int))), (3, .inl (n)), (0, .inr (.inr (some (770)))), (1, .inl (p)), (2, .inl (c))]) (st' := []) rfl ?_
      exfalso; omega
  | succ m ih =>
    intro k g τ1 hm k0 k1 hfu
    have hBg := hfu.1
    have eg := hfu.2.1.eDx e t794 hBg
    have dcx := hfu.2.1.dcx e t794
    have u770 : τ1 770 = 75 := eg.2.1
    have u794 : τ1 794 = 82 := (hfu.2.1.1 794 (by rw [t794]; decide)).1.trans t794
    have rr := hfu.2.2
    have ts := ez_tsk hBg u770
    have lsk : qz_N g (sk g) ≤ 18700 := (ez_len hBg ts tq_21 rfl).2
    have fr5 := hfu.2.1.2.2.2.2
    have sn3 := hfu.2.2.1.1
    have sn4 := hfu.2.2.1.2
    have n0 := qz_N_nn h (sk h)
    have c500 := e.2.2.1.1
    have lb0 : 64 ≤ qz_N h (sk h) := (ez_len e.1 (ez_tsk e.1 e.2.1) tq_21 rfl).1
    have m8 := hfu.2.1.m8 lb0 lsk
    obtain ⟨⟨ek1, tl⟩, ⟨l7, l8⟩, cp', vs', F1', ty, hlen, hr⟩ := eg.at (k := (w : Int)) (by omega) (by rw [dcx.1]; omega)
    rw [Int.toNat_natCast, dcx.2 w, hw, hF] at F1'
    cases F1'
    have t56 := eg.2.2.2.2.2.2 _ tl
    generalize el : qz_P g (bw g) ((w : Int)).toNat = l at tl l7 l8 ty hlen hr t56
    have hlen1 : qz_I g (l + 2) (0 : Int).toNat = (vs.length : Int) := hlen.1
    have hlen2 : qz_I g (l + 1) (0 : Int).toNat + (vs.length : Int) ≤ pn g := hlen.2.1
    have hlen3 : 0 ≤ qz_I g (l + 1) (0 : Int).toNat := hlen.2.2
    have cnp := eg.2.2.1.2.2.2
    have cnb := eg.2.2.1.2.2.1
    have td := ez_tdb eg.1 eg.2.1
    have tt := ez_tls eg.1 eg.2.1
    have sl9 : ((S ++ (vs.drop (k + 1).toNat).reverse).length : Int) ≤ (S.length : Int) + (vs.length : Int) - (k + 1) := by rw [List.length_append, List.length_reverse, List.length_drop]; omega
    refine ez_go (n := 1) (pc' := 198) (L' := [(6, .inl (k)), (5, .inl ((w : Int))), (3, .inl (n)), (0, .inr (.inr (some (770)))), (1, .inl (p)), (2, .inl (c))]) (st' := [.inl (k)]) rfl ?_
    refine ez_if rfl rfl ⟨by first | omega | exact (sz_i32 _).1, by first | omega | exact (sz_i32 _).2⟩ (fun (c1 : (k) < (0)) => ?_) (fun (c1 : ¬((k) < (0))) => ?_)
    · skip
      refine ez_go (n := 2) (pc' := 12) (L' := [(6, .inl (k)), (5, .inl ((w : Int))), (3, .inl (n)), (0, .inr (.inr (some (770)))), (1, .inl (p)), (2, .inl (c))]) (st' := []) rfl ?_
      refine ez_less [(3, .inl (n)), (0, .inr (.inr (some (770)))), (1, .inl (p)), (2, .inl (c))] rfl ⟨rfl, rfl, rfl, rfl, trivial⟩ ?_
      have e0 : (k + 1).toNat = 0 := by omega
      rw [e0, List.drop_zero] at hfu
      exact kx g τ1 hfu
    · skip
      refine ez_go (n := 2) (pc' := 203) (L' := [(6, .inl (k)), (5, .inl ((w : Int))), (3, .inl (n)), (0, .inr (.inr (some (770)))), (1, .inl (p)), (2, .inl (c))]) (st' := [.inr (.inr (some (770))), .inr (.inr (some (770)))]) rfl ?_
      refine ez_gR hBg u770 rfl rfl tq_75 rfl rfl (fun (t2 : _ = 17) (t2' : 1 ≤ qz_I g 770 9) => ?_)
      rw [show qz_P g 770 9 = po g from rfl]
      refine ez_go (n := 1) (pc' := 207) (L' := [(6, .inl (k)), (5, .inl ((w : Int))), (3, .inl (n)), (0, .inr (.inr (some (770)))), (1, .inl (p)), (2, .inl (c))]) (st' := [.inr (.inr (some (770))), .inr (.inr (some ((po g)))), .inr (.inr (some (770)))]) rfl ?_
      refine ez_gR hBg u770 rfl rfl tq_75 rfl rfl (fun (t3 : _ = 20) (t3' : 1 ≤ qz_I g 770 22) => ?_)
      rw [show qz_P g 770 22 = bw g from rfl]
      refine ez_go (n := 1) (pc' := 212) (L' := [(6, .inl (k)), (5, .inl ((w : Int))), (3, .inl (n)), (0, .inr (.inr (some (770)))), (1, .inl (p)), (2, .inl (c))]) (st' := [.inl ((w : Int)), .inr (.inr (some ((bw g)))), .inr (.inr (some ((po g)))), .inr (.inr (some (770)))]) rfl ?_
      have n5 : 64 ≤ qz_N g ((bw g)) ∧ qz_N g ((bw g)) ≤ 4096 := ez_len hBg td.2 tq_20 rfl
      have y6 : 1 ≤ qz_I g ((bw g)) ((w : Int)).toNat := ek1
      have y7 : 0 ≤ qz_I g ((bw g)) ((w : Int)).toNat ∧ qz_I g ((bw g)) ((w : Int)).toNat ≤ 1000000 := ez_aB hBg td.2 tq_20 rfl rfl (by decide) (by omega) (by omega)
      have y7' : ((qz_P g ((bw g)) ((w : Int)).toNat : Nat) : Int) + 1 = qz_I g ((bw g)) ((w : Int)).toNat := by unfold qz_P; omega
      refine ez_aR hBg td.2 rfl tq_20 rfl rfl (by omega) (by omega) (by omega) (fun (t4 : _ = 13) => ?_)
      rw [el]
      refine ez_gR hBg tl rfl rfl tq_13 rfl rfl (fun (t8 : _ = 15) (t8' : 1 ≤ qz_I g l 7) => ?_)
      rw [l7]
      refine ez_go (n := 1) (pc' := 217) (L' := [(6, .inl (k)), (5, .inl ((w : Int))), (3, .inl (n)), (0, .inr (.inr (some (770)))), (1, .inl (p)), (2, .inl (c))]) (st' := [.inl (0), .inr (.inr (some ((l + 1)))), .inr (.inr (some ((po g)))), .inr (.inr (some (770)))]) rfl ?_
      have n10 : 3 ≤ qz_N g ((l + 1)) ∧ qz_N g ((l + 1)) ≤ 3 := ez_len hBg t56.1 tq_15 rfl
      refine ez_aI hBg t56.1 rfl tq_15 rfl rfl (by omega) (by omega) (fun (b9 : 0 ≤ qz_I g ((l + 1)) (0 : Int).toNat) (b9' : qz_I g ((l + 1)) (0 : Int).toNat ≤ 38500) => ?_)
      refine ez_go (n := 2) (pc' := 221) (L' := [(6, .inl (k)), (5, .inl ((w : Int))), (3, .inl (n)), (0, .inr (.inr (some (770)))), (1, .inl (p)), (2, .inl (c))]) (st' := [.inl ((qz_I g ((l + 1)) (0 : Int).toNat) + (k)), .inr (.inr (some ((po g)))), .inr (.inr (some (770)))]) rfl ?_
      have n12 : 1024 ≤ qz_N g ((po g)) ∧ qz_N g ((po g)) ≤ 77100 := ez_len hBg tt.2 tq_17 rfl
      refine ez_aI hBg tt.2 rfl tq_17 rfl rfl (by omega) (by omega) (fun (b11 : -2147483648 ≤ qz_I g ((po g)) ((qz_I g ((l + 1)) (0 : Int).toNat) + (k)).toNat) (b11' : qz_I g ((po g)) ((qz_I g ((l + 1)) (0 : Int).toNat) + (k)).toNat ≤ 2147483647) => ?_)
      obtain ⟨v, hv⟩ : ∃ v, vs[k.toNat]? = some v := ⟨_, List.getElem?_eq_getElem (show k.toNat < vs.length by omega)⟩
      have ev : qz_I g ((po g)) ((qz_I g ((l + 1)) (0 : Int).toNat) + (k)).toNat = v := by have w9 := hr k.toNat v hv; rw [Int.toNat_of_nonneg (by omega)] at w9; exact w9
      have vb : ez_rg v := by rw [← ev]; exact ⟨by omega, by omega⟩
      rw [ev]
      refine ez_cv hBg u770 rfl rfl rfl tq_75 rfl rfl rfl (rd_push hBg u770 vb.1 vb.2 sn4 (by omega) (by omega) (by omega) (fun g2 τ2 hB2 k2 => ez_K0 ?_))
      have f2 := hfu.push k2 hB2 u770 u794
      refine ez_go (n := 2) (pc' := 196) (L' := [(6, .inl (k + (-1))), (5, .inl ((w : Int))), (3, .inl (n)), (0, .inr (.inr (some (770)))), (1, .inl (p)), (2, .inl (c))]) (st' := []) rfl ?_
      refine ez_less [(6, .inl (k + (-1))), (5, .inl ((w : Int))), (3, .inl (n)), (0, .inr (.inr (some (770)))), (1, .inl (p)), (2, .inl (c))] rfl ⟨rfl, rfl, rfl, rfl, rfl, rfl, trivial⟩ ?_
      refine ih (k + (-1)) g2 τ2 (by omega) (by omega) (by omega) ?_
      have e1 : (k + (-1) + 1).toNat = k.toNat := by omega
      rw [e1, drop_rev hv, ← List.append_assoc, show k.toNat + 1 = (k + 1).toNat by omega]; exact f2

theorem rd_full_1 {g : cz_H} {τ1 : Nat → Nat} {S B : List Int} {x : Int} (e : eD τ h F) (t794 : τ 794 = 82) (hr1 : h.1 + 100 ≤ 600192) (hr2 : h.2.1 + 60000 ≤ 7302232) (cr : ez_rg c) (hS : S.length + 18 ≤ 9300) (hB40 : B.length ≤ 40) (hfu : fu τ h τ1 g (S ++ [x]) B) (kH : hz x → ∀ g τ1, fu τ h τ1 g S (B ++ hz_sy x) → (B ++ hz_sy x).length ≤ 40 → ez_W (d + 2) cm_261 12 [(3, .inl (((B ++ hz_sy x).length : Int))), (0, .inr (.inr (some (770)))), (1, .inl (p)), (2, .inl (c))] [] g Q) (kL : ¬ hz x → ((F x).2 = none ∨ ∃ cp vs, (F x).2 = some (cp, vs) ∧ ¬ (c ≠ 0 ∨ cp = 0)) → ∀ g τ1, fu τ h τ1 g S (B ++ [x]) → (B ++ [x]).length ≤ 40 → ez_W (d + 2) cm_261 12 [(3, .inl (((B ++ [x]).length : Int))), (0, .inr (.inr (some (770)))), (1, .inl (p)), (2, .inl (c))] [] g Q) (kR : ¬ hz x → ∀ cp vs, (F x).2 = some (cp, vs) → (c ≠ 0 ∨ cp = 0) → vs.length ≤ 18 → ∀ g τ1, fu τ h τ1 g (S ++ vs.reverse) B → ez_W (d + 2) cm_261 12 [(3, .inl ((B.length : Int))), (0, .inr (.inr (some (770)))), (1, .inl (p)), (2, .inl (c))] [] g Q) (k41H : hz x → 40 < B.length + (hz_sy x).length → ∀ g τ1, ez_B τ1 g → ff τ h τ1 g → skn g ≤ qz_N g (sk g) → Q (.inl (some (ez_v (.inl 41))), g)) (k41L : ¬ hz x → ((F x).2 = none ∨ ∃ cp vs, (F x).2 = some (cp, vs) ∧ ¬ (c ≠ 0 ∨ cp = 0)) → 40 ≤ B.length → ∀ g τ1, ez_B τ1 g → ff τ h τ1 g → skn g ≤ qz_N g (sk g) → Q (.inl (some (ez_v (.inl 41))), g)) : ez_W (d + 2) cm_261 12 [(3, .inl ((B.length : Int))), (0, .inr (.inr (some (770)))), (1, .inl (p)), (2, .inl (c))] [] g Q := by
  obtain ⟨cr0, cr1⟩ := id cr
  have hBg := hfu.1
  have eg := hfu.2.1.eDx e t794 hBg
  have dcx := hfu.2.1.dcx e t794
  have u770 : τ1 770 = 75 := eg.2.1
  have u794 : τ1 794 = 82 := (hfu.2.1.1 794 (by rw [t794]; decide)).1.trans t794
  have rr := hfu.2.2
  have ts := ez_tsk hBg u770
  have lsk : qz_N g (sk g) ≤ 18700 := (ez_len hBg ts tq_21 rfl).2
  have fr5 := hfu.2.1.2.2.2.2
  have sn3 := hfu.2.2.1.1
  have sn4 := hfu.2.2.1.2
  have n0 := qz_N_nn h (sk h)
  have c500 := e.2.2.1.1
  have lb0 : 64 ≤ qz_N h (sk h) := (ez_len e.1 (ez_tsk e.1 e.2.1) tq_21 rfl).1
  have m8 := hfu.2.1.m8 lb0 lsk
  have ln9 : ((S ++ [x]).length : Int) = (S.length : Int) + 1 := by rw [List.length_append]; rfl
  have skd : skn g = qz_I g 770 25 := rfl
  have hl2 : (hz_sy x).length = if (x - 44032) % 28 = 0 then 2 else 3 := by unfold hz_sy; split <;> rfl
  refine ez_go (n := 1) (pc' := 13) (L' := [(3, .inl ((B.length : Int))), (0, .inr (.inr (some (770)))), (1, .inl (p)), (2, .inl (c))]) (st' := [.inr (.inr (some (770)))]) rfl ?_
  refine ez_gI hBg u770 rfl rfl tq_75 rfl rfl (fun (b1 : 0 ≤ qz_I g 770 25) (b1' : qz_I g 770 25 ≤ 9300) => ?_)
  refine ez_if rfl rfl ⟨by first | omega | exact (sz_i32 _).1, by first | omega | exact (sz_i32 _).2⟩ (fun (c2 : (qz_I g 770 25) ≤ (0)) => ?_) (fun (c2 : ¬((qz_I g 770 25) ≤ (0))) => ?_)
  · exfalso; omega
  · skip
    refine ez_go (n := 2) (pc' := 21) (L' := [(3, .inl ((B.length : Int))), (0, .inr (.inr (some (770)))), (1, .inl (p)), (2, .inl (c))]) (st' := [.inr (.inr (some (770))), .inr (.inr (some (770)))]) rfl ?_
    refine ez_gI hBg u770 rfl rfl tq_75 rfl rfl (fun (b3 : 0 ≤ qz_I g 770 25) (b3' : qz_I g 770 25 ≤ 9300) => ?_)
    refine ez_go (n := 2) (pc' := 26) (L' := [(3, .inl ((B.length : Int))), (0, .inr (.inr (some (770)))), (1, .inl (p)), (2, .inl (c))]) (st' := [.inl ((qz_I g 770 25) - (1)), .inr (.inr (some (770)))]) rfl ?_
    refine ez_pf hBg u770 rfl rfl tq_75 rfl rfl rfl rfl (ez_vdI rfl rfl (by omega) (by omega)) (fun hB4 w5 => ?_)
    have vP : qz_I (dz_put g 770 25 (ez_v (.inl ((qz_I g 770 25) - (1))))) 770 25 = qz_I g 770 25 - 1 := w5.trans (rz_rd ⟨by omega, by omega⟩)
    have iP : ∀ j, j ≠ 25 → qz_I (dz_put g 770 25 (ez_v (.inl ((qz_I g 770 25) - (1))))) 770 j = qz_I g 770 j := fun j hj => ez_put_I (fun w => hj w.2)
    have fP : ez_fr (ez_one 770) g (dz_put g 770 25 (ez_v (.inl ((qz_I g 770 25) - (1))))) := (ez_fr.refl (ez_one 770) g).put rfl _ _
    have hP := hB4
    generalize (dz_put g 770 25 (ez_v (.inl ((qz_I g 770 25) - (1))))) = g1 at *
    have cP1 := fP.1; have cP2 := fP.2.1
    obtain ⟨fu1, hx1⟩ := hfu.pop hP u770 fP iP vP
    have eg1 := fu1.2.1.eDx e t794 hP
    have dcx := fu1.2.1.dcx e t794
    have sn31 := fu1.2.2.1.1
    have sn41 := fu1.2.2.1.2
    have ts1 := ez_tsk hP u770
    have sd1 : skn g1 = qz_I g1 770 25 := rfl
    have esk : sk g1 = sk g := by unfold sk qz_P; rw [iP 24 (by decide)]
    have eN1 : qz_N g1 (sk g1) = qz_N g (sk g) := by rw [esk]; exact fP.N (dz_beq_ne (fun e => by rw [e, u770] at ts; cases ts))
    refine ez_go (n := 1) (pc' := 30) (L' := [(3, .inl ((B.length : Int))), (0, .inr (.inr (some (770)))), (1, .inl (p)), (2, .inl (c))]) (st' := [.inr (.inr (some (770)))]) rfl ?_
    refine ez_gR hP u770 rfl rfl tq_75 rfl rfl (fun (t6 : _ = 21) (t6' : 1 ≤ qz_I g1 770 24) => ?_)
    rw [show qz_P g1 770 24 = sk g1 from rfl]
    refine ez_go (n := 1) (pc' := 34) (L' := [(3, .inl ((B.length : Int))), (0, .inr (.inr (some (770)))), (1, .inl (p)), (2, .inl (c))]) (st' := [.inr (.inr (some (770))), .inr (.inr (some ((sk g1))))]) rfl ?_
    refine ez_gI hP u770 rfl rfl tq_75 rfl rfl (fun (b7 : 0 ≤ qz_I g1 770 25) (b7' : qz_I g1 770 25 ≤ 9300) => ?_)
    have n9 : 64 ≤ qz_N g1 ((sk g1)) ∧ qz_N g1 ((sk g1)) ≤ 18700 := ez_len hP ts1 tq_21 rfl
    refine ez_aI hP ts1 rfl tq_21 rfl rfl (by omega) (by omega) (fun (b8 : -2147483648 ≤ qz_I g1 ((sk g1)) (qz_I g1 770 25).toNat) (b8' : qz_I g1 ((sk g1)) (qz_I g1 770 25).toNat ≤ 2147483647) => ?_)
    have ex : qz_I g1 ((sk g1)) (qz_I g1 770 25).toNat = x := hx1
    have xb : ez_rg x := by rw [← ex]; exact ⟨by omega, by omega⟩
    rw [ex]
    refine ez_go (n := 3) (pc' := 43) (L' := [(4, .inl (x)), (3, .inl ((B.length : Int))), (0, .inr (.inr (some (770)))), (1, .inl (p)), (2, .inl (c))]) (st' := [.inl (x), .inr (.inr (some (770)))]) rfl ?_
    refine ez_cv hP u770 rfl rfl rfl tq_75 rfl rfl rfl (rd_where' eg1 xb (fun w hw ew => ez_K1 ?_) (fun hno => ez_K1 ?_))
    · skip
      rw [dcx.1] at hw; rw [dcx.2] at ew
      obtain ⟨-, cp, vs, hF, -⟩ := e.2.2.2.2.1 w hw
      rw [ew] at hF
      have eg := eg1
      have hw9 := hw
      have hw := ew
      obtain ⟨⟨ek1, tl⟩, ⟨l7, l8⟩, cp', vs', F1', ty, hlen, hr⟩ := eg.at (k := (w : Int)) (by omega) (by rw [dcx.1]; exact hw9)
      rw [Int.toNat_natCast, dcx.2 w, hw, hF] at F1'
      cases F1'
      have t56 := eg.2.2.2.2.2.2 _ tl
      generalize el : qz_P g1 (bw g1) ((w : Int)).toNat = l at tl l7 l8 ty hlen hr t56
      have hlen1 : qz_I g1 (l + 2) (0 : Int).toNat = (vs.length : Int) := hlen.1
      have hlen2 : qz_I g1 (l + 1) (0 : Int).toNat + (vs.length : Int) ≤ pn g1 := hlen.2.1
      have hlen3 : 0 ≤ qz_I g1 (l + 1) (0 : Int).toNat := hlen.2.2
      have cnp := eg.2.2.1.2.2.2
      have cnb := eg.2.2.1.2.2.1
      have td := ez_tdb eg.1 eg.2.1
      have tt := ez_tls eg.1 eg.2.1
      refine ez_go (n := 3) (pc' := 51) (L' := [(5, .inl ((w : Int))), (4, .inl (x)), (3, .inl ((B.length : Int))), (0, .inr (.inr (some (770)))), (1, .inl (p)), (2, .inl (c))]) (st' := [.inl (x), .inr (.inr (some (770)))]) rfl ?_
      refine ez_cv hP u770 rfl rfl rfl tq_75 rfl rfl rfl (rd_hangul xb (fun hh => ez_K1 ?_) (fun hh => ez_K1 ?_))
      · skip
        have hh2 := hh; unfold hz at hh2
        refine ez_if rfl rfl ⟨by decide, by decide⟩ (fun (c10 : (1 : Int) = (0)) => absurd c10 (by decide)) (fun _ => ?_)
        refine ez_go (n := 1) (pc' := 59) (L' := [(5, .inl ((w : Int))), (4, .inl (x)), (3, .inl ((B.length : Int))), (0, .inr (.inr (some (770)))), (1, .inl (p)), (2, .inl (c))]) (st' := [.inl (x)]) rfl ?_
        refine ez_ldcV (44032) rfl rfl rfl ?_
        refine ez_go (n := 5) (pc' := 70) (L' := [(6, .inl ((x) - (44032))), (5, .inl ((w : Int))), (4, .inl (x)), (3, .inl ((B.length : Int))), (0, .inr (.inr (some (770)))), (1, .inl (p)), (2, .inl (c))]) (st' := [.inl (28), .inl ((x) - (44032)), .inl ((B.length : Int))]) rfl ?_
        refine ez_rem rfl (by omega) (by omega) (by omega) (by omega) ?_
        refine ez_if rfl rfl ⟨by first | omega | exact (sz_i32 _).1, by first | omega | exact (sz_i32 _).2⟩ (fun (c11 : (((x) - (44032)) % (28)) ≤ (0)) => ?_) (fun (c11 : ¬((((x) - (44032)) % (28)) ≤ (0))) => ?_)
        · skip
          refine ez_go (n := 3) (pc' := 82) (L' := [(6, .inl ((x) - (44032))), (5, .inl ((w : Int))), (4, .inl (x)), (3, .inl ((B.length : Int))), (0, .inr (.inr (some (770)))), (1, .inl (p)), (2, .inl (c))]) (st' := [.inl (40), .inl (((B.length : Int)) + (2))]) rfl ?_
          refine ez_icmp rfl rfl ⟨by first | omega | exact (sz_i32 _).1, by first | omega | exact (sz_i32 _).2⟩ ⟨by first | omega | exact (sz_i32 _).1, by first | omega | exact (sz_i32 _).2⟩ (fun (c12 : (((B.length : Int)) + (2)) ≤ (40)) => ?_) (fun (c12 : ¬((((B.length : Int)) + (2)) ≤ (40))) => ?_)
          · skip
            refine ez_go (n := 1) (pc' := 89) (L' := [(6, .inl ((x) - (44032))), (5, .inl ((w : Int))), (4, .inl (x)), (3, .inl ((B.length : Int))), (0, .inr (.inr (some (770)))), (1, .inl (p)), (2, .inl (c))]) (st' := [.inr (.inr (some (770)))]) rfl ?_
            refine ez_gC (p := 794) (tg := 82) hP u770 rfl rfl tq_75 rfl rfl (fun (t794 : _ = 82) => ?_)
            refine ez_go (n := 4) (pc' := 101) (L' := [(6, .inl ((x) - (44032))), (5, .inl ((w : Int))), (4, .inl (x)), (3, .inl ((B.length : Int))), (0, .inr (.inr (some (770)))), (1, .inl (p)), (2, .inl (c))]) (st' := [.inl (588), .inl ((x) - (44032)), .inl (4352), .inl ((B.length : Int)), .inr (.inr (some (794)))]) rfl ?_
            refine ez_div rfl (by omega) (by omega) (by omega) (by omega) ?_
            refine ez_go (n := 1) (pc' := 103) (L' := [(6, .inl ((x) - (44032))), (5, .inl ((w : Int))), (4, .inl (x)), (3, .inl ((B.length : Int))), (0, .inr (.inr (some (770)))), (1, .inl (p)), (2, .inl (c))]) (st' := [.inl ((4352) + (((x) - (44032)) / (588))), .inl ((B.length : Int)), .inr (.inr (some (794)))]) rfl ?_
            have n15 : 64 ≤ qz_N g1 794 ∧ qz_N g1 794 ≤ 64 := ez_len hP t794 tq_82 rfl
            refine ez_as hP t794 rfl tq_82 rfl rfl (by omega) (by omega) (ez_vdI rfl rfl (by omega) (by omega)) (fun hB13 w14 => ?_)
            have fO1 : ez_fr (ez_one 794) g1 (dz_put g1 794 ((B.length : Int)).toNat (ez_v (.inl ((4352) + (((x) - (44032)) / (588)))))) := (ez_fr.refl (ez_one 794) g1).put rfl _ _
            have lO1 : (B).length = ((B.length : Int)).toNat := by (try simp only [List.length_append, List.length_cons, List.length_nil]); omega
            have vO1 : qz_I (dz_put g1 794 ((B.length : Int)).toNat (ez_v (.inl ((4352) + (((x) - (44032)) / (588)))))) 794 (B).length = 4352 + (x - 44032) / 588 := by rw [lO1]; exact w14.trans (rz_rd ⟨by omega, by omega⟩)
            have iO1 : ∀ j, j ≠ (B).length → qz_I (dz_put g1 794 ((B.length : Int)).toNat (ez_v (.inl ((4352) + (((x) - (44032)) / (588)))))) 794 j = qz_I g1 794 j := fun j hj => ez_put_I (fun w => hj (w.2.trans lO1.symm))
            have hO1 := hB13
            generalize (dz_put g1 794 ((B.length : Int)).toNat (ez_v (.inl ((4352) + (((x) - (44032)) / (588)))))) = o1 at *
            have cO11 := fO1.1; have cO12 := fO1.2.1
            have fv1 := fu1.out hO1 u770 u794 fO1 iO1 vO1
            refine ez_go (n := 1) (pc' := 105) (L' := [(6, .inl ((x) - (44032))), (5, .inl ((w : Int))), (4, .inl (x)), (3, .inl ((B.length : Int))), (0, .inr (.inr (some (770)))), (1, .inl (p)), (2, .inl (c))]) (st' := [.inr (.inr (some (770)))]) rfl ?_
            refine ez_gC (p := 794) (tg := 82) hO1 u770 rfl rfl tq_75 rfl rfl (fun (t794 : _ = 82) => ?_)
            refine ez_go (n := 6) (pc' := 119) (L' := [(6, .inl ((x) - (44032))), (5, .inl ((w : Int))), (4, .inl (x)), (3, .inl ((B.length : Int))), (0, .inr (.inr (some (770)))), (1, .inl (p)), (2, .inl (c))]) (st' := [.inl (588), .inl ((x) - (44032)), .inl (4449), .inl (((B.length : Int)) + (1)), .inr (.inr (some (794)))]) rfl ?_
            refine ez_rem rfl (by omega) (by omega) (by omega) (by omega) ?_
            refine ez_go (n := 1) (pc' := 122) (L' := [(6, .inl ((x) - (44032))), (5, .inl ((w : Int))), (4, .inl (x)), (3, .inl ((B.length : Int))), (0, .inr (.inr (some (770)))), (1, .inl (p)), (2, .inl (c))]) (st' := [.inl (28), .inl (((x) - (44032)) % (588)), .inl (4449), .inl (((B.length : Int)) + (1)), .inr (.inr (some (794)))]) rfl ?_
            refine ez_div rfl (by omega) (by omega) (by omega) (by omega) ?_
            refine ez_go (n := 1) (pc' := 124) (L' := [(6, .inl ((x) - (44032))), (5, .inl ((w : Int))), (4, .inl (x)), (3, .inl ((B.length : Int))), (0, .inr (.inr (some (770)))), (1, .inl (p)), (2, .inl (c))]) (st' := [.inl ((4449) + ((((x) - (44032)) % (588)) / (28))), .inl (((B.length : Int)) + (1)), .inr (.inr (some (794)))]) rfl ?_
            have n18 : 64 ≤ qz_N o1 794 ∧ qz_N o1 794 ≤ 64 := ez_len hO1 t794 tq_82 rfl
            refine ez_as hO1 t794 rfl tq_82 rfl rfl (by omega) (by omega) (ez_vdI rfl rfl (by omega) (by omega)) (fun hB16 w17 => ?_)
            have fO2 : ez_fr (ez_one 794) o1 (dz_put o1 794 (((B.length : Int)) + (1)).toNat (ez_v (.inl ((4449) + ((((x) - (44032)) % (588)) / (28)))))) := (ez_fr.refl (ez_one 794) o1).put rfl _ _
            have lO2 : (B ++ [4352 + (x - 44032) / 588]).length = ((B.length : Int) + 1).toNat := by (try simp only [List.length_append, List.length_cons, List.length_nil]); omega
            have vO2 : qz_I (dz_put o1 794 (((B.length : Int)) + (1)).toNat (ez_v (.inl ((4449) + ((((x) - (44032)) % (588)) / (28)))))) 794 (B ++ [4352 + (x - 44032) / 588]).length = 4449 + (x - 44032) % 588 / 28 := by rw [lO2]; exact w17.trans (rz_rd ⟨by omega, by omega⟩)
            have iO2 : ∀ j, j ≠ (B ++ [4352 + (x - 44032) / 588]).length → qz_I (dz_put o1 794 (((B.length : Int)) + (1)).toNat (ez_v (.inl ((4449) + ((((x) - (44032)) % (588)) / (28)))))) 794 j = qz_I o1 794 j := fun j hj => ez_put_I (fun w => hj (w.2.trans lO2.symm))
            have hO2 := hB16
            generalize (dz_put o1 794 (((B.length : Int)) + (1)).toNat (ez_v (.inl ((4449) + ((((x) - (44032)) % (588)) / (28)))))) = o2 at *
            have cO21 := fO2.1; have cO22 := fO2.2.1
            have fv2 := fv1.out hO2 u770 u794 fO2 iO2 vO2
            refine ez_go (n := 3) (pc' := 132) (L' := [(3, .inl ((B.length : Int) + 2)), (6, .inl ((x) - (44032))), (5, .inl ((w : Int))), (4, .inl (x)), (0, .inr (.inr (some (770)))), (1, .inl (p)), (2, .inl (c))]) (st' := [.inl (28), .inl ((x) - (44032))]) rfl ?_
            refine ez_rem rfl (by omega) (by omega) (by omega) (by omega) ?_
            refine ez_if rfl rfl ⟨by first | omega | exact (sz_i32 _).1, by first | omega | exact (sz_i32 _).2⟩ (fun (c19 : (((x) - (44032)) % (28)) ≤ (0)) => ?_) (fun (c19 : ¬((((x) - (44032)) % (28)) ≤ (0))) => ?_)
            · skip
              refine ez_go (n := 2) (pc' := 12) (L' := [(3, .inl ((B.length : Int) + 2)), (6, .inl ((x) - (44032))), (5, .inl ((w : Int))), (4, .inl (x)), (0, .inr (.inr (some (770)))), (1, .inl (p)), (2, .inl (c))]) (st' := []) rfl ?_
              have hsy : hz_sy x = [4352 + (x - 44032) / 588, 4449 + (x - 44032) % 588 / 28] := by unfold hz_sy; rw [if_pos (by omega)]
              have hap : B ++ hz_sy x = B ++ [4352 + (x - 44032) / 588] ++ [4449 + (x - 44032) % 588 / 28] := by rw [hsy]; simp
              have hln : (B ++ hz_sy x).length = B.length + 2 := by rw [List.length_append, hsy]; rfl
              rw [show (B.length : Int) + 2 = ((B ++ hz_sy x).length : Int) by rw [hln]; omega]
              refine ez_less [(3, .inl (((B ++ hz_sy x).length : Int))), (0, .inr (.inr (some (770)))), (1, .inl (p)), (2, .inl (c))] rfl ⟨rfl, rfl, rfl, rfl, trivial⟩ ?_
              exact kH hh o2 τ1 (by rw [hap]; exact fv2) (by rw [hln]; omega)
            · skip
              refine ez_go (n := 1) (pc' := 137) (L' := [(3, .inl ((B.length : Int) + 2)), (6, .inl ((x) - (44032))), (5, .inl ((w : Int))), (4, .inl (x)), (0, .inr (.inr (some (770)))), (1, .inl (p)), (2, .inl (c))]) (st' := [.inr (.inr (some (770)))]) rfl ?_
              refine ez_gC (p := 794) (tg := 82) hO2 u770 rfl rfl tq_75 rfl rfl (fun (t794 : _ = 82) => ?_)
              refine ez_go (n := 4) (pc' := 148) (L' := [(3, .inl ((B.length : Int) + 2)), (6, .inl ((x) - (44032))), (5, .inl ((w : Int))), (4, .inl (x)), (0, .inr (.inr (some (770)))), (1, .inl (p)), (2, .inl (c))]) (st' := [.inl (28), .inl ((x) - (44032)), .inl (4519), .inl ((B.length : Int) + 2), .inr (.inr (some (794)))]) rfl ?_
              refine ez_rem rfl (by omega) (by omega) (by omega) (by omega) ?_
              refine ez_go (n := 1) (pc' := 150) (L' := [(3, .inl ((B.length : Int) + 2)), (6, .inl ((x) - (44032))), (5, .inl ((w : Int))), (4, .inl (x)), (0, .inr (.inr (some (770)))), (1, .inl (p)), (2, .inl (c))]) (st' := [.inl ((4519) + (((x) - (44032)) % (28))), .inl ((B.length : Int) + 2), .inr (.inr (some (794)))]) rfl ?_
              have n22 : 64 ≤ qz_N o2 794 ∧ qz_N o2 794 ≤ 64 := ez_len hO2 t794 tq_82 rfl
              refine ez_as hO2 t794 rfl tq_82 rfl rfl (by omega) (by omega) (ez_vdI rfl rfl (by omega) (by omega)) (fun hB20 w21 => ?_)
              have fO3 : ez_fr (ez_one 794) o2 (dz_put o2 794 ((B.length : Int) + 2).toNat (ez_v (.inl ((4519) + (((x) - (44032)) % (28)))))) := (ez_fr.refl (ez_one 794) o2).put rfl _ _
              have lO3 : (B ++ [4352 + (x - 44032) / 588] ++ [4449 + (x - 44032) % 588 / 28]).length = ((B.length : Int) + 2).toNat := by (try simp only [List.length_append, List.length_cons, List.length_nil]); omega
              have vO3 : qz_I (dz_put o2 794 ((B.length : Int) + 2).toNat (ez_v (.inl ((4519) + (((x) - (44032)) % (28)))))) 794 (B ++ [4352 + (x - 44032) / 588] ++ [4449 + (x - 44032) % 588 / 28]).length = 4519 + (x - 44032) % 28 := by rw [lO3]; exact w21.trans (rz_rd ⟨by omega, by omega⟩)
              have iO3 : ∀ j, j ≠ (B ++ [4352 + (x - 44032) / 588] ++ [4449 + (x - 44032) % 588 / 28]).length → qz_I (dz_put o2 794 ((B.length : Int) + 2).toNat (ez_v (.inl ((4519) + (((x) - (44032)) % (28)))))) 794 j = qz_I o2 794 j := fun j hj => ez_put_I (fun w => hj (w.2.trans lO3.symm))
              have hO3 := hB20
              generalize (dz_put o2 794 ((B.length : Int) + 2).toNat (ez_v (.inl ((4519) + (((x) - (44032)) % (28)))))) = o3 at *
              have cO31 := fO3.1; have cO32 := fO3.2.1
              have fv3 := fv2.out hO3 u770 u794 fO3 iO3 vO3
              refine ez_go (n := 3) (pc' := 12) (L' := [(3, .inl ((B.length : Int) + 2 + 1)), (6, .inl ((x) - (44032))), (5, .inl ((w : Int))), (4, .inl (x)), (0, .inr (.inr (some (770)))), (1, .inl (p)), (2, .inl (c))]) (st' := []) rfl ?_
              have hsy : hz_sy x = [4352 + (x - 44032) / 588, 4449 + (x - 44032) % 588 / 28, 4519 + (x - 44032) % 28] := by unfold hz_sy; rw [if_neg (by omega)]
              have hap : B ++ hz_sy x = B ++ [4352 + (x - 44032) / 588] ++ [4449 + (x - 44032) % 588 / 28] ++ [4519 + (x - 44032) % 28] := by rw [hsy]; simp
              have hln : (B ++ hz_sy x).length = B.length + 3 := by rw [List.length_append, hsy]; rfl
              rw [show (B.length : Int) + 2 + 1 = ((B ++ hz_sy x).length : Int) by rw [hln]; omega]
              refine ez_less [(3, .inl (((B ++ hz_sy x).length : Int))), (0, .inr (.inr (some (770)))), (1, .inl (p)), (2, .inl (c))] rfl ⟨rfl, rfl, rfl, rfl, trivial⟩ ?_
              exact kH hh o3 τ1 (by rw [hap]; exact fv3) (by rw [hln]; omega)
          · skip
            refine ez_go (n := 1) (pc' := 87) (L' := [(6, .inl ((x) - (44032))), (5, .inl ((w : Int))), (4, .inl (x)), (3, .inl ((B.length : Int))), (0, .inr (.inr (some (770)))), (1, .inl (p)), (2, .inl (c))]) (st' := [.inl (41)]) rfl ?_
            exact ez_retI rfl rfl (k41H hh (by rw [hl2]; split <;> omega) g1 τ1 hP fu1.2.1 fu1.2.2.1.2)
        · skip
          refine ez_go (n := 4) (pc' := 82) (L' := [(6, .inl ((x) - (44032))), (5, .inl ((w : Int))), (4, .inl (x)), (3, .inl ((B.length : Int))), (0, .inr (.inr (some (770)))), (1, .inl (p)), (2, .inl (c))]) (st' := [.inl (40), .inl (((B.length : Int)) + (3))]) rfl ?_
          refine ez_icmp rfl rfl ⟨by first | omega | exact (sz_i32 _).1, by first | omega | exact (sz_i32 _).2⟩ ⟨by first | omega | exact (sz_i32 _).1, by first | omega | exact (sz_i32 _).2⟩ (fun (c23 : (((B.length : Int)) + (3)) ≤ (40)) => ?_) (fun (c23 : ¬((((B.length : Int)) + (3)) ≤ (40))) => ?_)
          · skip
            refine ez_go (n := 1) (pc' := 89) (L' := [(6, .inl ((x) - (44032))), (5, .inl ((w : Int))), (4, .inl (x)), (3, .inl ((B.length : Int))), (0, .inr (.inr (some (770)))), (1, .inl (p)), (2, .inl (c))]) (st' := [.inr (.inr (some (770)))]) rfl ?_
            refine ez_gC (p := 794) (tg := 82) hP u770 rfl rfl tq_75 rfl rfl (fun (t794 : _ = 82) => ?_)
            refine ez_go (n := 4) (pc' := 101) (L' := [(6, .inl ((x) - (44032))), (5, .inl ((w : Int))), (4, .inl (x)), (3, .inl ((B.length : Int))), (0, .inr (.inr (some (770)))), (1, .inl (p)), (2, .inl (c))]) (st' := [.inl (588), .inl ((x) - (44032)), .inl (4352), .inl ((B.length : Int)), .inr (.inr (some (794)))]) rfl ?_
            refine ez_div rfl (by omega) (by omega) (by omega) (by omega) ?_
            refine ez_go (n := 1) (pc' := 103) (L' := [(6, .inl ((x) - (44032))), (5, .inl ((w : Int))), (4, .inl (x)), (3, .inl ((B.length : Int))), (0, .inr (.inr (some (770)))), (1, .inl (p)), (2, .inl (c))]) (st' := [.inl ((4352) + (((x) - (44032)) / (588))), .inl ((B.length : Int)), .inr (.inr (some (794)))]) rfl ?_
            have n26 : 64 ≤ qz_N g1 794 ∧ qz_N g1 794 ≤ 64 := ez_len hP t794 tq_82 rfl
            refine ez_as hP t794 rfl tq_82 rfl rfl (by omega) (by omega) (ez_vdI rfl rfl (by omega) (by omega)) (fun hB24 w25 => ?_)
            have fO1 : ez_fr (ez_one 794) g1 (dz_put g1 794 ((B.length : Int)).toNat (ez_v (.inl ((4352) + (((x) - (44032)) / (588)))))) := (ez_fr.refl (ez_one 794) g1).put rfl _ _
            have lO1 : (B).length = ((B.length : Int)).toNat := by (try simp only [List.length_append, List.length_cons, List.length_nil]); omega
            have vO1 : qz_I (dz_put g1 794 ((B.length : Int)).toNat (ez_v (.inl ((4352) + (((x) - (44032)) / (588)))))) 794 (B).length = 4352 + (x - 44032) / 588 := by rw [lO1]; exact w25.trans (rz_rd ⟨by omega, by omega⟩)
            have iO1 : ∀ j, j ≠ (B).length → qz_I (dz_put g1 794 ((B.length : Int)).toNat (ez_v (.inl ((4352) + (((x) - (44032)) / (588)))))) 794 j = qz_I g1 794 j := fun j hj => ez_put_I (fun w => hj (w.2.trans lO1.symm))
            have hO1 := hB24
            generalize (dz_put g1 794 ((B.length : Int)).toNat (ez_v (.inl ((4352) + (((x) - (44032)) / (588)))))) = o1 at *
            have cO11 := fO1.1; have cO12 := fO1.2.1
            have fv1 := fu1.out hO1 u770 u794 fO1 iO1 vO1
            refine ez_go (n := 1) (pc' := 105) (L' := [(6, .inl ((x) - (44032))), (5, .inl ((w : Int))), (4, .inl (x)), (3, .inl ((B.length : Int))), (0, .inr (.inr (some (770)))), (1, .inl (p)), (2, .inl (c))]) (st' := [.inr (.inr (some (770)))]) rfl ?_
            refine ez_gC (p := 794) (tg := 82) hO1 u770 rfl rfl tq_75 rfl rfl (fun (t794 : _ = 82) => ?_)
            refine ez_go (n := 6) (pc' := 119) (L' := [(6, .inl ((x) - (44032))), (5, .inl ((w : Int))), (4, .inl (x)), (3, .inl ((B.length : Int))), (0, .inr (.inr (some (770)))), (1, .inl (p)), (2, .inl (c))]) (st' := [.inl (588), .inl ((x) - (44032)), .inl (4449), .inl (((B.length : Int)) + (1)), .inr (.inr (some (794)))]) rfl ?_
            refine ez_rem rfl (by omega) (by omega) (by omega) (by omega) ?_
            refine ez_go (n := 1) (pc' := 122) (L' := [(6, .inl ((x) - (44032))), (5, .inl ((w : Int))), (4, .inl (x)), (3, .inl ((B.length : Int))), (0, .inr (.inr (some (770)))), (1, .inl (p)), (2, .inl (c))]) (st' := [.inl (28), .inl (((x) - (44032)) % (588)), .inl (4449), .inl (((B.length : Int)) + (1)), .inr (.inr (some (794)))]) rfl ?_
            refine ez_div rfl (by omega) (by omega) (by omega) (by omega) ?_
            refine ez_go (n := 1) (pc' := 124) (L' := [(6, .inl ((x) - (44032))), (5, .inl ((w : Int))), (4, .inl (x)), (3, .inl ((B.length : Int))), (0, .inr (.inr (some (770)))), (1, .inl (p)), (2, .inl (c))]) (st' := [.inl ((4449) + ((((x) - (44032)) % (588)) / (28))), .inl (((B.length : Int)) + (1)), .inr (.inr (some (794)))]) rfl ?_
            have n29 : 64 ≤ qz_N o1 794 ∧ qz_N o1 794 ≤ 64 := ez_len hO1 t794 tq_82 rfl
            refine ez_as hO1 t794 rfl tq_82 rfl rfl (by omega) (by omega) (ez_vdI rfl rfl (by omega) (by omega)) (fun hB27 w28 => ?_)
            have fO2 : ez_fr (ez_one 794) o1 (dz_put o1 794 (((B.length : Int)) + (1)).toNat (ez_v (.inl ((4449) + ((((x) - (44032)) % (588)) / (28)))))) := (ez_fr.refl (ez_one 794) o1).put rfl _ _
            have lO2 : (B ++ [4352 + (x - 44032) / 588]).length = ((B.length : Int) + 1).toNat := by (try simp only [List.length_append, List.length_cons, List.length_nil]); omega
            have vO2 : qz_I (dz_put o1 794 (((B.length : Int)) + (1)).toNat (ez_v (.inl ((4449) + ((((x) - (44032)) % (588)) / (28)))))) 794 (B ++ [4352 + (x - 44032) / 588]).length = 4449 + (x - 44032) % 588 / 28 := by rw [lO2]; exact w28.trans (rz_rd ⟨by omega, by omega⟩)
            have iO2 : ∀ j, j ≠ (B ++ [4352 + (x - 44032) / 588]).length → qz_I (dz_put o1 794 (((B.length : Int)) + (1)).toNat (ez_v (.inl ((4449) + ((((x) - (44032)) % (588)) / (28)))))) 794 j = qz_I o1 794 j := fun j hj => ez_put_I (fun w => hj (w.2.trans lO2.symm))
            have hO2 := hB27
            generalize (dz_put o1 794 (((B.length : Int)) + (1)).toNat (ez_v (.inl ((4449) + ((((x) - (44032)) % (588)) / (28)))))) = o2 at *
            have cO21 := fO2.1; have cO22 := fO2.2.1
            have fv2 := fv1.out hO2 u770 u794 fO2 iO2 vO2
            refine ez_go (n := 3) (pc' := 132) (L' := [(3, .inl ((B.length : Int) + 2)), (6, .inl ((x) - (44032))), (5, .inl ((w : Int))), (4, .inl (x)), (0, .inr (.inr (some (770)))), (1, .inl (p)), (2, .inl (c))]) (st' := [.inl (28), .inl ((x) - (44032))]) rfl ?_
            refine ez_rem rfl (by omega) (by omega) (by omega) (by omega) ?_
            refine ez_if rfl rfl ⟨by first | omega | exact (sz_i32 _).1, by first | omega | exact (sz_i32 _).2⟩ (fun (c30 : (((x) - (44032)) % (28)) ≤ (0)) => ?_) (fun (c30 : ¬((((x) - (44032)) % (28)) ≤ (0))) => ?_)
            · skip
              refine ez_go (n := 2) (pc' := 12) (L' := [(3, .inl ((B.length : Int) + 2)), (6, .inl ((x) - (44032))), (5, .inl ((w : Int))), (4, .inl (x)), (0, .inr (.inr (some (770)))), (1, .inl (p)), (2, .inl (c))]) (st' := []) rfl ?_
              have hsy : hz_sy x = [4352 + (x - 44032) / 588, 4449 + (x - 44032) % 588 / 28] := by unfold hz_sy; rw [if_pos (by omega)]
              have hap : B ++ hz_sy x = B ++ [4352 + (x - 44032) / 588] ++ [4449 + (x - 44032) % 588 / 28] := by rw [hsy]; simp
              have hln : (B ++ hz_sy x).length = B.length + 2 := by rw [List.length_append, hsy]; rfl
              rw [show (B.length : Int) + 2 = ((B ++ hz_sy x).length : Int) by rw [hln]; omega]
              refine ez_less [(3, .inl (((B ++ hz_sy x).length : Int))), (0, .inr (.inr (some (770)))), (1, .inl (p)), (2, .inl (c))] rfl ⟨rfl, rfl, rfl, rfl, trivial⟩ ?_
              exact kH hh o2 τ1 (by rw [hap]; exact fv2) (by rw [hln]; omega)
            · skip
              refine ez_go (n := 1) (pc' := 137) (L' := [(3, .inl ((B.length : Int) + 2)), (6, .inl ((x) - (44032))), (5, .inl ((w : Int))), (4, .inl (x)), (0, .inr (.inr (some (770)))), (1, .inl (p)), (2, .inl (c))]) (st' := [.inr (.inr (some (770)))]) rfl ?_
              refine ez_gC (p := 794) (tg := 82) hO2 u770 rfl rfl tq_75 rfl rfl (fun (t794 : _ = 82) => ?_)
              refine ez_go (n := 4) (pc' := 148) (L' := [(3, .inl ((B.length : Int) + 2)), (6, .inl ((x) - (44032))), (5, .inl ((w : Int))), (4, .inl (x)), (0, .inr (.inr (some (770)))), (1, .inl (p)), (2, .inl (c))]) (st' := [.inl (28), .inl ((x) - (44032)), .inl (4519), .inl ((B.length : Int) + 2), .inr (.inr (some (794)))]) rfl ?_
              refine ez_rem rfl (by omega) (by omega) (by omega) (by omega) ?_
              refine ez_go (n := 1) (pc' := 150) (L' := [(3, .inl ((B.length : Int) + 2)), (6, .inl ((x) - (44032))), (5, .inl ((w : Int))), (4, .inl (x)), (0, .inr (.inr (some (770)))), (1, .inl (p)), (2, .inl (c))]) (st' := [.inl ((4519) + (((x) - (44032)) % (28))), .inl ((B.length : Int) + 2), .inr (.inr (some (794)))]) rfl ?_
              have n33 : 64 ≤ qz_N o2 794 ∧ qz_N o2 794 ≤ 64 := ez_len hO2 t794 tq_82 rfl
              refine ez_as hO2 t794 rfl tq_82 rfl rfl (by omega) (by omega) (ez_vdI rfl rfl (by omega) (by omega)) (fun hB31 w32 => ?_)
              have fO3 : ez_fr (ez_one 794) o2 (dz_put o2 794 ((B.length : Int) + 2).toNat (ez_v (.inl ((4519) + (((x) - (44032)) % (28)))))) := (ez_fr.refl (ez_one 794) o2).put rfl _ _
              have lO3 : (B ++ [4352 + (x - 44032) / 588] ++ [4449 + (x - 44032) % 588 / 28]).length = ((B.length : Int) + 2).toNat := by (try simp only [List.length_append, List.length_cons, List.length_nil]); omega
              have vO3 : qz_I (dz_put o2 794 ((B.length : Int) + 2).toNat (ez_v (.inl ((4519) + (((x) - (44032)) % (28)))))) 794 (B ++ [4352 + (x - 44032) / 588] ++ [4449 + (x - 44032) % 588 / 28]).length = 4519 + (x - 44032) % 28 := by rw [lO3]; exact w32.trans (rz_rd ⟨by omega, by omega⟩)
              have iO3 : ∀ j, j ≠ (B ++ [4352 + (x - 44032) / 588] ++ [4449 + (x - 44032) % 588 / 28]).length → qz_I (dz_put o2 794 ((B.length : Int) + 2).toNat (ez_v (.inl ((4519) + (((x) - (44032)) % (28)))))) 794 j = qz_I o2 794 j := fun j hj => ez_put_I (fun w => hj (w.2.trans lO3.symm))
              have hO3 := hB31
              generalize (dz_put o2 794 ((B.length : Int) + 2).toNat (ez_v (.inl ((4519) + (((x) - (44032)) % (28)))))) = o3 at *
              have cO31 := fO3.1; have cO32 := fO3.2.1
              have fv3 := fv2.out hO3 u770 u794 fO3 iO3 vO3
              refine ez_go (n := 3) (pc' := 12) (L' := [(3, .inl ((B.length : Int) + 2 + 1)), (6, .inl ((x) - (44032))), (5, .inl ((w : Int))), (4, .inl (x)), (0, .inr (.inr (some (770)))), (1, .inl (p)), (2, .inl (c))]) (st' := []) rfl ?_
              have hsy : hz_sy x = [4352 + (x - 44032) / 588, 4449 + (x - 44032) % 588 / 28, 4519 + (x - 44032) % 28] := by unfold hz_sy; rw [if_neg (by omega)]
              have hap : B ++ hz_sy x = B ++ [4352 + (x - 44032) / 588] ++ [4449 + (x - 44032) % 588 / 28] ++ [4519 + (x - 44032) % 28] := by rw [hsy]; simp
              have hln : (B ++ hz_sy x).length = B.length + 3 := by rw [List.length_append, hsy]; rfl
              rw [show (B.length : Int) + 2 + 1 = ((B ++ hz_sy x).length : Int) by rw [hln]; omega]
              refine ez_less [(3, .inl (((B ++ hz_sy x).length : Int))), (0, .inr (.inr (some (770)))), (1, .inl (p)), (2, .inl (c))] rfl ⟨rfl, rfl, rfl, rfl, trivial⟩ ?_
              exact kH hh o3 τ1 (by rw [hap]; exact fv3) (by rw [hln]; omega)
          · skip
            refine ez_go (n := 1) (pc' := 87) (L' := [(6, .inl ((x) - (44032))), (5, .inl ((w : Int))), (4, .inl (x)), (3, .inl ((B.length : Int))), (0, .inr (.inr (some (770)))), (1, .inl (p)), (2, .inl (c))]) (st' := [.inl (41)]) rfl ?_
            exact ez_retI rfl rfl (k41H hh (by rw [hl2]; split <;> omega) g1 τ1 hP fu1.2.1 fu1.2.2.1.2)
      · skip
        refine ez_if rfl rfl ⟨by decide, by decide⟩ (fun _ => ?_) (fun (c34 : ¬((0 : Int) = (0))) => absurd c34 (by decide))
        refine ez_go (n := 1) (pc' := 159) (L' := [(5, .inl ((w : Int))), (4, .inl (x)), (3, .inl ((B.length : Int))), (0, .inr (.inr (some (770)))), (1, .inl (p)), (2, .inl (c))]) (st' := [.inl ((w : Int))]) rfl ?_
        refine ez_if rfl rfl ⟨by first | omega | exact (sz_i32 _).1, by first | omega | exact (sz_i32 _).2⟩ (fun (c35 : ((w : Int)) < (0)) => ?_) (fun (c35 : ¬(((w : Int)) < (0))) => ?_)
        · skip
          refine ez_go (n := 2) (pc' := 237) (L' := [(5, .inl ((w : Int))), (4, .inl (x)), (3, .inl ((B.length : Int))), (0, .inr (.inr (some (770)))), (1, .inl (p)), (2, .inl (c))]) (st' := [.inl (40), .inl ((B.length : Int))]) rfl ?_
          refine ez_icmp rfl rfl ⟨by first | omega | exact (sz_i32 _).1, by first | omega | exact (sz_i32 _).2⟩ ⟨by first | omega | exact (sz_i32 _).1, by first | omega | exact (sz_i32 _).2⟩ (fun (c36 : ((B.length : Int)) ≠ (40)) => ?_) (fun (c36 : ¬(((B.length : Int)) ≠ (40))) => ?_)
          · skip
            refine ez_go (n := 1) (pc' := 244) (L' := [(5, .inl ((w : Int))), (4, .inl (x)), (3, .inl ((B.length : Int))), (0, .inr (.inr (some (770)))), (1, .inl (p)), (2, .inl (c))]) (st' := [.inr (.inr (some (770)))]) rfl ?_
            refine ez_gC (p := 794) (tg := 82) hP u770 rfl rfl tq_75 rfl rfl (fun (t794 : _ = 82) => ?_)
            refine ez_go (n := 2) (pc' := 250) (L' := [(5, .inl ((w : Int))), (4, .inl (x)), (3, .inl ((B.length : Int))), (0, .inr (.inr (some (770)))), (1, .inl (p)), (2, .inl (c))]) (st' := [.inl (x), .inl ((B.length : Int)), .inr (.inr (some (794)))]) rfl ?_
            have n39 : 64 ≤ qz_N g1 794 ∧ qz_N g1 794 ≤ 64 := ez_len hP t794 tq_82 rfl
            refine ez_as hP t794 rfl tq_82 rfl rfl (by omega) (by omega) (ez_vdI rfl rfl (by omega) (by omega)) (fun hB37 w38 => ?_)
            have fO9 : ez_fr (ez_one 794) g1 (dz_put g1 794 ((B.length : Int)).toNat (ez_v (.inl (x)))) := (ez_fr.refl (ez_one 794) g1).put rfl _ _
            have lO9 : (B).length = ((B.length : Int)).toNat := by (try simp only [List.length_append, List.length_cons, List.length_nil]); omega
            have vO9 : qz_I (dz_put g1 794 ((B.length : Int)).toNat (ez_v (.inl (x)))) 794 (B).length = x := by rw [lO9]; exact w38.trans (rz_rd ⟨by omega, by omega⟩)
            have iO9 : ∀ j, j ≠ (B).length → qz_I (dz_put g1 794 ((B.length : Int)).toNat (ez_v (.inl (x)))) 794 j = qz_I g1 794 j := fun j hj => ez_put_I (fun w => hj (w.2.trans lO9.symm))
            have hO9 := hB37
            generalize (dz_put g1 794 ((B.length : Int)).toNat (ez_v (.inl (x)))) = o9 at *
            have cO91 := fO9.1; have cO92 := fO9.2.1
            have fv9 := fu1.out hO9 u770 u794 fO9 iO9 vO9
            refine ez_go (n := 2) (pc' := 12) (L' := [(3, .inl ((B.length : Int) + 1)), (5, .inl ((w : Int))), (4, .inl (x)), (0, .inr (.inr (some (770)))), (1, .inl (p)), (2, .inl (c))]) (st' := []) rfl ?_
            rw [show (B.length : Int) + 1 = ((B ++ [x]).length : Int) by rw [List.length_append]; rfl]
            refine ez_less [(3, .inl (((B ++ [x]).length : Int))), (0, .inr (.inr (some (770)))), (1, .inl (p)), (2, .inl (c))] rfl ⟨rfl, rfl, rfl, rfl, trivial⟩ ?_
            refine kL hh (Or.inr ⟨cp, vs, hF, fun w9 => by rcases w9 with w9 | w9; (· exact absurd w9 (by omega)); (· omega)⟩) o9 τ1 fv9 (by rw [List.length_append]; show B.length + 1 ≤ 40; omega)
          · skip
            refine ez_go (n := 1) (pc' := 242) (L' := [(5, .inl ((w : Int))), (4, .inl (x)), (3, .inl ((B.length : Int))), (0, .inr (.inr (some (770)))), (1, .inl (p)), (2, .inl (c))]) (st' := [.inl (41)]) rfl ?_
            exact ez_retI rfl rfl (k41L hh (Or.inr ⟨cp, vs, hF, fun w9 => by rcases w9 with w9 | w9; (· exact absurd w9 (by omega)); (· omega)⟩) (by omega) g1 τ1 hP fu1.2.1 fu1.2.2.1.2)
        · skip
          refine ez_go (n := 1) (pc' := 163) (L' := [(5, .inl ((w : Int))), (4, .inl (x)), (3, .inl ((B.length : Int))), (0, .inr (.inr (some (770)))), (1, .inl (p)), (2, .inl (c))]) (st' := [.inl (c)]) rfl ?_
          refine ez_if rfl rfl ⟨by first | omega | exact (sz_i32 _).1, by first | omega | exact (sz_i32 _).2⟩ (fun (c40 : (c) ≠ (0)) => ?_) (fun (c40 : ¬((c) ≠ (0))) => ?_)
          · skip
            refine ez_go (n := 1) (pc' := 181) (L' := [(5, .inl ((w : Int))), (4, .inl (x)), (3, .inl ((B.length : Int))), (0, .inr (.inr (some (770)))), (1, .inl (p)), (2, .inl (c))]) (st' := [.inr (.inr (some (770)))]) rfl ?_
            refine ez_gR hP u770 rfl rfl tq_75 rfl rfl (fun (t41 : _ = 20) (t41' : 1 ≤ qz_I g1 770 22) => ?_)
            rw [show qz_P g1 770 22 = bw g1 from rfl]
            refine ez_go (n := 1) (pc' := 186) (L' := [(5, .inl ((w : Int))), (4, .inl (x)), (3, .inl ((B.length : Int))), (0, .inr (.inr (some (770)))), (1, .inl (p)), (2, .inl (c))]) (st' := [.inl ((w : Int)), .inr (.inr (some ((bw g1))))]) rfl ?_
            have n43 : 64 ≤ qz_N g1 ((bw g1)) ∧ qz_N g1 ((bw g1)) ≤ 4096 := ez_len hP td.2 tq_20 rfl
            have y44 : 1 ≤ qz_I g1 ((bw g1)) ((w : Int)).toNat := ek1
            have y45 : 0 ≤ qz_I g1 ((bw g1)) ((w : Int)).toNat ∧ qz_I g1 ((bw g1)) ((w : Int)).toNat ≤ 1000000 := ez_aB hP td.2 tq_20 rfl rfl (by decide) (by omega) (by omega)
            have y45' : ((qz_P g1 ((bw g1)) ((w : Int)).toNat : Nat) : Int) + 1 = qz_I g1 ((bw g1)) ((w : Int)).toNat := by unfold qz_P; omega
            refine ez_aR hP td.2 rfl tq_20 rfl rfl (by omega) (by omega) (by omega) (fun (t42 : _ = 13) => ?_)
            rw [el]
            refine ez_gR hP tl rfl rfl tq_13 rfl rfl (fun (t46 : _ = 16) (t46' : 1 ≤ qz_I g1 l 8) => ?_)
            rw [l8]
            refine ez_go (n := 1) (pc' := 191) (L' := [(5, .inl ((w : Int))), (4, .inl (x)), (3, .inl ((B.length : Int))), (0, .inr (.inr (some (770)))), (1, .inl (p)), (2, .inl (c))]) (st' := [.inl (0), .inr (.inr (some ((l + 2))))]) rfl ?_
            have n48 : 3 ≤ qz_N g1 ((l + 2)) ∧ qz_N g1 ((l + 2)) ≤ 3 := ez_len hP t56.2 tq_16 rfl
            refine ez_aI hP t56.2 rfl tq_16 rfl rfl (by omega) (by omega) (fun (b47 : 0 ≤ qz_I g1 ((l + 2)) (0 : Int).toNat) (b47' : qz_I g1 ((l + 2)) (0 : Int).toNat ≤ 18) => ?_)
            refine ez_go (n := 3) (pc' := 196) (L' := [(6, .inl ((qz_I g1 ((l + 2)) (0 : Int).toNat) - (1))), (5, .inl ((w : Int))), (4, .inl (x)), (3, .inl ((B.length : Int))), (0, .inr (.inr (some (770)))), (1, .inl (p)), (2, .inl (c))]) (st' := []) rfl ?_
            refine ez_less [(6, .inl ((qz_I g1 ((l + 2)) (0 : Int).toNat) - (1))), (5, .inl ((w : Int))), (3, .inl ((B.length : Int))), (0, .inr (.inr (some (770)))), (1, .inl (p)), (2, .inl (c))] rfl ⟨rfl, rfl, rfl, rfl, rfl, rfl, trivial⟩ ?_
            have hcc : c ≠ 0 ∨ cp = 0 := by omega
            have e9 : ((qz_I g1 ((l + 2)) (0 : Int).toNat) - (1) + 1).toNat = vs.length := by omega
            exact rd_full_p e t794 hr1 hr2 hw9 ew hF (by omega) (by omega) (fun g2 τ2 f2 => kR hh cp vs hF hcc (by omega) g2 τ2 f2) _ ((qz_I g1 ((l + 2)) (0 : Int).toNat) - (1)) g1 τ1 rfl (by omega) (by omega) (by rw [e9, List.drop_length, List.reverse_nil, List.append_nil]; exact fu1)
          · skip
            refine ez_go (n := 1) (pc' := 167) (L' := [(5, .inl ((w : Int))), (4, .inl (x)), (3, .inl ((B.length : Int))), (0, .inr (.inr (some (770)))), (1, .inl (p)), (2, .inl (c))]) (st' := [.inr (.inr (some (770)))]) rfl ?_
            refine ez_gR hP u770 rfl rfl tq_75 rfl rfl (fun (t49 : _ = 20) (t49' : 1 ≤ qz_I g1 770 22) => ?_)
            rw [show qz_P g1 770 22 = bw g1 from rfl]
            refine ez_go (n := 1) (pc' := 172) (L' := [(5, .inl ((w : Int))), (4, .inl (x)), (3, .inl ((B.length : Int))), (0, .inr (.inr (some (770)))), (1, .inl (p)), (2, .inl (c))]) (st' := [.inl ((w : Int)), .inr (.inr (some ((bw g1))))]) rfl ?_
            have n51 : 64 ≤ qz_N g1 ((bw g1)) ∧ qz_N g1 ((bw g1)) ≤ 4096 := ez_len hP td.2 tq_20 rfl
            have y52 : 1 ≤ qz_I g1 ((bw g1)) ((w : Int)).toNat := ek1
            have y53 : 0 ≤ qz_I g1 ((bw g1)) ((w : Int)).toNat ∧ qz_I g1 ((bw g1)) ((w : Int)).toNat ≤ 1000000 := ez_aB hP td.2 tq_20 rfl rfl (by decide) (by omega) (by omega)
            have y53' : ((qz_P g1 ((bw g1)) ((w : Int)).toNat : Nat) : Int) + 1 = qz_I g1 ((bw g1)) ((w : Int)).toNat := by unfold qz_P; omega
            refine ez_aR hP td.2 rfl tq_20 rfl rfl (by omega) (by omega) (by omega) (fun (t50 : _ = 13) => ?_)
            rw [el]
            refine ez_gI hP tl rfl rfl tq_13 rfl rfl (fun (b54 : -2147483648 ≤ qz_I g1 l 5) (b54' : qz_I g1 l 5 ≤ 2147483647) => ?_)
            refine ez_go (n := 1) (pc' := 177) (L' := [(5, .inl ((w : Int))), (4, .inl (x)), (3, .inl ((B.length : Int))), (0, .inr (.inr (some (770)))), (1, .inl (p)), (2, .inl (c))]) (st' := [.inl (1), .inl (qz_I g1 l 5)]) rfl ?_
            refine ez_icmp rfl rfl ⟨by first | omega | exact (sz_i32 _).1, by first | omega | exact (sz_i32 _).2⟩ ⟨by first | omega | exact (sz_i32 _).1, by first | omega | exact (sz_i32 _).2⟩ (fun (c55 : (qz_I g1 l 5) ≠ (1)) => ?_) (fun (c55 : ¬((qz_I g1 l 5) ≠ (1))) => ?_)
            · skip
              refine ez_go (n := 2) (pc' := 237) (L' := [(5, .inl ((w : Int))), (4, .inl (x)), (3, .inl ((B.length : Int))), (0, .inr (.inr (some (770)))), (1, .inl (p)), (2, .inl (c))]) (st' := [.inl (40), .inl ((B.length : Int))]) rfl ?_
              refine ez_icmp rfl rfl ⟨by first | omega | exact (sz_i32 _).1, by first | omega | exact (sz_i32 _).2⟩ ⟨by first | omega | exact (sz_i32 _).1, by first | omega | exact (sz_i32 _).2⟩ (fun (c56 : ((B.length : Int)) ≠ (40)) => ?_) (fun (c56 : ¬(((B.length : Int)) ≠ (40))) => ?_)
              · skip
                refine ez_go (n := 1) (pc' := 244) (L' := [(5, .inl ((w : Int))), (4, .inl (x)), (3, .inl ((B.length : Int))), (0, .inr (.inr (some (770)))), (1, .inl (p)), (2, .inl (c))]) (st' := [.inr (.inr (some (770)))]) rfl ?_
                refine ez_gC (p := 794) (tg := 82) hP u770 rfl rfl tq_75 rfl rfl (fun (t794 : _ = 82) => ?_)
                refine ez_go (n := 2) (pc' := 250) (L' := [(5, .inl ((w : Int))), (4, .inl (x)), (3, .inl ((B.length : Int))), (0, .inr (.inr (some (770)))), (1, .inl (p)), (2, .inl (c))]) (st' := [.inl (x), .inl ((B.length : Int)), .inr (.inr (some (794)))]) rfl ?_
                have n59 : 64 ≤ qz_N g1 794 ∧ qz_N g1 794 ≤ 64 := ez_len hP t794 tq_82 rfl
                refine ez_as hP t794 rfl tq_82 rfl rfl (by omega) (by omega) (ez_vdI rfl rfl (by omega) (by omega)) (fun hB57 w58 => ?_)
                have fO9 : ez_fr (ez_one 794) g1 (dz_put g1 794 ((B.length : Int)).toNat (ez_v (.inl (x)))) := (ez_fr.refl (ez_one 794) g1).put rfl _ _
                have lO9 : (B).length = ((B.length : Int)).toNat := by (try simp only [List.length_append, List.length_cons, List.length_nil]); omega
                have vO9 : qz_I (dz_put g1 794 ((B.length : Int)).toNat (ez_v (.inl (x)))) 794 (B).length = x := by rw [lO9]; exact w58.trans (rz_rd ⟨by omega, by omega⟩)
                have iO9 : ∀ j, j ≠ (B).length → qz_I (dz_put g1 794 ((B.length : Int)).toNat (ez_v (.inl (x)))) 794 j = qz_I g1 794 j := fun j hj => ez_put_I (fun w => hj (w.2.trans lO9.symm))
                have hO9 := hB57
                generalize (dz_put g1 794 ((B.length : Int)).toNat (ez_v (.inl (x)))) = o9 at *
                have cO91 := fO9.1; have cO92 := fO9.2.1
                have fv9 := fu1.out hO9 u770 u794 fO9 iO9 vO9
                refine ez_go (n := 2) (pc' := 12) (L' := [(3, .inl ((B.length : Int) + 1)), (5, .inl ((w : Int))), (4, .inl (x)), (0, .inr (.inr (some (770)))), (1, .inl (p)), (2, .inl (c))]) (st' := []) rfl ?_
                rw [show (B.length : Int) + 1 = ((B ++ [x]).length : Int) by rw [List.length_append]; rfl]
                refine ez_less [(3, .inl (((B ++ [x]).length : Int))), (0, .inr (.inr (some (770)))), (1, .inl (p)), (2, .inl (c))] rfl ⟨rfl, rfl, rfl, rfl, trivial⟩ ?_
                refine kL hh (Or.inr ⟨cp, vs, hF, fun w9 => by rcases w9 with w9 | w9; (· exact absurd w9 (by omega)); (· omega)⟩) o9 τ1 fv9 (by rw [List.length_append]; show B.length + 1 ≤ 40; omega)
              · skip
                refine ez_go (n := 1) (pc' := 242) (L' := [(5, .inl ((w : Int))), (4, .inl (x)), (3, .inl ((B.length : Int))), (0, .inr (.inr (some (770)))), (1, .inl (p)), (2, .inl (c))]) (st' := [.inl (41)]) rfl ?_
                exact ez_retI rfl rfl (k41L hh (Or.inr ⟨cp, vs, hF, fun w9 => by rcases w9 with w9 | w9; (· exact absurd w9 (by omega)); (· omega)⟩) (by omega) g1 τ1 hP fu1.2.1 fu1.2.2.1.2)
            · skip
              refine ez_go (n := 1) (pc' := 181) (L' := [(5, .inl ((w : Int))), (4, .inl (x)), (3, .inl ((B.length : Int))), (0, .inr (.inr (some (770)))), (1, .inl (p)), (2, .inl (c))]) (st' := [.inr (.inr (some (770)))]) rfl ?_
              refine ez_gR hP u770 rfl rfl tq_75 rfl rfl (fun (t60 : _ = 20) (t60' : 1 ≤ qz_I g1 770 22) => ?_)
              rw [show qz_P g1 770 22 = bw g1 from rfl]
              refine ez_go (n := 1) (pc' := 186) (L' := [(5, .inl ((w : Int))), (4, .inl (x)), (3, .inl ((B.length : Int))), (0, .inr (.inr (some (770)))), (1, .inl (p)), (2, .inl (c))]) (st' := [.inl ((w : Int)), .inr (.inr (some ((bw g1))))]) rfl ?_
              have n62 : 64 ≤ qz_N g1 ((bw g1)) ∧ qz_N g1 ((bw g1)) ≤ 4096 := ez_len hP td.2 tq_20 rfl
              have y63 : 1 ≤ qz_I g1 ((bw g1)) ((w : Int)).toNat := ek1
              have y64 : 0 ≤ qz_I g1 ((bw g1)) ((w : Int)).toNat ∧ qz_I g1 ((bw g1)) ((w : Int)).toNat ≤ 1000000 := ez_aB hP td.2 tq_20 rfl rfl (by decide) (by omega) (by omega)
              have y64' : ((qz_P g1 ((bw g1)) ((w : Int)).toNat : Nat) : Int) + 1 = qz_I g1 ((bw g1)) ((w : Int)).toNat := by unfold qz_P; omega
              refine ez_aR hP td.2 rfl tq_20 rfl rfl (by omega) (by omega) (by omega) (fun (t61 : _ = 13) => ?_)
              rw [el]
              refine ez_gR hP tl rfl rfl tq_13 rfl rfl (fun (t65 : _ = 16) (t65' : 1 ≤ qz_I g1 l 8) => ?_)
              rw [l8]
              refine ez_go (n := 1) (pc' := 191) (L' := [(5, .inl ((w : Int))), (4, .inl (x)), (3, .inl ((B.length : Int))), (0, .inr (.inr (some (770)))), (1, .inl (p)), (2, .inl (c))]) (st' := [.inl (0), .inr (.inr (some ((l + 2))))]) rfl ?_
              have n67 : 3 ≤ qz_N g1 ((l + 2)) ∧ qz_N g1 ((l + 2)) ≤ 3 := ez_len hP t56.2 tq_16 rfl
              refine ez_aI hP t56.2 rfl tq_16 rfl rfl (by omega) (by omega) (fun (b66 : 0 ≤ qz_I g1 ((l + 2)) (0 : Int).toNat) (b66' : qz_I g1 ((l + 2)) (0 : Int).toNat ≤ 18) => ?_)
              refine ez_go (n := 3) (pc' := 196) (L' := [(6, .inl ((qz_I g1 ((l + 2)) (0 : Int).toNat) - (1))), (5, .inl ((w : Int))), (4, .inl (x)), (3, .inl ((B.length : Int))), (0, .inr (.inr (some (770)))), (1, .inl (p)), (2, .inl (c))]) (st' := []) rfl ?_
              refine ez_less [(6, .inl ((qz_I g1 ((l + 2)) (0 : Int).toNat) - (1))), (5, .inl ((w : Int))), (3, .inl ((B.length : Int))), (0, .inr (.inr (some (770)))), (1, .inl (p)), (2, .inl (c))] rfl ⟨rfl, rfl, rfl, rfl, rfl, rfl, trivial⟩ ?_
              have hcc : c ≠ 0 ∨ cp = 0 := by omega
              have e9 : ((qz_I g1 ((l + 2)) (0 : Int).toNat) - (1) + 1).toNat = vs.length := by omega
              exact rd_full_p e t794 hr1 hr2 hw9 ew hF (by omega) (by omega) (fun g2 τ2 f2 => kR hh cp vs hF hcc (by omega) g2 τ2 f2) _ ((qz_I g1 ((l + 2)) (0 : Int).toNat) - (1)) g1 τ1 rfl (by omega) (by omega) (by rw [e9, List.drop_length, List.reverse_nil, List.append_nil]; exact fu1)
    · skip
      refine ez_go (n := 3) (pc' := 51) (L' := [(5, .inl (-1)), (4, .inl (x)), (3, .inl ((B.length : Int))), (0, .inr (.inr (some (770)))), (1, .inl (p)), (2, .inl (c))]) (st' := [.inl (x), .inr (.inr (some (770)))]) rfl ?_
      refine ez_cv hP u770 rfl rfl rfl tq_75 rfl rfl rfl (rd_hangul xb (fun hh => ez_K1 ?_) (fun hh => ez_K1 ?_))
      · skip
        have hh2 := hh; unfold hz at hh2
        refine ez_if rfl rfl ⟨by decide, by decide⟩ (fun (c68 : (1 : Int) = (0)) => absurd c68 (by decide)) (fun _ => ?_)
        refine ez_go (n := 1) (pc' := 59) (L' := [(5, .inl (-1)), (4, .inl (x)), (3, .inl ((B.length : Int))), (0, .inr (.inr (some (770)))), (1, .inl (p)), (2, .inl (c))]) (st' := [.inl (x)]) rfl ?_
        refine ez_ldcV (44032) rfl rfl rfl ?_
        refine ez_go (n := 5) (pc' := 70) (L' := [(6, .inl ((x) - (44032))), (5, .inl (-1)), (4, .inl (x)), (3, .inl ((B.length : Int))), (0, .inr (.inr (some (770)))), (1, .inl (p)), (2, .inl (c))]) (st' := [.inl (28), .inl ((x) - (44032)), .inl ((B.length : Int))]) rfl ?_
        refine ez_rem rfl (by omega) (by omega) (by omega) (by omega) ?_
        refine ez_if rfl rfl ⟨by first | omega | exact (sz_i32 _).1, by first | omega | exact (sz_i32 _).2⟩ (fun (c69 : (((x) - (44032)) % (28)) ≤ (0)) => ?_) (fun (c69 : ¬((((x) - (44032)) % (28)) ≤ (0))) => ?_)
        · skip
          refine ez_go (n := 3) (pc' := 82) (L' := [(6, .inl ((x) - (44032))), (5, .inl (-1)), (4, .inl (x)), (3, .inl ((B.length : Int))), (0, .inr (.inr (some (770)))), (1, .inl (p)), (2, .inl (c))]) (st' := [.inl (40), .inl (((B.length : Int)) + (2))]) rfl ?_
          refine ez_icmp rfl rfl ⟨by first | omega | exact (sz_i32 _).1, by first | omega | exact (sz_i32 _).2⟩ ⟨by first | omega | exact (sz_i32 _).1, by first | omega | exact (sz_i32 _).2⟩ (fun (c70 : (((B.length : Int)) + (2)) ≤ (40)) => ?_) (fun (c70 : ¬((((B.length : Int)) + (2)) ≤ (40))) => ?_)
          · skip
            refine ez_go (n := 1) (pc' := 89) (L' := [(6, .inl ((x) - (44032))), (5, .inl (-1)), (4, .inl (x)), (3, .inl ((B.length : Int))), (0, .inr (.inr (some (770)))), (1, .inl (p)), (2, .inl (c))]) (st' := [.inr (.inr (some (770)))]) rfl ?_
            refine ez_gC (p := 794) (tg := 82) hP u770 rfl rfl tq_75 rfl rfl (fun (t794 : _ = 82) => ?_)
            refine ez_go (n := 4) (pc' := 101) (L' := [(6, .inl ((x) - (44032))), (5, .inl (-1)), (4, .inl (x)), (3, .inl ((B.length : Int))), (0, .inr (.inr (some (770)))), (1, .inl (p)), (2, .inl (c))]) (st' := [.inl (588), .inl ((x) - (44032)), .inl (4352), .inl ((B.length : Int)), .inr (.inr (some (794)))]) rfl ?_
            refine ez_div rfl (by omega) (by omega) (by omega) (by omega) ?_
            refine ez_go (n := 1) (pc' := 103) (L' := [(6, .inl ((x) - (44032))), (5, .inl (-1)), (4, .inl (x)), (3, .inl ((B.length : Int))), (0, .inr (.inr (some (770)))), (1, .inl (p)), (2, .inl (c))]) (st' := [.inl ((4352) + (((x) - (44032)) / (588))), .inl ((B.length : Int)), .inr (.inr (some (794)))]) rfl ?_
            have n73 : 64 ≤ qz_N g1 794 ∧ qz_N g1 794 ≤ 64 := ez_len hP t794 tq_82 rfl
            refine ez_as hP t794 rfl tq_82 rfl rfl (by omega) (by omega) (ez_vdI rfl rfl (by omega) (by omega)) (fun hB71 w72 => ?_)
            have fO1 : ez_fr (ez_one 794) g1 (dz_put g1 794 ((B.length : Int)).toNat (ez_v (.inl ((4352) + (((x) - (44032)) / (588)))))) := (ez_fr.refl (ez_one 794) g1).put rfl _ _
            have lO1 : (B).length = ((B.length : Int)).toNat := by (try simp only [List.length_append, List.length_cons, List.length_nil]); omega
            have vO1 : qz_I (dz_put g1 794 ((B.length : Int)).toNat (ez_v (.inl ((4352) + (((x) - (44032)) / (588)))))) 794 (B).length = 4352 + (x - 44032) / 588 := by rw [lO1]; exact w72.trans (rz_rd ⟨by omega, by omega⟩)
            have iO1 : ∀ j, j ≠ (B).length → qz_I (dz_put g1 794 ((B.length : Int)).toNat (ez_v (.inl ((4352) + (((x) - (44032)) / (588)))))) 794 j = qz_I g1 794 j := fun j hj => ez_put_I (fun w => hj (w.2.trans lO1.symm))
            have hO1 := hB71
            generalize (dz_put g1 794 ((B.length : Int)).toNat (ez_v (.inl ((4352) + (((x) - (44032)) / (588)))))) = o1 at *
            have cO11 := fO1.1; have cO12 := fO1.2.1
            have fv1 := fu1.out hO1 u770 u794 fO1 iO1 vO1
            refine ez_go (n := 1) (pc' := 105) (L' := [(6, .inl ((x) - (44032))), (5, .inl (-1)), (4, .inl (x)), (3, .inl ((B.length : Int))), (0, .inr (.inr (some (770)))), (1, .inl (p)), (2, .inl (c))]) (st' := [.inr (.inr (some (770)))]) rfl ?_
            refine ez_gC (p := 794) (tg := 82) hO1 u770 rfl rfl tq_75 rfl rfl (fun (t794 : _ = 82) => ?_)
            refine ez_go (n := 6) (pc' := 119) (L' := [(6, .inl ((x) - (44032))), (5, .inl (-1)), (4, .inl (x)), (3, .inl ((B.length : Int))), (0, .inr (.inr (some (770)))), (1, .inl (p)), (2, .inl (c))]) (st' := [.inl (588), .inl ((x) - (44032)), .inl (4449), .inl (((B.length : Int)) + (1)), .inr (.inr (some (794)))]) rfl ?_
            refine ez_rem rfl (by omega) (by omega) (by omega) (by omega) ?_
            refine ez_go (n := 1) (pc' := 122) (L' := [(6, .inl ((x) - (44032))), (5, .inl (-1)), (4, .inl (x)), (3, .inl ((B.length : Int))), (0, .inr (.inr (some (770)))), (1, .inl (p)), (2, .inl (c))]) (st' := [.inl (28), .inl (((x) - (44032)) % (588)), .inl (4449), .inl (((B.length : Int)) + (1)), .inr (.inr (some (794)))]) rfl ?_
            refine ez_div rfl (by omega) (by omega) (by omega) (by omega) ?_
            refine ez_go (n := 1) (pc' := 124) (L' := [(6, .inl ((x) - (44032))), (5, .inl (-1)), (4, .inl (x)), (3, .inl ((B.length : Int))), (0, .inr (.inr (some (770)))), (1, .inl (p)), (2, .inl (c))]) (st' := [.inl ((4449) + ((((x) - (44032)) % (588)) / (28))), .inl (((B.length : Int)) + (1)), .inr (.inr (some (794)))]) rfl ?_
            have n76 : 64 ≤ qz_N o1 794 ∧ qz_N o1 794 ≤ 64 := ez_len hO1 t794 tq_82 rfl
            refine ez_as hO1 t794 rfl tq_82 rfl rfl (by omega) (by omega) (ez_vdI rfl rfl (by omega) (by omega)) (fun hB74 w75 => ?_)
            have fO2 : ez_fr (ez_one 794) o1 (dz_put o1 794 (((B.length : Int)) + (1)).toNat (ez_v (.inl ((4449) + ((((x) - (44032)) % (588)) / (28)))))) := (ez_fr.refl (ez_one 794) o1).put rfl _ _
            have lO2 : (B ++ [4352 + (x - 44032) / 588]).length = ((B.length : Int) + 1).toNat := by (try simp only [List.length_append, List.length_cons, List.length_nil]); omega
            have vO2 : qz_I (dz_put o1 794 (((B.length : Int)) + (1)).toNat (ez_v (.inl ((4449) + ((((x) - (44032)) % (588)) / (28)))))) 794 (B ++ [4352 + (x - 44032) / 588]).length = 4449 + (x - 44032) % 588 / 28 := by rw [lO2]; exact w75.trans (rz_rd ⟨by omega, by omega⟩)
            have iO2 : ∀ j, j ≠ (B ++ [4352 + (x - 44032) / 588]).length → qz_I (dz_put o1 794 (((B.length : Int)) + (1)).toNat (ez_v (.inl ((4449) + ((((x) - (44032)) % (588)) / (28)))))) 794 j = qz_I o1 794 j := fun j hj => ez_put_I (fun w => hj (w.2.trans lO2.symm))
            have hO2 := hB74
            generalize (dz_put o1 794 (((B.length : Int)) + (1)).toNat (ez_v (.inl ((4449) + ((((x) - (44032)) % (588)) / (28)))))) = o2 at *
            have cO21 := fO2.1; have cO22 := fO2.2.1
            have fv2 := fv1.out hO2 u770 u794 fO2 iO2 vO2
            refine ez_go (n := 3) (pc' := 132) (L' := [(3, .inl ((B.length : Int) + 2)), (6, .inl ((x) - (44032))), (5, .inl (-1)), (4, .inl (x)), (0, .inr (.inr (some (770)))), (1, .inl (p)), (2, .inl (c))]) (st' := [.inl (28), .inl ((x) - (44032))]) rfl ?_
            refine ez_rem rfl (by omega) (by omega) (by omega) (by omega) ?_
            refine ez_if rfl rfl ⟨by first | omega | exact (sz_i32 _).1, by first | omega | exact (sz_i32 _).2⟩ (fun (c77 : (((x) - (44032)) % (28)) ≤ (0)) => ?_) (fun (c77 : ¬((((x) - (44032)) % (28)) ≤ (0))) => ?_)
            · skip
              refine ez_go (n := 2) (pc' := 12) (L' := [(3, .inl ((B.length : Int) + 2)), (6, .inl ((x) - (44032))), (5, .inl (-1)), (4, .inl (x)), (0, .inr (.inr (some (770)))), (1, .inl (p)), (2, .inl (c))]) (st' := []) rfl ?_
              have hsy : hz_sy x = [4352 + (x - 44032) / 588, 4449 + (x - 44032) % 588 / 28] := by unfold hz_sy; rw [if_pos (by omega)]
              have hap : B ++ hz_sy x = B ++ [4352 + (x - 44032) / 588] ++ [4449 + (x - 44032) % 588 / 28] := by rw [hsy]; simp
              have hln : (B ++ hz_sy x).length = B.length + 2 := by rw [List.length_append, hsy]; rfl
              rw [show (B.length : Int) + 2 = ((B ++ hz_sy x).length : Int) by rw [hln]; omega]
              refine ez_less [(3, .inl (((B ++ hz_sy x).length : Int))), (0, .inr (.inr (some (770)))), (1, .inl (p)), (2, .inl (c))] rfl ⟨rfl, rfl, rfl, rfl, trivial⟩ ?_
              exact kH hh o2 τ1 (by rw [hap]; exact fv2) (by rw [hln]; omega)
            · skip
              refine ez_go (n := 1) (pc' := 137) (L' := [(3, .inl ((B.length : Int) + 2)), (6, .inl ((x) - (44032))), (5, .inl (-1)), (4, .inl (x)), (0, .inr (.inr (some (770)))), (1, .inl (p)), (2, .inl (c))]) (st' := [.inr (.inr (some (770)))]) rfl ?_
              refine ez_gC (p := 794) (tg := 82) hO2 u770 rfl rfl tq_75 rfl rfl (fun (t794 : _ = 82) => ?_)
              refine ez_go (n := 4) (pc' := 148) (L' := [(3, .inl ((B.length : Int) + 2)), (6, .inl ((x) - (44032))), (5, .inl (-1)), (4, .inl (x)), (0, .inr (.inr (some (770)))), (1, .inl (p)), (2, .inl (c))]) (st' := [.inl (28), .inl ((x) - (44032)), .inl (4519), .inl ((B.length : Int) + 2), .inr (.inr (some (794)))]) rfl ?_
              refine ez_rem rfl (by omega) (by omega) (by omega) (by omega) ?_
              refine ez_go (n := 1) (pc' := 150) (L' := [(3, .inl ((B.length : Int) + 2)), (6, .inl ((x) - (44032))), (5, .inl (-1)), (4, .inl (x)), (0, .inr (.inr (some (770)))), (1, .inl (p)), (2, .inl (c))]) (st' := [.inl ((4519) + (((x) - (44032)) % (28))), .inl ((B.length : Int) + 2), .inr (.inr (some (794)))]) rfl ?_
              have n80 : 64 ≤ qz_N o2 794 ∧ qz_N o2 794 ≤ 64 := ez_len hO2 t794 tq_82 rfl
              refine ez_as hO2 t794 rfl tq_82 rfl rfl (by omega) (by omega) (ez_vdI rfl rfl (by omega) (by omega)) (fun hB78 w79 => ?_)
              have fO3 : ez_fr (ez_one 794) o2 (dz_put o2 794 ((B.length : Int) + 2).toNat (ez_v (.inl ((4519) + (((x) - (44032)) % (28)))))) := (ez_fr.refl (ez_one 794) o2).put rfl _ _
              have lO3 : (B ++ [4352 + (x - 44032) / 588] ++ [4449 + (x - 44032) % 588 / 28]).length = ((B.length : Int) + 2).toNat := by (try simp only [List.length_append, List.length_cons, List.length_nil]); omega
              have vO3 : qz_I (dz_put o2 794 ((B.length : Int) + 2).toNat (ez_v (.inl ((4519) + (((x) - (44032)) % (28)))))) 794 (B ++ [4352 + (x - 44032) / 588] ++ [4449 + (x - 44032) % 588 / 28]).length = 4519 + (x - 44032) % 28 := by rw [lO3]; exact w79.trans (rz_rd ⟨by omega, by omega⟩)
              have iO3 : ∀ j, j ≠ (B ++ [4352 + (x - 44032) / 588] ++ [4449 + (x - 44032) % 588 / 28]).length → qz_I (dz_put o2 794 ((B.length : Int) + 2).toNat (ez_v (.inl ((4519) + (((x) - (44032)) % (28)))))) 794 j = qz_I o2 794 j := fun j hj => ez_put_I (fun w => hj (w.2.trans lO3.symm))
              have hO3 := hB78
              generalize (dz_put o2 794 ((B.length : Int) + 2).toNat (ez_v (.inl ((4519) + (((x) - (44032)) % (28)))))) = o3 at *
              have cO31 := fO3.1; have cO32 := fO3.2.1
              have fv3 := fv2.out hO3 u770 u794 fO3 iO3 vO3
              refine ez_go (n := 3) (pc' := 12) (L' := [(3, .inl ((B.length : Int) + 2 + 1)), (6, .inl ((x) - (44032))), (5, .inl (-1)), (4, .inl (x)), (0, .inr (.inr (some (770)))), (1, .inl (p)), (2, .inl (c))]) (st' := []) rfl ?_
              have hsy : hz_sy x = [4352 + (x - 44032) / 588, 4449 + (x - 44032) % 588 / 28, 4519 + (x - 44032) % 28] := by unfold hz_sy; rw [if_neg (by omega)]
              have hap : B ++ hz_sy x = B ++ [4352 + (x - 44032) / 588] ++ [4449 + (x - 44032) % 588 / 28] ++ [4519 + (x - 44032) % 28] := by rw [hsy]; simp
              have hln : (B ++ hz_sy x).length = B.length + 3 := by rw [List.length_append, hsy]; rfl
              rw [show (B.length : Int) + 2 + 1 = ((B ++ hz_sy x).length : Int) by rw [hln]; omega]
              refine ez_less [(3, .inl (((B ++ hz_sy x).length : Int))), (0, .inr (.inr (some (770)))), (1, .inl (p)), (2, .inl (c))] rfl ⟨rfl, rfl, rfl, rfl, trivial⟩ ?_
              exact kH hh o3 τ1 (by rw [hap]; exact fv3) (by rw [hln]; omega)
          · skip
            refine ez_go (n := 1) (pc' := 87) (L' := [(6, .inl ((x) - (44032))), (5, .inl (-1)), (4, .inl (x)), (3, .inl ((B.length : Int))), (0, .inr (.inr (some (770)))), (1, .inl (p)), (2, .inl (c))]) (st' := [.inl (41)]) rfl ?_
            exact ez_retI rfl rfl (k41H hh (by rw [hl2]; split <;> omega) g1 τ1 hP fu1.2.1 fu1.2.2.1.2)
        · skip
          refine ez_go (n := 4) (pc' := 82) (L' := [(6, .inl ((x) - (44032))), (5, .inl (-1)), (4, .inl (x)), (3, .inl ((B.length : Int))), (0, .inr (.inr (some (770)))), (1, .inl (p)), (2, .inl (c))]) (st' := [.inl (40), .inl (((B.length : Int)) + (3))]) rfl ?_
          refine ez_icmp rfl rfl ⟨by first | omega | exact (sz_i32 _).1, by first | omega | exact (sz_i32 _).2⟩ ⟨by first | omega | exact (sz_i32 _).1, by first | omega | exact (sz_i32 _).2⟩ (fun (c81 : (((B.length : Int)) + (3)) ≤ (40)) => ?_) (fun (c81 : ¬((((B.length : Int)) + (3)) ≤ (40))) => ?_)
          · skip
            refine ez_go (n := 1) (pc' := 89) (L' := [(6, .inl ((x) - (44032))), (5, .inl (-1)), (4, .inl (x)), (3, .inl ((B.length : Int))), (0, .inr (.inr (some (770)))), (1, .inl (p)), (2, .inl (c))]) (st' := [.inr (.inr (some (770)))]) rfl ?_
            refine ez_gC (p := 794) (tg := 82) hP u770 rfl rfl tq_75 rfl rfl (fun (t794 : _ = 82) => ?_)
            refine ez_go (n := 4) (pc' := 101) (L' := [(6, .inl ((x) - (44032))), (5, .inl (-1)), (4, .inl (x)), (3, .inl ((B.length : Int))), (0, .inr (.inr (some (770)))), (1, .inl (p)), (2, .inl (c))]) (st' := [.inl (588), .inl ((x) - (44032)), .inl (4352), .inl ((B.length : Int)), .inr (.inr (some (794)))]) rfl ?_
            refine ez_div rfl (by omega) (by omega) (by omega) (by omega) ?_
            refine ez_go (n := 1) (pc' := 103) (L' := [(6, .inl ((x) - (44032))), (5, .inl (-1)), (4, .inl (x)), (3, .inl ((B.length : Int))), (0, .inr (.inr (some (770)))), (1, .inl (p)), (2, .inl (c))]) (st' := [.inl ((4352) + (((x) - (44032)) / (588))), .inl ((B.length : Int)), .inr (.inr (some (794)))]) rfl ?_
            have n84 : 64 ≤ qz_N g1 794 ∧ qz_N g1 794 ≤ 64 := ez_len hP t794 tq_82 rfl
            refine ez_as hP t794 rfl tq_82 rfl rfl (by omega) (by omega) (ez_vdI rfl rfl (by omega) (by omega)) (fun hB82 w83 => ?_)
            have fO1 : ez_fr (ez_one 794) g1 (dz_put g1 794 ((B.length : Int)).toNat (ez_v (.inl ((4352) + (((x) - (44032)) / (588)))))) := (ez_fr.refl (ez_one 794) g1).put rfl _ _
            have lO1 : (B).length = ((B.length : Int)).toNat := by (try simp only [List.length_append, List.length_cons, List.length_nil]); omega
            have vO1 : qz_I (dz_put g1 794 ((B.length : Int)).toNat (ez_v (.inl ((4352) + (((x) - (44032)) / (588)))))) 794 (B).length = 4352 + (x - 44032) / 588 := by rw [lO1]; exact w83.trans (rz_rd ⟨by omega, by omega⟩)
            have iO1 : ∀ j, j ≠ (B).length → qz_I (dz_put g1 794 ((B.length : Int)).toNat (ez_v (.inl ((4352) + (((x) - (44032)) / (588)))))) 794 j = qz_I g1 794 j := fun j hj => ez_put_I (fun w => hj (w.2.trans lO1.symm))
            have hO1 := hB82
            generalize (dz_put g1 794 ((B.length : Int)).toNat (ez_v (.inl ((4352) + (((x) - (44032)) / (588)))))) = o1 at *
            have cO11 := fO1.1; have cO12 := fO1.2.1
            have fv1 := fu1.out hO1 u770 u794 fO1 iO1 vO1
            refine ez_go (n := 1) (pc' := 105) (L' := [(6, .inl ((x) - (44032))), (5, .inl (-1)), (4, .inl (x)), (3, .inl ((B.length : Int))), (0, .inr (.inr (some (770)))), (1, .inl (p)), (2, .inl (c))]) (st' := [.inr (.inr (some (770)))]) rfl ?_
            refine ez_gC (p := 794) (tg := 82) hO1 u770 rfl rfl tq_75 rfl rfl (fun (t794 : _ = 82) => ?_)
            refine ez_go (n := 6) (pc' := 119) (L' := [(6, .inl ((x) - (44032))), (5, .inl (-1)), (4, .inl (x)), (3, .inl ((B.length : Int))), (0, .inr (.inr (some (770)))), (1, .inl (p)), (2, .inl (c))]) (st' := [.inl (588), .inl ((x) - (44032)), .inl (4449), .inl (((B.length : Int)) + (1)), .inr (.inr (some (794)))]) rfl ?_
            refine ez_rem rfl (by omega) (by omega) (by omega) (by omega) ?_
            refine ez_go (n := 1) (pc' := 122) (L' := [(6, .inl ((x) - (44032))), (5, .inl (-1)), (4, .inl (x)), (3, .inl ((B.length : Int))), (0, .inr (.inr (some (770)))), (1, .inl (p)), (2, .inl (c))]) (st' := [.inl (28), .inl (((x) - (44032)) % (588)), .inl (4449), .inl (((B.length : Int)) + (1)), .inr (.inr (some (794)))]) rfl ?_
            refine ez_div rfl (by omega) (by omega) (by omega) (by omega) ?_
            refine ez_go (n := 1) (pc' := 124) (L' := [(6, .inl ((x) - (44032))), (5, .inl (-1)), (4, .inl (x)), (3, .inl ((B.length : Int))), (0, .inr (.inr (some (770)))), (1, .inl (p)), (2, .inl (c))]) (st' := [.inl ((4449) + ((((x) - (44032)) % (588)) / (28))), .inl (((B.length : Int)) + (1)), .inr (.inr (some (794)))]) rfl ?_
            have n87 : 64 ≤ qz_N o1 794 ∧ qz_N o1 794 ≤ 64 := ez_len hO1 t794 tq_82 rfl
            refine ez_as hO1 t794 rfl tq_82 rfl rfl (by omega) (by omega) (ez_vdI rfl rfl (by omega) (by omega)) (fun hB85 w86 => ?_)
            have fO2 : ez_fr (ez_one 794) o1 (dz_put o1 794 (((B.length : Int)) + (1)).toNat (ez_v (.inl ((4449) + ((((x) - (44032)) % (588)) / (28)))))) := (ez_fr.refl (ez_one 794) o1).put rfl _ _
            have lO2 : (B ++ [4352 + (x - 44032) / 588]).length = ((B.length : Int) + 1).toNat := by (try simp only [List.length_append, List.length_cons, List.length_nil]); omega
            have vO2 : qz_I (dz_put o1 794 (((B.length : Int)) + (1)).toNat (ez_v (.inl ((4449) + ((((x) - (44032)) % (588)) / (28)))))) 794 (B ++ [4352 + (x - 44032) / 588]).length = 4449 + (x - 44032) % 588 / 28 := by rw [lO2]; exact w86.trans (rz_rd ⟨by omega, by omega⟩)
            have iO2 : ∀ j, j ≠ (B ++ [4352 + (x - 44032) / 588]).length → qz_I (dz_put o1 794 (((B.length : Int)) + (1)).toNat (ez_v (.inl ((4449) + ((((x) - (44032)) % (588)) / (28)))))) 794 j = qz_I o1 794 j := fun j hj => ez_put_I (fun w => hj (w.2.trans lO2.symm))
            have hO2 := hB85
            generalize (dz_put o1 794 (((B.length : Int)) + (1)).toNat (ez_v (.inl ((4449) + ((((x) - (44032)) % (588)) / (28)))))) = o2 at *
            have cO21 := fO2.1; have cO22 := fO2.2.1
            have fv2 := fv1.out hO2 u770 u794 fO2 iO2 vO2
            refine ez_go (n := 3) (pc' := 132) (L' := [(3, .inl ((B.length : Int) + 2)), (6, .inl ((x) - (44032))), (5, .inl (-1)), (4, .inl (x)), (0, .inr (.inr (some (770)))), (1, .inl (p)), (2, .inl (c))]) (st' := [.inl (28), .inl ((x) - (44032))]) rfl ?_
            refine ez_rem rfl (by omega) (by omega) (by omega) (by omega) ?_
            refine ez_if rfl rfl ⟨by first | omega | exact (sz_i32 _).1, by first | omega | exact (sz_i32 _).2⟩ (fun (c88 : (((x) - (44032)) % (28)) ≤ (0)) => ?_) (fun (c88 : ¬((((x) - (44032)) % (28)) ≤ (0))) => ?_)
            · skip
              refine ez_go (n := 2) (pc' := 12) (L' := [(3, .inl ((B.length : Int) + 2)), (6, .inl ((x) - (44032))), (5, .inl (-1)), (4, .inl (x)), (0, .inr (.inr (some (770)))), (1, .inl (p)), (2, .inl (c))]) (st' := []) rfl ?_
              have hsy : hz_sy x = [4352 + (x - 44032) / 588, 4449 + (x - 44032) % 588 / 28] := by unfold hz_sy; rw [if_pos (by omega)]
              have hap : B ++ hz_sy x = B ++ [4352 + (x - 44032) / 588] ++ [4449 + (x - 44032) % 588 / 28] := by rw [hsy]; simp
              have hln : (B ++ hz_sy x).length = B.length + 2 := by rw [List.length_append, hsy]; rfl
              rw [show (B.length : Int) + 2 = ((B ++ hz_sy x).length : Int) by rw [hln]; omega]
              refine ez_less [(3, .inl (((B ++ hz_sy x).length : Int))), (0, .inr (.inr (some (770)))), (1, .inl (p)), (2, .inl (c))] rfl ⟨rfl, rfl, rfl, rfl, trivial⟩ ?_
              exact kH hh o2 τ1 (by rw [hap]; exact fv2) (by rw [hln]; omega)
            · skip
              refine ez_go (n := 1) (pc' := 137) (L' := [(3, .inl ((B.length : Int) + 2)), (6, .inl ((x) - (44032))), (5, .inl (-1)), (4, .inl (x)), (0, .inr (.inr (some (770)))), (1, .inl (p)), (2, .inl (c))]) (st' := [.inr (.inr (some (770)))]) rfl ?_
              refine ez_gC (p := 794) (tg := 82) hO2 u770 rfl rfl tq_75 rfl rfl (fun (t794 : _ = 82) => ?_)
              refine ez_go (n := 4) (pc' := 148) (L' := [(3, .inl ((B.length : Int) + 2)), (6, .inl ((x) - (44032))), (5, .inl (-1)), (4, .inl (x)), (0, .inr (.inr (some (770)))), (1, .inl (p)), (2, .inl (c))]) (st' := [.inl (28), .inl ((x) - (44032)), .inl (4519), .inl ((B.length : Int) + 2), .inr (.inr (some (794)))]) rfl ?_
              refine ez_rem rfl (by omega) (by omega) (by omega) (by omega) ?_
              refine ez_go (n := 1) (pc' := 150) (L' := [(3, .inl ((B.length : Int) + 2)), (6, .inl ((x) - (44032))), (5, .inl (-1)), (4, .inl (x)), (0, .inr (.inr (some (770)))), (1, .inl (p)), (2, .inl (c))]) (st' := [.inl ((4519) + (((x) - (44032)) % (28))), .inl ((B.length : Int) + 2), .inr (.inr (some (794)))]) rfl ?_
              have n91 : 64 ≤ qz_N o2 794 ∧ qz_N o2 794 ≤ 64 := ez_len hO2 t794 tq_82 rfl
              refine ez_as hO2 t794 rfl tq_82 rfl rfl (by omega) (by omega) (ez_vdI rfl rfl (by omega) (by omega)) (fun hB89 w90 => ?_)
              have fO3 : ez_fr (ez_one 794) o2 (dz_put o2 794 ((B.length : Int) + 2).toNat (ez_v (.inl ((4519) + (((x) - (44032)) % (28)))))) := (ez_fr.refl (ez_one 794) o2).put rfl _ _
              have lO3 : (B ++ [4352 + (x - 44032) / 588] ++ [4449 + (x - 44032) % 588 / 28]).length = ((B.length : Int) + 2).toNat := by (try simp only [List.length_append, List.length_cons, List.length_nil]); omega
              have vO3 : qz_I (dz_put o2 794 ((B.length : Int) + 2).toNat (ez_v (.inl ((4519) + (((x) - (44032)) % (28)))))) 794 (B ++ [4352 + (x - 44032) / 588] ++ [4449 + (x - 44032) % 588 / 28]).length = 4519 + (x - 44032) % 28 := by rw [lO3]; exact w90.trans (rz_rd ⟨by omega, by omega⟩)
              have iO3 : ∀ j, j ≠ (B ++ [4352 + (x - 44032) / 588] ++ [4449 + (x - 44032) % 588 / 28]).length → qz_I (dz_put o2 794 ((B.length : Int) + 2).toNat (ez_v (.inl ((4519) + (((x) - (44032)) % (28)))))) 794 j = qz_I o2 794 j := fun j hj => ez_put_I (fun w => hj (w.2.trans lO3.symm))
              have hO3 := hB89
              generalize (dz_put o2 794 ((B.length : Int) + 2).toNat (ez_v (.inl ((4519) + (((x) - (44032)) % (28)))))) = o3 at *
              have cO31 := fO3.1; have cO32 := fO3.2.1
              have fv3 := fv2.out hO3 u770 u794 fO3 iO3 vO3
              refine ez_go (n := 3) (pc' := 12) (L' := [(3, .inl ((B.length : Int) + 2 + 1)), (6, .inl ((x) - (44032))), (5, .inl (-1)), (4, .inl (x)), (0, .inr (.inr (some (770)))), (1, .inl (p)), (2, .inl (c))]) (st' := []) rfl ?_
              have hsy : hz_sy x = [4352 + (x - 44032) / 588, 4449 + (x - 44032) % 588 / 28, 4519 + (x - 44032) % 28] := by unfold hz_sy; rw [if_neg (by omega)]
              have hap : B ++ hz_sy x = B ++ [4352 + (x - 44032) / 588] ++ [4449 + (x - 44032) % 588 / 28] ++ [4519 + (x - 44032) % 28] := by rw [hsy]; simp
              have hln : (B ++ hz_sy x).length = B.length + 3 := by rw [List.length_append, hsy]; rfl
              rw [show (B.length : Int) + 2 + 1 = ((B ++ hz_sy x).length : Int) by rw [hln]; omega]
              refine ez_less [(3, .inl (((B ++ hz_sy x).length : Int))), (0, .inr (.inr (some (770)))), (1, .inl (p)), (2, .inl (c))] rfl ⟨rfl, rfl, rfl, rfl, trivial⟩ ?_
              exact kH hh o3 τ1 (by rw [hap]; exact fv3) (by rw [hln]; omega)
          · skip
            refine ez_go (n := 1) (pc' := 87) (L' := [(6, .inl ((x) - (44032))), (5, .inl (-1)), (4, .inl (x)), (3, .inl ((B.length : Int))), (0, .inr (.inr (some (770)))), (1, .inl (p)), (2, .inl (c))]) (st' := [.inl (41)]) rfl ?_
            exact ez_retI rfl rfl (k41H hh (by rw [hl2]; split <;> omega) g1 τ1 hP fu1.2.1 fu1.2.2.1.2)
      · skip
        refine ez_if rfl rfl ⟨by decide, by decide⟩ (fun _ => ?_) (fun (c92 : ¬((0 : Int) = (0))) => absurd c92 (by decide))
        refine ez_go (n := 1) (pc' := 159) (L' := [(5, .inl (-1)), (4, .inl (x)), (3, .inl ((B.length : Int))), (0, .inr (.inr (some (770)))), (1, .inl (p)), (2, .inl (c))]) (st' := [.inl (-1)]) rfl ?_
        refine ez_if rfl rfl ⟨by decide, by decide⟩ (fun _ => ?_) (fun (c93 : ¬((-1 : Int) < (0))) => absurd c93 (by decide))
        refine ez_go (n := 2) (pc' := 237) (L' := [(5, .inl (-1)), (4, .inl (x)), (3, .inl ((B.length : Int))), (0, .inr (.inr (some (770)))), (1, .inl (p)), (2, .inl (c))]) (st' := [.inl (40), .inl ((B.length : Int))]) rfl ?_
        refine ez_icmp rfl rfl ⟨by first | omega | exact (sz_i32 _).1, by first | omega | exact (sz_i32 _).2⟩ ⟨by first | omega | exact (sz_i32 _).1, by first | omega | exact (sz_i32 _).2⟩ (fun (c94 : ((B.length : Int)) ≠ (40)) => ?_) (fun (c94 : ¬(((B.length : Int)) ≠ (40))) => ?_)
        · skip
          refine ez_go (n := 1) (pc' := 244) (L' := [(5, .inl (-1)), (4, .inl (x)), (3, .inl ((B.length : Int))), (0, .inr (.inr (some (770)))), (1, .inl (p)), (2, .inl (c))]) (st' := [.inr (.inr (some (770)))]) rfl ?_
          refine ez_gC (p := 794) (tg := 82) hP u770 rfl rfl tq_75 rfl rfl (fun (t794 : _ = 82) => ?_)
          refine ez_go (n := 2) (pc' := 250) (L' := [(5, .inl (-1)), (4, .inl (x)), (3, .inl ((B.length : Int))), (0, .inr (.inr (some (770)))), (1, .inl (p)), (2, .inl (c))]) (st' := [.inl (x), .inl ((B.length : Int)), .inr (.inr (some (794)))]) rfl ?_
          have n97 : 64 ≤ qz_N g1 794 ∧ qz_N g1 794 ≤ 64 := ez_len hP t794 tq_82 rfl
          refine ez_as hP t794 rfl tq_82 rfl rfl (by omega) (by omega) (ez_vdI rfl rfl (by omega) (by omega)) (fun hB95 w96 => ?_)
          have fO9 : ez_fr (ez_one 794) g1 (dz_put g1 794 ((B.length : Int)).toNat (ez_v (.inl (x)))) := (ez_fr.refl (ez_one 794) g1).put rfl _ _
          have lO9 : (B).length = ((B.length : Int)).toNat := by (try simp only [List.length_append, List.length_cons, List.length_nil]); omega
          have vO9 : qz_I (dz_put g1 794 ((B.length : Int)).toNat (ez_v (.inl (x)))) 794 (B).length = x := by rw [lO9]; exact w96.trans (rz_rd ⟨by omega, by omega⟩)
          have iO9 : ∀ j, j ≠ (B).length → qz_I (dz_put g1 794 ((B.length : Int)).toNat (ez_v (.inl (x)))) 794 j = qz_I g1 794 j := fun j hj => ez_put_I (fun w => hj (w.2.trans lO9.symm))
          have hO9 := hB95
          generalize (dz_put g1 794 ((B.length : Int)).toNat (ez_v (.inl (x)))) = o9 at *
          have cO91 := fO9.1; have cO92 := fO9.2.1
          have fv9 := fu1.out hO9 u770 u794 fO9 iO9 vO9
          refine ez_go (n := 2) (pc' := 12) (L' := [(3, .inl ((B.length : Int) + 1)), (5, .inl (-1)), (4, .inl (x)), (0, .inr (.inr (some (770)))), (1, .inl (p)), (2, .inl (c))]) (st' := []) rfl ?_
          rw [show (B.length : Int) + 1 = ((B ++ [x]).length : Int) by rw [List.length_append]; rfl]
          refine ez_less [(3, .inl (((B ++ [x]).length : Int))), (0, .inr (.inr (some (770)))), (1, .inl (p)), (2, .inl (c))] rfl ⟨rfl, rfl, rfl, rfl, trivial⟩ ?_
          refine kL hh (Or.inl hno) o9 τ1 fv9 (by rw [List.length_append]; show B.length + 1 ≤ 40; omega)
        · skip
          refine ez_go (n := 1) (pc' := 242) (L' := [(5, .inl (-1)), (4, .inl (x)), (3, .inl ((B.length : Int))), (0, .inr (.inr (some (770)))), (1, .inl (p)), (2, .inl (c))]) (st' := [.inl (41)]) rfl ?_
          exact ez_retI rfl rfl (k41L hh (Or.inl hno) (by omega) g1 τ1 hP fu1.2.1 fu1.2.2.1.2)

end EzFu
/-! The model: full, all of it. (Written by wip/p2/py/pv96.py.) -/
section EzFv
variable {d : Nat} {h : cz_H} {τ : Nat → Nat} {Q : cz_F → Prop} {F : rz_W} {p c : Int}
theorem rd_full_n {cb : Bool} (e : eD τ h F) (t794 : τ 794 = 82) (hr1 : h.1 + 100 ≤ 600192) (hr2 : h.2.1 + 60000 ≤ 7302232) (cr : ez_rg c) (hcb : c ≠ 0 ↔ cb = true) : ∀ (n : Nat) (x : Int) (l : List Int), uz_f F cb n x = some l → ∀ (g : cz_H) (τ1 : Nat → Nat) (S B : List Int), fu τ h τ1 g (S ++ [x]) B → B.length ≤ 40 → S.length + 17 * n + 1 ≤ 9300 → (∀ g τ1, fu τ h τ1 g S (B ++ l) → (B ++ l).length ≤ 40 → ez_W (d + 2) cm_261 12 [(3, .inl (((B ++ l).length : Int))), (0, .inr (.inr (some (770)))), (1, .inl (p)), (2, .inl (c))] [] g Q) → (40 < (B ++ l).length → ∀ g τ1, ez_B τ1 g → ff τ h τ1 g → skn g ≤ qz_N g (sk g) → Q (.inl (some (ez_v (.inl 41))), g)) → ez_W (d + 2) cm_261 12 [(3, .inl (((B).length : Int))), (0, .inr (.inr (some (770)))), (1, .inl (p)), (2, .inl (c))] [] g Q := by
  intro n
  induction n with
  | zero => intro x l hl; cases hl
  | succ n ih =>
    have hlist : ∀ (vs l : List Int), uz_L (uz_f F cb n) vs = some l → ∀ (g : cz_H) (τ1 : Nat → Nat) (S B : List Int), fu τ h τ1 g (S ++ vs.reverse) B → B.length ≤ 40 → S.length + vs.length + 17 * n ≤ 9300 → (∀ g τ1, fu τ h τ1 g S (B ++ l) → (B ++ l).length ≤ 40 → ez_W (d + 2) cm_261 12 [(3, .inl (((B ++ l).length : Int))), (0, .inr (.inr (some (770)))), (1, .inl (p)), (2, .inl (c))] [] g Q) → (40 < (B ++ l).length → ∀ g τ1, ez_B τ1 g → ff τ h τ1 g → skn g ≤ qz_N g (sk g) → Q (.inl (some (ez_v (.inl 41))), g)) → ez_W (d + 2) cm_261 12 [(3, .inl (((B).length : Int))), (0, .inr (.inr (some (770)))), (1, .inl (p)), (2, .inl (c))] [] g Q := by
      intro vs
      induction vs with
      | nil =>
        intro l hl g τ1 S B hfu hB40 hS kx k41
        cases hl
        rw [List.reverse_nil, List.append_nil] at hfu
        have w := kx g τ1 (by rw [List.append_nil]; exact hfu) (by rw [List.append_nil]; exact hB40)
        rw [List.append_nil] at w
        exact w
      | cons v vs ihv =>
        intro l hl g τ1 S B hfu hB40 hS kx k41
        unfold uz_L at hl
        cases ha : uz_f F cb n v with
        | none => rw [ha] at hl; cases hl
        | some a =>
          cases hb : uz_L (uz_f F cb n) vs with
          | none => rw [ha, hb] at hl; cases hl
          | some b =>
            rw [ha, hb] at hl
            cases hl
            rw [List.reverse_cons, ← List.append_assoc] at hfu
            rw [List.length_cons] at hS
            refine ih v a ha g τ1 (S ++ vs.reverse) B hfu hB40 (by rw [List.length_append, List.length_reverse]; omega) (fun g2 τ2 f2 h40 => ?_) (fun h4 => k41 (by rw [List.length_append] at h4 ⊢; rw [List.length_append]; omega))
            refine ihv b hb g2 τ2 S (B ++ a) f2 h40 (by omega) (fun g3 τ3 f3 h3 => ?_) (fun h4 => k41 (by rw [← List.append_assoc]; exact h4))
            have w := kx g3 τ3 (by rw [← List.append_assoc]; exact f3) (by rw [← List.append_assoc]; exact h3)
            rw [← List.append_assoc] at w
            exact w
    intro x l hl g τ1 S B hfu hB40 hS kx k41
    unfold uz_f at hl
    refine rd_full_1 e t794 hr1 hr2 cr (by omega) hB40 hfu (fun hh g2 τ2 f2 h40 => ?_) (fun hh hlf g2 τ2 f2 h40 => ?_) (fun hh cp vs hF hc h18 g2 τ2 f2 => ?_) (fun hh h4 => ?_) (fun hh hlf h4 => ?_)
    · rw [if_pos hh] at hl; cases hl
      exact kx g2 τ2 f2 h40
    · have el : l = [x] := by
        rw [if_neg hh] at hl
        rcases hlf with w | ⟨cp, vs, w1, w2⟩
        · rw [w] at hl; cases hl; rfl
        · rw [w1] at hl
          have hl : (if cb = true ∨ cp = 0 then uz_L (uz_f F cb n) vs else some [x]) = some l := hl
          rw [if_neg (fun w => w2 (w.imp (fun w => hcb.mpr w) id))] at hl
          cases hl; rfl
      subst el
      exact kx g2 τ2 f2 h40
    · rw [if_neg hh, hF] at hl
      have hl : (if cb = true ∨ cp = 0 then uz_L (uz_f F cb n) vs else some [x]) = some l := hl
      rw [if_pos (hc.imp (fun w => hcb.mp w) id)] at hl
      exact hlist vs l hl g2 τ2 S B f2 hB40 (by omega) kx k41
    · rw [if_pos hh] at hl; cases hl
      exact k41 (by rw [List.length_append]; exact h4)
    · have el : l = [x] := by
        rw [if_neg hh] at hl
        rcases hlf with w | ⟨cp, vs, w1, w2⟩
        · rw [w] at hl; cases hl; rfl
        · rw [w1] at hl
          have hl : (if cb = true ∨ cp = 0 then uz_L (uz_f F cb n) vs else some [x]) = some l := hl
          rw [if_neg (fun w => w2 (w.imp (fun w => hcb.mpr w) id))] at hl
          cases hl; rfl
      subst el
      exact k41 (by rw [List.length_append]; show 40 < B.length + 1; omega)
theorem rd_full_z {g : cz_H} {τ1 : Nat → Nat} {l : List Int} (t770 : τ 770 = 75) (hfu : fu τ h τ1 g [] l) (kx : ∀ g τ1, ez_B τ1 g → ff τ h τ1 g → skn g ≤ qz_N g (sk g) → (∀ (j : Nat) v, l[j]? = some v → qz_I g 794 j = v) → Q (.inl (some (ez_v (.inl (l.length : Int)))), g)) : ez_W (d + 2) cm_261 12 [(3, .inl ((l.length : Int))), (0, .inr (.inr (some (770)))), (1, .inl (p)), (2, .inl (c))] [] g Q := by
  have sn3 := hfu.2.2.1.1
  have skd : skn g = qz_I g 770 25 := rfl
  have ln0 : (([] : List Int).length : Int) = 0 := rfl
  have u770 : τ1 770 = 75 := (hfu.2.1.1 770 (by rw [t770]; decide)).1.trans t770
  have hBg := hfu.1
  refine ez_go (n := 1) (pc' := 13) (L' := [(3, .inl ((l.length : Int))), (0, .inr (.inr (some (770)))), (1, .inl (p)), (2, .inl (c))]) (st' := [.inr (.inr (some (770)))]) rfl ?_
  refine ez_gI hBg u770 rfl rfl tq_75 rfl rfl (fun (b1 : 0 ≤ qz_I g 770 25) (b1' : qz_I g 770 25 ≤ 9300) => ?_)
  refine ez_if rfl rfl ⟨by first | omega | exact (sz_i32 _).1, by first | omega | exact (sz_i32 _).2⟩ (fun (c2 : (qz_I g 770 25) ≤ (0)) => ?_) (fun (c2 : ¬((qz_I g 770 25) ≤ (0))) => ?_)
  · skip
    refine ez_go (n := 1) (pc' := 258) (L' := [(3, .inl ((l.length : Int))), (0, .inr (.inr (some (770)))), (1, .inl (p)), (2, .inl (c))]) (st' := [.inl ((l.length : Int))]) rfl ?_
    exact ez_retI rfl rfl (kx g τ1 hfu.1 hfu.2.1 hfu.2.2.1.2 hfu.2.2.2.2)
  · exfalso; omega

theorem rd_full {cb : Bool} {n : Nat} {l : List Int} (e : eD τ h F) (t794 : τ 794 = 82) (hr1 : h.1 + 100 ≤ 600192) (hr2 : h.2.1 + 60000 ≤ 7302232) (pr : ez_rg p) (cr : ez_rg c) (hcb : c ≠ 0 ↔ cb = true) (hl : uz_f F cb n p = some l) (hn : 17 * n + 1 ≤ 9300) (k1 : l.length ≤ 40 → ∀ g τ1, ez_B τ1 g → ff τ h τ1 g → skn g ≤ qz_N g (sk g) → (∀ (j : Nat) v, l[j]? = some v → qz_I g 794 j = v) → Q (.inl (some (ez_v (.inl (l.length : Int)))), g)) (k41 : 40 < l.length → ∀ g τ1, ez_B τ1 g → ff τ h τ1 g → skn g ≤ qz_N g (sk g) → Q (.inl (some (ez_v (.inl 41))), g)) : ez_W (d + 2) cm_261 0 [(0, .inr (.inr (some (770)))), (1, .inl (p)), (2, .inl (c))] [] h Q := by
  have hB := e.1
  have t770 := e.2.1
  refine ez_go (n := 4) (pc' := 4) (L' := [(3, .inl (0)), (0, .inr (.inr (some (770)))), (1, .inl (p)), (2, .inl (c))]) (st' := [.inl (0), .inr (.inr (some (770)))]) rfl ?_
  refine ez_pf hB t770 rfl rfl tq_75 rfl rfl rfl rfl (ez_vdI rfl rfl (by omega) (by omega)) (fun hB1 w2 => ?_)
  have vP : qz_I (dz_put h 770 25 (ez_v (.inl (0)))) 770 25 = 0 := w2.trans (rz_rd ⟨by omega, by omega⟩)
  have iP : ∀ j, j ≠ 25 → qz_I (dz_put h 770 25 (ez_v (.inl (0)))) 770 j = qz_I h 770 j := fun j hj => ez_put_I (fun w => hj w.2)
  have fP : ez_fr (ez_one 770) h (dz_put h 770 25 (ez_v (.inl (0)))) := (ez_fr.refl (ez_one 770) h).put rfl _ _
  have hP := hB1
  generalize (dz_put h 770 25 (ez_v (.inl (0)))) = g1 at *
  have cP1 := fP.1; have cP2 := fP.2.1
  have ts := ez_tsk hB t770
  have n7 : sk h ≠ 770 := fun e => by rw [e, t770] at ts; cases ts
  have vP' : skn g1 = 0 := vP
  have nn := qz_N_nn g1 (sk g1)
  have f0 : fu τ h τ g1 [] [] := ⟨hP, ff.n25 hB hP t770 fP iP n7, ⟨vP, by omega⟩, fun j v hv => by simp at hv, fun j v hv => by simp at hv⟩
  refine ez_go (n := 2) (pc' := 9) (L' := [(3, .inl (0)), (0, .inr (.inr (some (770)))), (1, .inl (p)), (2, .inl (c))]) (st' := [.inl (p), .inr (.inr (some (770)))]) rfl ?_
  refine ez_cv hP t770 rfl rfl rfl tq_75 rfl rfl rfl (rd_push hP t770 pr.1 pr.2 (by omega) (by omega) (by omega) (by omega) (fun g2 τ2 hB2 k2 => ez_K0 ?_))
  have f2 := f0.push k2 hB2 t770 t794
  refine ez_less [(3, .inl (0)), (0, .inr (.inr (some (770)))), (1, .inl (p)), (2, .inl (c))] rfl ⟨rfl, rfl, rfl, rfl, trivial⟩ ?_
  refine rd_full_n e t794 hr1 hr2 cr hcb n p l hl g2 τ2 [] [] f2 (by decide) (by show 0 + 17 * n + 1 ≤ 9300; omega) (fun g3 τ3 f3 h3 => rd_full_z t770 f3 (k1 (by rw [List.nil_append] at h3; exact h3))) (fun h4 => k41 (by rw [List.nil_append] at h4; exact h4))

end EzFv
/-! The model: excluded, composite. (Written by wip/p2/py/pv97.py.) -/
section EzXc
variable {d : Nat} {h : cz_H} {τ : Nat → Nat} {Q : cz_F → Prop} {Ls : List vz} {b : Int}
theorem rd_excluded {p : Int} (hI : mI τ h Ls b) (e : eD τ h (vF Ls)) (pr : ez_rg p) (k1 : ez_x (vF Ls) (vE Ls) p → Q (.inl (some (ez_v (.inl 1))), h)) (k0 : ¬ ez_x (vF Ls) (vE Ls) p → Q (.inl (some (ez_v (.inl 0))), h)) : ez_W (d + 2) cm_251 0 [(0, .inr (.inr (some (770)))), (1, .inl (p))] [] h Q := by
  have hB := e.1
  have t770 := e.2.1
  have c500 := e.2.2.1.1
  have cnp := e.2.2.1.2.2.2
  have cnb := e.2.2.1.2.2.1
  have cnd := e.2.2.1.2.1
  have td := ez_tdb hB t770
  have tt := ez_tls hB t770
  refine ez_go (n := 3) (pc' := 3) (L' := [(0, .inr (.inr (some (770)))), (1, .inl (p))]) (st' := [.inl (0), .inl (p), .inr (.inr (some (770)))]) rfl ?_
  refine ez_cv hB t770 rfl rfl rfl tq_75 rfl rfl rfl (rd_has hI pr (fun hE => ez_K1 ?_) (fun hE => ez_K1 ?_))
  · skip
    refine ez_if rfl rfl ⟨by decide, by decide⟩ (fun _ => ?_) (fun (c1 : ¬((1 : Int) ≠ (0))) => absurd c1 (by decide))
    refine ez_go (n := 1) (pc' := 18) (L' := [(0, .inr (.inr (some (770)))), (1, .inl (p))]) (st' := [.inl (1)]) rfl ?_
    exact ez_retZ rfl rfl (Or.inr rfl) (k1 (Or.inl (Or.inl hE)))
  · skip
    refine ez_if rfl rfl ⟨by decide, by decide⟩ (fun (c2 : (0 : Int) ≠ (0)) => absurd c2 (by decide)) (fun _ => ?_)
    refine ez_go (n := 2) (pc' := 11) (L' := [(0, .inr (.inr (some (770)))), (1, .inl (p))]) (st' := [.inl (p), .inr (.inr (some (770)))]) rfl ?_
    refine ez_cv hB t770 rfl rfl rfl tq_75 rfl rfl rfl (rd_mrank hI pr (fun rg => ez_K1 ?_))
    obtain ⟨rg0, rg1⟩ := id rg
    refine ez_if rfl rfl ⟨by first | omega | exact (sz_i32 _).1, by first | omega | exact (sz_i32 _).2⟩ (fun (c3 : ((vF Ls p).1) ≤ (0)) => ?_) (fun (c3 : ¬(((vF Ls p).1) ≤ (0))) => ?_)
    · skip
      refine ez_go (n := 2) (pc' := 21) (L' := [(0, .inr (.inr (some (770)))), (1, .inl (p))]) (st' := [.inl (p), .inr (.inr (some (770)))]) rfl ?_
      refine ez_cv hB t770 rfl rfl rfl tq_75 rfl rfl rfl (rd_where' e pr (fun w hw ew => ez_K1 ?_) (fun hno => ez_K1 ?_))
      · skip
        obtain ⟨⟨ek1, tl⟩, ⟨l7, l8⟩, cp, vs, F1, ty, hlen, hr⟩ := e.at (k := (w : Int)) (by omega) (by omega)
        have t56 := e.2.2.2.2.2.2 _ tl
        generalize el : qz_P h (bw h) ((w : Int)).toNat = l at tl l7 l8 ty hlen hr t56
        have hlen1 : qz_I h (l + 2) (0 : Int).toNat = (vs.length : Int) := hlen.1
        have hlen2 : qz_I h (l + 1) (0 : Int).toNat + (vs.length : Int) ≤ pn h := hlen.2.1
        have hlen3 : 0 ≤ qz_I h (l + 1) (0 : Int).toNat := hlen.2.2
        rw [Int.toNat_natCast, ew] at F1
        refine ez_go (n := 2) (pc' := 26) (L' := [(2, .inl ((w : Int))), (0, .inr (.inr (some (770)))), (1, .inl (p))]) (st' := [.inl ((w : Int))]) rfl ?_
        refine ez_if rfl rfl ⟨by first | omega | exact (sz_i32 _).1, by first | omega | exact (sz_i32 _).2⟩ (fun (c4 : ((w : Int)) < (0)) => ?_) (fun (c4 : ¬(((w : Int)) < (0))) => ?_)
        · skip
          refine ez_go (n := 1) (pc' := 85) (L' := [(2, .inl ((w : Int))), (0, .inr (.inr (some (770)))), (1, .inl (p))]) (st' := [.inl (0)]) rfl ?_
          exact ez_retZ rfl rfl (Or.inl rfl) (k0 (fun w9 => by rcases w9 with (w9 | w9) | ⟨a, b2, w9, -⟩; (· exact hE w9); (· omega); (· rw [F1] at w9; cases w9; have hl9 : qz_I h (l + 2) (0 : Int).toNat = 2 := hlen1; omega)))
        · skip
          refine ez_go (n := 1) (pc' := 30) (L' := [(2, .inl ((w : Int))), (0, .inr (.inr (some (770)))), (1, .inl (p))]) (st' := [.inr (.inr (some (770)))]) rfl ?_
          refine ez_gR hB t770 rfl rfl tq_75 rfl rfl (fun (t5 : _ = 20) (t5' : 1 ≤ qz_I h 770 22) => ?_)
          rw [show qz_P h 770 22 = bw h from rfl]
          refine ez_go (n := 1) (pc' := 34) (L' := [(2, .inl ((w : Int))), (0, .inr (.inr (some (770)))), (1, .inl (p))]) (st' := [.inl ((w : Int)), .inr (.inr (some ((bw h))))]) rfl ?_
          have n7 : 64 ≤ qz_N h ((bw h)) ∧ qz_N h ((bw h)) ≤ 4096 := ez_len hB td.2 tq_20 rfl
          have y8 : 1 ≤ qz_I h ((bw h)) ((w : Int)).toNat := ek1
          have y9 : 0 ≤ qz_I h ((bw h)) ((w : Int)).toNat ∧ qz_I h ((bw h)) ((w : Int)).toNat ≤ 1000000 := ez_aB hB td.2 tq_20 rfl rfl (by decide) (by omega) (by omega)
          have y9' : ((qz_P h ((bw h)) ((w : Int)).toNat : Nat) : Int) + 1 = qz_I h ((bw h)) ((w : Int)).toNat := by unfold qz_P; omega
          refine ez_aR hB td.2 rfl tq_20 rfl rfl (by omega) (by omega) (by omega) (fun (t6 : _ = 13) => ?_)
          rw [el]
          refine ez_gI hB tl rfl rfl tq_13 rfl rfl (fun (b10 : -2147483648 ≤ qz_I h l 5) (b10' : qz_I h l 5 ≤ 2147483647) => ?_)
          refine ez_go (n := 1) (pc' := 39) (L' := [(2, .inl ((w : Int))), (0, .inr (.inr (some (770)))), (1, .inl (p))]) (st' := [.inl (1), .inl (qz_I h l 5)]) rfl ?_
          refine ez_icmp rfl rfl ⟨by first | omega | exact (sz_i32 _).1, by first | omega | exact (sz_i32 _).2⟩ ⟨by first | omega | exact (sz_i32 _).1, by first | omega | exact (sz_i32 _).2⟩ (fun (c11 : (qz_I h l 5) ≠ (1)) => ?_) (fun (c11 : ¬((qz_I h l 5) ≠ (1))) => ?_)
          · skip
            refine ez_go (n := 1) (pc' := 85) (L' := [(2, .inl ((w : Int))), (0, .inr (.inr (some (770)))), (1, .inl (p))]) (st' := [.inl (0)]) rfl ?_
            exact ez_retZ rfl rfl (Or.inl rfl) (k0 (fun w9 => by rcases w9 with (w9 | w9) | ⟨a, b2, w9, -⟩; (· exact hE w9); (· omega); (· rw [F1] at w9; cases w9; have hl9 : qz_I h (l + 2) (0 : Int).toNat = 2 := hlen1; omega)))
          · skip
            refine ez_go (n := 1) (pc' := 43) (L' := [(2, .inl ((w : Int))), (0, .inr (.inr (some (770)))), (1, .inl (p))]) (st' := [.inr (.inr (some (770)))]) rfl ?_
            refine ez_gR hB t770 rfl rfl tq_75 rfl rfl (fun (t12 : _ = 20) (t12' : 1 ≤ qz_I h 770 22) => ?_)
            rw [show qz_P h 770 22 = bw h from rfl]
            refine ez_go (n := 1) (pc' := 47) (L' := [(2, .inl ((w : Int))), (0, .inr (.inr (some (770)))), (1, .inl (p))]) (st' := [.inl ((w : Int)), .inr (.inr (some ((bw h))))]) rfl ?_
            have n14 : 64 ≤ qz_N h ((bw h)) ∧ qz_N h ((bw h)) ≤ 4096 := ez_len hB td.2 tq_20 rfl
            have y15 : 1 ≤ qz_I h ((bw h)) ((w : Int)).toNat := ek1
            have y16 : 0 ≤ qz_I h ((bw h)) ((w : Int)).toNat ∧ qz_I h ((bw h)) ((w : Int)).toNat ≤ 1000000 := ez_aB hB td.2 tq_20 rfl rfl (by decide) (by omega) (by omega)
            have y16' : ((qz_P h ((bw h)) ((w : Int)).toNat : Nat) : Int) + 1 = qz_I h ((bw h)) ((w : Int)).toNat := by unfold qz_P; omega
            refine ez_aR hB td.2 rfl tq_20 rfl rfl (by omega) (by omega) (by omega) (fun (t13 : _ = 13) => ?_)
            rw [el]
            refine ez_gR hB tl rfl rfl tq_13 rfl rfl (fun (t17 : _ = 16) (t17' : 1 ≤ qz_I h l 8) => ?_)
            rw [l8]
            refine ez_go (n := 1) (pc' := 52) (L' := [(2, .inl ((w : Int))), (0, .inr (.inr (some (770)))), (1, .inl (p))]) (st' := [.inl (0), .inr (.inr (some ((l + 2))))]) rfl ?_
            have n19 : 3 ≤ qz_N h ((l + 2)) ∧ qz_N h ((l + 2)) ≤ 3 := ez_len hB t56.2 tq_16 rfl
            refine ez_aI hB t56.2 rfl tq_16 rfl rfl (by omega) (by omega) (fun (b18 : 0 ≤ qz_I h ((l + 2)) (0 : Int).toNat) (b18' : qz_I h ((l + 2)) (0 : Int).toNat ≤ 18) => ?_)
            refine ez_go (n := 1) (pc' := 54) (L' := [(2, .inl ((w : Int))), (0, .inr (.inr (some (770)))), (1, .inl (p))]) (st' := [.inl (2), .inl (qz_I h ((l + 2)) (0 : Int).toNat)]) rfl ?_
            refine ez_icmp rfl rfl ⟨by first | omega | exact (sz_i32 _).1, by first | omega | exact (sz_i32 _).2⟩ ⟨by first | omega | exact (sz_i32 _).1, by first | omega | exact (sz_i32 _).2⟩ (fun (c20 : (qz_I h ((l + 2)) (0 : Int).toNat) ≠ (2)) => ?_) (fun (c20 : ¬((qz_I h ((l + 2)) (0 : Int).toNat) ≠ (2))) => ?_)
            · skip
              refine ez_go (n := 1) (pc' := 85) (L' := [(2, .inl ((w : Int))), (0, .inr (.inr (some (770)))), (1, .inl (p))]) (st' := [.inl (0)]) rfl ?_
              exact ez_retZ rfl rfl (Or.inl rfl) (k0 (fun w9 => by rcases w9 with (w9 | w9) | ⟨a, b2, w9, -⟩; (· exact hE w9); (· omega); (· rw [F1] at w9; cases w9; have hl9 : qz_I h (l + 2) (0 : Int).toNat = 2 := hlen1; omega)))
            · skip
              refine ez_go (n := 2) (pc' := 59) (L' := [(2, .inl ((w : Int))), (0, .inr (.inr (some (770)))), (1, .inl (p))]) (st' := [.inr (.inr (some (770))), .inr (.inr (some (770)))]) rfl ?_
              refine ez_gR hB t770 rfl rfl tq_75 rfl rfl (fun (t21 : _ = 17) (t21' : 1 ≤ qz_I h 770 9) => ?_)
              rw [show qz_P h 770 9 = po h from rfl]
              refine ez_go (n := 1) (pc' := 63) (L' := [(2, .inl ((w : Int))), (0, .inr (.inr (some (770)))), (1, .inl (p))]) (st' := [.inr (.inr (some (770))), .inr (.inr (some ((po h)))), .inr (.inr (some (770)))]) rfl ?_
              refine ez_gR hB t770 rfl rfl tq_75 rfl rfl (fun (t22 : _ = 20) (t22' : 1 ≤ qz_I h 770 22) => ?_)
              rw [show qz_P h 770 22 = bw h from rfl]
              refine ez_go (n := 1) (pc' := 67) (L' := [(2, .inl ((w : Int))), (0, .inr (.inr (some (770)))), (1, .inl (p))]) (st' := [.inl ((w : Int)), .inr (.inr (some ((bw h)))), .inr (.inr (some ((po h)))), .inr (.inr (some (770)))]) rfl ?_
              have n24 : 64 ≤ qz_N h ((bw h)) ∧ qz_N h ((bw h)) ≤ 4096 := ez_len hB td.2 tq_20 rfl
              have y25 : 1 ≤ qz_I h ((bw h)) ((w : Int)).toNat := ek1
              have y26 : 0 ≤ qz_I h ((bw h)) ((w : Int)).toNat ∧ qz_I h ((bw h)) ((w : Int)).toNat ≤ 1000000 := ez_aB hB td.2 tq_20 rfl rfl (by decide) (by omega) (by omega)
              have y26' : ((qz_P h ((bw h)) ((w : Int)).toNat : Nat) : Int) + 1 = qz_I h ((bw h)) ((w : Int)).toNat := by unfold qz_P; omega
              refine ez_aR hB td.2 rfl tq_20 rfl rfl (by omega) (by omega) (by omega) (fun (t23 : _ = 13) => ?_)
              rw [el]
              refine ez_gR hB tl rfl rfl tq_13 rfl rfl (fun (t27 : _ = 15) (t27' : 1 ≤ qz_I h l 7) => ?_)
              rw [l7]
              refine ez_go (n := 1) (pc' := 72) (L' := [(2, .inl ((w : Int))), (0, .inr (.inr (some (770)))), (1, .inl (p))]) (st' := [.inl (0), .inr (.inr (some ((l + 1)))), .inr (.inr (some ((po h)))), .inr (.inr (some (770)))]) rfl ?_
              have n29 : 3 ≤ qz_N h ((l + 1)) ∧ qz_N h ((l + 1)) ≤ 3 := ez_len hB t56.1 tq_15 rfl
              refine ez_aI hB t56.1 rfl tq_15 rfl rfl (by omega) (by omega) (fun (b28 : 0 ≤ qz_I h ((l + 1)) (0 : Int).toNat) (b28' : qz_I h ((l + 1)) (0 : Int).toNat ≤ 38500) => ?_)
              have n31 : 1024 ≤ qz_N h ((po h)) ∧ qz_N h ((po h)) ≤ 77100 := ez_len hB tt.2 tq_17 rfl
              refine ez_aI hB tt.2 rfl tq_17 rfl rfl (by omega) (by omega) (fun (b30 : -2147483648 ≤ qz_I h ((po h)) (qz_I h ((l + 1)) (0 : Int).toNat).toNat) (b30' : qz_I h ((po h)) (qz_I h ((l + 1)) (0 : Int).toNat).toNat ≤ 2147483647) => ?_)
              obtain ⟨v, v2, hvs⟩ : ∃ v v2, vs = [v, v2] := by
                match vs, hlen1 with
                | [v, v2], _ => exact ⟨v, v2, rfl⟩
                | [], hl => exact absurd hl (by simp; omega)
                | [_], hl => exact absurd hl (by simp; omega)
                | _ :: _ :: _ :: _, hl => exact absurd hl (by simp; omega)
              have ev : qz_I h ((po h)) (qz_I h ((l + 1)) (0 : Int).toNat).toNat = v := by have w9 := hr 0 v (by rw [hvs]; rfl); unfold pl at w9; rw [show qz_I h (l + 1) (0 : Int).toNat = qz_I h (l + 1) 0 from rfl]; simpa using w9
              have vb : ez_rg v := by rw [← ev]; exact ⟨by omega, by omega⟩
              rw [ev]
              refine ez_cv hB t770 rfl rfl rfl tq_75 rfl rfl rfl (rd_mrank hI vb (fun rg => ez_K1 ?_))
              obtain ⟨rg2, rg3⟩ := id rg
              refine ez_if rfl rfl ⟨by first | omega | exact (sz_i32 _).1, by first | omega | exact (sz_i32 _).2⟩ (fun (c32 : ((vF Ls v).1) ≤ (0)) => ?_) (fun (c32 : ¬(((vF Ls v).1) ≤ (0))) => ?_)
              · skip
                refine ez_go (n := 1) (pc' := 85) (L' := [(2, .inl ((w : Int))), (0, .inr (.inr (some (770)))), (1, .inl (p))]) (st' := [.inl (0)]) rfl ?_
                exact ez_retZ rfl rfl (Or.inl rfl) (k0 (fun w9 => by rcases w9 with (w9 | w9) | ⟨a, b2, w9, w8⟩; (· exact hE w9); (· omega); (· rw [F1, hvs] at w9; cases w9; omega)))
              · skip
                refine ez_go (n := 2) (pc' := 85) (L' := [(2, .inl ((w : Int))), (0, .inr (.inr (some (770)))), (1, .inl (p))]) (st' := [.inl (1)]) rfl ?_
                exact ez_retZ rfl rfl (Or.inr rfl) (k1 (Or.inr ⟨v, v2, by rw [F1, hvs, show cp = 0 by omega], by omega⟩))
      · skip
        refine ez_go (n := 2) (pc' := 26) (L' := [(2, .inl (-1)), (0, .inr (.inr (some (770)))), (1, .inl (p))]) (st' := [.inl (-1)]) rfl ?_
        refine ez_if rfl rfl ⟨by decide, by decide⟩ (fun _ => ?_) (fun (c33 : ¬((-1 : Int) < (0))) => absurd c33 (by decide))
        refine ez_go (n := 1) (pc' := 85) (L' := [(2, .inl (-1)), (0, .inr (.inr (some (770)))), (1, .inl (p))]) (st' := [.inl (0)]) rfl ?_
        exact ez_retZ rfl rfl (Or.inl rfl) (k0 (fun w9 => by rcases w9 with (w9 | w9) | ⟨a, b2, w9, -⟩; (· exact hE w9); (· omega); (· rw [hno] at w9; cases w9)))
    · skip
      refine ez_go (n := 1) (pc' := 18) (L' := [(0, .inr (.inr (some (770)))), (1, .inl (p))]) (st' := [.inl (1)]) rfl ?_
      exact ez_retZ rfl rfl (Or.inr rfl) (k1 (Or.inl (Or.inr (by omega))))

/-- the pairs found -/
def pq (h : cz_H) : Nat := qz_P h 770 27
def pkn (h : cz_H) : Int := qz_I h 770 28
theorem ez_tpq {τ : Nat → Nat} {h : cz_H} (hB : ez_B τ h) (t770 : τ 770 = 75) : τ (pq h) = 22 := by
  have b1 : 1 ≤ qz_I h 770 27 ∧ qz_I h 770 27 ≤ 1000000 := ez_fB (cl := 11) hB t770 tq_75 rfl rfl (by decide)
  exact (ez_old (cl := 11) (k := 27) hB t770 tq_75 rfl rfl (by decide) (show qz_I h 770 27 = (pq h : Int) + 1 by unfold pq qz_P; omega)).1
/-- each is a point's that is made of two -/
def pP (h : cz_H) (F : rz_W) : Prop := (0 ≤ pkn h ∧ pkn h ≤ qz_N h (pq h)) ∧ ∀ i : Nat, (i : Int) < pkn h → qz_I h (pq h) i < cn h ∧ ∃ a b, (F (qz_I h (dc h) (qz_I h (pq h) i).toNat)).2 = some (0, [a, b])
theorem rd_composite_l {F : rz_W} {a z : Int} (e : eD τ h F) (hp : pP h F) (ar : ez_rg a) (zr : ez_rg z) (k1 : ∀ i : Nat, (i : Int) < pkn h → (F (qz_I h (dc h) (qz_I h (pq h) i).toNat)).2 = some (0, [a, z]) → Q (.inl (some (ez_v (.inl (qz_I h (dc h) (qz_I h (pq h) i).toNat)))), h)) (k0 : (∀ i : Nat, (i : Int) < pkn h → (F (qz_I h (dc h) (qz_I h (pq h) i).toNat)).2 ≠ some (0, [a, z])) → Q (.inl (some (ez_v (.inl (-1)))), h)) : ∀ (n : Nat) (k : Int), n = (pkn h - k).toNat → 0 ≤ k → k ≤ pkn h → (∀ i : Nat, (i : Int) < k → (F (qz_I h (dc h) (qz_I h (pq h) i).toNat)).2 ≠ some (0, [a, z])) → ez_W d cm_240 51 [(3, .inl (k)), (0, .inr (.inr (some (770)))), (1, .inl (a)), (2, .inl (z))] [] h Q := by
  have hB := e.1
  have t770 := e.2.1
  have c500 := e.2.2.1.1
  have cnp := e.2.2.1.2.2.2
  have cnb := e.2.2.1.2.2.1
  have cnd := e.2.2.1.2.1
  have td := ez_tdb hB t770
  have tt := ez_tls hB t770
  have tp := ez_tpq hB t770
  have pkd : pkn h = qz_I h 770 28 := rfl
  have hp1 := hp.1
  obtain ⟨ar0, ar1⟩ := id ar
  obtain ⟨zr0, zr1⟩ := id zr
  intro n
  induction n with
  | zero =>
    intro k hn kk0 kk1 hno
    refine ez_go (n := 2) (pc' := 53) (L' := [(3, .inl (k)), (0, .inr (.inr (some (770)))), (1, .inl (a)), (2, .inl (z))]) (st' := [.inr (.inr (some (770))), .inl (k)]) rfl ?_
    refine ez_gI hB t770 rfl rfl tq_75 rfl rfl (fun (b1 : 0 ≤ qz_I h 770 28) (b1' : qz_I h 770 28 ≤ 512) => ?_)
    refine ez_icmp rfl rfl ⟨by first | omega | exact (sz_i32 _).1, by first | omega | exact (sz_i32 _).2⟩ ⟨by first | omega | exact (sz_i32 _).1, by first | omega | exact (sz_i32 _).2⟩ (fun (c2 : (qz_I h 770 28) ≤ (k)) => ?_) (fun (c2 : ¬((qz_I h 770 28) ≤ (k))) => ?_)
    · skip
      refine ez_go (n := 1) (pc' := 125) (L' := [(3, .inl (k)), (0, .inr (.inr (some (770)))), (1, .inl (a)), (2, .inl (z))]) (st' := [.inl (-1)]) rfl ?_
      exact ez_retI rfl rfl (k0 (fun i hi => hno i (by omega)))
    · skip
      refine ez_go (n := 1) (pc' := 60) (L' := [(3, .inl (k)), (0, .inr (.inr (some (770)))), (1, .inl (a)), (2, .inl (z))]) (st' := [.inr (.inr (some (770)))]) rfl ?_
      refine ez_gR hB t770 rfl rfl tq_75 rfl rfl (fun (t3 : _ = 20) (t3' : 1 ≤ qz_I h 770 22) => ?_)
      rw [show qz_P h 770 22 = bw h from rfl]
      refine ez_go (n := 1) (pc' := 64) (L' := [(3, .inl (k)), (0, .inr (.inr (some (770)))), (1, .inl (a)), (2, .inl (z))]) (st' := [.inr (.inr (some (770))), .inr (.inr (some ((bw h))))]) rfl ?_
      refine ez_gR hB t770 rfl rfl tq_75 rfl rfl (fun (t4 : _ = 22) (t4' : 1 ≤ qz_I h 770 27) => ?_)
      rw [show qz_P h 770 27 = pq h from rfl]
      refine ez_go (n := 1) (pc' := 68) (L' := [(3, .inl (k)), (0, .inr (.inr (some (770)))), (1, .inl (a)), (2, .inl (z))]) (st' := [.inl (k), .inr (.inr (some ((pq h)))), .inr (.inr (some ((bw h))))]) rfl ?_
      have n6 : 0 ≤ qz_N h ((pq h)) ∧ qz_N h ((pq h)) ≤ 512 := ez_len hB tp tq_22 rfl
      refine ez_aI hB tp rfl tq_22 rfl rfl (by omega) (by omega) (fun (b5 : 0 ≤ qz_I h ((pq h)) (k).toNat) (b5' : qz_I h ((pq h)) (k).toNat ≤ 511) => ?_)
      obtain ⟨pi1, a1, z1, pi2⟩ := hp.2 k.toNat (by omega)
      generalize eu : qz_I h ((pq h)) (k).toNat = u at *
      obtain ⟨⟨ek1, tl⟩, ⟨l7, l8⟩, cp, vs, F1, ty, hlen, hr⟩ := e.at (k := u) (by omega) (by omega)
      have t56 := e.2.2.2.2.2.2 _ tl
      generalize el : qz_P h (bw h) (u).toNat = l at tl l7 l8 ty hlen hr t56
      have hlen1 : qz_I h (l + 2) (0 : Int).toNat = (vs.length : Int) := hlen.1
      have hlen2 : qz_I h (l + 1) (0 : Int).toNat + (vs.length : Int) ≤ pn h := hlen.2.1
      have hlen3 : 0 ≤ qz_I h (l + 1) (0 : Int).toNat := hlen.2.2
      rw [F1] at pi2; cases pi2
      have hl2 : qz_I h (l + 2) (0 : Int).toNat = 2 := hlen1
      have hl3 : qz_I h (l + 1) (0 : Int).toNat + 2 ≤ pn h := hlen2
      have n8 : 64 ≤ qz_N h ((bw h)) ∧ qz_N h ((bw h)) ≤ 4096 := ez_len hB td.2 tq_20 rfl
      have y9 : 1 ≤ qz_I h ((bw h)) (u).toNat := ek1
      have y10 : 0 ≤ qz_I h ((bw h)) (u).toNat ∧ qz_I h ((bw h)) (u).toNat ≤ 1000000 := ez_aB hB td.2 tq_20 rfl rfl (by decide) (by omega) (by omega)
      have y10' : ((qz_P h ((bw h)) (u).toNat : Nat) : Int) + 1 = qz_I h ((bw h)) (u).toNat := by unfold qz_P; omega
      refine ez_aR hB td.2 rfl tq_20 rfl rfl (by omega) (by omega) (by omega) (fun (t7 : _ = 13) => ?_)
      rw [el]
      refine ez_go (n := 2) (pc' := 73) (L' := [(4, .inr (.inr (some (l)))), (3, .inl (k)), (0, .inr (.inr (some (770)))), (1, .inl (a)), (2, .inl (z))]) (st' := [.inr (.inr (some (770)))]) rfl ?_
      refine ez_gR hB t770 rfl rfl tq_75 rfl rfl (fun (t11 : _ = 17) (t11' : 1 ≤ qz_I h 770 9) => ?_)
      rw [show qz_P h 770 9 = po h from rfl]
      refine ez_go (n := 1) (pc' := 78) (L' := [(4, .inr (.inr (some (l)))), (3, .inl (k)), (0, .inr (.inr (some (770)))), (1, .inl (a)), (2, .inl (z))]) (st' := [.inr (.inr (some (l))), .inr (.inr (some ((po h))))]) rfl ?_
      refine ez_gR hB tl rfl rfl tq_13 rfl rfl (fun (t12 : _ = 15) (t12' : 1 ≤ qz_I h l 7) => ?_)
      rw [l7]
      refine ez_go (n := 1) (pc' := 82) (L' := [(4, .inr (.inr (some (l)))), (3, .inl (k)), (0, .inr (.inr (some (770)))), (1, .inl (a)), (2, .inl (z))]) (st' := [.inl (0), .inr (.inr (some ((l + 1)))), .inr (.inr (some ((po h))))]) rfl ?_
      have n14 : 3 ≤ qz_N h ((l + 1)) ∧ qz_N h ((l + 1)) ≤ 3 := ez_len hB t56.1 tq_15 rfl
      refine ez_aI hB t56.1 rfl tq_15 rfl rfl (by omega) (by omega) (fun (b13 : 0 ≤ qz_I h ((l + 1)) (0 : Int).toNat) (b13' : qz_I h ((l + 1)) (0 : Int).toNat ≤ 38500) => ?_)
      have n16 : 1024 ≤ qz_N h ((po h)) ∧ qz_N h ((po h)) ≤ 77100 := ez_len hB tt.2 tq_17 rfl
      refine ez_aI hB tt.2 rfl tq_17 rfl rfl (by omega) (by omega) (fun (b15 : -2147483648 ≤ qz_I h ((po h)) (qz_I h ((l + 1)) (0 : Int).toNat).toNat) (b15' : qz_I h ((po h)) (qz_I h ((l + 1)) (0 : Int).toNat).toNat ≤ 2147483647) => ?_)
      have ev0 : qz_I h ((po h)) (qz_I h ((l + 1)) (0 : Int).toNat).toNat = a1 := by have w9 := hr 0 a1 rfl; unfold pl at w9; rw [show qz_I h (l + 1) (0 : Int).toNat = qz_I h (l + 1) 0 from rfl]; simpa using w9
      have vb0 : ez_rg a1 := by rw [← ev0]; exact ⟨by omega, by omega⟩
      obtain ⟨vc0, vd0⟩ := id vb0
      rw [ev0]
      refine ez_go (n := 1) (pc' := 85) (L' := [(4, .inr (.inr (some (l)))), (3, .inl (k)), (0, .inr (.inr (some (770)))), (1, .inl (a)), (2, .inl (z))]) (st' := [.inl (a), .inl (a1)]) rfl ?_
      refine ez_icmp rfl rfl ⟨by first | omega | exact (sz_i32 _).1, by first | omega | exact (sz_i32 _).2⟩ ⟨by first | omega | exact (sz_i32 _).1, by first | omega | exact (sz_i32 _).2⟩ (fun (c17 : (a1) ≠ (a)) => ?_) (fun (c17 : ¬((a1) ≠ (a))) => ?_)
      · skip
        refine ez_go (n := 2) (pc' := 51) (L' := [(3, .inl (k + 1)), (4, .inr (.inr (some (l)))), (0, .inr (.inr (some (770)))), (1, .inl (a)), (2, .inl (z))]) (st' := []) rfl ?_
        exfalso; omega
      · skip
        refine ez_go (n := 1) (pc' := 89) (L' := [(4, .inr (.inr (some (l)))), (3, .inl (k)), (0, .inr (.inr (some (770)))), (1, .inl (a)), (2, .inl (z))]) (st' := [.inr (.inr (some (770)))]) rfl ?_
        refine ez_gR hB t770 rfl rfl tq_75 rfl rfl (fun (t18 : _ = 17) (t18' : 1 ≤ qz_I h 770 9) => ?_)
        rw [show qz_P h 770 9 = po h from rfl]
        refine ez_go (n := 1) (pc' := 94) (L' := [(4, .inr (.inr (some (l)))), (3, .inl (k)), (0, .inr (.inr (some (770)))), (1, .inl (a)), (2, .inl (z))]) (st' := [.inr (.inr (some (l))), .inr (.inr (some ((po h))))]) rfl ?_
        refine ez_gR hB tl rfl rfl tq_13 rfl rfl (fun (t19 : _ = 15) (t19' : 1 ≤ qz_I h l 7) => ?_)
        rw [l7]
        refine ez_go (n := 1) (pc' := 98) (L' := [(4, .inr (.inr (some (l)))), (3, .inl (k)), (0, .inr (.inr (some (770)))), (1, .inl (a)), (2, .inl (z))]) (st' := [.inl (0), .inr (.inr (some ((l + 1)))), .inr (.inr (some ((po h))))]) rfl ?_
        have n21 : 3 ≤ qz_N h ((l + 1)) ∧ qz_N h ((l + 1)) ≤ 3 := ez_len hB t56.1 tq_15 rfl
        refine ez_aI hB t56.1 rfl tq_15 rfl rfl (by omega) (by omega) (fun (b20 : 0 ≤ qz_I h ((l + 1)) (0 : Int).toNat) (b20' : qz_I h ((l + 1)) (0 : Int).toNat ≤ 38500) => ?_)
        refine ez_go (n := 2) (pc' := 101) (L' := [(4, .inr (.inr (some (l)))), (3, .inl (k)), (0, .inr (.inr (some (770)))), (1, .inl (a)), (2, .inl (z))]) (st' := [.inl ((qz_I h ((l + 1)) (0 : Int).toNat) + (1)), .inr (.inr (some ((po h))))]) rfl ?_
        have n23 : 1024 ≤ qz_N h ((po h)) ∧ qz_N h ((po h)) ≤ 77100 := ez_len hB tt.2 tq_17 rfl
        refine ez_aI hB tt.2 rfl tq_17 rfl rfl (by omega) (by omega) (fun (b22 : -2147483648 ≤ qz_I h ((po h)) ((qz_I h ((l + 1)) (0 : Int).toNat) + (1)).toNat) (b22' : qz_I h ((po h)) ((qz_I h ((l + 1)) (0 : Int).toNat) + (1)).toNat ≤ 2147483647) => ?_)
        have ev1 : qz_I h ((po h)) ((qz_I h ((l + 1)) (0 : Int).toNat) + (1)).toNat = z1 := by have w9 := hr 1 z1 rfl; unfold pl at w9; rw [show qz_I h (l + 1) (0 : Int).toNat = qz_I h (l + 1) 0 from rfl]; simpa using w9
        have vb1 : ez_rg z1 := by rw [← ev1]; exact ⟨by omega, by omega⟩
        obtain ⟨vc1, vd1⟩ := id vb1
        rw [ev1]
        refine ez_go (n := 1) (pc' := 103) (L' := [(4, .inr (.inr (some (l)))), (3, .inl (k)), (0, .inr (.inr (some (770)))), (1, .inl (a)), (2, .inl (z))]) (st' := [.inl (z), .inl (z1)]) rfl ?_
        refine ez_icmp rfl rfl ⟨by first | omega | exact (sz_i32 _).1, by first | omega | exact (sz_i32 _).2⟩ ⟨by first | omega | exact (sz_i32 _).1, by first | omega | exact (sz_i32 _).2⟩ (fun (c24 : (z1) ≠ (z)) => ?_) (fun (c24 : ¬((z1) ≠ (z))) => ?_)
        · skip
          refine ez_go (n := 2) (pc' := 51) (L' := [(3, .inl (k + 1)), (4, .inr (.inr (some (l)))), (0, .inr (.inr (some (770)))), (1, .inl (a)), (2, .inl (z))]) (st' := []) rfl ?_
          exfalso; omega
        · skip
          refine ez_go (n := 1) (pc' := 107) (L' := [(4, .inr (.inr (some (l)))), (3, .inl (k)), (0, .inr (.inr (some (770)))), (1, .inl (a)), (2, .inl (z))]) (st' := [.inr (.inr (some (770)))]) rfl ?_
          refine ez_gR hB t770 rfl rfl tq_75 rfl rfl (fun (t25 : _ = 19) (t25' : 1 ≤ qz_I h 770 21) => ?_)
          rw [show qz_P h 770 21 = dc h from rfl]
          refine ez_go (n := 1) (pc' := 111) (L' := [(4, .inr (.inr (some (l)))), (3, .inl (k)), (0, .inr (.inr (some (770)))), (1, .inl (a)), (2, .inl (z))]) (st' := [.inr (.inr (some (770))), .inr (.inr (some ((dc h))))]) rfl ?_
          refine ez_gR hB t770 rfl rfl tq_75 rfl rfl (fun (t26 : _ = 22) (t26' : 1 ≤ qz_I h 770 27) => ?_)
          rw [show qz_P h 770 27 = pq h from rfl]
          refine ez_go (n := 1) (pc' := 115) (L' := [(4, .inr (.inr (some (l)))), (3, .inl (k)), (0, .inr (.inr (some (770)))), (1, .inl (a)), (2, .inl (z))]) (st' := [.inl (k), .inr (.inr (some ((pq h)))), .inr (.inr (some ((dc h))))]) rfl ?_
          have n28 : 0 ≤ qz_N h ((pq h)) ∧ qz_N h ((pq h)) ≤ 512 := ez_len hB tp tq_22 rfl
          refine ez_aI hB tp rfl tq_22 rfl rfl (by omega) (by omega) (fun (b27 : 0 ≤ qz_I h ((pq h)) (k).toNat) (b27' : qz_I h ((pq h)) (k).toNat ≤ 511) => ?_)
          rw [eu]
          have n30 : 64 ≤ qz_N h ((dc h)) ∧ qz_N h ((dc h)) ≤ 4096 := ez_len hB td.1 tq_19 rfl
          refine ez_aI hB td.1 rfl tq_19 rfl rfl (by omega) (by omega) (fun (b29 : -2147483648 ≤ qz_I h ((dc h)) (u).toNat) (b29' : qz_I h ((dc h)) (u).toNat ≤ 2147483647) => ?_)
          exact ez_retI rfl rfl (by have w9 := k1 k.toNat (by omega) (by rw [eu, F1, show a1 = a by omega, show z1 = z by omega]); rw [eu] at w9; exact w9)
  | succ n ih =>
    intro k hn kk0 kk1 hno
    refine ez_go (n := 2) (pc' := 53) (L' := [(3, .inl (k)), (0, .inr (.inr (some (770)))), (1, .inl (a)), (2, .inl (z))]) (st' := [.inr (.inr (some (770))), .inl (k)]) rfl ?_
    refine ez_gI hB t770 rfl rfl tq_75 rfl rfl (fun (b1 : 0 ≤ qz_I h 770 28) (b1' : qz_I h 770 28 ≤ 512) => ?_)
    refine ez_icmp rfl rfl ⟨by first | omega | exact (sz_i32 _).1, by first | omega | exact (sz_i32 _).2⟩ ⟨by first | omega | exact (sz_i32 _).1, by first | omega | exact (sz_i32 _).2⟩ (fun (c2 : (qz_I h 770 28) ≤ (k)) => ?_) (fun (c2 : ¬((qz_I h 770 28) ≤ (k))) => ?_)
    · skip
      refine ez_go (n := 1) (pc' := 125) (L' := [(3, .inl (k)), (0, .inr (.inr (some (770)))), (1, .inl (a)), (2, .inl (z))]) (st' := [.inl (-1)]) rfl ?_
      exact ez_retI rfl rfl (k0 (fun i hi => hno i (by omega)))
    · skip
      refine ez_go (n := 1) (pc' := 60) (L' := [(3, .inl (k)), (0, .inr (.inr (some (770)))), (1, .inl (a)), (2, .inl (z))]) (st' := [.inr (.inr (some (770)))]) rfl ?_
      refine ez_gR hB t770 rfl rfl tq_75 rfl rfl (fun (t3 : _ = 20) (t3' : 1 ≤ qz_I h 770 22) => ?_)
      rw [show qz_P h 770 22 = bw h from rfl]
      refine ez_go (n := 1) (pc' := 64) (L' := [(3, .inl (k)), (0, .inr (.inr (some (770)))), (1, .inl (a)), (2, .inl (z))]) (st' := [.inr (.inr (some (770))), .inr (.inr (some ((bw h))))]) rfl ?_
      refine ez_gR hB t770 rfl rfl tq_75 rfl rfl (fun (t4 : _ = 22) (t4' : 1 ≤ qz_I h 770 27) => ?_)
      rw [show qz_P h 770 27 = pq h from rfl]
      refine ez_go (n := 1) (pc' := 68) (L' := [(3, .inl (k)), (0, .inr (.inr (some (770)))), (1, .inl (a)), (2, .inl (z))]) (st' := [.inl (k), .inr (.inr (some ((pq h)))), .inr (.inr (some ((bw h))))]) rfl ?_
      have n6 : 0 ≤ qz_N h ((pq h)) ∧ qz_N h ((pq h)) ≤ 512 := ez_len hB tp tq_22 rfl
      refine ez_aI hB tp rfl tq_22 rfl rfl (by omega) (by omega) (fun (b5 : 0 ≤ qz_I h ((pq h)) (k).toNat) (b5' : qz_I h ((pq h)) (k).toNat ≤ 511) => ?_)
      obtain ⟨pi1, a1, z1, pi2⟩ := hp.2 k.toNat (by omega)
      generalize eu : qz_I h ((pq h)) (k).toNat = u at *
      obtain ⟨⟨ek1, tl⟩, ⟨l7, l8⟩, cp, vs, F1, ty, hlen, hr⟩ := e.at (k := u) (by omega) (by omega)
      have t56 := e.2.2.2.2.2.2 _ tl
      generalize el : qz_P h (bw h) (u).toNat = l at tl l7 l8 ty hlen hr t56
      have hlen1 : qz_I h (l + 2) (0 : Int).toNat = (vs.length : Int) := hlen.1
      have hlen2 : qz_I h (l + 1) (0 : Int).toNat + (vs.length : Int) ≤ pn h := hlen.2.1
      have hlen3 : 0 ≤ qz_I h (l + 1) (0 : Int).toNat := hlen.2.2
      rw [F1] at pi2; cases pi2
      have hl2 : qz_I h (l + 2) (0 : Int).toNat = 2 := hlen1
      have hl3 : qz_I h (l + 1) (0 : Int).toNat + 2 ≤ pn h := hlen2
      have n8 : 64 ≤ qz_N h ((bw h)) ∧ qz_N h ((bw h)) ≤ 4096 := ez_len hB td.2 tq_20 rfl
      have y9 : 1 ≤ qz_I h ((bw h)) (u).toNat := ek1
      have y10 : 0 ≤ qz_I h ((bw h)) (u).toNat ∧ qz_I h ((bw h)) (u).toNat ≤ 1000000 := ez_aB hB td.2 tq_20 rfl rfl (by decide) (by omega) (by omega)
      have y10' : ((qz_P h ((bw h)) (u).toNat : Nat) : Int) + 1 = qz_I h ((bw h)) (u).toNat := by unfold qz_P; omega
      refine ez_aR hB td.2 rfl tq_20 rfl rfl (by omega) (by omega) (by omega) (fun (t7 : _ = 13) => ?_)
      rw [el]
      refine ez_go (n := 2) (pc' := 73) (L' := [(4, .inr (.inr (some (l)))), (3, .inl (k)), (0, .inr (.inr (some (770)))), (1, .inl (a)), (2, .inl (z))]) (st' := [.inr (.inr (some (770)))]) rfl ?_
      refine ez_gR hB t770 rfl rfl tq_75 rfl rfl (fun (t11 : _ = 17) (t11' : 1 ≤ qz_I h 770 9) => ?_)
      rw [show qz_P h 770 9 = po h from rfl]
      refine ez_go (n := 1) (pc' := 78) (L' := [(4, .inr (.inr (some (l)))), (3, .inl (k)), (0, .inr (.inr (some (770)))), (1, .inl (a)), (2, .inl (z))]) (st' := [.inr (.inr (some (l))), .inr (.inr (some ((po h))))]) rfl ?_
      refine ez_gR hB tl rfl rfl tq_13 rfl rfl (fun (t12 : _ = 15) (t12' : 1 ≤ qz_I h l 7) => ?_)
      rw [l7]
      refine ez_go (n := 1) (pc' := 82) (L' := [(4, .inr (.inr (some (l)))), (3, .inl (k)), (0, .inr (.inr (some (770)))), (1, .inl (a)), (2, .inl (z))]) (st' := [.inl (0), .inr (.inr (some ((l + 1)))), .inr (.inr (some ((po h))))]) rfl ?_
      have n14 : 3 ≤ qz_N h ((l + 1)) ∧ qz_N h ((l + 1)) ≤ 3 := ez_len hB t56.1 tq_15 rfl
      refine ez_aI hB t56.1 rfl tq_15 rfl rfl (by omega) (by omega) (fun (b13 : 0 ≤ qz_I h ((l + 1)) (0 : Int).toNat) (b13' : qz_I h ((l + 1)) (0 : Int).toNat ≤ 38500) => ?_)
      have n16 : 1024 ≤ qz_N h ((po h)) ∧ qz_N h ((po h)) ≤ 77100 := ez_len hB tt.2 tq_17 rfl
      refine ez_aI hB tt.2 rfl tq_17 rfl rfl (by omega) (by omega) (fun (b15 : -2147483648 ≤ qz_I h ((po h)) (qz_I h ((l + 1)) (0 : Int).toNat).toNat) (b15' : qz_I h ((po h)) (qz_I h ((l + 1)) (0 : Int).toNat).toNat ≤ 2147483647) => ?_)
      have ev0 : qz_I h ((po h)) (qz_I h ((l + 1)) (0 : Int).toNat).toNat = a1 := by have w9 := hr 0 a1 rfl; unfold pl at w9; rw [show qz_I h (l + 1) (0 : Int).toNat = qz_I h (l + 1) 0 from rfl]; simpa using w9
      have vb0 : ez_rg a1 := by rw [← ev0]; exact ⟨by omega, by omega⟩
      obtain ⟨vc0, vd0⟩ := id vb0
      rw [ev0]
      refine ez_go (n := 1) (pc' := 85) (L' := [(4, .inr (.inr (some (l)))), (3, .inl (k)), (0, .inr (.inr (some (770)))), (1, .inl (a)), (2, .inl (z))]) (st' := [.inl (a), .inl (a1)]) rfl ?_
      refine ez_icmp rfl rfl ⟨by first | omega | exact (sz_i32 _).1, by first | omega | exact (sz_i32 _).2⟩ ⟨by first | omega | exact (sz_i32 _).1, by first | omega | exact (sz_i32 _).2⟩ (fun (c17 : (a1) ≠ (a)) => ?_) (fun (c17 : ¬((a1) ≠ (a))) => ?_)
      · skip
        refine ez_go (n := 2) (pc' := 51) (L' := [(3, .inl (k + 1)), (4, .inr (.inr (some (l)))), (0, .inr (.inr (some (770)))), (1, .inl (a)), (2, .inl (z))]) (st' := []) rfl ?_
        refine ez_less [(3, .inl (k + 1)), (0, .inr (.inr (some (770)))), (1, .inl (a)), (2, .inl (z))] rfl ⟨rfl, rfl, rfl, rfl, trivial⟩ ?_
        refine ih (k + 1) (by omega) (by omega) (by omega) (fun i hi => ?_)
        by_cases ei : i = k.toNat
        · rw [ei, eu, F1]; intro w9; cases w9; omega
        · exact hno i (by omega)
      · skip
        refine ez_go (n := 1) (pc' := 89) (L' := [(4, .inr (.inr (some (l)))), (3, .inl (k)), (0, .inr (.inr (some (770)))), (1, .inl (a)), (2, .inl (z))]) (st' := [.inr (.inr (some (770)))]) rfl ?_
        refine ez_gR hB t770 rfl rfl tq_75 rfl rfl (fun (t18 : _ = 17) (t18' : 1 ≤ qz_I h 770 9) => ?_)
        rw [show qz_P h 770 9 = po h from rfl]
        refine ez_go (n := 1) (pc' := 94) (L' := [(4, .inr (.inr (some (l)))), (3, .inl (k)), (0, .inr (.inr (some (770)))), (1, .inl (a)), (2, .inl (z))]) (st' := [.inr (.inr (some (l))), .inr (.inr (some ((po h))))]) rfl ?_
        refine ez_gR hB tl rfl rfl tq_13 rfl rfl (fun (t19 : _ = 15) (t19' : 1 ≤ qz_I h l 7) => ?_)
        rw [l7]
        refine ez_go (n := 1) (pc' := 98) (L' := [(4, .inr (.inr (some (l)))), (3, .inl (k)), (0, .inr (.inr (some (770)))), (1, .inl (a)), (2, .inl (z))]) (st' := [.inl (0), .inr (.inr (some ((l + 1)))), .inr (.inr (some ((po h))))]) rfl ?_
        have n21 : 3 ≤ qz_N h ((l + 1)) ∧ qz_N h ((l + 1)) ≤ 3 := ez_len hB t56.1 tq_15 rfl
        refine ez_aI hB t56.1 rfl tq_15 rfl rfl (by omega) (by omega) (fun (b20 : 0 ≤ qz_I h ((l + 1)) (0 : Int).toNat) (b20' : qz_I h ((l + 1)) (0 : Int).toNat ≤ 38500) => ?_)
        refine ez_go (n := 2) (pc' := 101) (L' := [(4, .inr (.inr (some (l)))), (3, .inl (k)), (0, .inr (.inr (some (770)))), (1, .inl (a)), (2, .inl (z))]) (st' := [.inl ((qz_I h ((l + 1)) (0 : Int).toNat) + (1)), .inr (.inr (some ((po h))))]) rfl ?_
        have n23 : 1024 ≤ qz_N h ((po h)) ∧ qz_N h ((po h)) ≤ 77100 := ez_len hB tt.2 tq_17 rfl
        refine ez_aI hB tt.2 rfl tq_17 rfl rfl (by omega) (by omega) (fun (b22 : -2147483648 ≤ qz_I h ((po h)) ((qz_I h ((l + 1)) (0 : Int).toNat) + (1)).toNat) (b22' : qz_I h ((po h)) ((qz_I h ((l + 1)) (0 : Int).toNat) + (1)).toNat ≤ 2147483647) => ?_)
        have ev1 : qz_I h ((po h)) ((qz_I h ((l + 1)) (0 : Int).toNat) + (1)).toNat = z1 := by have w9 := hr 1 z1 rfl; unfold pl at w9; rw [show qz_I h (l + 1) (0 : Int).toNat = qz_I h (l + 1) 0 from rfl]; simpa using w9
        have vb1 : ez_rg z1 := by rw [← ev1]; exact ⟨by omega, by omega⟩
        obtain ⟨vc1, vd1⟩ := id vb1
        rw [ev1]
        refine ez_go (n := 1) (pc' := 103) (L' := [(4, .inr (.inr (some (l)))), (3, .inl (k)), (0, .inr (.inr (some (770)))), (1, .inl (a)), (2, .inl (z))]) (st' := [.inl (z), .inl (z1)]) rfl ?_
        refine ez_icmp rfl rfl ⟨by first | omega | exact (sz_i32 _).1, by first | omega | exact (sz_i32 _).2⟩ ⟨by first | omega | exact (sz_i32 _).1, by first | omega | exact (sz_i32 _).2⟩ (fun (c24 : (z1) ≠ (z)) => ?_) (fun (c24 : ¬((z1) ≠ (z))) => ?_)
        · skip
          refine ez_go (n := 2) (pc' := 51) (L' := [(3, .inl (k + 1)), (4, .inr (.inr (some (l)))), (0, .inr (.inr (some (770)))), (1, .inl (a)), (2, .inl (z))]) (st' := []) rfl ?_
          refine ez_less [(3, .inl (k + 1)), (0, .inr (.inr (some (770)))), (1, .inl (a)), (2, .inl (z))] rfl ⟨rfl, rfl, rfl, rfl, trivial⟩ ?_
          refine ih (k + 1) (by omega) (by omega) (by omega) (fun i hi => ?_)
          by_cases ei : i = k.toNat
          · rw [ei, eu, F1]; intro w9; cases w9; omega
          · exact hno i (by omega)
        · skip
          refine ez_go (n := 1) (pc' := 107) (L' := [(4, .inr (.inr (some (l)))), (3, .inl (k)), (0, .inr (.inr (some (770)))), (1, .inl (a)), (2, .inl (z))]) (st' := [.inr (.inr (some (770)))]) rfl ?_
          refine ez_gR hB t770 rfl rfl tq_75 rfl rfl (fun (t25 : _ = 19) (t25' : 1 ≤ qz_I h 770 21) => ?_)
          rw [show qz_P h 770 21 = dc h from rfl]
          refine ez_go (n := 1) (pc' := 111) (L' := [(4, .inr (.inr (some (l)))), (3, .inl (k)), (0, .inr (.inr (some (770)))), (1, .inl (a)), (2, .inl (z))]) (st' := [.inr (.inr (some (770))), .inr (.inr (some ((dc h))))]) rfl ?_
          refine ez_gR hB t770 rfl rfl tq_75 rfl rfl (fun (t26 : _ = 22) (t26' : 1 ≤ qz_I h 770 27) => ?_)
          rw [show qz_P h 770 27 = pq h from rfl]
          refine ez_go (n := 1) (pc' := 115) (L' := [(4, .inr (.inr (some (l)))), (3, .inl (k)), (0, .inr (.inr (some (770)))), (1, .inl (a)), (2, .inl (z))]) (st' := [.inl (k), .inr (.inr (some ((pq h)))), .inr (.inr (some ((dc h))))]) rfl ?_
          have n28 : 0 ≤ qz_N h ((pq h)) ∧ qz_N h ((pq h)) ≤ 512 := ez_len hB tp tq_22 rfl
          refine ez_aI hB tp rfl tq_22 rfl rfl (by omega) (by omega) (fun (b27 : 0 ≤ qz_I h ((pq h)) (k).toNat) (b27' : qz_I h ((pq h)) (k).toNat ≤ 511) => ?_)
          rw [eu]
          have n30 : 64 ≤ qz_N h ((dc h)) ∧ qz_N h ((dc h)) ≤ 4096 := ez_len hB td.1 tq_19 rfl
          refine ez_aI hB td.1 rfl tq_19 rfl rfl (by omega) (by omega) (fun (b29 : -2147483648 ≤ qz_I h ((dc h)) (u).toNat) (b29' : qz_I h ((dc h)) (u).toNat ≤ 2147483647) => ?_)
          exact ez_retI rfl rfl (by have w9 := k1 k.toNat (by omega) (by rw [eu, F1, show a1 = a by omega, show z1 = z by omega]); rw [eu] at w9; exact w9)

theorem rd_composite {F : rz_W} {a z : Int} (e : eD τ h F) (hp : pP h F) (ar : ez_rg a) (zr : ez_rg z) (kH : hz_pair a z → ∀ v, Q (.inl (some (ez_v (.inl v))), h)) (k1 : ¬ hz_pair a z → ∀ i : Nat, (i : Int) < pkn h → (F (qz_I h (dc h) (qz_I h (pq h) i).toNat)).2 = some (0, [a, z]) → Q (.inl (some (ez_v (.inl (qz_I h (dc h) (qz_I h (pq h) i).toNat)))), h)) (k0 : ¬ hz_pair a z → (∀ i : Nat, (i : Int) < pkn h → (F (qz_I h (dc h) (qz_I h (pq h) i).toNat)).2 ≠ some (0, [a, z])) → Q (.inl (some (ez_v (.inl (-1)))), h)) : ez_W (d + 2) cm_240 0 [(0, .inr (.inr (some (770)))), (1, .inl (a)), (2, .inl (z))] [] h Q := by
  have hB := e.1
  have t770 := e.2.1
  have c500 := e.2.2.1.1
  have cnp := e.2.2.1.2.2.2
  have cnb := e.2.2.1.2.2.1
  have cnd := e.2.2.1.2.1
  have td := ez_tdb hB t770
  have tt := ez_tls hB t770
  have tp := ez_tpq hB t770
  have pkd : pkn h = qz_I h 770 28 := rfl
  have hp1 := hp.1
  obtain ⟨ar0, ar1⟩ := id ar
  obtain ⟨zr0, zr1⟩ := id zr
  refine ez_go (n := 3) (pc' := 3) (L' := [(0, .inr (.inr (some (770)))), (1, .inl (a)), (2, .inl (z))]) (st' := [.inl (z), .inl (a), .inr (.inr (some (770)))]) rfl ?_
  refine ez_cv hB t770 rfl rfl rfl tq_75 rfl rfl rfl (rd_hangulPair hB t770 ar zr (fun hh => ez_K1 ?_) (fun hh => ez_K1 ?_))
  · skip
    have hh2 := hh; unfold hz_pair hz at hh2
    refine ez_if rfl rfl ⟨by decide, by decide⟩ (fun (c1 : (1 : Int) = (0)) => absurd c1 (by decide)) (fun _ => ?_)
    refine ez_go (n := 2) (pc' := 11) (L' := [(0, .inr (.inr (some (770)))), (1, .inl (a)), (2, .inl (z))]) (st' := [.inl (a), .inr (.inr (some (770)))]) rfl ?_
    refine ez_cv hB t770 rfl rfl rfl tq_75 rfl rfl rfl (rd_hangul ar (fun h3 => ez_K1 ?_) (fun h3 => ez_K1 ?_))
    · skip
      refine ez_if rfl rfl ⟨by decide, by decide⟩ (fun (c2 : (1 : Int) = (0)) => absurd c2 (by decide)) (fun _ => ?_)
      refine ez_go (n := 6) (pc' := 48) (L' := [(0, .inr (.inr (some (770)))), (1, .inl (a)), (2, .inl (z))]) (st' := [.inl (((a) + (z)) - (4519))]) rfl ?_
      exact ez_retI rfl rfl (kH hh _)
    · skip
      refine ez_if rfl rfl ⟨by decide, by decide⟩ (fun _ => ?_) (fun (c3 : ¬((0 : Int) = (0))) => absurd c3 (by decide))
      refine ez_ldcV (44032) rfl rfl rfl ?_
      refine ez_go (n := 12) (pc' := 48) (L' := [(0, .inr (.inr (some (770)))), (1, .inl (a)), (2, .inl (z))]) (st' := [.inl ((44032) + ((((((a) - (4352)) * (21)) + (z)) - (4449)) * (28)))]) rfl ?_
      exact ez_retI rfl rfl (kH hh _)
  · skip
    refine ez_if rfl rfl ⟨by decide, by decide⟩ (fun _ => ?_) (fun (c4 : ¬((0 : Int) = (0))) => absurd c4 (by decide))
    refine ez_go (n := 2) (pc' := 51) (L' := [(3, .inl (0)), (0, .inr (.inr (some (770)))), (1, .inl (a)), (2, .inl (z))]) (st' := []) rfl ?_
    refine ez_less [(3, .inl (0)), (0, .inr (.inr (some (770)))), (1, .inl (a)), (2, .inl (z))] rfl ⟨rfl, rfl, rfl, rfl, trivial⟩ ?_
    exact rd_composite_l e hp ar zr (k1 hh) (k0 hh) _ 0 rfl (by omega) (by omega) (fun i hi => by omega)

end EzXc
/-! The model: what sound leaves as it was. -/
def sf (τ : Nat → Nat) (h : cz_H) (τ1 : Nat → Nat) (g : cz_H) (e : Int) : Prop :=
  (∀ q, τ q ≠ 0 → τ1 q = τ q ∧ (q ≠ 770 → q ≠ 794 → (τ q < 19 ∨ 22 < τ q) → g.2.2 q = h.2.2 q)) ∧ (∀ q, τ q = 0 → τ1 q ≠ 0 → (19 ≤ τ1 q ∧ τ1 q ≤ 22) ∨ τ1 q = 36) ∧
  (∀ j, j < 21 ∨ 28 < j → qz_I g 770 j = qz_I h 770 j) ∧ (qz_N h (bw h) ≤ qz_N g (bw g) ∧ qz_N h (sk h) ≤ qz_N g (sk g) ∧ (skn h ≤ qz_N h (sk h) → skn g ≤ qz_N g (sk g))) ∧ ((g.2.1 : Int) - h.2.1 ≤ 4 * (qz_N g (bw g) - qz_N h (bw h)) + 2 * (qz_N g (sk g) - qz_N h (sk h)) + e ∧ 64 * ((g.1 : Int) - h.1) ≤ 2 * (qz_N g (bw g) - qz_N h (bw h)) + (qz_N g (sk g) - qz_N h (sk h)) + e) ∧ h.1 ≤ g.1 ∧ h.2.1 ≤ g.2.1
theorem sf.trans {τ τ1 τ2 : Nat → Nat} {h g k : cz_H} {e f : Int} (a : sf τ h τ1 g e) (b : sf τ1 g τ2 k f) : sf τ h τ2 k (e + f) := by
  obtain ⟨a1, a2, a3, a4, a5, a6⟩ := a
  obtain ⟨b1, b2, b3, b4, b5, b6⟩ := b
  refine ⟨fun q hq => ?_, fun q q0 q1 => ?_, fun j j1 => (b3 j j1).trans (a3 j j1), by omega, by omega, by omega⟩
  · have y1 := a1 q hq
    have y2 := b1 q (by rw [y1.1]; exact hq)
    exact ⟨y2.1.trans y1.1, fun q1 q2 q3 => (y2.2 q1 q2 (by rw [y1.1]; exact q3)).trans (y1.2 q1 q2 q3)⟩
  · by_cases e : τ1 q = 0
    · exact b2 q e q1
    · rw [(b1 q e).1]; exact a2 q q0 e
theorem sf.mono {τ τ1 : Nat → Nat} {h g : cz_H} {e f : Int} (a : sf τ h τ1 g e) (h1 : e ≤ f) : sf τ h τ1 g f := by
  obtain ⟨a1, a2, a3, a4, a5, a6⟩ := a
  exact ⟨a1, a2, a3, a4, by omega, a6⟩
theorem gd.sfx {τ τ1 : Nat → Nat} {h g : cz_H} (a : gd τ h τ1 g) (hB : ez_B τ h) (t770 : τ 770 = 75) : sf τ h τ1 g 0 := by
  have ts := ez_tsk hB t770
  have e : sk g = sk h := by unfold sk qz_P; rw [a.2.2.1 24 (by decide) (by decide) (by decide)]
  have en : skn g = skn h := a.2.2.1 25 (by decide) (by decide) (by decide)
  have c := (a.1 (sk h) (by rw [ts]; decide)).2 (fun w => by rw [w, t770] at ts; cases ts) (by rw [ts]; decide) (by rw [ts]; decide)
  have eN : qz_N g (sk h) = qz_N h (sk h) := by unfold qz_N; rw [c]
  obtain ⟨a1, a2, a3, a4, a5, a6⟩ := a
  refine ⟨fun q hq => ⟨(a1 q hq).1, fun q1 _ q3 => (a1 q hq).2 q1 (by omega) (by omega)⟩, fun q q0 q1 => ?_, fun j hj => a3 j (by omega) (by omega) (by omega), by rw [e, eN, en]; omega, by rw [e, eN]; omega, a6⟩
  have := a2 q q0 q1
  omega
theorem xt_sf {τ τ1 : Nat → Nat} {h g : cz_H} {t : Nat} (x : ez_xt τ h τ1 g 1 512) (ht : ∀ r, τ r = 0 → τ1 r ≠ 0 → τ1 r = t) (h36 : t = 22 ∨ t = 36) (hB : ez_B τ h) (t770 : τ 770 = 75) : sf τ h τ1 g 512 := by
  have ts := ez_tsk hB t770
  have td := ez_tdb hB t770
  have i7 : ∀ j, qz_I g 770 j = qz_I h 770 j := fun j => x.I (by rw [t770]; decide) j
  have e : sk g = sk h := by unfold sk qz_P; rw [i7]
  have eb : bw g = bw h := by unfold bw qz_P; rw [i7]
  have eN : qz_N g (sk h) = qz_N h (sk h) := x.N (by rw [ts]; decide)
  have eM : qz_N g (bw h) = qz_N h (bw h) := x.N (by rw [td.2]; decide)
  have c := x.2
  refine ⟨fun q hq => ⟨(x.1 q hq).1, fun _ _ _ => (x.1 q hq).2⟩, fun q q0 q1 => by rw [ht q q0 q1]; omega, fun j _ => i7 j, by rw [e, eb, eN, eM, show skn g = skn h from i7 25]; omega, by rw [e, eb, eN, eM]; omega, by omega⟩
/-- within the second pass -/
def fp (τ : Nat → Nat) (h : cz_H) (τ1 : Nat → Nat) (g : cz_H) : Prop :=
  (∀ q, τ q ≠ 0 → τ1 q = τ q ∧ (q ≠ 770 → q ≠ 794 → τ q ≠ 21 → τ q ≠ 22 → g.2.2 q = h.2.2 q)) ∧ (∀ q, τ q = 0 → τ1 q ≠ 0 → τ1 q = 21) ∧
  (∀ j, j ≠ 24 → j ≠ 25 → j ≠ 28 → qz_I g 770 j = qz_I h 770 j) ∧ (qz_N h (sk h) ≤ qz_N g (sk g) ∧ (skn h ≤ qz_N h (sk h) → skn g ≤ qz_N g (sk g))) ∧ ((g.2.1 : Int) - h.2.1 ≤ 2 * (qz_N g (sk g) - qz_N h (sk h)) ∧ 64 * ((g.1 : Int) - h.1) ≤ qz_N g (sk g) - qz_N h (sk h)) ∧ h.1 ≤ g.1 ∧ h.2.1 ≤ g.2.1
theorem fp.refl (τ : Nat → Nat) (h : cz_H) : fp τ h τ h := ⟨fun q _ => ⟨rfl, fun _ _ _ _ => rfl⟩, fun q h1 h2 => absurd h1 h2, fun _ _ _ _ => rfl, ⟨Int.le_refl _, fun w => w⟩, by omega, Nat.le_refl _, Nat.le_refl _⟩
theorem fp.trans {τ τ1 τ2 : Nat → Nat} {h g k : cz_H} (a : fp τ h τ1 g) (b : fp τ1 g τ2 k) : fp τ h τ2 k := by
  obtain ⟨a1, a2, a3, a4, a5, a6⟩ := a
  obtain ⟨b1, b2, b3, b4, b5, b6⟩ := b
  refine ⟨fun q hq => ?_, fun q q0 q1 => ?_, fun j j1 j2 j3 => (b3 j j1 j2 j3).trans (a3 j j1 j2 j3), by omega, by omega, by omega⟩
  · have y1 := a1 q hq
    have y2 := b1 q (by rw [y1.1]; exact hq)
    exact ⟨y2.1.trans y1.1, fun q1 q2 q3 q4 => (y2.2 q1 q2 (by rw [y1.1]; exact q3) (by rw [y1.1]; exact q4)).trans (y1.2 q1 q2 q3 q4)⟩
  · by_cases e : τ1 q = 0
    · exact b2 q e q1
    · rw [(b1 q e).1]; exact a2 q q0 e
theorem ff.fpx {τ τ1 : Nat → Nat} {h g : cz_H} (a : ff τ h τ1 g) (sn : skn g ≤ qz_N g (sk g)) : fp τ h τ1 g := by
  obtain ⟨a1, a2, a3, a4, a5, a6, -⟩ := a
  exact ⟨fun q hq => ⟨(a1 q hq).1, fun q1 q2 q3 _ => (a1 q hq).2 q1 q2 q3⟩, a2, fun j j1 j2 _ => a3 j j1 j2, ⟨a4, fun _ => sn⟩, a5, a6⟩
/-- a pair more -/
theorem fp.pair {τ : Nat → Nat} {h g : cz_H} (f : ez_fr (nz_PL (pq h)) h g) (i : ∀ j, j ≠ 28 → qz_I g 770 j = qz_I h 770 j) (hB : ez_B τ h) (t770 : τ 770 = 75) : fp τ h τ g := by
  have ts := ez_tsk hB t770
  have tp := ez_tpq hB t770
  have e : sk g = sk h := by unfold sk qz_P; rw [i 24 (by decide)]
  have eN : qz_N g (sk h) = qz_N h (sk h) := f.N (by unfold nz_PL; rw [dz_beq_ne (fun w => by rw [w, t770] at ts; cases ts), dz_beq_ne (fun w => by rw [w, tp] at ts; cases ts)]; rfl)
  exact ⟨fun q _ => ⟨rfl, fun q1 _ _ q4 => f.2.2 q (by unfold nz_PL; rw [dz_beq_ne q1, dz_beq_ne (fun w => by rw [w, tp] at q4; exact q4 rfl)]; rfl)⟩, fun q h1 h2 => absurd h1 h2, fun j _ _ j3 => i j j3, by rw [e, eN, show skn g = skn h from i 25 (by decide)]; exact ⟨Int.le_refl _, fun w => w⟩, by rw [e, eN, f.1, f.2.1]; omega, by rw [f.1]; exact Nat.le_refl _, by rw [f.2.1]; exact Nat.le_refl _⟩
theorem fp.sfx {τ τ1 : Nat → Nat} {h g : cz_H} (a : fp τ h τ1 g) (hB : ez_B τ h) (t770 : τ 770 = 75) (t794 : τ 794 = 82) : sf τ h τ1 g 0 := by
  have td := ez_tdb hB t770
  have e : bw g = bw h := by unfold bw qz_P; rw [a.2.2.1 22 (by decide) (by decide) (by decide)]
  have c := (a.1 (bw h) (by rw [td.2]; decide)).2 (fun w => by have t := td.2; rw [w, t770] at t; cases t) (fun w => by have t := td.2; rw [w, t794] at t; cases t) (by rw [td.2]; decide) (by rw [td.2]; decide)
  have eN : qz_N g (bw h) = qz_N h (bw h) := by unfold qz_N; rw [c]
  obtain ⟨a1, a2, a3, a4, a5, a6⟩ := a
  refine ⟨fun q hq => ⟨(a1 q hq).1, fun q1 q2 q3 => (a1 q hq).2 q1 q2 (by omega) (by omega)⟩, fun q q0 q1 => ?_, fun j hj => a3 j (by omega) (by omega) (by omega), by rw [e, eN]; omega, by rw [e, eN]; omega, a6⟩
  have := a2 q q0 q1
  omega
theorem sf.mIx {τ τ1 : Nat → Nat} {h g : cz_H} {Ls : List vz} {b e : Int} (a : sf τ h τ1 g e) (hI : mI τ h Ls b) (hB : ez_B τ1 g) : mI τ1 g Ls b := by
  have t770 : τ 770 = 75 := hI.2.1 770 (by decide)
  have t794 : τ 794 = 82 := hI.2.1 794 (by decide)
  refine hI.gen hB (fun q hq => (a.1 q hq).1) (fun q q0 => ?_) (fun q hq => (a.1 q (by omega)).2 (fun e => by rw [e, t770] at hq; omega) (fun e => by rw [e, t794] at hq; omega) (by omega)) (fun j j1 j2 => a.2.2.1 j (by omega))
  by_cases e : τ1 q = 0
  · omega
  · have := a.2.1 q q0 e; omega
theorem fp.eDx {τ τ1 : Nat → Nat} {h g : cz_H} {F : rz_W} (a : fp τ h τ1 g) (e : eD τ h F) (t794 : τ 794 = 82) (hB : ez_B τ1 g) : eD τ1 g F := by
  refine e.tr hB (fun q hq => (a.1 q hq).1) (fun q q0 w => ?_) (fun j hj => a.2.2.1 j (by omega) (by omega) (by omega)) (fun q hq => (a.1 q (by omega)).2 (fun w => by rw [w, e.2.1] at hq; omega) (fun w => by rw [w, t794] at hq; omega) (by omega) (by omega))
  have := a.2.1 q q0 (by rw [w]; decide)
  omega
theorem fp.dcx {τ τ1 : Nat → Nat} {h g : cz_H} {F : rz_W} (a : fp τ h τ1 g) (e : eD τ h F) (t794 : τ 794 = 82) : cn g = cn h ∧ dc g = dc h ∧ ∀ j, qz_I g (dc g) j = qz_I h (dc h) j := by
  have td := ez_tdb e.1 e.2.1
  have ed : dc g = dc h := by unfold dc qz_P; rw [a.2.2.1 21 (by decide) (by decide) (by decide)]
  refine ⟨a.2.2.1 23 (by decide) (by decide) (by decide), ed, fun j => ?_⟩
  rw [ed]
  unfold qz_I
  rw [(a.1 (dc h) (by rw [td.1]; decide)).2 (fun w => by have t := td.1; rw [w, e.2.1] at t; cases t) (fun w => by have t := td.1; rw [w, t794] at t; cases t) (by rw [td.1]; decide) (by rw [td.1]; decide)]
theorem az_f {F : rz_W} (c : Bool) : ∀ (n : Nat) (x : Int), az F n x → ∃ l, uz_f F c n x = some l
  | 0, x, h => h.elim
  | n + 1, x, h => by
    unfold uz_f
    by_cases hh : hz x
    · exact ⟨_, if_pos hh⟩
    · rw [if_neg hh]
      cases hF : (F x).2 with
      | none => exact ⟨[x], rfl⟩
      | some q =>
        show ∃ l, (if c = true ∨ q.1 = 0 then uz_L (uz_f F c n) q.2 else some [x]) = some l
        by_cases hc : c = true ∨ q.1 = 0
        · rw [if_pos hc]
          have hv : ∀ v ∈ q.2, az F n v := by
            rcases h with h | h | ⟨cp, vs, h1, h2⟩
            · exact absurd h hh
            · rw [hF] at h; cases h
            · rw [hF] at h1; cases h1; exact h2
          have key : ∀ vs : List Int, (∀ v ∈ vs, az F n v) → ∃ l, uz_L (uz_f F c n) vs = some l := by
            intro vs
            induction vs with
            | nil => intro _; exact ⟨[], rfl⟩
            | cons v vs ih =>
              intro hv
              obtain ⟨a, ha⟩ := az_f c n v (hv v List.mem_cons_self)
              obtain ⟨b, hb⟩ := ih (fun w hw => hv w (List.mem_cons_of_mem _ hw))
              refine ⟨a ++ b, ?_⟩
              unfold uz_L
              rw [ha, hb]
          exact key q.2 hv
        · exact ⟨[x], if_neg hc⟩
/-! The model: sound. (Written by wip/p2/py/pv98.py.) -/
section EzSo
variable {d : Nat} {h : cz_H} {τ : Nat → Nat} {Q : cz_F → Prop} {F : rz_W}
theorem rd_so_1 (e : eD τ h F) (k0 : ¬ uz_S1 F → Q (.inl (some (ez_v (.inl 0))), h)) (kx : (∀ i : Nat, (i : Int) < cn h → (¬ hz (qz_I h (dc h) i) ∧ ∀ cp vs, (F (qz_I h (dc h) i)).2 = some (cp, vs) → cp = 0 → vs.length ≤ 2)) → ez_W (d + 1) cm_301 63 [(0, .inr (.inr (some (770))))] [] h Q) : ∀ (n : Nat) (k : Int), n = (cn h - k).toNat → 0 ≤ k → k ≤ cn h → (∀ i : Nat, (i : Int) < k → (¬ hz (qz_I h (dc h) i) ∧ ∀ cp vs, (F (qz_I h (dc h) i)).2 = some (cp, vs) → cp = 0 → vs.length ≤ 2)) → ez_W (d + 1) cm_301 6 [(1, .inl (k)), (0, .inr (.inr (some (770))))] [] h Q := by
  have hB := e.1
  have t770 := e.2.1
  have c500 := e.2.2.1.1
  have cnp := e.2.2.1.2.2.2
  have cnb := e.2.2.1.2.2.1
  have cnd := e.2.2.1.2.1
  have td := ez_tdb hB t770
  have tt := ez_tls hB t770
  have cne : cn h = qz_I h 770 23 := rfl
  intro n
  induction n with
  | zero =>
    intro k hn kk0 kk1 hno
    refine ez_go (n := 2) (pc' := 8) (L' := [(1, .inl (k)), (0, .inr (.inr (some (770))))]) (st' := [.inr (.inr (some (770))), .inl (k)]) rfl ?_
    refine ez_gI hB t770 rfl rfl tq_75 rfl rfl (fun (b1 : 0 ≤ qz_I h 770 23) (b1' : qz_I h 770 23 ≤ 512) => ?_)
    refine ez_icmp rfl rfl ⟨by first | omega | exact (sz_i32 _).1, by first | omega | exact (sz_i32 _).2⟩ ⟨by first | omega | exact (sz_i32 _).1, by first | omega | exact (sz_i32 _).2⟩ (fun (c2 : (qz_I h 770 23) ≤ (k)) => ?_) (fun (c2 : ¬((qz_I h 770 23) ≤ (k))) => ?_)
    · skip
      refine ez_less [(0, .inr (.inr (some (770))))] rfl ⟨rfl, trivial⟩ ?_
      exact kx (fun i hi => hno i (by omega))
    · skip
      obtain ⟨⟨ek1, tl⟩, ⟨l7, l8⟩, cp, vs, F1, ty, hlen, hr⟩ := e.at (k := k) (by omega) (by omega)
      have t56 := e.2.2.2.2.2.2 _ tl
      generalize el : qz_P h (bw h) (k).toNat = l at tl l7 l8 ty hlen hr t56
      have hlen1 : qz_I h (l + 2) (0 : Int).toNat = (vs.length : Int) := hlen.1
      have hlen2 : qz_I h (l + 1) (0 : Int).toNat + (vs.length : Int) ≤ pn h := hlen.2.1
      have hlen3 : 0 ≤ qz_I h (l + 1) (0 : Int).toNat := hlen.2.2
      have e14 := Int.toNat_of_nonneg kk0
      refine ez_go (n := 2) (pc' := 16) (L' := [(1, .inl (k)), (0, .inr (.inr (some (770))))]) (st' := [.inr (.inr (some (770))), .inr (.inr (some (770)))]) rfl ?_
      refine ez_gR hB t770 rfl rfl tq_75 rfl rfl (fun (t3 : _ = 19) (t3' : 1 ≤ qz_I h 770 21) => ?_)
      rw [show qz_P h 770 21 = dc h from rfl]
      refine ez_go (n := 1) (pc' := 20) (L' := [(1, .inl (k)), (0, .inr (.inr (some (770))))]) (st' := [.inl (k), .inr (.inr (some ((dc h)))), .inr (.inr (some (770)))]) rfl ?_
      have n5 : 64 ≤ qz_N h ((dc h)) ∧ qz_N h ((dc h)) ≤ 4096 := ez_len hB td.1 tq_19 rfl
      refine ez_aI hB td.1 rfl tq_19 rfl rfl (by omega) (by omega) (fun (b4 : -2147483648 ≤ qz_I h ((dc h)) (k).toNat) (b4' : qz_I h ((dc h)) (k).toNat ≤ 2147483647) => ?_)
      refine ez_cv hB t770 rfl rfl rfl tq_75 rfl rfl rfl (rd_hangul ⟨by omega, by omega⟩ (fun hh => ez_K1 ?_) (fun hh => ez_K1 ?_))
      · skip
        refine ez_if rfl rfl ⟨by decide, by decide⟩ (fun _ => ?_) (fun (c6 : ¬((1 : Int) ≠ (0))) => absurd c6 (by decide))
        refine ez_go (n := 1) (pc' := 56) (L' := [(1, .inl (k)), (0, .inr (.inr (some (770))))]) (st' := [.inl (0)]) rfl ?_
        exact ez_retZ rfl rfl (Or.inl rfl) (k0 (fun w9 => (w9 _ _ _ F1).1 hh))
      · skip
        refine ez_if rfl rfl ⟨by decide, by decide⟩ (fun (c7 : (0 : Int) ≠ (0)) => absurd c7 (by decide)) (fun _ => ?_)
        refine ez_go (n := 1) (pc' := 28) (L' := [(1, .inl (k)), (0, .inr (.inr (some (770))))]) (st' := [.inr (.inr (some (770)))]) rfl ?_
        refine ez_gR hB t770 rfl rfl tq_75 rfl rfl (fun (t8 : _ = 20) (t8' : 1 ≤ qz_I h 770 22) => ?_)
        rw [show qz_P h 770 22 = bw h from rfl]
        refine ez_go (n := 1) (pc' := 32) (L' := [(1, .inl (k)), (0, .inr (.inr (some (770))))]) (st' := [.inl (k), .inr (.inr (some ((bw h))))]) rfl ?_
        have n10 : 64 ≤ qz_N h ((bw h)) ∧ qz_N h ((bw h)) ≤ 4096 := ez_len hB td.2 tq_20 rfl
        have y11 : 1 ≤ qz_I h ((bw h)) (k).toNat := ek1
        have y12 : 0 ≤ qz_I h ((bw h)) (k).toNat ∧ qz_I h ((bw h)) (k).toNat ≤ 1000000 := ez_aB hB td.2 tq_20 rfl rfl (by decide) (by omega) (by omega)
        have y12' : ((qz_P h ((bw h)) (k).toNat : Nat) : Int) + 1 = qz_I h ((bw h)) (k).toNat := by unfold qz_P; omega
        refine ez_aR hB td.2 rfl tq_20 rfl rfl (by omega) (by omega) (by omega) (fun (t9 : _ = 13) => ?_)
        rw [el]
        refine ez_gI hB tl rfl rfl tq_13 rfl rfl (fun (b13 : -2147483648 ≤ qz_I h l 5) (b13' : qz_I h l 5 ≤ 2147483647) => ?_)
        refine ez_go (n := 1) (pc' := 37) (L' := [(1, .inl (k)), (0, .inr (.inr (some (770))))]) (st' := [.inl (1), .inl (qz_I h l 5)]) rfl ?_
        refine ez_icmp rfl rfl ⟨by first | omega | exact (sz_i32 _).1, by first | omega | exact (sz_i32 _).2⟩ ⟨by first | omega | exact (sz_i32 _).1, by first | omega | exact (sz_i32 _).2⟩ (fun (c14 : (qz_I h l 5) ≠ (1)) => ?_) (fun (c14 : ¬((qz_I h l 5) ≠ (1))) => ?_)
        · skip
          refine ez_go (n := 2) (pc' := 6) (L' := [(1, .inl (k + 1)), (0, .inr (.inr (some (770))))]) (st' := []) rfl ?_
          exfalso; omega
        · skip
          refine ez_go (n := 1) (pc' := 41) (L' := [(1, .inl (k)), (0, .inr (.inr (some (770))))]) (st' := [.inr (.inr (some (770)))]) rfl ?_
          refine ez_gR hB t770 rfl rfl tq_75 rfl rfl (fun (t15 : _ = 20) (t15' : 1 ≤ qz_I h 770 22) => ?_)
          rw [show qz_P h 770 22 = bw h from rfl]
          refine ez_go (n := 1) (pc' := 45) (L' := [(1, .inl (k)), (0, .inr (.inr (some (770))))]) (st' := [.inl (k), .inr (.inr (some ((bw h))))]) rfl ?_
          have n17 : 64 ≤ qz_N h ((bw h)) ∧ qz_N h ((bw h)) ≤ 4096 := ez_len hB td.2 tq_20 rfl
          have y18 : 1 ≤ qz_I h ((bw h)) (k).toNat := ek1
          have y19 : 0 ≤ qz_I h ((bw h)) (k).toNat ∧ qz_I h ((bw h)) (k).toNat ≤ 1000000 := ez_aB hB td.2 tq_20 rfl rfl (by decide) (by omega) (by omega)
          have y19' : ((qz_P h ((bw h)) (k).toNat : Nat) : Int) + 1 = qz_I h ((bw h)) (k).toNat := by unfold qz_P; omega
          refine ez_aR hB td.2 rfl tq_20 rfl rfl (by omega) (by omega) (by omega) (fun (t16 : _ = 13) => ?_)
          rw [el]
          refine ez_gR hB tl rfl rfl tq_13 rfl rfl (fun (t20 : _ = 16) (t20' : 1 ≤ qz_I h l 8) => ?_)
          rw [l8]
          refine ez_go (n := 1) (pc' := 50) (L' := [(1, .inl (k)), (0, .inr (.inr (some (770))))]) (st' := [.inl (0), .inr (.inr (some ((l + 2))))]) rfl ?_
          have n22 : 3 ≤ qz_N h ((l + 2)) ∧ qz_N h ((l + 2)) ≤ 3 := ez_len hB t56.2 tq_16 rfl
          refine ez_aI hB t56.2 rfl tq_16 rfl rfl (by omega) (by omega) (fun (b21 : 0 ≤ qz_I h ((l + 2)) (0 : Int).toNat) (b21' : qz_I h ((l + 2)) (0 : Int).toNat ≤ 18) => ?_)
          refine ez_go (n := 1) (pc' := 52) (L' := [(1, .inl (k)), (0, .inr (.inr (some (770))))]) (st' := [.inl (2), .inl (qz_I h ((l + 2)) (0 : Int).toNat)]) rfl ?_
          refine ez_icmp rfl rfl ⟨by first | omega | exact (sz_i32 _).1, by first | omega | exact (sz_i32 _).2⟩ ⟨by first | omega | exact (sz_i32 _).1, by first | omega | exact (sz_i32 _).2⟩ (fun (c23 : (qz_I h ((l + 2)) (0 : Int).toNat) ≤ (2)) => ?_) (fun (c23 : ¬((qz_I h ((l + 2)) (0 : Int).toNat) ≤ (2))) => ?_)
          · skip
            refine ez_go (n := 2) (pc' := 6) (L' := [(1, .inl (k + 1)), (0, .inr (.inr (some (770))))]) (st' := []) rfl ?_
            exfalso; omega
          · skip
            refine ez_go (n := 1) (pc' := 56) (L' := [(1, .inl (k)), (0, .inr (.inr (some (770))))]) (st' := [.inl (0)]) rfl ?_
            exact ez_retZ rfl rfl (Or.inl rfl) (k0 (fun w9 => by have := (w9 _ _ _ F1).2 (by omega); omega))
  | succ n ih =>
    intro k hn kk0 kk1 hno
    refine ez_go (n := 2) (pc' := 8) (L' := [(1, .inl (k)), (0, .inr (.inr (some (770))))]) (st' := [.inr (.inr (some (770))), .inl (k)]) rfl ?_
    refine ez_gI hB t770 rfl rfl tq_75 rfl rfl (fun (b1 : 0 ≤ qz_I h 770 23) (b1' : qz_I h 770 23 ≤ 512) => ?_)
    refine ez_icmp rfl rfl ⟨by first | omega | exact (sz_i32 _).1, by first | omega | exact (sz_i32 _).2⟩ ⟨by first | omega | exact (sz_i32 _).1, by first | omega | exact (sz_i32 _).2⟩ (fun (c2 : (qz_I h 770 23) ≤ (k)) => ?_) (fun (c2 : ¬((qz_I h 770 23) ≤ (k))) => ?_)
    · skip
      refine ez_less [(0, .inr (.inr (some (770))))] rfl ⟨rfl, trivial⟩ ?_
      exact kx (fun i hi => hno i (by omega))
    · skip
      obtain ⟨⟨ek1, tl⟩, ⟨l7, l8⟩, cp, vs, F1, ty, hlen, hr⟩ := e.at (k := k) (by omega) (by omega)
      have t56 := e.2.2.2.2.2.2 _ tl
      generalize el : qz_P h (bw h) (k).toNat = l at tl l7 l8 ty hlen hr t56
      have hlen1 : qz_I h (l + 2) (0 : Int).toNat = (vs.length : Int) := hlen.1
      have hlen2 : qz_I h (l + 1) (0 : Int).toNat + (vs.length : Int) ≤ pn h := hlen.2.1
      have hlen3 : 0 ≤ qz_I h (l + 1) (0 : Int).toNat := hlen.2.2
      have e14 := Int.toNat_of_nonneg kk0
      refine ez_go (n := 2) (pc' := 16) (L' := [(1, .inl (k)), (0, .inr (.inr (some (770))))]) (st' := [.inr (.inr (some (770))), .inr (.inr (some (770)))]) rfl ?_
      refine ez_gR hB t770 rfl rfl tq_75 rfl rfl (fun (t3 : _ = 19) (t3' : 1 ≤ qz_I h 770 21) => ?_)
      rw [show qz_P h 770 21 = dc h from rfl]
      refine ez_go (n := 1) (pc' := 20) (L' := [(1, .inl (k)), (0, .inr (.inr (some (770))))]) (st' := [.inl (k), .inr (.inr (some ((dc h)))), .inr (.inr (some (770)))]) rfl ?_
      have n5 : 64 ≤ qz_N h ((dc h)) ∧ qz_N h ((dc h)) ≤ 4096 := ez_len hB td.1 tq_19 rfl
      refine ez_aI hB td.1 rfl tq_19 rfl rfl (by omega) (by omega) (fun (b4 : -2147483648 ≤ qz_I h ((dc h)) (k).toNat) (b4' : qz_I h ((dc h)) (k).toNat ≤ 2147483647) => ?_)
      refine ez_cv hB t770 rfl rfl rfl tq_75 rfl rfl rfl (rd_hangul ⟨by omega, by omega⟩ (fun hh => ez_K1 ?_) (fun hh => ez_K1 ?_))
      · skip
        refine ez_if rfl rfl ⟨by decide, by decide⟩ (fun _ => ?_) (fun (c6 : ¬((1 : Int) ≠ (0))) => absurd c6 (by decide))
        refine ez_go (n := 1) (pc' := 56) (L' := [(1, .inl (k)), (0, .inr (.inr (some (770))))]) (st' := [.inl (0)]) rfl ?_
        exact ez_retZ rfl rfl (Or.inl rfl) (k0 (fun w9 => (w9 _ _ _ F1).1 hh))
      · skip
        refine ez_if rfl rfl ⟨by decide, by decide⟩ (fun (c7 : (0 : Int) ≠ (0)) => absurd c7 (by decide)) (fun _ => ?_)
        refine ez_go (n := 1) (pc' := 28) (L' := [(1, .inl (k)), (0, .inr (.inr (some (770))))]) (st' := [.inr (.inr (some (770)))]) rfl ?_
        refine ez_gR hB t770 rfl rfl tq_75 rfl rfl (fun (t8 : _ = 20) (t8' : 1 ≤ qz_I h 770 22) => ?_)
        rw [show qz_P h 770 22 = bw h from rfl]
        refine ez_go (n := 1) (pc' := 32) (L' := [(1, .inl (k)), (0, .inr (.inr (some (770))))]) (st' := [.inl (k), .inr (.inr (some ((bw h))))]) rfl ?_
        have n10 : 64 ≤ qz_N h ((bw h)) ∧ qz_N h ((bw h)) ≤ 4096 := ez_len hB td.2 tq_20 rfl
        have y11 : 1 ≤ qz_I h ((bw h)) (k).toNat := ek1
        have y12 : 0 ≤ qz_I h ((bw h)) (k).toNat ∧ qz_I h ((bw h)) (k).toNat ≤ 1000000 := ez_aB hB td.2 tq_20 rfl rfl (by decide) (by omega) (by omega)
        have y12' : ((qz_P h ((bw h)) (k).toNat : Nat) : Int) + 1 = qz_I h ((bw h)) (k).toNat := by unfold qz_P; omega
        refine ez_aR hB td.2 rfl tq_20 rfl rfl (by omega) (by omega) (by omega) (fun (t9 : _ = 13) => ?_)
        rw [el]
        refine ez_gI hB tl rfl rfl tq_13 rfl rfl (fun (b13 : -2147483648 ≤ qz_I h l 5) (b13' : qz_I h l 5 ≤ 2147483647) => ?_)
        refine ez_go (n := 1) (pc' := 37) (L' := [(1, .inl (k)), (0, .inr (.inr (some (770))))]) (st' := [.inl (1), .inl (qz_I h l 5)]) rfl ?_
        refine ez_icmp rfl rfl ⟨by first | omega | exact (sz_i32 _).1, by first | omega | exact (sz_i32 _).2⟩ ⟨by first | omega | exact (sz_i32 _).1, by first | omega | exact (sz_i32 _).2⟩ (fun (c14 : (qz_I h l 5) ≠ (1)) => ?_) (fun (c14 : ¬((qz_I h l 5) ≠ (1))) => ?_)
        · skip
          refine ez_go (n := 2) (pc' := 6) (L' := [(1, .inl (k + 1)), (0, .inr (.inr (some (770))))]) (st' := []) rfl ?_
          refine ez_less [(1, .inl (k + 1)), (0, .inr (.inr (some (770))))] rfl ⟨rfl, rfl, trivial⟩ ?_
          refine ih (k + 1) (by omega) (by omega) (by omega) (fun i hi => ?_)
          by_cases ei : i = k.toNat
          · rw [ei]; exact ⟨hh, fun cp2 vs2 h1 h2 => by rw [F1] at h1; cases h1; omega⟩
          · exact hno i (by omega)
        · skip
          refine ez_go (n := 1) (pc' := 41) (L' := [(1, .inl (k)), (0, .inr (.inr (some (770))))]) (st' := [.inr (.inr (some (770)))]) rfl ?_
          refine ez_gR hB t770 rfl rfl tq_75 rfl rfl (fun (t15 : _ = 20) (t15' : 1 ≤ qz_I h 770 22) => ?_)
          rw [show qz_P h 770 22 = bw h from rfl]
          refine ez_go (n := 1) (pc' := 45) (L' := [(1, .inl (k)), (0, .inr (.inr (some (770))))]) (st' := [.inl (k), .inr (.inr (some ((bw h))))]) rfl ?_
          have n17 : 64 ≤ qz_N h ((bw h)) ∧ qz_N h ((bw h)) ≤ 4096 := ez_len hB td.2 tq_20 rfl
          have y18 : 1 ≤ qz_I h ((bw h)) (k).toNat := ek1
          have y19 : 0 ≤ qz_I h ((bw h)) (k).toNat ∧ qz_I h ((bw h)) (k).toNat ≤ 1000000 := ez_aB hB td.2 tq_20 rfl rfl (by decide) (by omega) (by omega)
          have y19' : ((qz_P h ((bw h)) (k).toNat : Nat) : Int) + 1 = qz_I h ((bw h)) (k).toNat := by unfold qz_P; omega
          refine ez_aR hB td.2 rfl tq_20 rfl rfl (by omega) (by omega) (by omega) (fun (t16 : _ = 13) => ?_)
          rw [el]
          refine ez_gR hB tl rfl rfl tq_13 rfl rfl (fun (t20 : _ = 16) (t20' : 1 ≤ qz_I h l 8) => ?_)
          rw [l8]
          refine ez_go (n := 1) (pc' := 50) (L' := [(1, .inl (k)), (0, .inr (.inr (some (770))))]) (st' := [.inl (0), .inr (.inr (some ((l + 2))))]) rfl ?_
          have n22 : 3 ≤ qz_N h ((l + 2)) ∧ qz_N h ((l + 2)) ≤ 3 := ez_len hB t56.2 tq_16 rfl
          refine ez_aI hB t56.2 rfl tq_16 rfl rfl (by omega) (by omega) (fun (b21 : 0 ≤ qz_I h ((l + 2)) (0 : Int).toNat) (b21' : qz_I h ((l + 2)) (0 : Int).toNat ≤ 18) => ?_)
          refine ez_go (n := 1) (pc' := 52) (L' := [(1, .inl (k)), (0, .inr (.inr (some (770))))]) (st' := [.inl (2), .inl (qz_I h ((l + 2)) (0 : Int).toNat)]) rfl ?_
          refine ez_icmp rfl rfl ⟨by first | omega | exact (sz_i32 _).1, by first | omega | exact (sz_i32 _).2⟩ ⟨by first | omega | exact (sz_i32 _).1, by first | omega | exact (sz_i32 _).2⟩ (fun (c23 : (qz_I h ((l + 2)) (0 : Int).toNat) ≤ (2)) => ?_) (fun (c23 : ¬((qz_I h ((l + 2)) (0 : Int).toNat) ≤ (2))) => ?_)
          · skip
            refine ez_go (n := 2) (pc' := 6) (L' := [(1, .inl (k + 1)), (0, .inr (.inr (some (770))))]) (st' := []) rfl ?_
            refine ez_less [(1, .inl (k + 1)), (0, .inr (.inr (some (770))))] rfl ⟨rfl, rfl, trivial⟩ ?_
            refine ih (k + 1) (by omega) (by omega) (by omega) (fun i hi => ?_)
            by_cases ei : i = k.toNat
            · rw [ei]; exact ⟨hh, fun cp2 vs2 h1 h2 => by rw [F1] at h1; cases h1; omega⟩
            · exact hno i (by omega)
          · skip
            refine ez_go (n := 1) (pc' := 56) (L' := [(1, .inl (k)), (0, .inr (.inr (some (770))))]) (st' := [.inl (0)]) rfl ?_
            exact ez_retZ rfl rfl (Or.inl rfl) (k0 (fun w9 => by have := (w9 _ _ _ F1).2 (by omega); omega))

end EzSo
/-- the pairs, as the model keeps them -/
def pQ (h : cz_H) (F : rz_W) (E : Int → Prop) : Prop := (0 ≤ pkn h ∧ pkn h ≤ qz_N h (pq h)) ∧ (∀ i : Nat, (i : Int) < pkn h → qz_I h (pq h) i < cn h ∧ ∃ a b, ez_p F E (qz_I h (dc h) (qz_I h (pq h) i).toNat) a b) ∧ ∀ x a b, ez_p F E x a b → ∃ i : Nat, (i : Int) < pkn h ∧ qz_I h (dc h) (qz_I h (pq h) i).toNat = x
theorem pQ.P {h : cz_H} {F : rz_W} {E : Int → Prop} (p : pQ h F E) : pP h F := ⟨p.1, fun i hi => by
  obtain ⟨w1, a, b, w2⟩ := p.2.1 i hi
  exact ⟨w1, a, b, w2.1⟩⟩
/-- as far as point k: pairs found, nothing wrong -/
def so (h : cz_H) (F : rz_W) (E : Int → Prop) (g : cz_H) (k : Int) : Prop :=
  ((0 ≤ pkn g ∧ pkn g ≤ k) ∧ ∀ j : Nat, (j : Int) < pkn g → (0 ≤ qz_I g (pq h) j ∧ qz_I g (pq h) j < k) ∧ ∃ a z, ez_p F E (qz_I h (dc h) (qz_I g (pq h) j).toNat) a z) ∧
  (∀ i : Nat, (i : Int) < k → ∀ a z, ez_p F E (qz_I h (dc h) i) a z → (∃ j : Nat, (j : Int) < pkn g ∧ (qz_I g (pq h) j).toNat = i) ∧ ¬ hz_pair a z) ∧
  (∀ i j : Nat, (i : Int) < k → (j : Int) < k → ∀ a z, ez_p F E (qz_I h (dc h) i) a z → ez_p F E (qz_I h (dc h) j) a z → i = j) ∧
  (∀ i : Nat, (i : Int) < k → ∀ c, ∃ l, uz_F F c (qz_I h (dc h) i) l ∧ l.length ≤ 40) ∧
  ∀ i j : Nat, i < j → (j : Int) < pkn g → qz_I g (pq h) i < qz_I g (pq h) j
theorem so_skip {h g g2 : cz_H} {F : rz_W} {E : Int → Prop} {k : Int} (s : so h F E g k) (k0 : 0 ≤ k) (e28 : pkn g2 = pkn g) (ep : ∀ j, qz_I g2 (pq h) j = qz_I g (pq h) j) (hn : ∀ a z, ¬ ez_p F E (qz_I h (dc h) k.toNat) a z) (h3 : ∀ c, ∃ l, uz_F F c (qz_I h (dc h) k.toNat) l ∧ l.length ≤ 40) : so h F E g2 (k + 1) := by
  obtain ⟨⟨s1, s2⟩, s3, s4, s5, s6⟩ := s
  have hk : ∀ i : Nat, (i : Int) < k + 1 → ¬ (i : Int) < k → i = k.toNat := fun i h1 h2 => by omega
  refine ⟨⟨by rw [e28]; omega, fun j hj => ?_⟩, fun i hi a z hp => ?_, fun i j hi hj a z h1 h2 => ?_, fun i hi c => ?_, fun i j ij jn => by rw [ep, ep]; exact s6 i j ij (by rw [← e28]; exact jn)⟩
  · rw [e28] at hj
    obtain ⟨w1, w2⟩ := s2 j hj
    rw [ep]; exact ⟨by omega, w2⟩
  · by_cases e : (i : Int) < k
    · obtain ⟨⟨j, j1, j2⟩, w⟩ := s3 i e a z hp
      exact ⟨⟨j, by rw [e28]; exact j1, by rw [ep]; exact j2⟩, w⟩
    · rw [hk i hi e] at hp; exact absurd hp (hn a z)
  · by_cases e : (i : Int) < k
    · by_cases e2 : (j : Int) < k
      · exact s4 i j e e2 a z h1 h2
      · rw [hk j hj e2] at h2; exact absurd h2 (hn a z)
    · rw [hk i hi e] at h1; exact absurd h1 (hn a z)
  · by_cases e : (i : Int) < k
    · exact s5 i e c
    · rw [hk i hi e]; exact h3 c
theorem so_add {h g g2 : cz_H} {F : rz_W} {E : Int → Prop} {k a0 z0 : Int} (s : so h F E g k) (k0 : 0 ≤ k) (e28 : pkn g2 = pkn g + 1) (ep : ∀ j, j ≠ (pkn g).toNat → qz_I g2 (pq h) j = qz_I g (pq h) j) (e0 : qz_I g2 (pq h) (pkn g).toNat = k) (hp0 : ez_p F E (qz_I h (dc h) k.toNat) a0 z0) (hh : ¬ hz_pair a0 z0) (hno : ∀ j : Nat, (j : Int) < pkn g → (F (qz_I h (dc h) (qz_I g (pq h) j).toNat)).2 ≠ some (0, [a0, z0])) (h3 : ∀ c, ∃ l, uz_F F c (qz_I h (dc h) k.toNat) l ∧ l.length ≤ 40) : so h F E g2 (k + 1) := by
  obtain ⟨⟨s1, s2⟩, s3, s4, s5, s6⟩ := s
  have hk : ∀ i : Nat, (i : Int) < k + 1 → ¬ (i : Int) < k → i = k.toNat := fun i h1 h2 => by omega
  have uq : ∀ a z, ez_p F E (qz_I h (dc h) k.toNat) a z → a = a0 ∧ z = z0 := fun a z w => by
    have := w.1; rw [hp0.1] at this; cases this; exact ⟨rfl, rfl⟩
  have old : ∀ i : Nat, (i : Int) < k → ¬ ez_p F E (qz_I h (dc h) i) a0 z0 := fun i hi w => by
    obtain ⟨⟨j, j1, j2⟩, -⟩ := s3 i hi a0 z0 w
    exact hno j j1 (by rw [j2]; exact w.1)
  refine ⟨⟨by rw [e28]; omega, fun j hj => ?_⟩, fun i hi a z hp => ?_, fun i j hi hj a z h1 h2 => ?_, fun i hi c => ?_, fun i j ij jn => ?_⟩
  · by_cases e : j = (pkn g).toNat
    · rw [e, e0]; exact ⟨by omega, a0, z0, hp0⟩
    · obtain ⟨w1, w2⟩ := s2 j (by omega)
      rw [ep j e]; exact ⟨by omega, w2⟩
  · by_cases e : (i : Int) < k
    · obtain ⟨⟨j, j1, j2⟩, w⟩ := s3 i e a z hp
      exact ⟨⟨j, by omega, by rw [ep j (by omega)]; exact j2⟩, w⟩
    · rw [hk i hi e] at hp
      obtain ⟨rfl, rfl⟩ := uq a z hp
      exact ⟨⟨(pkn g).toNat, by omega, by rw [e0]; omega⟩, hh⟩
  · by_cases e : (i : Int) < k
    · by_cases e2 : (j : Int) < k
      · exact s4 i j e e2 a z h1 h2
      · rw [hk j hj e2] at h2
        obtain ⟨rfl, rfl⟩ := uq a z h2
        exact absurd h1 (old i e)
    · rw [hk i hi e] at h1
      obtain ⟨rfl, rfl⟩ := uq a z h1
      by_cases e2 : (j : Int) < k
      · exact absurd h2 (old j e2)
      · rw [hk i hi e, hk j hj e2]
  · by_cases e : (i : Int) < k
    · exact s5 i e c
    · rw [hk i hi e]; exact h3 c
  · by_cases e : j = (pkn g).toNat
    · rw [e, e0, ep i (by omega)]; have := (s2 i (by omega)).1; omega
    · rw [ep i (by omega), ep j e]; exact s6 i j ij (by omega)
/-- nothing wrong at all -/
theorem so_S {τ : Nat → Nat} {h g : cz_H} {F : rz_W} {E : Int → Prop} (e : eD τ h F) (s : so h F E g (cn h)) (h1 : ∀ i : Nat, (i : Int) < cn h → (¬ hz (qz_I h (dc h) i) ∧ ∀ cp vs, (F (qz_I h (dc h) i)).2 = some (cp, vs) → cp = 0 → vs.length ≤ 2)) (h2 : ∀ i : Nat, (i : Int) < cn h → az F (cn h + 1).toNat (qz_I h (dc h) i)) : uz_S F E := by
  have ex := e.2.2.2.2.2.1
  have exp : ∀ x a z, ez_p F E x a z → ∃ i : Nat, (i : Int) < cn h ∧ qz_I h (dc h) i = x := fun x a z w => ex x (by rw [w.1]; intro w; cases w)
  refine ⟨fun x cp vs hx => ?_, fun x hx => ?_, fun x hx c => ?_, fun x a z hp => ?_, fun x y a z hx hy => ?_⟩
  · obtain ⟨i, i1, i2⟩ := ex x (by rw [hx]; intro w; cases w)
    have w := h1 i i1
    rw [i2] at w
    exact ⟨w.1, w.2 cp vs hx⟩
  · obtain ⟨i, i1, i2⟩ := ex x hx
    exact ⟨_, by rw [← i2]; exact h2 i i1⟩
  · obtain ⟨i, i1, i2⟩ := ex x hx
    rw [← i2]; exact s.2.2.2.1 i i1 c
  · obtain ⟨i, i1, i2⟩ := exp x a z hp
    rw [← i2] at hp
    exact (s.2.1 i i1 a z hp).2
  · obtain ⟨i, i1, i2⟩ := exp x a z hx
    obtain ⟨j, j1, j2⟩ := exp y a z hy
    rw [← i2] at hx ⊢
    rw [← j2] at hy ⊢
    rw [s.2.2.1 i j i1 j1 a z hx hy]
/-- so many pairs -/
def pcd (F : rz_W) (x : Int) : Int := match (F x).2 with
  | some (_, [a, b]) => a * 2097152 + b
  | _ => 0
theorem pcd_p {F : rz_W} {E : Int → Prop} {x a b : Int} (h : ez_p F E x a b) : pcd F x = a * 2097152 + b := by
  unfold pcd; rw [h.1]
theorem so_pcn {τ : Nat → Nat} {h g : cz_H} {F : rz_W} {E : Int → Prop} (hw : uz_wf F) (e : eD τ h F) (s : so h F E g (cn h)) (hS : uz_S F E) : pcn F E (pkn g) := by
  obtain ⟨⟨s1, s2⟩, s3, s4, s5, s6⟩ := s
  refine ⟨s1.1, fun j => pcd F (qz_I h (dc h) (qz_I g (pq h) j.toNat).toNat), fun i j i0 ij jn hh => ?_, fun z => ⟨fun ⟨j, j0, j1, hz⟩ => ?_, fun ⟨x, a, b, w, hz⟩ => ?_⟩⟩
  · obtain ⟨u1, a, b, u2⟩ := s2 i.toNat (by omega)
    obtain ⟨v1, c, d, v2⟩ := s2 j.toNat (by omega)
    have hh : pcd F (qz_I h (dc h) (qz_I g (pq h) i.toNat).toNat) = pcd F (qz_I h (dc h) (qz_I g (pq h) j.toNat).toNat) := hh
    rw [pcd_p u2, pcd_p v2] at hh
    have wu := ((hw _).2 _ _ u2.1).2.2.1
    have wv := ((hw _).2 _ _ v2.1).2.2.1
    have ub := wu b (by simp)
    have vb := wv d (by simp)
    have ea : a = c := by omega
    have eb : b = d := by omega
    subst ea; subst eb
    have := s4 _ _ (by omega) (by omega) a b u2 v2
    have := s6 i.toNat j.toNat (by omega) (by omega)
    omega
  · obtain ⟨-, a, b, u2⟩ := s2 j.toNat (by omega)
    exact ⟨_, a, b, u2, by rw [← hz]; exact pcd_p u2⟩
  · obtain ⟨i, i1, i2⟩ := e.2.2.2.2.2.1 x (by rw [w.1]; intro w; cases w)
    rw [← i2] at w
    obtain ⟨⟨j, j1, j2⟩, -⟩ := s3 i i1 a b w
    exact ⟨(j : Int), by omega, j1, by show pcd F (qz_I h (dc h) (qz_I g (pq h) (j : Int).toNat).toNat) = z; rw [Int.toNat_natCast, j2, pcd_p w]; exact hz.symm⟩
section EzSp
variable {d : Nat} {h : cz_H} {τ : Nat → Nat} {Q : cz_F → Prop} {Ls : List vz} {b : Int}
theorem rd_so_2 {g : cz_H} {τ1 : Nat → Nat} {k : Int} (hI : mI τ h Ls b) (e : eD τ h (vF Ls)) (t794 : τ 794 = 82) (hw : uz_wf (vF Ls)) (h2 : ∀ i : Nat, (i : Int) < cn h → az (vF Ls) (cn h + 1).toNat (qz_I h (dc h) i)) (hr1 : h.1 + 700 ≤ 600192) (hr2 : h.2.1 + 120000 ≤ 7302232) (kk0 : 0 ≤ k) (kk1 : k < cn h) (hb1 : ez_B τ1 g) (hp : fp τ h τ1 g) (hs : so h (vF Ls) (vE Ls) g k) (hnq : qz_N g (pq h) = cn h) (k0 : ¬ uz_S (vF Ls) (vE Ls) → ∀ g τ1, ez_B τ1 g → fp τ h τ1 g → Q (.inl (some (ez_v (.inl 0))), g)) (kx : ∀ g2 τ2, ez_B τ2 g2 → fp τ h τ2 g2 → so h (vF Ls) (vE Ls) g2 (k + 1) → qz_N g2 (pq h) = cn h → ez_W (d + 3) cm_301 251 [(1, .inl (k)), (0, .inr (.inr (some (770))))] [] g2 Q) : ez_W (d + 3) cm_301 97 [(1, .inl (k)), (0, .inr (.inr (some (770))))] [] g Q := by
  have hB := e.1
  have t770 := e.2.1
  have hBg := hb1
  have eg := hp.eDx e t794 hBg
  have dcx := hp.dcx e t794
  have u770 : τ1 770 = 75 := eg.2.1
  have u794 : τ1 794 = 82 := (hp.1 794 (by rw [t794]; decide)).1.trans t794
  have c500 := e.2.2.1.1
  have cnd := eg.2.2.1.2.1
  have tdg := ez_tdb hBg u770
  have rr := hp.2.2.2.2
  have lsk : qz_N g (sk g) ≤ 18700 := (ez_len hBg (ez_tsk hBg u770) tq_21 rfl).2
  have n0 := qz_N_nn h (sk h)
  have hne : (vF Ls (qz_I h (dc h) k.toNat)).2 ≠ none := by obtain ⟨-, cp, vs, w, -⟩ := e.2.2.2.2.1 k.toNat (by omega); rw [w]; intro w; cases w
  have pk0 := hs.1.1
  refine ez_go (n := 2) (pc' := 99) (L' := [(1, .inl (k)), (0, .inr (.inr (some (770))))]) (st' := [.inr (.inr (some (770))), .inr (.inr (some (770)))]) rfl ?_
  refine ez_gR hBg u770 rfl rfl tq_75 rfl rfl (fun (t1 : _ = 19) (t1' : 1 ≤ qz_I g 770 21) => ?_)
  rw [show qz_P g 770 21 = dc g from rfl]
  refine ez_go (n := 1) (pc' := 103) (L' := [(1, .inl (k)), (0, .inr (.inr (some (770))))]) (st' := [.inl (k), .inr (.inr (some ((dc g)))), .inr (.inr (some (770)))]) rfl ?_
  have n3 : 64 ≤ qz_N g ((dc g)) ∧ qz_N g ((dc g)) ≤ 4096 := ez_len hBg tdg.1 tq_19 rfl
  refine ez_aI hBg tdg.1 rfl tq_19 rfl rfl (by omega) (by omega) (fun (b2 : -2147483648 ≤ qz_I g ((dc g)) (k).toNat) (b2' : qz_I g ((dc g)) (k).toNat ≤ 2147483647) => ?_)
  have pr : ez_rg (qz_I g ((dc g)) (k).toNat) := ⟨by omega, by omega⟩
  refine ez_go (n := 1) (pc' := 105) (L' := [(1, .inl (k)), (0, .inr (.inr (some (770))))]) (st' := [.inl (0), .inl (qz_I g ((dc g)) (k).toNat), .inr (.inr (some (770)))]) rfl ?_
  obtain ⟨l0, hl0⟩ := az_f (F := vF Ls) false _ _ (h2 k.toNat (by omega))
  refine ez_cv hBg u770 rfl rfl rfl tq_75 rfl rfl rfl (rd_full (cb := false) (l := l0) (n := (cn h + 1).toNat) eg u794 (by omega) (by omega) pr ⟨by decide, by decide⟩ ⟨fun w => absurd rfl w, fun w => by cases w⟩ (by rw [dcx.2.2]; exact hl0) (by omega) (fun l40 g2 τ2 hB2 f2 sn2 _ => ez_K1 ?_) (fun l41 g2 τ2 hB2 f2 sn2 => ez_K1 ?_))
  · skip
    have P2 := hp.trans (f2.fpx sn2)
    have eg2 := P2.eDx e t794 hB2
    have dcx2 := P2.dcx e t794
    have v770 : τ2 770 = 75 := eg2.2.1
    have v794 : τ2 794 = 82 := (P2.1 794 (by rw [t794]; decide)).1.trans t794
    have rr2 := P2.2.2.2.2
    have lsk2 : qz_N g2 (sk g2) ≤ 18700 := (ez_len hB2 (ez_tsk hB2 v770) tq_21 rfl).2
    have cnd2 := eg2.2.2.1.2.1
    have td2 := ez_tdb hB2 v770
    refine ez_go (n := 1) (pc' := 110) (L' := [(1, .inl (k)), (0, .inr (.inr (some (770))))]) (st' := [.inl (40), .inl ((l0.length : Int))]) rfl ?_
    refine ez_icmp rfl rfl ⟨by first | omega | exact (sz_i32 _).1, by first | omega | exact (sz_i32 _).2⟩ ⟨by first | omega | exact (sz_i32 _).1, by first | omega | exact (sz_i32 _).2⟩ (fun (c4 : (40) < ((l0.length : Int))) => ?_) (fun (c4 : ¬((40) < ((l0.length : Int)))) => ?_)
    · skip
      refine ez_go (n := 1) (pc' := 130) (L' := [(1, .inl (k)), (0, .inr (.inr (some (770))))]) (st' := [.inl (0)]) rfl ?_
      exfalso; omega
    · skip
      refine ez_go (n := 2) (pc' := 115) (L' := [(1, .inl (k)), (0, .inr (.inr (some (770))))]) (st' := [.inr (.inr (some (770))), .inr (.inr (some (770)))]) rfl ?_
      refine ez_gR hB2 v770 rfl rfl tq_75 rfl rfl (fun (t5 : _ = 19) (t5' : 1 ≤ qz_I g2 770 21) => ?_)
      rw [show qz_P g2 770 21 = dc g2 from rfl]
      refine ez_go (n := 1) (pc' := 119) (L' := [(1, .inl (k)), (0, .inr (.inr (some (770))))]) (st' := [.inl (k), .inr (.inr (some ((dc g2)))), .inr (.inr (some (770)))]) rfl ?_
      have n7 : 64 ≤ qz_N g2 ((dc g2)) ∧ qz_N g2 ((dc g2)) ≤ 4096 := ez_len hB2 td2.1 tq_19 rfl
      refine ez_aI hB2 td2.1 rfl tq_19 rfl rfl (by omega) (by omega) (fun (b6 : -2147483648 ≤ qz_I g2 ((dc g2)) (k).toNat) (b6' : qz_I g2 ((dc g2)) (k).toNat ≤ 2147483647) => ?_)
      have pr2 : ez_rg (qz_I g2 ((dc g2)) (k).toNat) := ⟨by omega, by omega⟩
      refine ez_go (n := 1) (pc' := 121) (L' := [(1, .inl (k)), (0, .inr (.inr (some (770))))]) (st' := [.inl (1), .inl (qz_I g2 ((dc g2)) (k).toNat), .inr (.inr (some (770)))]) rfl ?_
      obtain ⟨l1, hl1⟩ := az_f (F := vF Ls) true _ _ (h2 k.toNat (by omega))
      refine ez_cv hB2 v770 rfl rfl rfl tq_75 rfl rfl rfl (rd_full (cb := true) (l := l1) (n := (cn h + 1).toNat) eg2 v794 (by omega) (by omega) pr2 ⟨by decide, by decide⟩ ⟨fun _ => rfl, fun _ => by decide⟩ (by rw [dcx2.2.2]; exact hl1) (by omega) (fun l40b g3 τ3 hB3 f3 sn3 _ => ez_K1 ?_) (fun l41 g3 τ3 hB3 f3 sn3 => ez_K1 ?_))
      · skip
        have P3 := P2.trans (f3.fpx sn3)
        have eg3 := P3.eDx e t794 hB3
        have dcx3 := P3.dcx e t794
        have w770 : τ3 770 = 75 := eg3.2.1
        have w794 : τ3 794 = 82 := (P3.1 794 (by rw [t794]; decide)).1.trans t794
        have I3 := (P3.sfx hB t770 t794).mIx hI hB3
        have rr3 := P3.2.2.2.2
        have lsk3 : qz_N g3 (sk g3) ≤ 18700 := (ez_len hB3 (ez_tsk hB3 w770) tq_21 rfl).2
        have h39 : ∀ c, ∃ l, uz_F (vF Ls) c (qz_I h (dc h) k.toNat) l ∧ l.length ≤ 40 := fun c => by cases c; (· exact ⟨l0, ⟨_, hl0⟩, l40⟩); (· exact ⟨l1, ⟨_, hl1⟩, l40b⟩)
        have e28 : pkn g3 = pkn g := (f3.2.2.1 28 (by decide) (by decide)).trans (f2.2.2.1 28 (by decide) (by decide))
        have pkd3 : pkn g3 = qz_I g3 770 28 := rfl
        have epq3 : pq g3 = pq h := by unfold pq qz_P; rw [P3.2.2.1 27 (by decide) (by decide) (by decide)]
        have tpq := ez_tpq hB t770
        have tpg : τ1 (pq h) = 22 := (hp.1 _ (by rw [tpq]; decide)).1.trans tpq
        have tp2 : τ2 (pq h) = 22 := (f2.1 _ (by rw [tpg]; decide)).1.trans tpg
        have cpq2 : g2.2.2 (pq h) = g.2.2 (pq h) := (f2.1 _ (by rw [tpg]; decide)).2 (fun w => by rw [w, u770] at tpg; cases tpg) (fun w => by rw [w, u794] at tpg; cases tpg) (by rw [tpg]; decide)
        have cpq3 : g3.2.2 (pq h) = g2.2.2 (pq h) := (f3.1 _ (by rw [tp2]; decide)).2 (fun w => by rw [w, v770] at tp2; cases tp2) (fun w => by rw [w, v794] at tp2; cases tp2) (by rw [tp2]; decide)
        have ipq : ∀ j, qz_I g3 (pq h) j = qz_I g (pq h) j := fun j => by unfold qz_I; rw [cpq3, cpq2]
        have npq : qz_N g3 (pq h) = qz_N g (pq h) := by unfold qz_N; rw [cpq3, cpq2]
        obtain ⟨⟨ek1, tl⟩, ⟨l7, l8⟩, cp, vs, F1, ty, hlen, hr⟩ := eg3.at (k := k) (by omega) (by omega)
        rw [dcx3.2.2] at F1
        have t56 := eg3.2.2.2.2.2.2 _ tl
        generalize el : qz_P g3 (bw g3) (k).toNat = l at tl l7 l8 ty hlen hr t56
        have hlen1 : qz_I g3 (l + 2) (0 : Int).toNat = (vs.length : Int) := hlen.1
        have hlen2 : qz_I g3 (l + 1) (0 : Int).toNat + (vs.length : Int) ≤ pn g3 := hlen.2.1
        have hlen3 : 0 ≤ qz_I g3 (l + 1) (0 : Int).toNat := hlen.2.2
        have cnp := eg3.2.2.1.2.2.2
        have cnb := eg3.2.2.1.2.2.1
        have cnd3 := eg3.2.2.1.2.1
        have td := ez_tdb hB3 w770
        have tt := ez_tls hB3 w770
        refine ez_go (n := 1) (pc' := 126) (L' := [(1, .inl (k)), (0, .inr (.inr (some (770))))]) (st' := [.inl (40), .inl ((l1.length : Int))]) rfl ?_
        refine ez_icmp rfl rfl ⟨by first | omega | exact (sz_i32 _).1, by first | omega | exact (sz_i32 _).2⟩ ⟨by first | omega | exact (sz_i32 _).1, by first | omega | exact (sz_i32 _).2⟩ (fun (c8 : ((l1.length : Int)) ≤ (40)) => ?_) (fun (c8 : ¬(((l1.length : Int)) ≤ (40))) => ?_)
        · skip
          refine ez_go (n := 1) (pc' := 132) (L' := [(1, .inl (k)), (0, .inr (.inr (some (770))))]) (st' := [.inr (.inr (some (770)))]) rfl ?_
          refine ez_gR hB3 w770 rfl rfl tq_75 rfl rfl (fun (t9 : _ = 20) (t9' : 1 ≤ qz_I g3 770 22) => ?_)
          rw [show qz_P g3 770 22 = bw g3 from rfl]
          refine ez_go (n := 1) (pc' := 136) (L' := [(1, .inl (k)), (0, .inr (.inr (some (770))))]) (st' := [.inl (k), .inr (.inr (some ((bw g3))))]) rfl ?_
          have n11 : 64 ≤ qz_N g3 ((bw g3)) ∧ qz_N g3 ((bw g3)) ≤ 4096 := ez_len hB3 td.2 tq_20 rfl
          have y12 : 1 ≤ qz_I g3 ((bw g3)) (k).toNat := ek1
          have y13 : 0 ≤ qz_I g3 ((bw g3)) (k).toNat ∧ qz_I g3 ((bw g3)) (k).toNat ≤ 1000000 := ez_aB hB3 td.2 tq_20 rfl rfl (by decide) (by omega) (by omega)
          have y13' : ((qz_P g3 ((bw g3)) (k).toNat : Nat) : Int) + 1 = qz_I g3 ((bw g3)) (k).toNat := by unfold qz_P; omega
          refine ez_aR hB3 td.2 rfl tq_20 rfl rfl (by omega) (by omega) (by omega) (fun (t10 : _ = 13) => ?_)
          rw [el]
          refine ez_gI hB3 tl rfl rfl tq_13 rfl rfl (fun (b14 : -2147483648 ≤ qz_I g3 l 5) (b14' : qz_I g3 l 5 ≤ 2147483647) => ?_)
          refine ez_go (n := 1) (pc' := 141) (L' := [(1, .inl (k)), (0, .inr (.inr (some (770))))]) (st' := [.inl (1), .inl (qz_I g3 l 5)]) rfl ?_
          refine ez_icmp rfl rfl ⟨by first | omega | exact (sz_i32 _).1, by first | omega | exact (sz_i32 _).2⟩ ⟨by first | omega | exact (sz_i32 _).1, by first | omega | exact (sz_i32 _).2⟩ (fun (c15 : (qz_I g3 l 5) ≠ (1)) => ?_) (fun (c15 : ¬((qz_I g3 l 5) ≠ (1))) => ?_)
          · skip
            refine ez_less [(1, .inl (k)), (0, .inr (.inr (some (770))))] rfl ⟨rfl, rfl, trivial⟩ ?_
            exact kx g3 τ3 hB3 P3 (so_skip hs kk0 e28 ipq (fun a z w9 => by have w8 := w9.1; rw [F1] at w8; cases w8; have hl9 : qz_I g3 (l + 2) (0 : Int).toNat = 2 := hlen1; omega) h39) (by rw [npq]; exact hnq)
          · skip
            refine ez_go (n := 1) (pc' := 145) (L' := [(1, .inl (k)), (0, .inr (.inr (some (770))))]) (st' := [.inr (.inr (some (770)))]) rfl ?_
            refine ez_gR hB3 w770 rfl rfl tq_75 rfl rfl (fun (t16 : _ = 20) (t16' : 1 ≤ qz_I g3 770 22) => ?_)
            rw [show qz_P g3 770 22 = bw g3 from rfl]
            refine ez_go (n := 1) (pc' := 149) (L' := [(1, .inl (k)), (0, .inr (.inr (some (770))))]) (st' := [.inl (k), .inr (.inr (some ((bw g3))))]) rfl ?_
            have n18 : 64 ≤ qz_N g3 ((bw g3)) ∧ qz_N g3 ((bw g3)) ≤ 4096 := ez_len hB3 td.2 tq_20 rfl
            have y19 : 1 ≤ qz_I g3 ((bw g3)) (k).toNat := ek1
            have y20 : 0 ≤ qz_I g3 ((bw g3)) (k).toNat ∧ qz_I g3 ((bw g3)) (k).toNat ≤ 1000000 := ez_aB hB3 td.2 tq_20 rfl rfl (by decide) (by omega) (by omega)
            have y20' : ((qz_P g3 ((bw g3)) (k).toNat : Nat) : Int) + 1 = qz_I g3 ((bw g3)) (k).toNat := by unfold qz_P; omega
            refine ez_aR hB3 td.2 rfl tq_20 rfl rfl (by omega) (by omega) (by omega) (fun (t17 : _ = 13) => ?_)
            rw [el]
            refine ez_gR hB3 tl rfl rfl tq_13 rfl rfl (fun (t21 : _ = 16) (t21' : 1 ≤ qz_I g3 l 8) => ?_)
            rw [l8]
            refine ez_go (n := 1) (pc' := 154) (L' := [(1, .inl (k)), (0, .inr (.inr (some (770))))]) (st' := [.inl (0), .inr (.inr (some ((l + 2))))]) rfl ?_
            have n23 : 3 ≤ qz_N g3 ((l + 2)) ∧ qz_N g3 ((l + 2)) ≤ 3 := ez_len hB3 t56.2 tq_16 rfl
            refine ez_aI hB3 t56.2 rfl tq_16 rfl rfl (by omega) (by omega) (fun (b22 : 0 ≤ qz_I g3 ((l + 2)) (0 : Int).toNat) (b22' : qz_I g3 ((l + 2)) (0 : Int).toNat ≤ 18) => ?_)
            refine ez_go (n := 1) (pc' := 156) (L' := [(1, .inl (k)), (0, .inr (.inr (some (770))))]) (st' := [.inl (2), .inl (qz_I g3 ((l + 2)) (0 : Int).toNat)]) rfl ?_
            refine ez_icmp rfl rfl ⟨by first | omega | exact (sz_i32 _).1, by first | omega | exact (sz_i32 _).2⟩ ⟨by first | omega | exact (sz_i32 _).1, by first | omega | exact (sz_i32 _).2⟩ (fun (c24 : (qz_I g3 ((l + 2)) (0 : Int).toNat) ≠ (2)) => ?_) (fun (c24 : ¬((qz_I g3 ((l + 2)) (0 : Int).toNat) ≠ (2))) => ?_)
            · skip
              refine ez_less [(1, .inl (k)), (0, .inr (.inr (some (770))))] rfl ⟨rfl, rfl, trivial⟩ ?_
              exact kx g3 τ3 hB3 P3 (so_skip hs kk0 e28 ipq (fun a z w9 => by have w8 := w9.1; rw [F1] at w8; cases w8; have hl9 : qz_I g3 (l + 2) (0 : Int).toNat = 2 := hlen1; omega) h39) (by rw [npq]; exact hnq)
            · skip
              refine ez_go (n := 2) (pc' := 161) (L' := [(1, .inl (k)), (0, .inr (.inr (some (770))))]) (st' := [.inr (.inr (some (770))), .inr (.inr (some (770)))]) rfl ?_
              refine ez_gR hB3 w770 rfl rfl tq_75 rfl rfl (fun (t25 : _ = 19) (t25' : 1 ≤ qz_I g3 770 21) => ?_)
              rw [show qz_P g3 770 21 = dc g3 from rfl]
              refine ez_go (n := 1) (pc' := 165) (L' := [(1, .inl (k)), (0, .inr (.inr (some (770))))]) (st' := [.inl (k), .inr (.inr (some ((dc g3)))), .inr (.inr (some (770)))]) rfl ?_
              have n27 : 64 ≤ qz_N g3 ((dc g3)) ∧ qz_N g3 ((dc g3)) ≤ 4096 := ez_len hB3 td.1 tq_19 rfl
              refine ez_aI hB3 td.1 rfl tq_19 rfl rfl (by omega) (by omega) (fun (b26 : -2147483648 ≤ qz_I g3 ((dc g3)) (k).toNat) (b26' : qz_I g3 ((dc g3)) (k).toNat ≤ 2147483647) => ?_)
              have pr3 : ez_rg (qz_I g3 ((dc g3)) (k).toNat) := ⟨by omega, by omega⟩
              refine ez_cv hB3 w770 rfl rfl rfl tq_75 rfl rfl rfl (rd_excluded I3 eg3 pr3 (fun hx => ez_K1 ?_) (fun hx => ez_K1 ?_))
              · skip
                rw [dcx3.2.2] at hx
                refine ez_if rfl rfl ⟨by decide, by decide⟩ (fun (c28 : (1 : Int) = (0)) => absurd c28 (by decide)) (fun _ => ?_)
                refine ez_go (n := 1) (pc' := 251) (L' := [(1, .inl (k)), (0, .inr (.inr (some (770))))]) (st' := []) rfl ?_
                refine ez_less [(1, .inl (k)), (0, .inr (.inr (some (770))))] rfl ⟨rfl, rfl, trivial⟩ ?_
                exact kx g3 τ3 hB3 P3 (so_skip hs kk0 e28 ipq (fun a z w9 => w9.2 hx) h39) (by rw [npq]; exact hnq)
              · skip
                rw [dcx3.2.2] at hx
                refine ez_if rfl rfl ⟨by decide, by decide⟩ (fun _ => ?_) (fun (c29 : ¬((0 : Int) = (0))) => absurd c29 (by decide))
                obtain ⟨v, v2, hvs⟩ : ∃ v v2, vs = [v, v2] := by
                  match vs, hlen1 with
                  | [v, v2], _ => exact ⟨v, v2, rfl⟩
                  | [], hl => exact absurd hl (by simp; omega)
                  | [_], hl => exact absurd hl (by simp; omega)
                  | _ :: _ :: _ :: _, hl => exact absurd hl (by simp; omega)
                have cp0 : cp = 0 := by omega
                subst cp0
                subst hvs
                have hl2 : qz_I g3 (l + 2) (0 : Int).toNat = 2 := hlen1
                have hl3 : qz_I g3 (l + 1) (0 : Int).toNat + 2 ≤ pn g3 := hlen2
                have hp0 : ez_p (vF Ls) (vE Ls) (qz_I h (dc h) k.toNat) v v2 := ⟨F1, hx⟩
                refine ez_go (n := 1) (pc' := 176) (L' := [(1, .inl (k)), (0, .inr (.inr (some (770))))]) (st' := [.inr (.inr (some (770)))]) rfl ?_
                refine ez_gR hB3 w770 rfl rfl tq_75 rfl rfl (fun (t30 : _ = 17) (t30' : 1 ≤ qz_I g3 770 9) => ?_)
                rw [show qz_P g3 770 9 = po g3 from rfl]
                refine ez_go (n := 1) (pc' := 180) (L' := [(1, .inl (k)), (0, .inr (.inr (some (770))))]) (st' := [.inr (.inr (some (770))), .inr (.inr (some ((po g3))))]) rfl ?_
                refine ez_gR hB3 w770 rfl rfl tq_75 rfl rfl (fun (t31 : _ = 20) (t31' : 1 ≤ qz_I g3 770 22) => ?_)
                rw [show qz_P g3 770 22 = bw g3 from rfl]
                refine ez_go (n := 1) (pc' := 184) (L' := [(1, .inl (k)), (0, .inr (.inr (some (770))))]) (st' := [.inl (k), .inr (.inr (some ((bw g3)))), .inr (.inr (some ((po g3))))]) rfl ?_
                have n33 : 64 ≤ qz_N g3 ((bw g3)) ∧ qz_N g3 ((bw g3)) ≤ 4096 := ez_len hB3 td.2 tq_20 rfl
                have y34 : 1 ≤ qz_I g3 ((bw g3)) (k).toNat := ek1
                have y35 : 0 ≤ qz_I g3 ((bw g3)) (k).toNat ∧ qz_I g3 ((bw g3)) (k).toNat ≤ 1000000 := ez_aB hB3 td.2 tq_20 rfl rfl (by decide) (by omega) (by omega)
                have y35' : ((qz_P g3 ((bw g3)) (k).toNat : Nat) : Int) + 1 = qz_I g3 ((bw g3)) (k).toNat := by unfold qz_P; omega
                refine ez_aR hB3 td.2 rfl tq_20 rfl rfl (by omega) (by omega) (by omega) (fun (t32 : _ = 13) => ?_)
                rw [el]
                refine ez_gR hB3 tl rfl rfl tq_13 rfl rfl (fun (t36 : _ = 15) (t36' : 1 ≤ qz_I g3 l 7) => ?_)
                rw [l7]
                refine ez_go (n := 1) (pc' := 189) (L' := [(1, .inl (k)), (0, .inr (.inr (some (770))))]) (st' := [.inl (0), .inr (.inr (some ((l + 1)))), .inr (.inr (some ((po g3))))]) rfl ?_
                have n38 : 3 ≤ qz_N g3 ((l + 1)) ∧ qz_N g3 ((l + 1)) ≤ 3 := ez_len hB3 t56.1 tq_15 rfl
                refine ez_aI hB3 t56.1 rfl tq_15 rfl rfl (by omega) (by omega) (fun (b37 : 0 ≤ qz_I g3 ((l + 1)) (0 : Int).toNat) (b37' : qz_I g3 ((l + 1)) (0 : Int).toNat ≤ 38500) => ?_)
                have n40 : 1024 ≤ qz_N g3 ((po g3)) ∧ qz_N g3 ((po g3)) ≤ 77100 := ez_len hB3 tt.2 tq_17 rfl
                refine ez_aI hB3 tt.2 rfl tq_17 rfl rfl (by omega) (by omega) (fun (b39 : -2147483648 ≤ qz_I g3 ((po g3)) (qz_I g3 ((l + 1)) (0 : Int).toNat).toNat) (b39' : qz_I g3 ((po g3)) (qz_I g3 ((l + 1)) (0 : Int).toNat).toNat ≤ 2147483647) => ?_)
                have ev0 : qz_I g3 ((po g3)) (qz_I g3 ((l + 1)) (0 : Int).toNat).toNat = v := by have w9 := hr 0 v rfl; unfold pl at w9; rw [show qz_I g3 (l + 1) (0 : Int).toNat = qz_I g3 (l + 1) 0 from rfl]; simpa using w9
                have vb0 : ez_rg v := by rw [← ev0]; exact ⟨by omega, by omega⟩
                obtain ⟨vc0, vd0⟩ := id vb0
                rw [ev0]
                refine ez_go (n := 2) (pc' := 193) (L' := [(2, .inl (v)), (1, .inl (k)), (0, .inr (.inr (some (770))))]) (st' := [.inr (.inr (some (770)))]) rfl ?_
                refine ez_gR hB3 w770 rfl rfl tq_75 rfl rfl (fun (t41 : _ = 17) (t41' : 1 ≤ qz_I g3 770 9) => ?_)
                rw [show qz_P g3 770 9 = po g3 from rfl]
                refine ez_go (n := 1) (pc' := 197) (L' := [(2, .inl (v)), (1, .inl (k)), (0, .inr (.inr (some (770))))]) (st' := [.inr (.inr (some (770))), .inr (.inr (some ((po g3))))]) rfl ?_
                refine ez_gR hB3 w770 rfl rfl tq_75 rfl rfl (fun (t42 : _ = 20) (t42' : 1 ≤ qz_I g3 770 22) => ?_)
                rw [show qz_P g3 770 22 = bw g3 from rfl]
                refine ez_go (n := 1) (pc' := 201) (L' := [(2, .inl (v)), (1, .inl (k)), (0, .inr (.inr (some (770))))]) (st' := [.inl (k), .inr (.inr (some ((bw g3)))), .inr (.inr (some ((po g3))))]) rfl ?_
                have n44 : 64 ≤ qz_N g3 ((bw g3)) ∧ qz_N g3 ((bw g3)) ≤ 4096 := ez_len hB3 td.2 tq_20 rfl
                have y45 : 1 ≤ qz_I g3 ((bw g3)) (k).toNat := ek1
                have y46 : 0 ≤ qz_I g3 ((bw g3)) (k).toNat ∧ qz_I g3 ((bw g3)) (k).toNat ≤ 1000000 := ez_aB hB3 td.2 tq_20 rfl rfl (by decide) (by omega) (by omega)
                have y46' : ((qz_P g3 ((bw g3)) (k).toNat : Nat) : Int) + 1 = qz_I g3 ((bw g3)) (k).toNat := by unfold qz_P; omega
                refine ez_aR hB3 td.2 rfl tq_20 rfl rfl (by omega) (by omega) (by omega) (fun (t43 : _ = 13) => ?_)
                rw [el]
                refine ez_gR hB3 tl rfl rfl tq_13 rfl rfl (fun (t47 : _ = 15) (t47' : 1 ≤ qz_I g3 l 7) => ?_)
                rw [l7]
                refine ez_go (n := 1) (pc' := 206) (L' := [(2, .inl (v)), (1, .inl (k)), (0, .inr (.inr (some (770))))]) (st' := [.inl (0), .inr (.inr (some ((l + 1)))), .inr (.inr (some ((po g3))))]) rfl ?_
                have n49 : 3 ≤ qz_N g3 ((l + 1)) ∧ qz_N g3 ((l + 1)) ≤ 3 := ez_len hB3 t56.1 tq_15 rfl
                refine ez_aI hB3 t56.1 rfl tq_15 rfl rfl (by omega) (by omega) (fun (b48 : 0 ≤ qz_I g3 ((l + 1)) (0 : Int).toNat) (b48' : qz_I g3 ((l + 1)) (0 : Int).toNat ≤ 38500) => ?_)
                refine ez_go (n := 2) (pc' := 209) (L' := [(2, .inl (v)), (1, .inl (k)), (0, .inr (.inr (some (770))))]) (st' := [.inl ((qz_I g3 ((l + 1)) (0 : Int).toNat) + (1)), .inr (.inr (some ((po g3))))]) rfl ?_
                have n51 : 1024 ≤ qz_N g3 ((po g3)) ∧ qz_N g3 ((po g3)) ≤ 77100 := ez_len hB3 tt.2 tq_17 rfl
                refine ez_aI hB3 tt.2 rfl tq_17 rfl rfl (by omega) (by omega) (fun (b50 : -2147483648 ≤ qz_I g3 ((po g3)) ((qz_I g3 ((l + 1)) (0 : Int).toNat) + (1)).toNat) (b50' : qz_I g3 ((po g3)) ((qz_I g3 ((l + 1)) (0 : Int).toNat) + (1)).toNat ≤ 2147483647) => ?_)
                have ev1 : qz_I g3 ((po g3)) ((qz_I g3 ((l + 1)) (0 : Int).toNat) + (1)).toNat = v2 := by have w9 := hr 1 v2 rfl; unfold pl at w9; rw [show qz_I g3 (l + 1) (0 : Int).toNat = qz_I g3 (l + 1) 0 from rfl]; simpa using w9
                have vb1 : ez_rg v2 := by rw [← ev1]; exact ⟨by omega, by omega⟩
                obtain ⟨vc1, vd1⟩ := id vb1
                rw [ev1]
                refine ez_go (n := 4) (pc' := 214) (L' := [(3, .inl (v2)), (2, .inl (v)), (1, .inl (k)), (0, .inr (.inr (some (770))))]) (st' := [.inl (v2), .inl (v), .inr (.inr (some (770)))]) rfl ?_
                refine ez_cv hB3 w770 rfl rfl rfl tq_75 rfl rfl rfl (rd_hangulPair hB3 w770 vb0 vb1 (fun hh => ez_K1 ?_) (fun hh => ez_K1 ?_))
                · skip
                  refine ez_if rfl rfl ⟨by decide, by decide⟩ (fun _ => ?_) (fun (c52 : ¬((1 : Int) ≠ (0))) => absurd c52 (by decide))
                  refine ez_go (n := 1) (pc' := 230) (L' := [(3, .inl (v2)), (2, .inl (v)), (1, .inl (k)), (0, .inr (.inr (some (770))))]) (st' := [.inl (0)]) rfl ?_
                  exact ez_retZ rfl rfl (Or.inl rfl) (k0 (fun w9 => w9.2.2.2.1 _ _ _ hp0 hh) g3 τ3 hB3 P3)
                · skip
                  refine ez_if rfl rfl ⟨by decide, by decide⟩ (fun (c53 : (0 : Int) ≠ (0)) => absurd c53 (by decide)) (fun _ => ?_)
                  refine ez_go (n := 3) (pc' := 223) (L' := [(3, .inl (v2)), (2, .inl (v)), (1, .inl (k)), (0, .inr (.inr (some (770))))]) (st' := [.inl (v2), .inl (v), .inr (.inr (some (770)))]) rfl ?_
                  have hpP : pP g3 (vF Ls) := by
                    refine ⟨by rw [e28, epq3, npq]; exact ⟨hs.1.1.1, by have := hs.1.1.2; omega⟩, fun i hi => ?_⟩
                    rw [e28] at hi
                    obtain ⟨w1, a9, z9, w2⟩ := hs.1.2 i hi
                    rw [epq3, ipq, dcx3.2.2]
                    exact ⟨by omega, a9, z9, w2.1⟩
                  refine ez_cv hB3 w770 rfl rfl rfl tq_75 rfl rfl rfl (rd_composite eg3 hpP vb0 vb1 (fun w9 => absurd w9 hh) (fun _ i hi hFi => ez_K1 ?_) (fun _ hno => ez_K1 ?_))
                  · skip
                    rw [e28] at hi
                    rw [epq3, ipq, dcx3.2.2] at hFi
                    rw [epq3, ipq, dcx3.2.2]
                    obtain ⟨w1, a9, z9, w2⟩ := hs.1.2 i hi
                    have hge := ((hw (qz_I h (dc h) (qz_I g (pq h) i).toNat)).2 _ _ hFi).2.2.2
                    generalize eA : qz_I h (dc h) (qz_I g (pq h) i).toNat = A9 at *
                    refine ez_if rfl rfl ⟨by first | omega | exact (sz_i32 _).1, by first | omega | exact (sz_i32 _).2⟩ (fun (c54 : (A9) < (0)) => ?_) (fun (c54 : ¬((A9) < (0))) => ?_)
                    · exfalso; omega
                    · skip
                      refine ez_go (n := 1) (pc' := 230) (L' := [(3, .inl (v2)), (2, .inl (v)), (1, .inl (k)), (0, .inr (.inr (some (770))))]) (st' := [.inl (0)]) rfl ?_
                      have hexi : ¬ ez_x (vF Ls) (vE Ls) A9 := w2.2
                      have hdif : A9 ≠ qz_I h (dc h) k.toNat := by rw [← eA]; have := e.2.2.2.1 (qz_I g (pq h) i).toNat k.toNat (by omega) (by omega); omega
                      exact ez_retZ rfl rfl (Or.inl rfl) (k0 (fun w9 => hdif (w9.2.2.2.2 _ _ v v2 ⟨hFi, hexi⟩ hp0)) g3 τ3 hB3 P3)
                  · skip
                    have hno2 : ∀ j : Nat, (j : Int) < pkn g → (vF Ls (qz_I h (dc h) (qz_I g (pq h) j).toNat)).2 ≠ some (0, [v, v2]) := fun j hj => by have w9 := hno j (by rw [e28]; exact hj); rw [epq3, ipq, dcx3.2.2] at w9; exact w9
                    refine ez_if rfl rfl ⟨by decide, by decide⟩ (fun _ => ?_) (fun (c55 : ¬((-1 : Int) < (0))) => absurd c55 (by decide))
                    refine ez_go (n := 1) (pc' := 232) (L' := [(3, .inl (v2)), (2, .inl (v)), (1, .inl (k)), (0, .inr (.inr (some (770))))]) (st' := [.inr (.inr (some (770)))]) rfl ?_
                    refine ez_gR hB3 w770 rfl rfl tq_75 rfl rfl (fun (t56 : _ = 22) (t56' : 1 ≤ qz_I g3 770 27) => ?_)
                    rw [show qz_P g3 770 27 = pq h from epq3]
                    have tp3 : τ3 (pq h) = 22 := (P3.1 _ (by rw [tpq]; decide)).1.trans tpq
                    refine ez_go (n := 1) (pc' := 236) (L' := [(3, .inl (v2)), (2, .inl (v)), (1, .inl (k)), (0, .inr (.inr (some (770))))]) (st' := [.inr (.inr (some (770))), .inr (.inr (some ((pq h))))]) rfl ?_
                    refine ez_gI hB3 w770 rfl rfl tq_75 rfl rfl (fun (b57 : 0 ≤ qz_I g3 770 28) (b57' : qz_I g3 770 28 ≤ 512) => ?_)
                    refine ez_go (n := 1) (pc' := 240) (L' := [(3, .inl (v2)), (2, .inl (v)), (1, .inl (k)), (0, .inr (.inr (some (770))))]) (st' := [.inl (k), .inl (qz_I g3 770 28), .inr (.inr (some ((pq h))))]) rfl ?_
                    have n60 : 0 ≤ qz_N g3 ((pq h)) ∧ qz_N g3 ((pq h)) ≤ 512 := ez_len hB3 tp3 tq_22 rfl
                    refine ez_as hB3 tp3 rfl tq_22 rfl rfl (by omega) (by omega) (ez_vdI rfl rfl (by omega) (by omega)) (fun hB58 w59 => ?_)
                    have fA : ez_fr (ez_one (pq h)) g3 (dz_put g3 ((pq h)) (qz_I g3 770 28).toNat (ez_v (.inl (k)))) := (ez_fr.refl (ez_one (pq h)) g3).put (show Nat.beq _ _ = true from Nat.beq_refl _) _ _
                    have vA : qz_I (dz_put g3 ((pq h)) (qz_I g3 770 28).toNat (ez_v (.inl (k)))) (pq h) (qz_I g3 770 28).toNat = k := w59.trans (rz_rd ⟨by omega, by omega⟩)
                    have iA : ∀ j, j ≠ (qz_I g3 770 28).toNat → qz_I (dz_put g3 ((pq h)) (qz_I g3 770 28).toNat (ez_v (.inl (k)))) (pq h) j = qz_I g3 (pq h) j := fun j hj => ez_put_I (fun w => hj w.2)
                    have NA : qz_N (dz_put g3 ((pq h)) (qz_I g3 770 28).toNat (ez_v (.inl (k)))) (pq h) = qz_N g3 (pq h) := ez_put_N _
                    have hA := hB58
                    generalize (dz_put g3 ((pq h)) (qz_I g3 770 28).toNat (ez_v (.inl (k)))) = g4 at *
                    have np7 : pq h ≠ 770 := fun w => by rw [w, w770] at tp3; cases tp3
                    have i4 : ∀ j, qz_I g4 770 j = qz_I g3 770 j := fun j => fA.I (dz_beq_ne (Ne.symm np7)) j
                    have i428 := i4 28
                    refine ez_go (n := 2) (pc' := 243) (L' := [(3, .inl (v2)), (2, .inl (v)), (1, .inl (k)), (0, .inr (.inr (some (770))))]) (st' := [.inr (.inr (some (770))), .inr (.inr (some (770)))]) rfl ?_
                    refine ez_gI hA w770 rfl rfl tq_75 rfl rfl (fun (b61 : 0 ≤ qz_I g4 770 28) (b61' : qz_I g4 770 28 ≤ 512) => ?_)
                    refine ez_go (n := 2) (pc' := 248) (L' := [(3, .inl (v2)), (2, .inl (v)), (1, .inl (k)), (0, .inr (.inr (some (770))))]) (st' := [.inl ((qz_I g4 770 28) + (1)), .inr (.inr (some (770)))]) rfl ?_
                    refine ez_pf hA w770 rfl rfl tq_75 rfl rfl rfl rfl (ez_vdI rfl rfl (by omega) (by omega)) (fun hB62 w63 => ?_)
                    refine ez_less [(1, .inl (k)), (0, .inr (.inr (some (770))))] rfl ⟨rfl, rfl, trivial⟩ ?_
                    have vC : qz_I (dz_put g4 770 28 (ez_v (.inl ((qz_I g4 770 28) + (1))))) 770 28 = qz_I g3 770 28 + 1 := by rw [w63, rz_rd ⟨by omega, by omega⟩, i428]
                    have iC : ∀ j, j ≠ 28 → qz_I (dz_put g4 770 28 (ez_v (.inl ((qz_I g4 770 28) + (1))))) 770 j = qz_I g3 770 j := fun j hj => by rw [ez_put_I (fun w => hj w.2)]; exact i4 j
                    have fC : ez_fr (ez_one 770) g4 (dz_put g4 770 28 (ez_v (.inl ((qz_I g4 770 28) + (1))))) := (ez_fr.refl (ez_one 770) g4).put rfl _ _
                    have hC := hB62
                    generalize (dz_put g4 770 28 (ez_v (.inl ((qz_I g4 770 28) + (1))))) = g5 at *
                    have jC : ∀ i, qz_I g5 (pq h) i = qz_I g4 (pq h) i := fun i => fC.I (dz_beq_ne np7) i
                    have fD : ez_fr (nz_PL (pq g3)) g3 g5 := ⟨by rw [fC.1, fA.1], by rw [fC.2.1, fA.2.1], fun q hq => by rw [epq3] at hq; rw [fC.2.2 q (Bool.or_eq_false_iff.mp hq).1, fA.2.2 q (Bool.or_eq_false_iff.mp hq).2]⟩
                    have P5 := P3.trans (fp.pair fD iC hB3 w770)
                    have pk5 : pkn g5 = pkn g + 1 := by show qz_I g5 770 28 = _; rw [vC]; show pkn g3 + 1 = _; rw [e28]
                    have k28 : (qz_I g3 770 28).toNat = (pkn g).toNat := by rw [← e28]; rfl
                    exact kx g5 τ3 hC P5 (so_add hs kk0 pk5 (fun j hj => by rw [jC, iA j (by rw [k28]; exact hj), ipq]) (by rw [jC, ← k28]; exact vA) hp0 hh hno2 h39) (by rw [fC.N (dz_beq_ne np7), NA, npq]; exact hnq)
        · skip
          refine ez_go (n := 1) (pc' := 130) (L' := [(1, .inl (k)), (0, .inr (.inr (some (770))))]) (st' := [.inl (0)]) rfl ?_
          exfalso; omega
      · skip
        have P3 := P2.trans (f3.fpx sn3)
        refine ez_go (n := 1) (pc' := 126) (L' := [(1, .inl (k)), (0, .inr (.inr (some (770))))]) (st' := [.inl (40), .inl (41)]) rfl ?_
        refine ez_icmp rfl rfl ⟨by decide, by decide⟩ ⟨by decide, by decide⟩ (fun (c64 : (41 : Int) ≤ (40)) => absurd c64 (by decide)) (fun _ => ?_)
        refine ez_go (n := 1) (pc' := 130) (L' := [(1, .inl (k)), (0, .inr (.inr (some (770))))]) (st' := [.inl (0)]) rfl ?_
        exact ez_retZ rfl rfl (Or.inl rfl) (k0 (fun w9 => by obtain ⟨l9, h9, h8⟩ := w9.2.2.1 _ hne true; rw [uz_uniq h9 ⟨_, hl1⟩] at h8; omega) g3 τ3 hB3 P3)
  · skip
    have P2 := hp.trans (f2.fpx sn2)
    refine ez_go (n := 1) (pc' := 110) (L' := [(1, .inl (k)), (0, .inr (.inr (some (770))))]) (st' := [.inl (40), .inl (41)]) rfl ?_
    refine ez_icmp rfl rfl ⟨by decide, by decide⟩ ⟨by decide, by decide⟩ (fun _ => ?_) (fun (c65 : ¬((40) < (41 : Int))) => absurd c65 (by decide))
    refine ez_go (n := 1) (pc' := 130) (L' := [(1, .inl (k)), (0, .inr (.inr (some (770))))]) (st' := [.inl (0)]) rfl ?_
    exact ez_retZ rfl rfl (Or.inl rfl) (k0 (fun w9 => by obtain ⟨l9, h9, h8⟩ := w9.2.2.1 _ hne false; rw [uz_uniq h9 ⟨_, hl0⟩] at h8; omega) g2 τ2 hB2 P2)

end EzSp
/-! The model: sound, all of it. (Written by wip/p2/py/pv99.py.) -/
section EzSq
variable {d : Nat} {h : cz_H} {τ : Nat → Nat} {Q : cz_F → Prop} {Ls : List vz} {b : Int}
theorem rd_so_3 (hI : mI τ h Ls b) (e : eD τ h (vF Ls)) (t794 : τ 794 = 82) (hw : uz_wf (vF Ls)) (h2 : ∀ i : Nat, (i : Int) < cn h → az (vF Ls) (cn h + 1).toNat (qz_I h (dc h) i)) (hr1 : h.1 + 700 ≤ 600192) (hr2 : h.2.1 + 120000 ≤ 7302232) (h1 : ∀ i : Nat, (i : Int) < cn h → (¬ hz (qz_I h (dc h) i) ∧ ∀ cp vs, (vF Ls (qz_I h (dc h) i)).2 = some (cp, vs) → cp = 0 → vs.length ≤ 2)) (k1 : uz_S (vF Ls) (vE Ls) → ∀ g τ1, ez_B τ1 g → fp τ h τ1 g → pQ g (vF Ls) (vE Ls) → pcn (vF Ls) (vE Ls) (pkn g) → Q (.inl (some (ez_v (.inl 1))), g)) (k0 : ¬ uz_S (vF Ls) (vE Ls) → ∀ g τ1, ez_B τ1 g → fp τ h τ1 g → Q (.inl (some (ez_v (.inl 0))), g)) : ∀ (n : Nat) (k : Int) (g : cz_H) (τ1 : Nat → Nat), n = (cn h - k).toNat → 0 ≤ k → k ≤ cn h → ez_B τ1 g → fp τ h τ1 g → so h (vF Ls) (vE Ls) g k → qz_N g (pq h) = cn h → ez_W (d + 3) cm_301 89 [(1, .inl (k)), (0, .inr (.inr (some (770))))] [] g Q := by
  intro n
  induction n with
  | zero =>
    intro k g τ1 hn kk0 kk1 hb1 hp hs hnq
    have hB := e.1
    have t770 := e.2.1
    have hBg := hb1
    have eg := hp.eDx e t794 hBg
    have dcx := hp.dcx e t794
    have u770 : τ1 770 = 75 := eg.2.1
    have cne : cn g = qz_I g 770 23 := rfl
    have c500 := e.2.2.1.1
    refine ez_go (n := 2) (pc' := 91) (L' := [(1, .inl (k)), (0, .inr (.inr (some (770))))]) (st' := [.inr (.inr (some (770))), .inl (k)]) rfl ?_
    refine ez_gI hBg u770 rfl rfl tq_75 rfl rfl (fun (b1 : 0 ≤ qz_I g 770 23) (b1' : qz_I g 770 23 ≤ 512) => ?_)
    refine ez_icmp rfl rfl ⟨by first | omega | exact (sz_i32 _).1, by first | omega | exact (sz_i32 _).2⟩ ⟨by first | omega | exact (sz_i32 _).1, by first | omega | exact (sz_i32 _).2⟩ (fun (c2 : (qz_I g 770 23) ≤ (k)) => ?_) (fun (c2 : ¬((qz_I g 770 23) ≤ (k))) => ?_)
    · skip
      refine ez_go (n := 1) (pc' := 258) (L' := [(1, .inl (k)), (0, .inr (.inr (some (770))))]) (st' := [.inl (1)]) rfl ?_
      have ek : k = cn h := by omega
      rw [ek] at hs
      refine ez_retZ rfl rfl (Or.inr rfl) (k1 (so_S e hs h1 h2) g τ1 hb1 hp ?_ (so_pcn hw e hs (so_S e hs h1 h2)))
      have epq : pq g = pq h := by unfold pq qz_P; rw [hp.2.2.1 27 (by decide) (by decide) (by decide)]
      refine ⟨by rw [epq, hnq]; exact hs.1.1, fun i hi => ?_, fun x a9 z9 w9 => ?_⟩
      · obtain ⟨w1, a9, z9, w2⟩ := hs.1.2 i hi
        rw [epq, dcx.2.2]
        exact ⟨by omega, a9, z9, w2⟩
      · obtain ⟨i, i1, i2⟩ := e.2.2.2.2.2.1 x (by rw [w9.1]; intro w; cases w)
        obtain ⟨⟨j, j1, j2⟩, -⟩ := hs.2.1 i i1 a9 z9 (by rw [i2]; exact w9)
        exact ⟨j, j1, by rw [epq, dcx.2.2, j2]; exact i2⟩
    · skip
      exfalso; omega
  | succ n ih =>
    intro k g τ1 hn kk0 kk1 hb1 hp hs hnq
    have hB := e.1
    have t770 := e.2.1
    have hBg := hb1
    have eg := hp.eDx e t794 hBg
    have dcx := hp.dcx e t794
    have u770 : τ1 770 = 75 := eg.2.1
    have cne : cn g = qz_I g 770 23 := rfl
    have c500 := e.2.2.1.1
    refine ez_go (n := 2) (pc' := 91) (L' := [(1, .inl (k)), (0, .inr (.inr (some (770))))]) (st' := [.inr (.inr (some (770))), .inl (k)]) rfl ?_
    refine ez_gI hBg u770 rfl rfl tq_75 rfl rfl (fun (b1 : 0 ≤ qz_I g 770 23) (b1' : qz_I g 770 23 ≤ 512) => ?_)
    refine ez_icmp rfl rfl ⟨by first | omega | exact (sz_i32 _).1, by first | omega | exact (sz_i32 _).2⟩ ⟨by first | omega | exact (sz_i32 _).1, by first | omega | exact (sz_i32 _).2⟩ (fun (c2 : (qz_I g 770 23) ≤ (k)) => ?_) (fun (c2 : ¬((qz_I g 770 23) ≤ (k))) => ?_)
    · skip
      refine ez_go (n := 1) (pc' := 258) (L' := [(1, .inl (k)), (0, .inr (.inr (some (770))))]) (st' := [.inl (1)]) rfl ?_
      have ek : k = cn h := by omega
      rw [ek] at hs
      refine ez_retZ rfl rfl (Or.inr rfl) (k1 (so_S e hs h1 h2) g τ1 hb1 hp ?_ (so_pcn hw e hs (so_S e hs h1 h2)))
      have epq : pq g = pq h := by unfold pq qz_P; rw [hp.2.2.1 27 (by decide) (by decide) (by decide)]
      refine ⟨by rw [epq, hnq]; exact hs.1.1, fun i hi => ?_, fun x a9 z9 w9 => ?_⟩
      · obtain ⟨w1, a9, z9, w2⟩ := hs.1.2 i hi
        rw [epq, dcx.2.2]
        exact ⟨by omega, a9, z9, w2⟩
      · obtain ⟨i, i1, i2⟩ := e.2.2.2.2.2.1 x (by rw [w9.1]; intro w; cases w)
        obtain ⟨⟨j, j1, j2⟩, -⟩ := hs.2.1 i i1 a9 z9 (by rw [i2]; exact w9)
        exact ⟨j, j1, by rw [epq, dcx.2.2, j2]; exact i2⟩
    · skip
      refine rd_so_2 hI e t794 hw h2 hr1 hr2 kk0 (by omega) hb1 hp hs hnq k0 (fun g2 τ2 a1 a2 a3 a4 => ?_)
      refine ez_go (n := 2) (pc' := 89) (L' := [(1, .inl (k + 1)), (0, .inr (.inr (some (770))))]) (st' := []) rfl ?_
      refine ez_less [(1, .inl (k + 1)), (0, .inr (.inr (some (770))))] rfl ⟨rfl, rfl, trivial⟩ ?_
      exact ih (k + 1) g2 τ2 (by omega) (by omega) (by omega) a1 a2 a3 a4

/-- what sound leaves -/
def sR (τ : Nat → Nat) (h : cz_H) (τ1 : Nat → Nat) (g : cz_H) (Ls : List vz) (b : Int) : Prop := mI τ1 g Ls b ∧ eD τ1 g (vF Ls) ∧ qz_N g (bw g) ≤ qz_N g (dc g) ∧ sf τ h τ1 g 1024
theorem fp.nbx {τ τ1 : Nat → Nat} {h g : cz_H} (a : fp τ h τ1 g) (hB : ez_B τ h) (t770 : τ 770 = 75) (t794 : τ 794 = 82) (n : qz_N h (bw h) ≤ qz_N h (dc h)) : qz_N g (bw g) ≤ qz_N g (dc g) := by
  have td := ez_tdb hB t770
  have e1 : dc g = dc h := by unfold dc qz_P; rw [a.2.2.1 21 (by decide) (by decide) (by decide)]
  have e2 : bw g = bw h := by unfold bw qz_P; rw [a.2.2.1 22 (by decide) (by decide) (by decide)]
  have c : ∀ q t, τ q = t → (t = 19 ∨ t = 20) → g.2.2 q = h.2.2 q := fun q t hq ht => (a.1 q (by omega)).2 (fun w => by rw [w, t770] at hq; omega) (fun w => by rw [w, t794] at hq; omega) (by omega) (by omega)
  rw [e1, e2]
  unfold qz_N at n ⊢
  rw [c _ _ td.1 (by omega), c _ _ td.2 (by omega)]; exact n
theorem rd_sound (hI : mI τ h Ls b) (hw : uz_wf (vF Ls)) (hdb : qz_N h (bw h) ≤ qz_N h (dc h)) (hlc : lc h ≤ 500) (hr1 : h.1 + 1000 ≤ 600192) (hr2 : h.2.1 + 150000 ≤ 7302232) (k1 : uz_S (vF Ls) (vE Ls) → ∀ g τ1, sR τ h τ1 g Ls b → pQ g (vF Ls) (vE Ls) → (∀ x, (vF Ls x).2 ≠ none → az (vF Ls) 501 x) → pcn (vF Ls) (vE Ls) (pkn g) → Q (.inl (some (ez_v (.inl 1))), g)) (k0 : ¬ uz_S (vF Ls) (vE Ls) → ∀ g τ1, sR τ h τ1 g Ls b → Q (.inl (some (ez_v (.inl 0))), g)) : ez_W (d + 3) cm_301 0 [(0, .inr (.inr (some (770))))] [] h Q := by
  have hB := hI.1
  have t770 : τ 770 = 75 := hI.2.1 770 (by decide)
  have t794 : τ 794 = 82 := hI.2.1 794 (by decide)
  refine ez_go (n := 1) (pc' := 1) (L' := [(0, .inr (.inr (some (770))))]) (st' := [.inr (.inr (some (770)))]) rfl ?_
  refine ez_cv hB t770 rfl rfl rfl tq_75 rfl rfl rfl (rd_collect hI hdb hlc (by omega) (by omega) (fun g1 τ1 hE1 G1 c1 cn1 cb1 => ez_K0 ?_))
  have u770 : τ1 770 = 75 := (G1.1 770 (by rw [t770]; decide)).1.trans t770
  have u794 : τ1 794 = 82 := (G1.1 794 (by rw [t794]; decide)).1.trans t794
  have I1 := G1.mI hI hE1
  have e1 := eD_of I1 c1 (by omega) cb1 G1.2.2.2.1.2
  have S1 := G1.sfx hB t770
  have rr1 := G1.2.2.2.2
  have lb1 : qz_N g1 (bw g1) ≤ 4096 := (ez_len hE1 (ez_tdb hE1 u770).2 tq_20 rfl).2
  have lb0 := qz_N_nn h (bw h)
  refine ez_go (n := 2) (pc' := 6) (L' := [(1, .inl (0)), (0, .inr (.inr (some (770))))]) (st' := []) rfl ?_
  refine ez_less [(1, .inl (0)), (0, .inr (.inr (some (770))))] rfl ⟨rfl, rfl, trivial⟩ ?_
  refine rd_so_1 (d := d + 2) e1 (fun hn => k0 (fun w => hn w.1) g1 τ1 ⟨I1, e1, G1.2.2.2.1.2, S1.mono (by decide)⟩) (fun h1 => ?_) _ 0 rfl (by omega) (by have := e1.2.2.1.1; omega) (fun i hi => by omega)
  refine ez_go (n := 1) (pc' := 64) (L' := [(0, .inr (.inr (some (770))))]) (st' := [.inr (.inr (some (770)))]) rfl ?_
  refine ez_cv hE1 u770 rfl rfl rfl tq_75 rfl rfl rfl (rd_ends e1 (by omega) (by omega) (fun i hi => (h1 i hi).1) (fun ha g2 τ2 hE2 x2 t2 => ez_K1 ?_) (fun hn g2 τ2 hE2 x2 t2 => ez_K1 ?_))
  · skip
    have S2 := S1.trans (xt_sf x2 t2 (Or.inr rfl) hE1 u770)
    have v770 : τ2 770 = 75 := (x2.1 770 (by rw [u770]; decide)).1.trans u770
    have v794 : τ2 794 = 82 := (x2.1 794 (by rw [u794]; decide)).1.trans u794
    have I2 := S2.mIx hI hE2
    have e2 : eD τ2 g2 (vF Ls) := e1.tr hE2 (fun q hq => (x2.1 q hq).1) (fun q q0 w => by have := t2 q q0 (by rw [w]; decide); omega) (fun j _ => x2.I (by rw [u770]; decide) j) (fun q hq => (x2.1 q (by omega)).2)
    have td1 := ez_tdb hE1 u770
    have f2 : ∀ j, qz_I g2 770 j = qz_I g1 770 j := fun j => x2.I (by rw [u770]; decide) j
    have ed2 : dc g2 = dc g1 := by unfold dc qz_P; rw [f2]
    have eb2 : bw g2 = bw g1 := by unfold bw qz_P; rw [f2]
    have nb2 : qz_N g2 (bw g2) ≤ qz_N g2 (dc g2) := by rw [ed2, eb2, x2.N (by rw [td1.2]; decide), x2.N (by rw [td1.1]; decide)]; exact G1.2.2.2.1.2
    have cx2 := x2.2
    refine ez_if rfl rfl ⟨by decide, by decide⟩ (fun _ => ?_) (fun (c1 : ¬((1 : Int) ≠ (0))) => absurd c1 (by decide))
    refine ez_go (n := 2) (pc' := 74) (L' := [(0, .inr (.inr (some (770))))]) (st' := [.inl (0), .inr (.inr (some (770)))]) rfl ?_
    refine ez_pf hE2 v770 rfl rfl tq_75 rfl rfl rfl rfl (ez_vdI rfl rfl (by omega) (by omega)) (fun hB2 w3 => ?_)
    have vP : qz_I (dz_put g2 770 28 (ez_v (.inl (0)))) 770 28 = 0 := w3.trans (rz_rd ⟨by omega, by omega⟩)
    have iP : ∀ j, j ≠ 28 → qz_I (dz_put g2 770 28 (ez_v (.inl (0)))) 770 j = qz_I g2 770 j := fun j hj => ez_put_I (fun w => hj w.2)
    have fP : ez_fr (ez_one 770) g2 (dz_put g2 770 28 (ez_v (.inl (0)))) := (ez_fr.refl (ez_one 770) g2).put rfl _ _
    have hP := hB2
    generalize (dz_put g2 770 28 (ez_v (.inl (0)))) = g3 at *
    have cP1 := fP.1; have cP2 := fP.2.1
    have c23 := iP 23 (by decide)
    have c500 := e2.2.2.1.1
    have cne : cn g2 = qz_I g2 770 23 := rfl
    refine ez_go (n := 2) (pc' := 79) (L' := [(0, .inr (.inr (some (770))))]) (st' := [.inr (.inr (some (770))), .inr (.inr (some (770)))]) rfl ?_
    refine ez_gI hP v770 rfl rfl tq_75 rfl rfl (fun (b4 : 0 ≤ qz_I g3 770 23) (b4' : qz_I g3 770 23 ≤ 512) => ?_)
    refine ez_nA' (t := 22) hP rfl rfl rfl tq_22 rfl rfl (by omega) (by show (0 : Int) ≤ _; omega) (by show _ ≤ (512 : Int); omega) (by omega) (by omega) (by omega) (fun g5 τ5 p5 hB5 x5 o5 t5 z5 e5 N5 y5 => ?_)
    have c5 := x5.2
    have v770n5 := (x5.1 _ (by rw [v770]; decide)).1.trans v770
    refine ez_pf hB5 v770n5 rfl rfl tq_75 rfl rfl rfl rfl (ez_vdR rfl t5 (by omega) (by omega)) (fun hB6 w7 => ?_)
    refine ez_go (n := 2) (pc' := 89) (L' := [(1, .inl (0)), (0, .inr (.inr (some (770))))]) (st' := []) rfl ?_
    refine ez_less [(1, .inl (0)), (0, .inr (.inr (some (770))))] rfl ⟨rfl, rfl, trivial⟩ ?_
    have vQ : qz_I (dz_put g5 770 27 (ez_v (.inr (.inr (some (p5)))))) 770 27 = (p5 : Int) + 1 := w7
    have iQ : ∀ j, j ≠ 27 → qz_I (dz_put g5 770 27 (ez_v (.inr (.inr (some (p5)))))) 770 j = qz_I g5 770 j := fun j hj => ez_put_I (fun w => hj w.2)
    have fQ : ez_fr (ez_one 770) g5 (dz_put g5 770 27 (ez_v (.inr (.inr (some (p5)))))) := (ez_fr.refl (ez_one 770) g5).put rfl _ _
    have hQ := hB6
    generalize (dz_put g5 770 27 (ez_v (.inr (.inr (some (p5)))))) = g5 at *
    have cQ1 := fQ.1; have cQ2 := fQ.2.1
    have v7n : τ5 770 = 75 := (x5.1 770 (by rw [v770]; decide)).1.trans v770
    have v9n : τ5 794 = 82 := (x5.1 794 (by rw [v794]; decide)).1.trans v794
    have I7 : ∀ j, j ≠ 27 → j ≠ 28 → qz_I g5 770 j = qz_I g2 770 j := fun j j1 j2 => by rw [iQ j j1, x5.I (by rw [v770]; decide), iP j j2]
    have C5 : ∀ q, τ2 q ≠ 0 → τ5 q = τ2 q ∧ (q ≠ 770 → g5.2.2 q = g2.2.2 q) := fun q hq => ⟨(x5.1 q hq).1, fun q1 => by rw [fQ.2.2 q (dz_beq_ne q1), (x5.1 q hq).2, fP.2.2 q (dz_beq_ne q1)]⟩
    have t7n : p5 ≠ 770 := fun w => by rw [w, v770] at z5; cases z5
    have epq : pq g5 = p5 := by unfold pq qz_P; rw [vQ]; omega
    have npq : qz_N g5 p5 = cn g2 := by rw [fQ.N (dz_beq_ne t7n), N5, c23]; rfl
    have pk5 : pkn g5 = 0 := by show qz_I g5 770 28 = 0; rw [iQ 28 (by decide), x5.I (by rw [v770]; decide)]; exact vP
    have e5 : eD τ5 g5 (vF Ls) := e2.tr hQ (fun q hq => (C5 q hq).1) (fun q q0 w => by by_cases w2 : q = p5; (· rw [w2, t5] at w; cases w); (· rw [o5 q w2, q0] at w; cases w)) (fun j hj => I7 j (by omega) (by omega)) (fun q hq => (C5 q (by omega)).2 (fun w => by rw [w, v770] at hq; omega))
    have td2 := ez_tdb hE2 v770
    have ts2 := ez_tsk hE2 v770
    have ed5 : dc g5 = dc g2 := by unfold dc qz_P; rw [I7 21 (by decide) (by decide)]
    have eb5 : bw g5 = bw g2 := by unfold bw qz_P; rw [I7 22 (by decide) (by decide)]
    have es5 : sk g5 = sk g2 := by unfold sk qz_P; rw [I7 24 (by decide) (by decide)]
    have cd5 : g5.2.2 (dc g2) = g2.2.2 (dc g2) := (C5 _ (by rw [td2.1]; decide)).2 (fun w => by have t := td2.1; rw [w, v770] at t; cases t)
    have cb5 : g5.2.2 (bw g2) = g2.2.2 (bw g2) := (C5 _ (by rw [td2.2]; decide)).2 (fun w => by have t := td2.2; rw [w, v770] at t; cases t)
    have cs5 : g5.2.2 (sk g2) = g2.2.2 (sk g2) := (C5 _ (by rw [ts2]; decide)).2 (fun w => by have t := ts2; rw [w, v770] at t; cases t)
    have Nd5 : qz_N g5 (dc g2) = qz_N g2 (dc g2) := by unfold qz_N; rw [cd5]
    have Nb5 : qz_N g5 (bw g2) = qz_N g2 (bw g2) := by unfold qz_N; rw [cb5]
    have Ns5 : qz_N g5 (sk g2) = qz_N g2 (sk g2) := by unfold qz_N; rw [cs5]
    have nb5 : qz_N g5 (bw g5) ≤ qz_N g5 (dc g5) := by rw [ed5, eb5, Nd5, Nb5]; exact nb2
    have ecn : cn g5 = cn g2 := I7 23 (by decide) (by decide)
    have idc : ∀ j, qz_I g5 (dc g5) j = qz_I g2 (dc g2) j := fun j => by rw [ed5]; unfold qz_I; rw [cd5]
    have idc1 : ∀ j, qz_I g2 (dc g2) j = qz_I g1 (dc g1) j := fun j => by rw [ed2]; exact x2.I (by rw [td1.1]; decide) j
    have ecn1 : cn g2 = cn g1 := f2 23
    have cxn := x5.2
    have T3 : sf τ2 g2 τ5 g5 512 := by
      refine ⟨fun q hq => ⟨(C5 q hq).1, fun q1 _ _ => (C5 q hq).2 q1⟩, fun q q0 q1 => ?_, fun j hj => I7 j (by omega) (by omega), by rw [eb5, es5, Nb5, Ns5, show skn g5 = skn g2 from I7 25 (by decide) (by decide)]; omega, by rw [eb5, es5, Nb5, Ns5]; omega, by omega⟩
      by_cases w2 : q = p5
      · rw [w2, t5]; omega
      · rw [o5 q w2] at q1; exact absurd q0 q1
    have S5 := S2.trans T3
    have I5 := S5.mIx hI hQ
    have FIN : ∀ g6 τ6, ez_B τ6 g6 → fp τ5 g5 τ6 g6 → sR τ h τ6 g6 Ls b := fun g6 τ6 a1 a2 => by
      have S6 := S5.trans (a2.sfx hQ v7n v9n)
      exact ⟨S6.mIx hI a1, a2.eDx e5 v9n a1, a2.nbx hQ v7n v9n nb5, S6.mono (by decide)⟩
    have HZ : ∀ x, (vF Ls x).2 ≠ none → az (vF Ls) 501 x := fun x hx => by
      obtain ⟨i, i1, i2⟩ := e5.2.2.2.2.2.1 x hx
      rw [ecn, ecn1] at i1
      rw [idc, idc1] at i2
      rw [← i2]; exact az_m (ha i i1) (by omega)
    refine rd_so_3 I5 e5 v9n hw ?_ (by omega) (by omega) ?_ (fun hS g6 τ6 a1 a2 a3 a4 => k1 hS g6 τ6 (FIN g6 τ6 a1 a2) a3 HZ a4) (fun hn g6 τ6 a1 a2 => k0 hn g6 τ6 (FIN g6 τ6 a1 a2)) _ 0 g5 τ5 rfl (by omega) (by omega) hQ (fp.refl _ _) ⟨⟨by omega, fun j hj => by omega⟩, fun i hi => by omega, fun i j hi => by omega, fun i hi => by omega, fun i j ij jn => by omega⟩ (by rw [epq, npq, ecn])
    · rw [ecn, ecn1]; exact fun i hi => by rw [idc, idc1]; exact ha i hi
    · rw [ecn, ecn1]; exact fun i hi => by rw [idc, idc1]; exact h1 i hi
  · skip
    have S2 := S1.trans (xt_sf x2 t2 (Or.inr rfl) hE1 u770)
    have v770 : τ2 770 = 75 := (x2.1 770 (by rw [u770]; decide)).1.trans u770
    have v794 : τ2 794 = 82 := (x2.1 794 (by rw [u794]; decide)).1.trans u794
    have I2 := S2.mIx hI hE2
    have e2 : eD τ2 g2 (vF Ls) := e1.tr hE2 (fun q hq => (x2.1 q hq).1) (fun q q0 w => by have := t2 q q0 (by rw [w]; decide); omega) (fun j _ => x2.I (by rw [u770]; decide) j) (fun q hq => (x2.1 q (by omega)).2)
    have td1 := ez_tdb hE1 u770
    have f2 : ∀ j, qz_I g2 770 j = qz_I g1 770 j := fun j => x2.I (by rw [u770]; decide) j
    have ed2 : dc g2 = dc g1 := by unfold dc qz_P; rw [f2]
    have eb2 : bw g2 = bw g1 := by unfold bw qz_P; rw [f2]
    have nb2 : qz_N g2 (bw g2) ≤ qz_N g2 (dc g2) := by rw [ed2, eb2, x2.N (by rw [td1.2]; decide), x2.N (by rw [td1.1]; decide)]; exact G1.2.2.2.1.2
    have cx2 := x2.2
    refine ez_if rfl rfl ⟨by decide, by decide⟩ (fun (c8 : (0 : Int) ≠ (0)) => absurd c8 (by decide)) (fun _ => ?_)
    refine ez_go (n := 1) (pc' := 71) (L' := [(0, .inr (.inr (some (770))))]) (st' := [.inl (0)]) rfl ?_
    exact ez_retZ rfl rfl (Or.inl rfl) (k0 (fun w => hn w.2.1) g2 τ2 ⟨I2, e2, nb2, S2.mono (by decide)⟩)

end EzSq
/-! The model: what seal leaves as it was. -/
def sW (τ : Nat → Nat) (h : cz_H) (τ1 : Nat → Nat) (g : cz_H) : Prop :=
  (∀ q, τ q ≠ 0 → τ1 q = τ q ∧ (q ≠ 770 → q ≠ 794 → (τ q < 19 ∨ 22 < τ q) → g.2.2 q = h.2.2 q)) ∧ (∀ q, τ q = 0 → τ1 q ≠ 0 → (19 ≤ τ1 q ∧ τ1 q ≤ 22) ∨ τ1 q = 36) ∧
  (∀ j, j ≠ 0 → j ≠ 7 → j < 21 ∨ 28 < j → qz_I g 770 j = qz_I h 770 j) ∧ (qz_N h (bw h) ≤ qz_N g (bw g) ∧ qz_N h (sk h) ≤ qz_N g (sk g) ∧ (skn h ≤ qz_N h (sk h) → skn g ≤ qz_N g (sk g))) ∧ ((g.2.1 : Int) - h.2.1 ≤ 4 * (qz_N g (bw g) - qz_N h (bw h)) + 2 * (qz_N g (sk g) - qz_N h (sk h)) + 1024 ∧ 64 * ((g.1 : Int) - h.1) ≤ 2 * (qz_N g (bw g) - qz_N h (bw h)) + (qz_N g (sk g) - qz_N h (sk h)) + 1024) ∧ h.1 ≤ g.1 ∧ h.2.1 ≤ g.2.1
/-- a field of the model's own -/
def f7 (h g : cz_H) : Prop := ez_fr (ez_one 770) h g ∧ ∀ j, j ≠ 0 → j ≠ 7 → qz_I g 770 j = qz_I h 770 j
theorem f7.refl (h : cz_H) : f7 h h := ⟨ez_fr.refl _ _, fun _ _ _ => rfl⟩
theorem f7.ptr {τ : Nat → Nat} {h g : cz_H} (a : f7 h g) (hB : ez_B τ h) (t770 : τ 770 = 75) : (bw g = bw h ∧ dc g = dc h ∧ sk g = sk h ∧ pq g = pq h) ∧ (qz_N g (bw h) = qz_N h (bw h) ∧ qz_N g (dc h) = qz_N h (dc h) ∧ qz_N g (sk h) = qz_N h (sk h) ∧ qz_N g (pq h) = qz_N h (pq h)) ∧ (cn g = cn h ∧ pkn g = pkn h) ∧ (∀ j, qz_I g (dc h) j = qz_I h (dc h) j) ∧ ∀ j, qz_I g (pq h) j = qz_I h (pq h) j := by
  have td := ez_tdb hB t770
  have ts := ez_tsk hB t770
  have tp := ez_tpq hB t770
  have n : ∀ {q t : Nat}, τ q = t → t ≠ 75 → ez_one 770 q = false := fun {q t} hq ht => dz_beq_ne (fun w => by rw [w, t770] at hq; exact ht hq.symm)
  refine ⟨⟨?_, ?_, ?_, ?_⟩, ⟨a.1.N (n td.2 (by decide)), a.1.N (n td.1 (by decide)), a.1.N (n ts (by decide)), a.1.N (n tp (by decide))⟩, ⟨a.2 23 (by decide) (by decide), a.2 28 (by decide) (by decide)⟩, fun j => a.1.I (n td.1 (by decide)) j, fun j => a.1.I (n tp (by decide)) j⟩
  · unfold bw qz_P; rw [a.2 22 (by decide) (by decide)]
  · unfold dc qz_P; rw [a.2 21 (by decide) (by decide)]
  · unfold sk qz_P; rw [a.2 24 (by decide) (by decide)]
  · unfold pq qz_P; rw [a.2 27 (by decide) (by decide)]
theorem sW_of {τ τ1 : Nat → Nat} {h h1 g1 g : cz_H} (a : f7 h h1) (s : sf τ h1 τ1 g1 1024) (c : f7 g1 g) (hB : ez_B τ h) (t770 : τ 770 = 75) (hB1 : ez_B τ1 g1) : sW τ h τ1 g := by
  have u770 : τ1 770 = 75 := (s.1 770 (by rw [t770]; decide)).1.trans t770
  obtain ⟨⟨p1, p2, p3, p4⟩, ⟨n1, n2, n3, n4⟩, -⟩ := a.ptr hB t770
  obtain ⟨⟨q1, q2, q3, q4⟩, ⟨m1, m2, m3, m4⟩, -⟩ := c.ptr hB1 u770
  obtain ⟨s1, s2, s3, s4, s5, s6⟩ := s
  rw [p1, p3, n1, n3] at s4 s5
  rw [show skn h1 = skn h from a.2 25 (by decide) (by decide)] at s4
  have r1 := a.1.1
  have r2 := a.1.2.1
  have r3 := c.1.1
  have r4 := c.1.2.1
  refine ⟨fun q hq => ⟨(s1 q hq).1, fun h7 h9 ht => ?_⟩, s2, fun j j0 j7 hj => ?_, by rw [q1, q3, m1, m3, show skn g = skn g1 from c.2 25 (by decide) (by decide)]; exact s4, by rw [q1, q3, m1, m3]; omega, by omega, by omega⟩
  · rw [c.1.2.2 q (dz_beq_ne h7), (s1 q hq).2 h7 h9 ht, a.1.2.2 q (dz_beq_ne h7)]
  · rw [c.2 j j0 j7, s3 j hj, a.2 j j0 j7]
theorem f7.eDx {τ : Nat → Nat} {h g : cz_H} {F : rz_W} (a : f7 h g) (e : eD τ h F) (hB : ez_B τ g) : eD τ g F := e.tr hB (fun _ _ => rfl) (fun q h0 => by rw [h0]; decide) (fun j hj => a.2 j (by omega) (by omega)) (fun q hq => a.1.2.2 q (dz_beq_ne (fun w => by rw [w, e.2.1] at hq; omega)))
theorem f7.pPx {τ : Nat → Nat} {h g : cz_H} {F : rz_W} (a : f7 h g) (p : pP h F) (hB : ez_B τ h) (t770 : τ 770 = 75) : pP g F := by
  obtain ⟨⟨p1, p2, p3, p4⟩, ⟨n1, n2, n3, n4⟩, ⟨c1, c2⟩, i1, i2⟩ := a.ptr hB t770
  refine ⟨by rw [c2, p4, n4]; exact p.1, fun i hi => ?_⟩
  rw [c2] at hi
  rw [p4, i2, c1, p2, i1]
  exact p.2 i hi
theorem f7.pQx {τ : Nat → Nat} {h g : cz_H} {F : rz_W} {E : Int → Prop} (a : f7 h g) (p : pQ h F E) (hB : ez_B τ h) (t770 : τ 770 = 75) : pQ g F E := by
  obtain ⟨⟨p1, p2, p3, p4⟩, ⟨n1, n2, n3, n4⟩, ⟨c1, c2⟩, q1, q2⟩ := a.ptr hB t770
  refine ⟨by rw [c2, p4, n4]; exact p.1, fun i hi => ?_, fun x b c w => ?_⟩
  · rw [c2] at hi
    rw [p4, q2, c1, p2, q1]
    exact p.2.1 i hi
  · obtain ⟨i, i1, i2⟩ := p.2.2 x b c w
    exact ⟨i, by rw [c2]; exact i1, by rw [p4, q2, p2, q1]; exact i2⟩
theorem f7.nbx {τ : Nat → Nat} {h g : cz_H} (a : f7 h g) (n : qz_N h (bw h) ≤ qz_N h (dc h)) (hB : ez_B τ h) (t770 : τ 770 = 75) : qz_N g (bw g) ≤ qz_N g (dc g) := by
  obtain ⟨⟨p1, p2, p3, p4⟩, ⟨n1, n2, n3, n4⟩, -⟩ := a.ptr hB t770
  rw [p1, p2, n1, n2]; exact n
theorem f7.mIx {τ : Nat → Nat} {h g : cz_H} {Ls : List vz} {b : Int} (a : f7 h g) (hI : mI τ h Ls b) (hB : ez_B τ g) : mI τ g Ls b := hI.f7 hB (fun q _ h7 => a.1.2.2 q (dz_beq_ne h7)) (fun j j1 j2 => a.2 j (by omega) (by omega))
/-! The model: seal, reset. (Written by wip/p2/py/pv100.py.) -/
section EzSe
variable {d : Nat} {h : cz_H} {τ : Nat → Nat} {Q : cz_F → Prop} {Ls : List vz}
theorem rd_mseal (hI : mI τ h Ls 0) (hw : uz_wf (vF Ls)) (hdb : qz_N h (bw h) ≤ qz_N h (dc h)) (hlc : lc h ≤ 500) (hr1 : h.1 + 1000 ≤ 600192) (hr2 : h.2.1 + 150000 ≤ 7302232) (kS : qz_I h 770 7 ≠ 0 → ∀ g, mI τ g Ls 0 → ez_fr (ez_one 770) h g → (∀ j, j ≠ 0 → qz_I g 770 j = qz_I h 770 j) → qz_I g 770 0 = 1 → Q (.inl (some (ez_v (.inl 0))), g)) (k1 : qz_I h 770 7 = 0 → uz_S (vF Ls) (vE Ls) → ∀ g τ1 v, mI τ1 g Ls 0 → eD τ1 g (vF Ls) → qz_N g (bw g) ≤ qz_N g (dc g) → sW τ h τ1 g → pQ g (vF Ls) (vE Ls) → (∀ x, (vF Ls x).2 ≠ none → az (vF Ls) 501 x) → qz_I g 770 7 = 1 → qz_I g 770 0 = 0 → pcn (vF Ls) (vE Ls) v → Q (.inl (some (ez_v (.inl v))), g)) (k0 : qz_I h 770 7 = 0 → ¬ uz_S (vF Ls) (vE Ls) → ∀ g τ1, mI τ1 g Ls 0 → eD τ1 g (vF Ls) → qz_N g (bw g) ≤ qz_N g (dc g) → sW τ h τ1 g → qz_I g 770 7 = 0 → qz_I g 770 0 = 2 → Q (.inl (some (ez_v (.inl 0))), g)) : ez_W (d + 4) cm_298 0 [(0, .inr (.inr (some (770))))] [] h Q := by
  have hB := hI.1
  have t770 : τ 770 = 75 := hI.2.1 770 (by decide)
  refine ez_go (n := 2) (pc' := 2) (L' := [(0, .inr (.inr (some (770))))]) (st' := [.inl (0), .inr (.inr (some (770)))]) rfl ?_
  refine ez_pf hB t770 rfl rfl tq_75 rfl rfl rfl rfl (ez_vdI rfl rfl (by omega) (by omega)) (fun hB1 w2 => ?_)
  have fP : ez_fr (ez_one 770) h (dz_put h 770 0 (ez_v (.inl (0)))) := (ez_fr.refl (ez_one 770) h).put rfl _ _
  have vP : qz_I (dz_put h 770 0 (ez_v (.inl (0)))) 770 0 = 0 := w2.trans (rz_rd ⟨by omega, by omega⟩)
  have iP : ∀ j, j ≠ 0 → qz_I (dz_put h 770 0 (ez_v (.inl (0)))) 770 j = qz_I h 770 j := fun j hj => ez_put_I (fun w => hj w.2)
  have hP := hB1
  generalize (dz_put h 770 0 (ez_v (.inl (0)))) = h1 at *
  have cP1 := fP.1; have cP2 := fP.2.1
  refine ez_go (n := 1) (pc' := 6) (L' := [(0, .inr (.inr (some (770))))]) (st' := [.inr (.inr (some (770)))]) rfl ?_
  refine ez_gI hP t770 rfl rfl tq_75 rfl rfl (fun (b3 : 0 ≤ qz_I h1 770 7) (b3' : qz_I h1 770 7 ≤ 1) => ?_)
  refine ez_if rfl rfl ⟨by first | omega | exact (sz_i32 _).1, by first | omega | exact (sz_i32 _).2⟩ (fun (c4 : (qz_I h1 770 7) = (0)) => ?_) (fun (c4 : ¬((qz_I h1 770 7) = (0))) => ?_)
  · skip
    refine ez_go (n := 1) (pc' := 19) (L' := [(0, .inr (.inr (some (770))))]) (st' := [.inr (.inr (some (770)))]) rfl ?_
    have hs : qz_I h 770 7 = 0 := by rw [← iP 7 (by decide)]; assumption
    have a1 : f7 h h1 := ⟨fP, fun j j0 _ => iP j j0⟩
    have I1 := a1.mIx hI hP
    have ptr := a1.ptr hI.1 t770
    refine ez_cv hP t770 rfl rfl rfl tq_75 rfl rfl rfl (rd_sound I1 hw (a1.nbx hdb hI.1 t770) (by rw [show lc h1 = lc h from iP 12 (by decide)]; exact hlc) (by omega) (by omega) (fun hS g1 τ1 hR hpp hZ9 hpc => ez_K1 ?_) (fun hS g1 τ1 hR => ez_K1 ?_))
    · skip
      obtain ⟨J1, e1, n1, s1⟩ := hR
      have u770 : τ1 770 = 75 := e1.2.1
      have hB1 := J1.1
      have s7 : qz_I g1 770 7 = 0 := by rw [s1.2.2.1 7 (by decide), iP 7 (by decide)]; exact hs
      have s0 : qz_I g1 770 0 = 0 := by rw [s1.2.2.1 0 (by decide)]; exact vP
      refine ez_if rfl rfl ⟨by decide, by decide⟩ (fun _ => ?_) (fun (c5 : ¬((1 : Int) ≠ (0))) => absurd c5 (by decide))
      refine ez_go (n := 2) (pc' := 33) (L' := [(0, .inr (.inr (some (770))))]) (st' := [.inl (1), .inr (.inr (some (770)))]) rfl ?_
      refine ez_pf hB1 u770 rfl rfl tq_75 rfl rfl rfl rfl (ez_vdI rfl rfl (by omega) (by omega)) (fun hB6 w7 => ?_)
      have vT : qz_I (dz_put g1 770 7 (ez_v (.inl (1)))) 770 7 = 1 := w7.trans (rz_rd ⟨by omega, by omega⟩)
      have c1 : f7 g1 (dz_put g1 770 7 (ez_v (.inl (1)))) := ⟨(ez_fr.refl (ez_one 770) g1).put rfl _ _, fun j _ hj => ez_put_I (fun w => hj w.2)⟩
      have z0 : qz_I (dz_put g1 770 7 (ez_v (.inl (1)))) 770 0 = qz_I g1 770 0 := ez_put_I (fun w => absurd w.2 (by decide))
      have hR2 := hB6
      generalize (dz_put g1 770 7 (ez_v (.inl (1)))) = g2 at *
      refine ez_go (n := 1) (pc' := 37) (L' := [(0, .inr (.inr (some (770))))]) (st' := [.inr (.inr (some (770)))]) rfl ?_
      refine ez_gI hR2 u770 rfl rfl tq_75 rfl rfl (fun (b8 : 0 ≤ qz_I g2 770 28) (b8' : qz_I g2 770 28 ≤ 512) => ?_)
      exact ez_retI rfl rfl (k1 hs hS g2 τ1 _ (c1.mIx J1 hR2) (c1.eDx e1 hR2) (c1.nbx n1 hB1 u770) (sW_of a1 s1 c1 hI.1 t770 hB1) (c1.pQx hpp hB1 u770) hZ9 vT (z0.trans s0) (by rw [show qz_I g2 770 28 = pkn g1 from c1.2 28 (by decide) (by decide)]; exact hpc))
    · skip
      obtain ⟨J1, e1, n1, s1⟩ := hR
      have u770 : τ1 770 = 75 := e1.2.1
      have hB1 := J1.1
      have s7 : qz_I g1 770 7 = 0 := by rw [s1.2.2.1 7 (by decide), iP 7 (by decide)]; exact hs
      have s0 : qz_I g1 770 0 = 0 := by rw [s1.2.2.1 0 (by decide)]; exact vP
      refine ez_if rfl rfl ⟨by decide, by decide⟩ (fun (c9 : (0 : Int) ≠ (0)) => absurd c9 (by decide)) (fun _ => ?_)
      refine ez_go (n := 2) (pc' := 27) (L' := [(0, .inr (.inr (some (770))))]) (st' := [.inl (2), .inr (.inr (some (770)))]) rfl ?_
      refine ez_cv hB1 u770 rfl rfl rfl tq_75 rfl rfl rfl (rd_mfail hB1 u770 (by omega) (by omega) (fun gf hBf ff9 jf vf0 => ez_K1 ?_))
      have c1 : f7 g1 gf := ⟨ff9, fun j j0 _ => jf j j0⟩
      exact ez_retI rfl rfl (k0 hs hS gf τ1 (c1.mIx J1 hBf) (c1.eDx e1 hBf) (c1.nbx n1 hB1 u770) (sW_of a1 s1 c1 hI.1 t770 hB1) (by rw [jf 7 (by decide)]; exact s7) vf0)
  · skip
    refine ez_go (n := 2) (pc' := 14) (L' := [(0, .inr (.inr (some (770))))]) (st' := [.inl (1), .inr (.inr (some (770)))]) rfl ?_
    refine ez_cv hP t770 rfl rfl rfl tq_75 rfl rfl rfl (rd_mfail hP t770 (by omega) (by omega) (fun gf hBf ff9 jf vf0 => ez_K1 ?_))
    exact ez_retI rfl rfl (kS (by rw [← iP 7 (by decide)]; assumption) gf (hI.f7 hBf (fun q _ hq => by rw [ff9.2.2 q (dz_beq_ne hq), fP.2.2 q (dz_beq_ne hq)]) (fun j j1 j2 => by rw [jf j (by omega), iP j (by omega)])) (fP.trans ff9) (fun j hj => by rw [jf j hj, iP j hj]) vf0)

theorem rd_mreset_l {bf : Int} (t770 : τ 770 = 75) (kx : ∀ g, ez_B τ g → ez_fr (ez_one 782) h g → Q (.inl (some (ez_v (.inl bf))), g)) : ∀ (n : Nat) (t : Int) (g : cz_H), n = (8 - t).toNat → 0 ≤ t → t ≤ 8 → ez_B τ g → ez_fr (ez_one 782) h g → ez_W d cm_296 40 [(2, .inl (t)), (1, .inl (bf)), (0, .inr (.inr (some (770))))] [] g Q := by
  intro n
  induction n with
  | zero =>
    intro t g hn t0 t1 hBg hf
    refine ez_go (n := 2) (pc' := 43) (L' := [(2, .inl (t)), (1, .inl (bf)), (0, .inr (.inr (some (770))))]) (st' := [.inl (8), .inl (t)]) rfl ?_
    refine ez_icmp rfl rfl ⟨by first | omega | exact (sz_i32 _).1, by first | omega | exact (sz_i32 _).2⟩ ⟨by first | omega | exact (sz_i32 _).1, by first | omega | exact (sz_i32 _).2⟩ (fun (c1 : (8) ≤ (t)) => ?_) (fun (c1 : ¬((8) ≤ (t))) => ?_)
    · skip
      refine ez_go (n := 1) (pc' := 60) (L' := [(2, .inl (t)), (1, .inl (bf)), (0, .inr (.inr (some (770))))]) (st' := [.inl (bf)]) rfl ?_
      exact ez_retI rfl rfl (kx g hBg hf)
    · skip
      refine ez_go (n := 1) (pc' := 47) (L' := [(2, .inl (t)), (1, .inl (bf)), (0, .inr (.inr (some (770))))]) (st' := [.inr (.inr (some (770)))]) rfl ?_
      refine ez_gC (p := 782) (tg := 79) hBg t770 rfl rfl tq_75 rfl rfl (fun (t782 : _ = 79) => ?_)
      refine ez_go (n := 2) (pc' := 52) (L' := [(2, .inl (t)), (1, .inl (bf)), (0, .inr (.inr (some (770))))]) (st' := [.inl (0), .inl (t), .inr (.inr (some (782)))]) rfl ?_
      have n4 : 8 ≤ qz_N g 782 ∧ qz_N g 782 ≤ 8 := ez_len hBg t782 tq_79 rfl
      refine ez_as hBg t782 rfl tq_79 rfl rfl (by omega) (by omega) (ez_vdI rfl rfl (by omega) (by omega)) (fun hB2 w3 => ?_)
      refine ez_go (n := 2) (pc' := 40) (L' := [(2, .inl (t + 1)), (1, .inl (bf)), (0, .inr (.inr (some (770))))]) (st' := []) rfl ?_
      exfalso; omega
  | succ n ih =>
    intro t g hn t0 t1 hBg hf
    refine ez_go (n := 2) (pc' := 43) (L' := [(2, .inl (t)), (1, .inl (bf)), (0, .inr (.inr (some (770))))]) (st' := [.inl (8), .inl (t)]) rfl ?_
    refine ez_icmp rfl rfl ⟨by first | omega | exact (sz_i32 _).1, by first | omega | exact (sz_i32 _).2⟩ ⟨by first | omega | exact (sz_i32 _).1, by first | omega | exact (sz_i32 _).2⟩ (fun (c1 : (8) ≤ (t)) => ?_) (fun (c1 : ¬((8) ≤ (t))) => ?_)
    · skip
      refine ez_go (n := 1) (pc' := 60) (L' := [(2, .inl (t)), (1, .inl (bf)), (0, .inr (.inr (some (770))))]) (st' := [.inl (bf)]) rfl ?_
      exact ez_retI rfl rfl (kx g hBg hf)
    · skip
      refine ez_go (n := 1) (pc' := 47) (L' := [(2, .inl (t)), (1, .inl (bf)), (0, .inr (.inr (some (770))))]) (st' := [.inr (.inr (some (770)))]) rfl ?_
      refine ez_gC (p := 782) (tg := 79) hBg t770 rfl rfl tq_75 rfl rfl (fun (t782 : _ = 79) => ?_)
      refine ez_go (n := 2) (pc' := 52) (L' := [(2, .inl (t)), (1, .inl (bf)), (0, .inr (.inr (some (770))))]) (st' := [.inl (0), .inl (t), .inr (.inr (some (782)))]) rfl ?_
      have n4 : 8 ≤ qz_N g 782 ∧ qz_N g 782 ≤ 8 := ez_len hBg t782 tq_79 rfl
      refine ez_as hBg t782 rfl tq_79 rfl rfl (by omega) (by omega) (ez_vdI rfl rfl (by omega) (by omega)) (fun hB2 w3 => ?_)
      refine ez_go (n := 2) (pc' := 40) (L' := [(2, .inl (t + 1)), (1, .inl (bf)), (0, .inr (.inr (some (770))))]) (st' := []) rfl ?_
      refine ez_less [(2, .inl (t + 1)), (1, .inl (bf)), (0, .inr (.inr (some (770))))] rfl ⟨rfl, rfl, rfl, trivial⟩ ?_
      exact ih (t + 1) _ (by omega) (by omega) (by omega) hB2 (hf.put rfl _ _)

theorem rd_mreset (hI : mI τ h Ls 0) (kx : ∀ v g, ((qz_I h 770 7 = 0 ∧ v = 0) ∨ (qz_I h 770 7 ≠ 0 ∧ v = 1)) → ez_B τ g → mI τ g [] 0 → (∀ q, τ q ≠ 0 → q ≠ 770 → q ≠ 782 → g.2.2 q = h.2.2 q) → (∀ j, j ≠ 0 → j ≠ 7 → j ≠ 8 → j ≠ 10 → j ≠ 12 → qz_I g 770 j = qz_I h 770 j) → qz_I g 770 7 = 0 → g.1 = h.1 → g.2.1 = h.2.1 → Q (.inl (some (ez_v (.inl v))), g)) : ez_W d cm_296 0 [(0, .inr (.inr (some (770))))] [] h Q := by
  have hB := hI.1
  have t770 : τ 770 = 75 := hI.2.1 770 (by decide)
  refine ez_go (n := 2) (pc' := 2) (L' := [(0, .inr (.inr (some (770))))]) (st' := [.inl (0), .inr (.inr (some (770)))]) rfl ?_
  refine ez_pf hB t770 rfl rfl tq_75 rfl rfl rfl rfl (ez_vdI rfl rfl (by omega) (by omega)) (fun hB1 w2 => ?_)
  have fP : ez_fr (ez_one 770) h (dz_put h 770 0 (ez_v (.inl (0)))) := (ez_fr.refl (ez_one 770) h).put rfl _ _
  have vP : qz_I (dz_put h 770 0 (ez_v (.inl (0)))) 770 0 = 0 := w2.trans (rz_rd ⟨by omega, by omega⟩)
  have iP : ∀ j, j ≠ 0 → qz_I (dz_put h 770 0 (ez_v (.inl (0)))) 770 j = qz_I h 770 j := fun j hj => ez_put_I (fun w => hj w.2)
  have hP := hB1
  generalize (dz_put h 770 0 (ez_v (.inl (0)))) = h1 at *
  have cP1 := fP.1; have cP2 := fP.2.1
  refine ez_go (n := 1) (pc' := 6) (L' := [(0, .inr (.inr (some (770))))]) (st' := [.inr (.inr (some (770)))]) rfl ?_
  refine ez_gI hP t770 rfl rfl tq_75 rfl rfl (fun (b3 : 0 ≤ qz_I h1 770 7) (b3' : qz_I h1 770 7 ≤ 1) => ?_)
  refine ez_if rfl rfl ⟨by first | omega | exact (sz_i32 _).1, by first | omega | exact (sz_i32 _).2⟩ (fun (c4 : (qz_I h1 770 7) = (0)) => ?_) (fun (c4 : ¬((qz_I h1 770 7) = (0))) => ?_)
  · skip
    refine ez_go (n := 4) (pc' := 20) (L' := [(1, .inl (0)), (0, .inr (.inr (some (770))))]) (st' := [.inl (0), .inr (.inr (some (770)))]) rfl ?_
    refine ez_pf hP t770 rfl rfl tq_75 rfl rfl rfl rfl (ez_vdI rfl rfl (by omega) (by omega)) (fun hB5 w6 => ?_)
    have fA : ez_fr (ez_one 770) h1 (dz_put h1 770 7 (ez_v (.inl (0)))) := (ez_fr.refl (ez_one 770) h1).put rfl _ _
    have vA : qz_I (dz_put h1 770 7 (ez_v (.inl (0)))) 770 7 = 0 := w6.trans (rz_rd ⟨by omega, by omega⟩)
    have iA : ∀ j, j ≠ 7 → qz_I (dz_put h1 770 7 (ez_v (.inl (0)))) 770 j = qz_I h1 770 j := fun j hj => ez_put_I (fun w => hj w.2)
    have hA := hB5
    generalize (dz_put h1 770 7 (ez_v (.inl (0)))) = r2 at *
    have cA1 := fA.1; have cA2 := fA.2.1
    refine ez_go (n := 2) (pc' := 25) (L' := [(1, .inl (0)), (0, .inr (.inr (some (770))))]) (st' := [.inl (0), .inr (.inr (some (770)))]) rfl ?_
    refine ez_pf hA t770 rfl rfl tq_75 rfl rfl rfl rfl (ez_vdI rfl rfl (by omega) (by omega)) (fun hB7 w8 => ?_)
    have fB : ez_fr (ez_one 770) r2 (dz_put r2 770 12 (ez_v (.inl (0)))) := (ez_fr.refl (ez_one 770) r2).put rfl _ _
    have vB : qz_I (dz_put r2 770 12 (ez_v (.inl (0)))) 770 12 = 0 := w8.trans (rz_rd ⟨by omega, by omega⟩)
    have iB : ∀ j, j ≠ 12 → qz_I (dz_put r2 770 12 (ez_v (.inl (0)))) 770 j = qz_I r2 770 j := fun j hj => ez_put_I (fun w => hj w.2)
    have hB := hB7
    generalize (dz_put r2 770 12 (ez_v (.inl (0)))) = r3 at *
    have cB1 := fB.1; have cB2 := fB.2.1
    refine ez_go (n := 2) (pc' := 30) (L' := [(1, .inl (0)), (0, .inr (.inr (some (770))))]) (st' := [.inl (0), .inr (.inr (some (770)))]) rfl ?_
    refine ez_pf hB t770 rfl rfl tq_75 rfl rfl rfl rfl (ez_vdI rfl rfl (by omega) (by omega)) (fun hB9 w10 => ?_)
    have fC : ez_fr (ez_one 770) r3 (dz_put r3 770 10 (ez_v (.inl (0)))) := (ez_fr.refl (ez_one 770) r3).put rfl _ _
    have vC : qz_I (dz_put r3 770 10 (ez_v (.inl (0)))) 770 10 = 0 := w10.trans (rz_rd ⟨by omega, by omega⟩)
    have iC : ∀ j, j ≠ 10 → qz_I (dz_put r3 770 10 (ez_v (.inl (0)))) 770 j = qz_I r3 770 j := fun j hj => ez_put_I (fun w => hj w.2)
    have hC := hB9
    generalize (dz_put r3 770 10 (ez_v (.inl (0)))) = r4 at *
    have cC1 := fC.1; have cC2 := fC.2.1
    refine ez_go (n := 2) (pc' := 35) (L' := [(1, .inl (0)), (0, .inr (.inr (some (770))))]) (st' := [.inl (0), .inr (.inr (some (770)))]) rfl ?_
    refine ez_pf hC t770 rfl rfl tq_75 rfl rfl rfl rfl (ez_vdI rfl rfl (by omega) (by omega)) (fun hB11 w12 => ?_)
    have fD : ez_fr (ez_one 770) r4 (dz_put r4 770 8 (ez_v (.inl (0)))) := (ez_fr.refl (ez_one 770) r4).put rfl _ _
    have vD : qz_I (dz_put r4 770 8 (ez_v (.inl (0)))) 770 8 = 0 := w12.trans (rz_rd ⟨by omega, by omega⟩)
    have iD : ∀ j, j ≠ 8 → qz_I (dz_put r4 770 8 (ez_v (.inl (0)))) 770 j = qz_I r4 770 j := fun j hj => ez_put_I (fun w => hj w.2)
    have hD := hB11
    generalize (dz_put r4 770 8 (ez_v (.inl (0)))) = r5 at *
    have cD1 := fD.1; have cD2 := fD.2.1
    refine ez_go (n := 2) (pc' := 40) (L' := [(2, .inl (0)), (1, .inl (0)), (0, .inr (.inr (some (770))))]) (st' := []) rfl ?_
    refine ez_less [(2, .inl (0)), (1, .inl (0)), (0, .inr (.inr (some (770))))] rfl ⟨rfl, rfl, rfl, trivial⟩ ?_
    have t782 : τ 782 = 79 := hI.2.1 782 (by decide)
    have fZ : ez_fr (ez_one 770) h r5 := ((((fP.trans fA).trans fB).trans fC).trans fD)
    have iZ : ∀ j, j ≠ 0 → j ≠ 7 → j ≠ 8 → j ≠ 10 → j ≠ 12 → qz_I r5 770 j = qz_I h 770 j := fun j j0 j7 j8 j10 j12 => by rw [iD j j8, iC j j10, iB j j12, iA j j7, iP j j0]
    have z7 : qz_I r5 770 7 = 0 := by rw [iD 7 (by decide), iC 7 (by decide), iB 7 (by decide)]; exact vA
    have z12 : qz_I r5 770 12 = 0 := by rw [iD 12 (by decide), iC 12 (by decide)]; exact vB
    have z10 : qz_I r5 770 10 = 0 := by rw [iD 10 (by decide)]; exact vC
    refine rd_mreset_l t770 (fun g hBg fg => ?_) _ 0 r5 rfl (by omega) (by omega) hD (ez_fr.refl _ _)
    have i7 : ∀ j, qz_I g 770 j = qz_I r5 770 j := fun j => fg.I rfl j
    have cell : ∀ q, q ≠ 770 → q ≠ 782 → g.2.2 q = h.2.2 q := fun q q1 q2 => by rw [fg.2.2 q (dz_beq_ne q2), fZ.2.2 q (dz_beq_ne q1)]
    have el : lc g = 0 := (i7 12).trans z12
    have en : pn g = 0 := (i7 10).trans z10
    have e9 : po g = po h := by unfold po qz_P; rw [i7 9, iZ 9 (by decide) (by decide) (by decide) (by decide) (by decide)]
    have e11 : ls g = ls h := by unfold ls qz_P; rw [i7 11, iZ 11 (by decide) (by decide) (by decide) (by decide) (by decide)]
    have tt := ez_tls hI.1 t770
    have ct : ∀ {q t : Nat}, τ q = t → t ≠ 75 → t ≠ 79 → g.2.2 q = h.2.2 q := fun {q t} hq h1 h2 => cell q (fun w => by rw [w, t770] at hq; exact h1 hq.symm) (fun w => by rw [w, t782] at hq; exact h2 hq.symm)
    have eN : qz_N g (po h) = qz_N h (po h) := by unfold qz_N; rw [ct tt.2 (by decide) (by decide)]
    have eM : qz_N g (ls h) = qz_N h (ls h) := by unfold qz_N; rw [ct tt.1 (by decide) (by decide)]
    have n1 := qz_N_nn h (po h)
    have n2 := qz_N_nn h (ls h)
    obtain ⟨i1, i2, i3, i4, m, ⟨y1, y2⟩, -⟩ := id hI
    have i7h := iP 7 (by decide)
    refine kx _ g (by omega) hBg ⟨hBg, i2, ⟨⟨by rw [el, e11, eM]; exact n2, by rw [en, e9, eN]; exact n1⟩, ?_, by rw [en, el]; decide⟩, ⟨fun i hi => by rw [el] at hi; omega, fun i j hi => by rw [el] at hi; omega⟩, ⟨fun r hr => ?_, fun r hr => ?_⟩, ⟨fun s w hs => ?_, ?_⟩, ?_, fun k x hx => by simp at hx⟩ (fun q _ q1 q2 => cell q q1 q2) (fun j j0 j7 j8 j10 j12 => (i7 j).trans (iZ j j0 j7 j8 j10 j12)) ((i7 7).trans z7) (fg.1.trans fZ.1) (fg.2.1.trans fZ.2.1)
    · rw [el, i7]; exact vD
    · obtain ⟨m1, m2⟩ := m.1 r hr
      refine ⟨m1, fun j => ?_⟩
      have := m2 j
      rw [e9, eN]; unfold qz_I at this ⊢; rw [ct hr (by decide) (by decide), ct m1 (by decide) (by decide)]; exact this
    · obtain ⟨m1, m2, m3⟩ := m.2 r hr
      refine ⟨m1, m2, ?_⟩
      rw [e9, eN]; unfold qz_I at m3 ⊢; rw [ct hr (by decide) (by decide), ct m1 (by decide) (by decide), ct m2 (by decide) (by decide)]; exact m3
    · obtain ⟨u1, u2, u3⟩ := y1 s w hs
      obtain ⟨w1, w2⟩ := nz_hz i1 i2 s w hs
      have e1 := ct w1 (by decide) (by decide)
      have e2 := ct w2 (by decide) (by decide)
      have e3 : qz_P g s 0 = qz_P h s 0 := by unfold qz_P qz_I; rw [e1]
      refine ⟨?_, u2, by rw [e3]; exact u3⟩
      unfold nz_S at *
      rw [e3]
      unfold qz_N qz_I at *
      rw [e2]
      exact u1
    · have nn26 : ∀ p, 785 ≤ p → p ≤ 788 → g.2.2 p = h.2.2 p := fun p p1 p2 => by
        have tn : τ p = 26 := by
          have : p = 785 ∨ p = 786 ∨ p = 787 ∨ p = 788 := by omega
          rcases this with e | e | e | e <;> subst e
          · exact i2 785 (by decide)
          · exact i2 786 (by decide)
          · exact i2 787 (by decide)
          · exact i2 788 (by decide)
        exact ct tn (by decide) (by decide)
      refine ⟨fun p p1 p2 k hk => ?_, ?_, nmx_c y2.2.2 nn26⟩
      · have tn : τ p = 26 := by
          have : p = 785 ∨ p = 786 ∨ p = 787 ∨ p = 788 := by omega
          rcases this with e | e | e | e <;> subst e
          · exact i2 785 (by decide)
          · exact i2 786 (by decide)
          · exact i2 787 (by decide)
          · exact i2 788 (by decide)
        have e := ct tn (by decide) (by decide)
        have e1 : qz_P g p k = qz_P h p k := by unfold qz_P qz_I; rw [e]
        have e2 : qz_N g p = qz_N h p := by unfold qz_N; rw [e]
        rw [e1]; rw [e2] at hk; exact y2.1 p p1 p2 k hk
      · have e := ct (show τ 786 = 26 from i2 786 (by decide)) (by decide) (by decide)
        have e1 : qz_P g 786 0 = qz_P h 786 0 := by unfold qz_P qz_I; rw [e]
        rw [e1]; exact y2.2.1
    · rw [el]; rfl
  · skip
    refine ez_go (n := 5) (pc' := 20) (L' := [(1, .inl (1)), (0, .inr (.inr (some (770))))]) (st' := [.inl (0), .inr (.inr (some (770)))]) rfl ?_
    refine ez_pf hP t770 rfl rfl tq_75 rfl rfl rfl rfl (ez_vdI rfl rfl (by omega) (by omega)) (fun hB13 w14 => ?_)
    have fA : ez_fr (ez_one 770) h1 (dz_put h1 770 7 (ez_v (.inl (0)))) := (ez_fr.refl (ez_one 770) h1).put rfl _ _
    have vA : qz_I (dz_put h1 770 7 (ez_v (.inl (0)))) 770 7 = 0 := w14.trans (rz_rd ⟨by omega, by omega⟩)
    have iA : ∀ j, j ≠ 7 → qz_I (dz_put h1 770 7 (ez_v (.inl (0)))) 770 j = qz_I h1 770 j := fun j hj => ez_put_I (fun w => hj w.2)
    have hA := hB13
    generalize (dz_put h1 770 7 (ez_v (.inl (0)))) = r2 at *
    have cA1 := fA.1; have cA2 := fA.2.1
    refine ez_go (n := 2) (pc' := 25) (L' := [(1, .inl (1)), (0, .inr (.inr (some (770))))]) (st' := [.inl (0), .inr (.inr (some (770)))]) rfl ?_
    refine ez_pf hA t770 rfl rfl tq_75 rfl rfl rfl rfl (ez_vdI rfl rfl (by omega) (by omega)) (fun hB15 w16 => ?_)
    have fB : ez_fr (ez_one 770) r2 (dz_put r2 770 12 (ez_v (.inl (0)))) := (ez_fr.refl (ez_one 770) r2).put rfl _ _
    have vB : qz_I (dz_put r2 770 12 (ez_v (.inl (0)))) 770 12 = 0 := w16.trans (rz_rd ⟨by omega, by omega⟩)
    have iB : ∀ j, j ≠ 12 → qz_I (dz_put r2 770 12 (ez_v (.inl (0)))) 770 j = qz_I r2 770 j := fun j hj => ez_put_I (fun w => hj w.2)
    have hB := hB15
    generalize (dz_put r2 770 12 (ez_v (.inl (0)))) = r3 at *
    have cB1 := fB.1; have cB2 := fB.2.1
    refine ez_go (n := 2) (pc' := 30) (L' := [(1, .inl (1)), (0, .inr (.inr (some (770))))]) (st' := [.inl (0), .inr (.inr (some (770)))]) rfl ?_
    refine ez_pf hB t770 rfl rfl tq_75 rfl rfl rfl rfl (ez_vdI rfl rfl (by omega) (by omega)) (fun hB17 w18 => ?_)
    have fC : ez_fr (ez_one 770) r3 (dz_put r3 770 10 (ez_v (.inl (0)))) := (ez_fr.refl (ez_one 770) r3).put rfl _ _
    have vC : qz_I (dz_put r3 770 10 (ez_v (.inl (0)))) 770 10 = 0 := w18.trans (rz_rd ⟨by omega, by omega⟩)
    have iC : ∀ j, j ≠ 10 → qz_I (dz_put r3 770 10 (ez_v (.inl (0)))) 770 j = qz_I r3 770 j := fun j hj => ez_put_I (fun w => hj w.2)
    have hC := hB17
    generalize (dz_put r3 770 10 (ez_v (.inl (0)))) = r4 at *
    have cC1 := fC.1; have cC2 := fC.2.1
    refine ez_go (n := 2) (pc' := 35) (L' := [(1, .inl (1)), (0, .inr (.inr (some (770))))]) (st' := [.inl (0), .inr (.inr (some (770)))]) rfl ?_
    refine ez_pf hC t770 rfl rfl tq_75 rfl rfl rfl rfl (ez_vdI rfl rfl (by omega) (by omega)) (fun hB19 w20 => ?_)
    have fD : ez_fr (ez_one 770) r4 (dz_put r4 770 8 (ez_v (.inl (0)))) := (ez_fr.refl (ez_one 770) r4).put rfl _ _
    have vD : qz_I (dz_put r4 770 8 (ez_v (.inl (0)))) 770 8 = 0 := w20.trans (rz_rd ⟨by omega, by omega⟩)
    have iD : ∀ j, j ≠ 8 → qz_I (dz_put r4 770 8 (ez_v (.inl (0)))) 770 j = qz_I r4 770 j := fun j hj => ez_put_I (fun w => hj w.2)
    have hD := hB19
    generalize (dz_put r4 770 8 (ez_v (.inl (0)))) = r5 at *
    have cD1 := fD.1; have cD2 := fD.2.1
    refine ez_go (n := 2) (pc' := 40) (L' := [(2, .inl (0)), (1, .inl (1)), (0, .inr (.inr (some (770))))]) (st' := []) rfl ?_
    refine ez_less [(2, .inl (0)), (1, .inl (1)), (0, .inr (.inr (some (770))))] rfl ⟨rfl, rfl, rfl, trivial⟩ ?_
    have t782 : τ 782 = 79 := hI.2.1 782 (by decide)
    have fZ : ez_fr (ez_one 770) h r5 := ((((fP.trans fA).trans fB).trans fC).trans fD)
    have iZ : ∀ j, j ≠ 0 → j ≠ 7 → j ≠ 8 → j ≠ 10 → j ≠ 12 → qz_I r5 770 j = qz_I h 770 j := fun j j0 j7 j8 j10 j12 => by rw [iD j j8, iC j j10, iB j j12, iA j j7, iP j j0]
    have z7 : qz_I r5 770 7 = 0 := by rw [iD 7 (by decide), iC 7 (by decide), iB 7 (by decide)]; exact vA
    have z12 : qz_I r5 770 12 = 0 := by rw [iD 12 (by decide), iC 12 (by decide)]; exact vB
    have z10 : qz_I r5 770 10 = 0 := by rw [iD 10 (by decide)]; exact vC
    refine rd_mreset_l t770 (fun g hBg fg => ?_) _ 0 r5 rfl (by omega) (by omega) hD (ez_fr.refl _ _)
    have i7 : ∀ j, qz_I g 770 j = qz_I r5 770 j := fun j => fg.I rfl j
    have cell : ∀ q, q ≠ 770 → q ≠ 782 → g.2.2 q = h.2.2 q := fun q q1 q2 => by rw [fg.2.2 q (dz_beq_ne q2), fZ.2.2 q (dz_beq_ne q1)]
    have el : lc g = 0 := (i7 12).trans z12
    have en : pn g = 0 := (i7 10).trans z10
    have e9 : po g = po h := by unfold po qz_P; rw [i7 9, iZ 9 (by decide) (by decide) (by decide) (by decide) (by decide)]
    have e11 : ls g = ls h := by unfold ls qz_P; rw [i7 11, iZ 11 (by decide) (by decide) (by decide) (by decide) (by decide)]
    have tt := ez_tls hI.1 t770
    have ct : ∀ {q t : Nat}, τ q = t → t ≠ 75 → t ≠ 79 → g.2.2 q = h.2.2 q := fun {q t} hq h1 h2 => cell q (fun w => by rw [w, t770] at hq; exact h1 hq.symm) (fun w => by rw [w, t782] at hq; exact h2 hq.symm)
    have eN : qz_N g (po h) = qz_N h (po h) := by unfold qz_N; rw [ct tt.2 (by decide) (by decide)]
    have eM : qz_N g (ls h) = qz_N h (ls h) := by unfold qz_N; rw [ct tt.1 (by decide) (by decide)]
    have n1 := qz_N_nn h (po h)
    have n2 := qz_N_nn h (ls h)
    obtain ⟨i1, i2, i3, i4, m, ⟨y1, y2⟩, -⟩ := id hI
    have i7h := iP 7 (by decide)
    refine kx _ g (by omega) hBg ⟨hBg, i2, ⟨⟨by rw [el, e11, eM]; exact n2, by rw [en, e9, eN]; exact n1⟩, ?_, by rw [en, el]; decide⟩, ⟨fun i hi => by rw [el] at hi; omega, fun i j hi => by rw [el] at hi; omega⟩, ⟨fun r hr => ?_, fun r hr => ?_⟩, ⟨fun s w hs => ?_, ?_⟩, ?_, fun k x hx => by simp at hx⟩ (fun q _ q1 q2 => cell q q1 q2) (fun j j0 j7 j8 j10 j12 => (i7 j).trans (iZ j j0 j7 j8 j10 j12)) ((i7 7).trans z7) (fg.1.trans fZ.1) (fg.2.1.trans fZ.2.1)
    · rw [el, i7]; exact vD
    · obtain ⟨m1, m2⟩ := m.1 r hr
      refine ⟨m1, fun j => ?_⟩
      have := m2 j
      rw [e9, eN]; unfold qz_I at this ⊢; rw [ct hr (by decide) (by decide), ct m1 (by decide) (by decide)]; exact this
    · obtain ⟨m1, m2, m3⟩ := m.2 r hr
      refine ⟨m1, m2, ?_⟩
      rw [e9, eN]; unfold qz_I at m3 ⊢; rw [ct hr (by decide) (by decide), ct m1 (by decide) (by decide), ct m2 (by decide) (by decide)]; exact m3
    · obtain ⟨u1, u2, u3⟩ := y1 s w hs
      obtain ⟨w1, w2⟩ := nz_hz i1 i2 s w hs
      have e1 := ct w1 (by decide) (by decide)
      have e2 := ct w2 (by decide) (by decide)
      have e3 : qz_P g s 0 = qz_P h s 0 := by unfold qz_P qz_I; rw [e1]
      refine ⟨?_, u2, by rw [e3]; exact u3⟩
      unfold nz_S at *
      rw [e3]
      unfold qz_N qz_I at *
      rw [e2]
      exact u1
    · have nn26 : ∀ p, 785 ≤ p → p ≤ 788 → g.2.2 p = h.2.2 p := fun p p1 p2 => by
        have tn : τ p = 26 := by
          have : p = 785 ∨ p = 786 ∨ p = 787 ∨ p = 788 := by omega
          rcases this with e | e | e | e <;> subst e
          · exact i2 785 (by decide)
          · exact i2 786 (by decide)
          · exact i2 787 (by decide)
          · exact i2 788 (by decide)
        exact ct tn (by decide) (by decide)
      refine ⟨fun p p1 p2 k hk => ?_, ?_, nmx_c y2.2.2 nn26⟩
      · have tn : τ p = 26 := by
          have : p = 785 ∨ p = 786 ∨ p = 787 ∨ p = 788 := by omega
          rcases this with e | e | e | e <;> subst e
          · exact i2 785 (by decide)
          · exact i2 786 (by decide)
          · exact i2 787 (by decide)
          · exact i2 788 (by decide)
        have e := ct tn (by decide) (by decide)
        have e1 : qz_P g p k = qz_P h p k := by unfold qz_P qz_I; rw [e]
        have e2 : qz_N g p = qz_N h p := by unfold qz_N; rw [e]
        rw [e1]; rw [e2] at hk; exact y2.1 p p1 p2 k hk
      · have e := ct (show τ 786 = 26 from i2 786 (by decide)) (by decide) (by decide)
        have e1 : qz_P g 786 0 = qz_P h 786 0 := by unfold qz_P qz_I; rw [e]
        rw [e1]; exact y2.2.1
    · rw [el]; rfl

end EzSe
theorem byt_s (x : BitVec 32) (s : Nat) (hs : s < 25) : BitVec.signExtend 8 (x >>> s) = BitVec.signExtend 8 (x.sshiftRight s) := by
  ext i hi
  rw [BitVec.getElem_signExtend, BitVec.getElem_signExtend, dif_pos (by omega), dif_pos (by omega), BitVec.getElem_ushiftRight, BitVec.getElem_sshiftRight, dif_pos (by omega)]
  rw [BitVec.getLsbD_eq_getElem (by omega)]
theorem byt_24 (v : Int32) : ((v.toUInt32 >>> ((Int32.ofInt 24).toUInt32 &&& Int32.toUInt32 31)).toInt32).toInt8 = (v >>> (Int32.ofInt 24 &&& 31)).toInt8 := by
  apply Int8.toBitVec_inj.mp
  simp only [Int32.toBitVec_toInt8, UInt32.toBitVec_toInt32, UInt32.toBitVec_shiftRight, Int32.toBitVec_shiftRight, Int32.toBitVec_toUInt32]
  exact byt_s v.toBitVec 24 (by decide)
theorem byt_16 (v : Int32) : ((v.toUInt32 >>> ((Int32.ofInt 16).toUInt32 &&& Int32.toUInt32 31)).toInt32).toInt8 = (v >>> (Int32.ofInt 16 &&& 31)).toInt8 := by
  apply Int8.toBitVec_inj.mp
  simp only [Int32.toBitVec_toInt8, UInt32.toBitVec_toInt32, UInt32.toBitVec_shiftRight, Int32.toBitVec_shiftRight, Int32.toBitVec_toUInt32]
  exact byt_s v.toBitVec 16 (by decide)
theorem byt_8 (v : Int32) : ((v.toUInt32 >>> ((Int32.ofInt 8).toUInt32 &&& Int32.toUInt32 31)).toInt32).toInt8 = (v >>> (Int32.ofInt 8 &&& 31)).toInt8 := by
  apply Int8.toBitVec_inj.mp
  simp only [Int32.toBitVec_toInt8, UInt32.toBitVec_toInt32, UInt32.toBitVec_shiftRight, Int32.toBitVec_shiftRight, Int32.toBitVec_toUInt32]
  exact byt_s v.toBitVec 8 (by decide)
theorem byt_0 (v : Int32) : ((v.toUInt32 >>> ((Int32.ofInt 0).toUInt32 &&& Int32.toUInt32 31)).toInt32).toInt8 = (v >>> (Int32.ofInt 0 &&& 31)).toInt8 := by
  apply Int8.toBitVec_inj.mp
  simp only [Int32.toBitVec_toInt8, UInt32.toBitVec_toInt32, UInt32.toBitVec_shiftRight, Int32.toBitVec_shiftRight, Int32.toBitVec_toUInt32]
  exact byt_s v.toBitVec 0 (by decide)
/-- the byte of v, s bits from its end -/
def bt (v s : Int) : Int := (Int32.ofInt ((Int32.ofInt v >>> (Int32.ofInt s &&& 31)).toInt)).toInt8.toInt32.toInt
theorem bt_u {v s : Int} (hs : s = 24 ∨ s = 16 ∨ s = 8 ∨ s = 0) : (Int32.ofInt ((((Int32.ofInt v).toUInt32 >>> ((Int32.ofInt s).toUInt32 &&& Int32.toUInt32 31)).toInt32).toInt)).toInt8.toInt32.toInt = bt v s := by
  unfold bt
  rw [Int32.ofInt_toInt, Int32.ofInt_toInt]
  rcases hs with e | e | e | e <;> subst e
  · rw [byt_24]
  · rw [byt_16]
  · rw [byt_8]
  · rw [byt_0]
theorem bt_bd (v s : Int) : -128 ≤ bt v s ∧ bt v s ≤ 127 := ⟨(i8_bd _).1, (i8_bd _).2⟩
/-- the word and the byte that come at place k of a feeding -/
def fsl (a b c e f k : Int) : Int := if k < 4 then a else if k < 8 then b else if k < 12 then c else if k < 16 then e else f
def fby (a b c e f k : Int) : Int := bt (fsl a b c e f k) (24 - 8 * (k % 4))
/-! feed, end on both sides. (Written by wip/p2/py/pv101.py.) -/
section EzFe
variable {d : Nat} {h : cz_H} {τ : Nat → Nat} {Q : cz_F → Prop}
theorem rd_feedInt_l {v n : Int} (t192 : τ 192 = 44) (vr : ez_rg v) (n0 : 0 ≤ n) (n1 : n + 4 ≤ 4096) (kx : ∀ g, ez_B τ g → ez_fr (nz_P2 192 193) h g → qz_I g 192 1 = n + 4 → (∀ j, j ≠ 1 → qz_I g 192 j = qz_I h 192 j) → (∀ j : Nat, qz_I g 193 j = if n ≤ (j : Int) ∧ (j : Int) < n + 4 then bt v (24 - 8 * ((j : Int) - n)) else qz_I h 193 j) → Q (.inl none, g)) : ∀ (m : Nat) (k : Int) (g : cz_H), m = (4 - k).toNat → 0 ≤ k → k ≤ 4 → ez_B τ g → ez_fr (nz_P2 192 193) h g → qz_I g 192 1 = n + k → (∀ j, j ≠ 1 → qz_I g 192 j = qz_I h 192 j) → (∀ j : Nat, qz_I g 193 j = if n ≤ (j : Int) ∧ (j : Int) < n + k then bt v (24 - 8 * ((j : Int) - n)) else qz_I h 193 j) → ez_W d cm_12 3 [(2, .inl (24 - 8 * k)), (0, .inr (.inr (some (192)))), (1, .inl (v))] [] g Q := by
  intro m
  induction m with
  | zero =>
    intro k g hm k0 k1 hBg hf hl hj9 ht
    refine ez_go (n := 1) (pc' := 4) (L' := [(2, .inl (24 - 8 * k)), (0, .inr (.inr (some (192)))), (1, .inl (v))]) (st' := [.inl (24 - 8 * k)]) rfl ?_
    refine ez_if rfl rfl ⟨by first | omega | exact (sz_i32 _).1, by first | omega | exact (sz_i32 _).2⟩ (fun (c1 : (24 - 8 * k) < (0)) => ?_) (fun (c1 : ¬((24 - 8 * k) < (0))) => ?_)
    · skip
      have ek : k = 4 := by omega
      subst ek
      exact ez_ret0 rfl rfl (kx g hBg hf hl hj9 ht)
    · skip
      refine ez_go (n := 1) (pc' := 8) (L' := [(2, .inl (24 - 8 * k)), (0, .inr (.inr (some (192)))), (1, .inl (v))]) (st' := [.inr (.inr (some (192)))]) rfl ?_
      refine ez_gC (p := 193) (tg := 45) hBg t192 rfl rfl tq_44 rfl rfl (fun (t193 : _ = 45) => ?_)
      refine ez_go (n := 1) (pc' := 12) (L' := [(2, .inl (24 - 8 * k)), (0, .inr (.inr (some (192)))), (1, .inl (v))]) (st' := [.inr (.inr (some (192))), .inr (.inr (some (193)))]) rfl ?_
      refine ez_gI hBg t192 rfl rfl tq_44 rfl rfl (fun (b2 : 0 ≤ qz_I g 192 1) (b2' : qz_I g 192 1 ≤ 4096) => ?_)
      refine ez_go (n := 4) (pc' := 19) (L' := [(2, .inl (24 - 8 * k)), (0, .inr (.inr (some (192)))), (1, .inl (v))]) (st' := [.inl ((Int32.ofInt ((((Int32.ofInt (v)).toUInt32 >>> ((Int32.ofInt (24 - 8 * k)).toUInt32 &&& Int32.toUInt32 31)).toInt32).toInt)).toInt8.toInt32.toInt), .inl (qz_I g 192 1), .inr (.inr (some (193)))]) rfl ?_
      rw [show (Int32.ofInt ((((Int32.ofInt (v)).toUInt32 >>> ((Int32.ofInt (24 - 8 * k)).toUInt32 &&& Int32.toUInt32 31)).toInt32).toInt)).toInt8.toInt32.toInt = bt v (24 - 8 * k) from bt_u (by omega)]
      have btb := bt_bd v (24 - 8 * k)
      have n5 : 4096 ≤ qz_N g 193 ∧ qz_N g 193 ≤ 4096 := ez_len hBg t193 tq_45 rfl
      refine ez_ab hBg t193 rfl tq_45 rfl rfl (by omega) (by omega) (by first | omega | exact (i8_bd _).1) (by first | omega | exact (i8_bd _).2) (fun hB3 w4 => ?_)
      have fA : ez_fr (nz_P2 192 193) h (dz_put g 193 (qz_I g 192 1).toNat (ez_v (.inl (bt v (24 - 8 * k))))) := hf.put rfl _ _
      have vA : qz_I (dz_put g 193 (qz_I g 192 1).toNat (ez_v (.inl (bt v (24 - 8 * k))))) 193 (qz_I g 192 1).toNat = bt v (24 - 8 * k) := w4.trans (rz_rd ⟨by omega, by omega⟩)
      have iA : ∀ j, j ≠ (qz_I g 192 1).toNat → qz_I (dz_put g 193 (qz_I g 192 1).toNat (ez_v (.inl (bt v (24 - 8 * k))))) 193 j = qz_I g 193 j := fun j hj => ez_put_I (fun w => hj w.2)
      have jA : ∀ j, qz_I (dz_put g 193 (qz_I g 192 1).toNat (ez_v (.inl (bt v (24 - 8 * k))))) 192 j = qz_I g 192 j := fun j => ez_put_I (fun w => absurd w.1 (by decide))
      have hA := hB3
      generalize (dz_put g 193 (qz_I g 192 1).toNat (ez_v (.inl (bt v (24 - 8 * k))))) = gA at *
      have jA1 := jA 1
      refine ez_go (n := 2) (pc' := 22) (L' := [(2, .inl (24 - 8 * k)), (0, .inr (.inr (some (192)))), (1, .inl (v))]) (st' := [.inr (.inr (some (192))), .inr (.inr (some (192)))]) rfl ?_
      refine ez_gI hA t192 rfl rfl tq_44 rfl rfl (fun (b6 : 0 ≤ qz_I gA 192 1) (b6' : qz_I gA 192 1 ≤ 4096) => ?_)
      refine ez_go (n := 2) (pc' := 27) (L' := [(2, .inl (24 - 8 * k)), (0, .inr (.inr (some (192)))), (1, .inl (v))]) (st' := [.inl ((qz_I gA 192 1) + (1)), .inr (.inr (some (192)))]) rfl ?_
      refine ez_pf hA t192 rfl rfl tq_44 rfl rfl rfl rfl (ez_vdI rfl rfl (by omega) (by omega)) (fun hB7 w8 => ?_)
      refine ez_go (n := 2) (pc' := 3) (L' := [(2, .inl (24 - 8 * k + (-8))), (0, .inr (.inr (some (192)))), (1, .inl (v))]) (st' := []) rfl ?_
      exfalso; omega
  | succ m ih =>
    intro k g hm k0 k1 hBg hf hl hj9 ht
    refine ez_go (n := 1) (pc' := 4) (L' := [(2, .inl (24 - 8 * k)), (0, .inr (.inr (some (192)))), (1, .inl (v))]) (st' := [.inl (24 - 8 * k)]) rfl ?_
    refine ez_if rfl rfl ⟨by first | omega | exact (sz_i32 _).1, by first | omega | exact (sz_i32 _).2⟩ (fun (c1 : (24 - 8 * k) < (0)) => ?_) (fun (c1 : ¬((24 - 8 * k) < (0))) => ?_)
    · skip
      have ek : k = 4 := by omega
      subst ek
      exact ez_ret0 rfl rfl (kx g hBg hf hl hj9 ht)
    · skip
      refine ez_go (n := 1) (pc' := 8) (L' := [(2, .inl (24 - 8 * k)), (0, .inr (.inr (some (192)))), (1, .inl (v))]) (st' := [.inr (.inr (some (192)))]) rfl ?_
      refine ez_gC (p := 193) (tg := 45) hBg t192 rfl rfl tq_44 rfl rfl (fun (t193 : _ = 45) => ?_)
      refine ez_go (n := 1) (pc' := 12) (L' := [(2, .inl (24 - 8 * k)), (0, .inr (.inr (some (192)))), (1, .inl (v))]) (st' := [.inr (.inr (some (192))), .inr (.inr (some (193)))]) rfl ?_
      refine ez_gI hBg t192 rfl rfl tq_44 rfl rfl (fun (b2 : 0 ≤ qz_I g 192 1) (b2' : qz_I g 192 1 ≤ 4096) => ?_)
      refine ez_go (n := 4) (pc' := 19) (L' := [(2, .inl (24 - 8 * k)), (0, .inr (.inr (some (192)))), (1, .inl (v))]) (st' := [.inl ((Int32.ofInt ((((Int32.ofInt (v)).toUInt32 >>> ((Int32.ofInt (24 - 8 * k)).toUInt32 &&& Int32.toUInt32 31)).toInt32).toInt)).toInt8.toInt32.toInt), .inl (qz_I g 192 1), .inr (.inr (some (193)))]) rfl ?_
      rw [show (Int32.ofInt ((((Int32.ofInt (v)).toUInt32 >>> ((Int32.ofInt (24 - 8 * k)).toUInt32 &&& Int32.toUInt32 31)).toInt32).toInt)).toInt8.toInt32.toInt = bt v (24 - 8 * k) from bt_u (by omega)]
      have btb := bt_bd v (24 - 8 * k)
      have n5 : 4096 ≤ qz_N g 193 ∧ qz_N g 193 ≤ 4096 := ez_len hBg t193 tq_45 rfl
      refine ez_ab hBg t193 rfl tq_45 rfl rfl (by omega) (by omega) (by first | omega | exact (i8_bd _).1) (by first | omega | exact (i8_bd _).2) (fun hB3 w4 => ?_)
      have fA : ez_fr (nz_P2 192 193) h (dz_put g 193 (qz_I g 192 1).toNat (ez_v (.inl (bt v (24 - 8 * k))))) := hf.put rfl _ _
      have vA : qz_I (dz_put g 193 (qz_I g 192 1).toNat (ez_v (.inl (bt v (24 - 8 * k))))) 193 (qz_I g 192 1).toNat = bt v (24 - 8 * k) := w4.trans (rz_rd ⟨by omega, by omega⟩)
      have iA : ∀ j, j ≠ (qz_I g 192 1).toNat → qz_I (dz_put g 193 (qz_I g 192 1).toNat (ez_v (.inl (bt v (24 - 8 * k))))) 193 j = qz_I g 193 j := fun j hj => ez_put_I (fun w => hj w.2)
      have jA : ∀ j, qz_I (dz_put g 193 (qz_I g 192 1).toNat (ez_v (.inl (bt v (24 - 8 * k))))) 192 j = qz_I g 192 j := fun j => ez_put_I (fun w => absurd w.1 (by decide))
      have hA := hB3
      generalize (dz_put g 193 (qz_I g 192 1).toNat (ez_v (.inl (bt v (24 - 8 * k))))) = gA at *
      have jA1 := jA 1
      refine ez_go (n := 2) (pc' := 22) (L' := [(2, .inl (24 - 8 * k)), (0, .inr (.inr (some (192)))), (1, .inl (v))]) (st' := [.inr (.inr (some (192))), .inr (.inr (some (192)))]) rfl ?_
      refine ez_gI hA t192 rfl rfl tq_44 rfl rfl (fun (b6 : 0 ≤ qz_I gA 192 1) (b6' : qz_I gA 192 1 ≤ 4096) => ?_)
      refine ez_go (n := 2) (pc' := 27) (L' := [(2, .inl (24 - 8 * k)), (0, .inr (.inr (some (192)))), (1, .inl (v))]) (st' := [.inl ((qz_I gA 192 1) + (1)), .inr (.inr (some (192)))]) rfl ?_
      refine ez_pf hA t192 rfl rfl tq_44 rfl rfl rfl rfl (ez_vdI rfl rfl (by omega) (by omega)) (fun hB7 w8 => ?_)
      refine ez_go (n := 2) (pc' := 3) (L' := [(2, .inl (24 - 8 * k + (-8))), (0, .inr (.inr (some (192)))), (1, .inl (v))]) (st' := []) rfl ?_
      rw [show 24 - 8 * k + (-8) = 24 - 8 * (k + 1) by omega]
      refine ez_less [(2, .inl (24 - 8 * (k + 1))), (0, .inr (.inr (some (192)))), (1, .inl (v))] rfl ⟨rfl, rfl, rfl, trivial⟩ ?_
      refine ih (k + 1) _ (by omega) (by omega) (by omega) hB7 (fA.put rfl _ _) (by rw [w8, rz_rd ⟨by omega, by omega⟩]; omega) (fun j hj => by rw [ez_put_I (fun w => hj w.2), jA]; exact hj9 j hj) (fun j => ?_)
      rw [ez_put_I (fun w => absurd w.1 (by decide))]
      by_cases e : j = (qz_I g 192 1).toNat
      · rw [e, vA, if_pos (by omega)]; congr 1; omega
      · rw [iA j e, ht j]
        by_cases e2 : n ≤ (j : Int) ∧ (j : Int) < n + k
        · rw [if_pos e2, if_pos (by omega)]
        · rw [if_neg e2, if_neg (by omega)]

theorem rd_feedInt {v n : Int} (hB : ez_B τ h) (t192 : τ 192 = 44) (vr : ez_rg v) (n0 : 0 ≤ n) (n1 : n + 4 ≤ 4096) (hn : qz_I h 192 1 = n) (kx : ∀ g, ez_B τ g → ez_fr (nz_P2 192 193) h g → qz_I g 192 1 = n + 4 → (∀ j, j ≠ 1 → qz_I g 192 j = qz_I h 192 j) → (∀ j : Nat, qz_I g 193 j = if n ≤ (j : Int) ∧ (j : Int) < n + 4 then bt v (24 - 8 * ((j : Int) - n)) else qz_I h 193 j) → Q (.inl none, g)) : ez_W d cm_12 0 [(0, .inr (.inr (some (192)))), (1, .inl (v))] [] h Q := by
  refine ez_go (n := 2) (pc' := 3) (L' := [(2, .inl (24)), (0, .inr (.inr (some (192)))), (1, .inl (v))]) (st' := []) rfl ?_
  rw [show (24 : Int) = 24 - 8 * 0 from rfl]
  refine ez_less [(2, .inl (24 - 8 * 0)), (0, .inr (.inr (some (192)))), (1, .inl (v))] rfl ⟨rfl, rfl, rfl, trivial⟩ ?_
  exact rd_feedInt_l t192 vr n0 n1 kx _ 0 h rfl (by omega) (by omega) hB (ez_fr.refl _ _) (by omega) (fun _ _ => rfl) (fun j => by rw [if_neg (by omega)])

theorem rd_feed {n a b c e f : Int} (hB : ez_B τ h) (t192 : τ 192 = 44) (ar : ez_rg a) (br : ez_rg b) (cr : ez_rg c) (er : ez_rg e) (fr : ez_rg f) (hn : qz_I h 192 1 = n) (hr1 : h.1 + 1 ≤ 600192) (hr2 : h.2.1 + 6 ≤ 7302232) (k1 : n + 20 ≤ 4096 → ∀ g, ez_B τ g → ez_fr (nz_P2 192 193) h g → qz_I g 192 1 = n + 20 → (∀ j, j ≠ 1 → qz_I g 192 j = qz_I h 192 j) → (∀ j : Nat, qz_I g 193 j = if n ≤ (j : Int) ∧ (j : Int) < n + 20 then fby a b c e f ((j : Int) - n) else qz_I h 193 j) → Q (.inl (some (ez_v (.inl (n + 20)))), g)) (k0 : ¬ n + 20 ≤ 4096 → Q (.inr h.1, xc h 0)) : ez_W (d + 9) cm_11 0 [(0, .inr (.inr (some (192)))), (1, .inl (a)), (2, .inl (b)), (3, .inl (c)), (4, .inl (e)), (5, .inl (f))] [] h Q := by
  have b1 : 0 ≤ qz_I h 192 1 ∧ qz_I h 192 1 ≤ 4096 := ez_fB (cl := 0) (k := 1) hB t192 tq_44 rfl rfl (by decide)
  refine ez_go (n := 1) (pc' := 1) (L' := [(0, .inr (.inr (some (192)))), (1, .inl (a)), (2, .inl (b)), (3, .inl (c)), (4, .inl (e)), (5, .inl (f))]) (st' := [.inr (.inr (some (192)))]) rfl ?_
  refine ez_gI hB t192 rfl rfl tq_44 rfl rfl (fun (b1 : 0 ≤ qz_I h 192 1) (b1' : qz_I h 192 1 ≤ 4096) => ?_)
  refine ez_go (n := 3) (pc' := 10) (L' := [(0, .inr (.inr (some (192)))), (1, .inl (a)), (2, .inl (b)), (3, .inl (c)), (4, .inl (e)), (5, .inl (f))]) (st' := [.inl (4096), .inl ((qz_I h 192 1) + (20))]) rfl ?_
  refine ez_icmp rfl rfl ⟨by first | omega | exact (sz_i32 _).1, by first | omega | exact (sz_i32 _).2⟩ ⟨by first | omega | exact (sz_i32 _).1, by first | omega | exact (sz_i32 _).2⟩ (fun (c2 : ((qz_I h 192 1) + (20)) ≤ (4096)) => ?_) (fun (c2 : ¬(((qz_I h 192 1) + (20)) ≤ (4096))) => ?_)
  · skip
    refine ez_go (n := 2) (pc' := 23) (L' := [(0, .inr (.inr (some (192)))), (1, .inl (a)), (2, .inl (b)), (3, .inl (c)), (4, .inl (e)), (5, .inl (f))]) (st' := [.inl (a), .inr (.inr (some (192)))]) rfl ?_
    refine ez_cv hB t192 rfl rfl rfl tq_44 rfl rfl rfl (rd_feedInt (n := n + 0) hB t192 ar (by omega) (by omega) (by omega) (fun g1 hB1_ f1 l1 j1 u1 => ez_K0 ?_))
    refine ez_go (n := 2) (pc' := 28) (L' := [(0, .inr (.inr (some (192)))), (1, .inl (a)), (2, .inl (b)), (3, .inl (c)), (4, .inl (e)), (5, .inl (f))]) (st' := [.inl (b), .inr (.inr (some (192)))]) rfl ?_
    refine ez_cv hB1_ t192 rfl rfl rfl tq_44 rfl rfl rfl (rd_feedInt (n := n + 4) hB1_ t192 br (by omega) (by omega) (by omega) (fun g2 hB2_ f2 l2 j2 u2 => ez_K0 ?_))
    refine ez_go (n := 2) (pc' := 33) (L' := [(0, .inr (.inr (some (192)))), (1, .inl (a)), (2, .inl (b)), (3, .inl (c)), (4, .inl (e)), (5, .inl (f))]) (st' := [.inl (c), .inr (.inr (some (192)))]) rfl ?_
    refine ez_cv hB2_ t192 rfl rfl rfl tq_44 rfl rfl rfl (rd_feedInt (n := n + 8) hB2_ t192 cr (by omega) (by omega) (by omega) (fun g3 hB3_ f3 l3 j3 u3 => ez_K0 ?_))
    refine ez_go (n := 2) (pc' := 39) (L' := [(0, .inr (.inr (some (192)))), (1, .inl (a)), (2, .inl (b)), (3, .inl (c)), (4, .inl (e)), (5, .inl (f))]) (st' := [.inl (e), .inr (.inr (some (192)))]) rfl ?_
    refine ez_cv hB3_ t192 rfl rfl rfl tq_44 rfl rfl rfl (rd_feedInt (n := n + 12) hB3_ t192 er (by omega) (by omega) (by omega) (fun g4 hB4_ f4 l4 j4 u4 => ez_K0 ?_))
    refine ez_go (n := 2) (pc' := 45) (L' := [(0, .inr (.inr (some (192)))), (1, .inl (a)), (2, .inl (b)), (3, .inl (c)), (4, .inl (e)), (5, .inl (f))]) (st' := [.inl (f), .inr (.inr (some (192)))]) rfl ?_
    refine ez_cv hB4_ t192 rfl rfl rfl tq_44 rfl rfl rfl (rd_feedInt (n := n + 16) hB4_ t192 fr (by omega) (by omega) (by omega) (fun g5 hB5_ f5 l5 j5 u5 => ez_K0 ?_))
    refine ez_go (n := 1) (pc' := 49) (L' := [(0, .inr (.inr (some (192)))), (1, .inl (a)), (2, .inl (b)), (3, .inl (c)), (4, .inl (e)), (5, .inl (f))]) (st' := [.inr (.inr (some (192)))]) rfl ?_
    refine ez_gI hB5_ t192 rfl rfl tq_44 rfl rfl (fun (b3 : 0 ≤ qz_I g5 192 1) (b3' : qz_I g5 192 1 ≤ 4096) => ?_)
    rw [show qz_I g5 192 1 = n + 20 by omega]
    refine ez_retI rfl rfl (k1 (by omega) g5 hB5_ ((((f1.trans f2).trans f3).trans f4).trans f5) (by omega) (fun j hj => by rw [j5 j hj, j4 j hj, j3 j hj, j2 j hj, j1 j hj]) (fun j => ?_))
    rw [u5 j, u4 j, u3 j, u2 j, u1 j]
    by_cases e : n ≤ (j : Int) ∧ (j : Int) < n + 20
    · rw [if_pos e]
      unfold fby fsl
      by_cases e5 : n + 16 ≤ (j : Int)
      · rw [if_pos (by omega), if_neg (by omega), if_neg (by omega), if_neg (by omega), if_neg (by omega)]; congr 1; omega
      · rw [if_neg (by omega)]
        by_cases e4 : n + 12 ≤ (j : Int)
        · rw [if_pos (by omega), if_neg (by omega), if_neg (by omega), if_neg (by omega), if_pos (by omega)]; congr 1; omega
        · rw [if_neg (by omega)]
          by_cases e3 : n + 8 ≤ (j : Int)
          · rw [if_pos (by omega), if_neg (by omega), if_neg (by omega), if_pos (by omega)]; congr 1; omega
          · rw [if_neg (by omega)]
            by_cases e2 : n + 4 ≤ (j : Int)
            · rw [if_pos (by omega), if_neg (by omega), if_pos (by omega)]; congr 1; omega
            · rw [if_neg (by omega), if_pos (by omega), if_pos (by omega)]; congr 1; omega
    · rw [if_neg e, if_neg (by omega), if_neg (by omega), if_neg (by omega), if_neg (by omega), if_neg (by omega)]
  · skip
    exact ez_th rfl rfl (by omega) (by omega) (by omega) rfl (k0 (by omega))

theorem rd_mfeed_l {n a b c e f : Int} (t770 : τ 770 = 75) (ar : ez_rg a) (br : ez_rg b) (cr : ez_rg c) (er : ez_rg e) (fr : ez_rg f) (n0 : 0 ≤ n) (n1 : n + 20 ≤ 4096) (kx : ∀ g, ez_B τ g → ez_fr (nz_P2 770 771) h g → qz_I g 770 2 = n + 20 → (∀ j, j ≠ 2 → qz_I g 770 j = qz_I h 770 j) → (∀ j : Nat, qz_I g 771 j = if n ≤ (j : Int) ∧ (j : Int) < n + 20 then fby a b c e f ((j : Int) - n) else qz_I h 771 j) → Q (.inl (some (ez_v (.inl (n + 20)))), g)) : ∀ (m : Nat) (k : Int) (g : cz_H), m = (20 - k).toNat → 0 ≤ k → k ≤ 20 → ez_B τ g → ez_fr (nz_P2 770 771) h g → qz_I g 770 2 = n + k → (∀ j, j ≠ 2 → qz_I g 770 j = qz_I h 770 j) → (∀ j : Nat, qz_I g 771 j = if n ≤ (j : Int) ∧ (j : Int) < n + k then fby a b c e f ((j : Int) - n) else qz_I h 771 j) → ez_W d cm_253 27 [(6, .inl (k)), (0, .inr (.inr (some (770)))), (1, .inl (a)), (2, .inl (b)), (3, .inl (c)), (4, .inl (e)), (5, .inl (f))] [] g Q := by
  obtain ⟨ar0, ar1⟩ := id ar
  intro m
  induction m with
  | zero =>
    intro k g hm k0 k1 hBg hf hl hj9 ht
    refine ez_go (n := 2) (pc' := 31) (L' := [(6, .inl (k)), (0, .inr (.inr (some (770)))), (1, .inl (a)), (2, .inl (b)), (3, .inl (c)), (4, .inl (e)), (5, .inl (f))]) (st' := [.inl (20), .inl (k)]) rfl ?_
    refine ez_icmp rfl rfl ⟨by first | omega | exact (sz_i32 _).1, by first | omega | exact (sz_i32 _).2⟩ ⟨by first | omega | exact (sz_i32 _).1, by first | omega | exact (sz_i32 _).2⟩ (fun (c1 : (20) ≤ (k)) => ?_) (fun (c1 : ¬((20) ≤ (k))) => ?_)
    · skip
      refine ez_go (n := 1) (pc' := 122) (L' := [(6, .inl (k)), (0, .inr (.inr (some (770)))), (1, .inl (a)), (2, .inl (b)), (3, .inl (c)), (4, .inl (e)), (5, .inl (f))]) (st' := [.inr (.inr (some (770)))]) rfl ?_
      refine ez_gI hBg t770 rfl rfl tq_75 rfl rfl (fun (b2 : 0 ≤ qz_I g 770 2) (b2' : qz_I g 770 2 ≤ 4096) => ?_)
      have ek : k = 20 := by omega
      subst ek
      rw [hl]
      exact ez_retI rfl rfl (kx g hBg hf hl hj9 ht)
    · skip
      refine ez_go (n := 2) (pc' := 37) (L' := [(6, .inl (k)), (0, .inr (.inr (some (770)))), (1, .inl (a)), (2, .inl (b)), (3, .inl (c)), (4, .inl (e)), (5, .inl (f))]) (st' := [.inl (4), .inl (k)]) rfl ?_
      refine ez_icmp rfl rfl ⟨by first | omega | exact (sz_i32 _).1, by first | omega | exact (sz_i32 _).2⟩ ⟨by first | omega | exact (sz_i32 _).1, by first | omega | exact (sz_i32 _).2⟩ (fun (c3 : (4) ≤ (k)) => ?_) (fun (c3 : ¬((4) ≤ (k))) => ?_)
      · skip
        refine ez_go (n := 2) (pc' := 48) (L' := [(6, .inl (k)), (0, .inr (.inr (some (770)))), (1, .inl (a)), (2, .inl (b)), (3, .inl (c)), (4, .inl (e)), (5, .inl (f))]) (st' := [.inl (8), .inl (k)]) rfl ?_
        refine ez_icmp rfl rfl ⟨by first | omega | exact (sz_i32 _).1, by first | omega | exact (sz_i32 _).2⟩ ⟨by first | omega | exact (sz_i32 _).1, by first | omega | exact (sz_i32 _).2⟩ (fun (c4 : (8) ≤ (k)) => ?_) (fun (c4 : ¬((8) ≤ (k))) => ?_)
        · skip
          refine ez_go (n := 2) (pc' := 59) (L' := [(6, .inl (k)), (0, .inr (.inr (some (770)))), (1, .inl (a)), (2, .inl (b)), (3, .inl (c)), (4, .inl (e)), (5, .inl (f))]) (st' := [.inl (12), .inl (k)]) rfl ?_
          refine ez_icmp rfl rfl ⟨by first | omega | exact (sz_i32 _).1, by first | omega | exact (sz_i32 _).2⟩ ⟨by first | omega | exact (sz_i32 _).1, by first | omega | exact (sz_i32 _).2⟩ (fun (c5 : (12) ≤ (k)) => ?_) (fun (c5 : ¬((12) ≤ (k))) => ?_)
          · skip
            refine ez_go (n := 2) (pc' := 70) (L' := [(6, .inl (k)), (0, .inr (.inr (some (770)))), (1, .inl (a)), (2, .inl (b)), (3, .inl (c)), (4, .inl (e)), (5, .inl (f))]) (st' := [.inl (16), .inl (k)]) rfl ?_
            refine ez_icmp rfl rfl ⟨by first | omega | exact (sz_i32 _).1, by first | omega | exact (sz_i32 _).2⟩ ⟨by first | omega | exact (sz_i32 _).1, by first | omega | exact (sz_i32 _).2⟩ (fun (c6 : (16) ≤ (k)) => ?_) (fun (c6 : ¬((16) ≤ (k))) => ?_)
            · skip
              refine ez_go (n := 3) (pc' := 83) (L' := [(7, .inl (f)), (6, .inl (k)), (0, .inr (.inr (some (770)))), (1, .inl (a)), (2, .inl (b)), (3, .inl (c)), (4, .inl (e)), (5, .inl (f))]) (st' := [.inr (.inr (some (770)))]) rfl ?_
              refine ez_gC (p := 771) (tg := 76) hBg t770 rfl rfl tq_75 rfl rfl (fun (t771 : _ = 76) => ?_)
              refine ez_go (n := 1) (pc' := 87) (L' := [(7, .inl (f)), (6, .inl (k)), (0, .inr (.inr (some (770)))), (1, .inl (a)), (2, .inl (b)), (3, .inl (c)), (4, .inl (e)), (5, .inl (f))]) (st' := [.inr (.inr (some (770))), .inr (.inr (some (771)))]) rfl ?_
              refine ez_gI hBg t770 rfl rfl tq_75 rfl rfl (fun (b7 : 0 ≤ qz_I g 770 2) (b7' : qz_I g 770 2 ≤ 4096) => ?_)
              refine ez_go (n := 5) (pc' := 99) (L' := [(7, .inl (f)), (6, .inl (k)), (0, .inr (.inr (some (770)))), (1, .inl (a)), (2, .inl (b)), (3, .inl (c)), (4, .inl (e)), (5, .inl (f))]) (st' := [.inl (4), .inl (k), .inl (8), .inl (24), .inl (f), .inl (qz_I g 770 2), .inr (.inr (some (771)))]) rfl ?_
              refine ez_rem rfl (by omega) (by omega) (by omega) (by omega) ?_
              refine ez_go (n := 4) (pc' := 104) (L' := [(7, .inl (f)), (6, .inl (k)), (0, .inr (.inr (some (770)))), (1, .inl (a)), (2, .inl (b)), (3, .inl (c)), (4, .inl (e)), (5, .inl (f))]) (st' := [.inl ((Int32.ofInt ((Int32.ofInt (f) >>> (Int32.ofInt ((24) - ((8) * ((k) % (4)))) &&& 31)).toInt)).toInt8.toInt32.toInt), .inl (qz_I g 770 2), .inr (.inr (some (771)))]) rfl ?_
              have efs : fsl a b c e f k = f := by unfold fsl; rw [if_neg (by omega), if_neg (by omega), if_neg (by omega), if_neg (by omega)]
              rw [show (Int32.ofInt ((Int32.ofInt (f) >>> (Int32.ofInt ((24) - ((8) * ((k) % (4)))) &&& 31)).toInt)).toInt8.toInt32.toInt = fby a b c e f k by unfold fby bt; rw [efs]]
              have btb : -128 ≤ fby a b c e f k ∧ fby a b c e f k ≤ 127 := bt_bd _ _
              have n10 : 4096 ≤ qz_N g 771 ∧ qz_N g 771 ≤ 4096 := ez_len hBg t771 tq_76 rfl
              refine ez_ab hBg t771 rfl tq_76 rfl rfl (by omega) (by omega) (by first | omega | exact (i8_bd _).1) (by first | omega | exact (i8_bd _).2) (fun hB8 w9 => ?_)
              have fA : ez_fr (nz_P2 770 771) h (dz_put g 771 (qz_I g 770 2).toNat (ez_v (.inl (fby a b c e f k)))) := hf.put rfl _ _
              have vA : qz_I (dz_put g 771 (qz_I g 770 2).toNat (ez_v (.inl (fby a b c e f k)))) 771 (qz_I g 770 2).toNat = fby a b c e f k := w9.trans (rz_rd ⟨by omega, by omega⟩)
              have iA : ∀ j, j ≠ (qz_I g 770 2).toNat → qz_I (dz_put g 771 (qz_I g 770 2).toNat (ez_v (.inl (fby a b c e f k)))) 771 j = qz_I g 771 j := fun j hj => ez_put_I (fun w => hj w.2)
              have jA : ∀ j, qz_I (dz_put g 771 (qz_I g 770 2).toNat (ez_v (.inl (fby a b c e f k)))) 770 j = qz_I g 770 j := fun j => ez_put_I (fun w => absurd w.1 (by decide))
              have hA := hB8
              generalize (dz_put g 771 (qz_I g 770 2).toNat (ez_v (.inl (fby a b c e f k)))) = gA at *
              have jA1 := jA 2
              refine ez_go (n := 2) (pc' := 107) (L' := [(7, .inl (f)), (6, .inl (k)), (0, .inr (.inr (some (770)))), (1, .inl (a)), (2, .inl (b)), (3, .inl (c)), (4, .inl (e)), (5, .inl (f))]) (st' := [.inr (.inr (some (770))), .inr (.inr (some (770)))]) rfl ?_
              refine ez_gI hA t770 rfl rfl tq_75 rfl rfl (fun (b11 : 0 ≤ qz_I gA 770 2) (b11' : qz_I gA 770 2 ≤ 4096) => ?_)
              refine ez_go (n := 2) (pc' := 112) (L' := [(7, .inl (f)), (6, .inl (k)), (0, .inr (.inr (some (770)))), (1, .inl (a)), (2, .inl (b)), (3, .inl (c)), (4, .inl (e)), (5, .inl (f))]) (st' := [.inl ((qz_I gA 770 2) + (1)), .inr (.inr (some (770)))]) rfl ?_
              refine ez_pf hA t770 rfl rfl tq_75 rfl rfl rfl rfl (ez_vdI rfl rfl (by omega) (by omega)) (fun hB12 w13 => ?_)
              refine ez_go (n := 2) (pc' := 27) (L' := [(6, .inl (k + 1)), (7, .inl (f)), (0, .inr (.inr (some (770)))), (1, .inl (a)), (2, .inl (b)), (3, .inl (c)), (4, .inl (e)), (5, .inl (f))]) (st' := []) rfl ?_
              exfalso; omega
            · skip
              refine ez_go (n := 4) (pc' := 83) (L' := [(7, .inl (e)), (6, .inl (k)), (0, .inr (.inr (some (770)))), (1, .inl (a)), (2, .inl (b)), (3, .inl (c)), (4, .inl (e)), (5, .inl (f))]) (st' := [.inr (.inr (some (770)))]) rfl ?_
              refine ez_gC (p := 771) (tg := 76) hBg t770 rfl rfl tq_75 rfl rfl (fun (t771 : _ = 76) => ?_)
              refine ez_go (n := 1) (pc' := 87) (L' := [(7, .inl (e)), (6, .inl (k)), (0, .inr (.inr (some (770)))), (1, .inl (a)), (2, .inl (b)), (3, .inl (c)), (4, .inl (e)), (5, .inl (f))]) (st' := [.inr (.inr (some (770))), .inr (.inr (some (771)))]) rfl ?_
              refine ez_gI hBg t770 rfl rfl tq_75 rfl rfl (fun (b14 : 0 ≤ qz_I g 770 2) (b14' : qz_I g 770 2 ≤ 4096) => ?_)
              refine ez_go (n := 5) (pc' := 99) (L' := [(7, .inl (e)), (6, .inl (k)), (0, .inr (.inr (some (770)))), (1, .inl (a)), (2, .inl (b)), (3, .inl (c)), (4, .inl (e)), (5, .inl (f))]) (st' := [.inl (4), .inl (k), .inl (8), .inl (24), .inl (e), .inl (qz_I g 770 2), .inr (.inr (some (771)))]) rfl ?_
              refine ez_rem rfl (by omega) (by omega) (by omega) (by omega) ?_
              refine ez_go (n := 4) (pc' := 104) (L' := [(7, .inl (e)), (6, .inl (k)), (0, .inr (.inr (some (770)))), (1, .inl (a)), (2, .inl (b)), (3, .inl (c)), (4, .inl (e)), (5, .inl (f))]) (st' := [.inl ((Int32.ofInt ((Int32.ofInt (e) >>> (Int32.ofInt ((24) - ((8) * ((k) % (4)))) &&& 31)).toInt)).toInt8.toInt32.toInt), .inl (qz_I g 770 2), .inr (.inr (some (771)))]) rfl ?_
              have efs : fsl a b c e f k = e := by unfold fsl; rw [if_neg (by omega), if_neg (by omega), if_neg (by omega), if_pos (by omega)]
              rw [show (Int32.ofInt ((Int32.ofInt (e) >>> (Int32.ofInt ((24) - ((8) * ((k) % (4)))) &&& 31)).toInt)).toInt8.toInt32.toInt = fby a b c e f k by unfold fby bt; rw [efs]]
              have btb : -128 ≤ fby a b c e f k ∧ fby a b c e f k ≤ 127 := bt_bd _ _
              have n17 : 4096 ≤ qz_N g 771 ∧ qz_N g 771 ≤ 4096 := ez_len hBg t771 tq_76 rfl
              refine ez_ab hBg t771 rfl tq_76 rfl rfl (by omega) (by omega) (by first | omega | exact (i8_bd _).1) (by first | omega | exact (i8_bd _).2) (fun hB15 w16 => ?_)
              have fA : ez_fr (nz_P2 770 771) h (dz_put g 771 (qz_I g 770 2).toNat (ez_v (.inl (fby a b c e f k)))) := hf.put rfl _ _
              have vA : qz_I (dz_put g 771 (qz_I g 770 2).toNat (ez_v (.inl (fby a b c e f k)))) 771 (qz_I g 770 2).toNat = fby a b c e f k := w16.trans (rz_rd ⟨by omega, by omega⟩)
              have iA : ∀ j, j ≠ (qz_I g 770 2).toNat → qz_I (dz_put g 771 (qz_I g 770 2).toNat (ez_v (.inl (fby a b c e f k)))) 771 j = qz_I g 771 j := fun j hj => ez_put_I (fun w => hj w.2)
              have jA : ∀ j, qz_I (dz_put g 771 (qz_I g 770 2).toNat (ez_v (.inl (fby a b c e f k)))) 770 j = qz_I g 770 j := fun j => ez_put_I (fun w => absurd w.1 (by decide))
              have hA := hB15
              generalize (dz_put g 771 (qz_I g 770 2).toNat (ez_v (.inl (fby a b c e f k)))) = gA at *
              have jA1 := jA 2
              refine ez_go (n := 2) (pc' := 107) (L' := [(7, .inl (e)), (6, .inl (k)), (0, .inr (.inr (some (770)))), (1, .inl (a)), (2, .inl (b)), (3, .inl (c)), (4, .inl (e)), (5, .inl (f))]) (st' := [.inr (.inr (some (770))), .inr (.inr (some (770)))]) rfl ?_
              refine ez_gI hA t770 rfl rfl tq_75 rfl rfl (fun (b18 : 0 ≤ qz_I gA 770 2) (b18' : qz_I gA 770 2 ≤ 4096) => ?_)
              refine ez_go (n := 2) (pc' := 112) (L' := [(7, .inl (e)), (6, .inl (k)), (0, .inr (.inr (some (770)))), (1, .inl (a)), (2, .inl (b)), (3, .inl (c)), (4, .inl (e)), (5, .inl (f))]) (st' := [.inl ((qz_I gA 770 2) + (1)), .inr (.inr (some (770)))]) rfl ?_
              refine ez_pf hA t770 rfl rfl tq_75 rfl rfl rfl rfl (ez_vdI rfl rfl (by omega) (by omega)) (fun hB19 w20 => ?_)
              refine ez_go (n := 2) (pc' := 27) (L' := [(6, .inl (k + 1)), (7, .inl (e)), (0, .inr (.inr (some (770)))), (1, .inl (a)), (2, .inl (b)), (3, .inl (c)), (4, .inl (e)), (5, .inl (f))]) (st' := []) rfl ?_
              exfalso; omega
          · skip
            refine ez_go (n := 4) (pc' := 83) (L' := [(7, .inl (c)), (6, .inl (k)), (0, .inr (.inr (some (770)))), (1, .inl (a)), (2, .inl (b)), (3, .inl (c)), (4, .inl (e)), (5, .inl (f))]) (st' := [.inr (.inr (some (770)))]) rfl ?_
            refine ez_gC (p := 771) (tg := 76) hBg t770 rfl rfl tq_75 rfl rfl (fun (t771 : _ = 76) => ?_)
            refine ez_go (n := 1) (pc' := 87) (L' := [(7, .inl (c)), (6, .inl (k)), (0, .inr (.inr (some (770)))), (1, .inl (a)), (2, .inl (b)), (3, .inl (c)), (4, .inl (e)), (5, .inl (f))]) (st' := [.inr (.inr (some (770))), .inr (.inr (some (771)))]) rfl ?_
            refine ez_gI hBg t770 rfl rfl tq_75 rfl rfl (fun (b21 : 0 ≤ qz_I g 770 2) (b21' : qz_I g 770 2 ≤ 4096) => ?_)
            refine ez_go (n := 5) (pc' := 99) (L' := [(7, .inl (c)), (6, .inl (k)), (0, .inr (.inr (some (770)))), (1, .inl (a)), (2, .inl (b)), (3, .inl (c)), (4, .inl (e)), (5, .inl (f))]) (st' := [.inl (4), .inl (k), .inl (8), .inl (24), .inl (c), .inl (qz_I g 770 2), .inr (.inr (some (771)))]) rfl ?_
            refine ez_rem rfl (by omega) (by omega) (by omega) (by omega) ?_
            refine ez_go (n := 4) (pc' := 104) (L' := [(7, .inl (c)), (6, .inl (k)), (0, .inr (.inr (some (770)))), (1, .inl (a)), (2, .inl (b)), (3, .inl (c)), (4, .inl (e)), (5, .inl (f))]) (st' := [.inl ((Int32.ofInt ((Int32.ofInt (c) >>> (Int32.ofInt ((24) - ((8) * ((k) % (4)))) &&& 31)).toInt)).toInt8.toInt32.toInt), .inl (qz_I g 770 2), .inr (.inr (some (771)))]) rfl ?_
            have efs : fsl a b c e f k = c := by unfold fsl; rw [if_neg (by omega), if_neg (by omega), if_pos (by omega)]
            rw [show (Int32.ofInt ((Int32.ofInt (c) >>> (Int32.ofInt ((24) - ((8) * ((k) % (4)))) &&& 31)).toInt)).toInt8.toInt32.toInt = fby a b c e f k by unfold fby bt; rw [efs]]
            have btb : -128 ≤ fby a b c e f k ∧ fby a b c e f k ≤ 127 := bt_bd _ _
            have n24 : 4096 ≤ qz_N g 771 ∧ qz_N g 771 ≤ 4096 := ez_len hBg t771 tq_76 rfl
            refine ez_ab hBg t771 rfl tq_76 rfl rfl (by omega) (by omega) (by first | omega | exact (i8_bd _).1) (by first | omega | exact (i8_bd _).2) (fun hB22 w23 => ?_)
            have fA : ez_fr (nz_P2 770 771) h (dz_put g 771 (qz_I g 770 2).toNat (ez_v (.inl (fby a b c e f k)))) := hf.put rfl _ _
            have vA : qz_I (dz_put g 771 (qz_I g 770 2).toNat (ez_v (.inl (fby a b c e f k)))) 771 (qz_I g 770 2).toNat = fby a b c e f k := w23.trans (rz_rd ⟨by omega, by omega⟩)
            have iA : ∀ j, j ≠ (qz_I g 770 2).toNat → qz_I (dz_put g 771 (qz_I g 770 2).toNat (ez_v (.inl (fby a b c e f k)))) 771 j = qz_I g 771 j := fun j hj => ez_put_I (fun w => hj w.2)
            have jA : ∀ j, qz_I (dz_put g 771 (qz_I g 770 2).toNat (ez_v (.inl (fby a b c e f k)))) 770 j = qz_I g 770 j := fun j => ez_put_I (fun w => absurd w.1 (by decide))
            have hA := hB22
            generalize (dz_put g 771 (qz_I g 770 2).toNat (ez_v (.inl (fby a b c e f k)))) = gA at *
            have jA1 := jA 2
            refine ez_go (n := 2) (pc' := 107) (L' := [(7, .inl (c)), (6, .inl (k)), (0, .inr (.inr (some (770)))), (1, .inl (a)), (2, .inl (b)), (3, .inl (c)), (4, .inl (e)), (5, .inl (f))]) (st' := [.inr (.inr (some (770))), .inr (.inr (some (770)))]) rfl ?_
            refine ez_gI hA t770 rfl rfl tq_75 rfl rfl (fun (b25 : 0 ≤ qz_I gA 770 2) (b25' : qz_I gA 770 2 ≤ 4096) => ?_)
            refine ez_go (n := 2) (pc' := 112) (L' := [(7, .inl (c)), (6, .inl (k)), (0, .inr (.inr (some (770)))), (1, .inl (a)), (2, .inl (b)), (3, .inl (c)), (4, .inl (e)), (5, .inl (f))]) (st' := [.inl ((qz_I gA 770 2) + (1)), .inr (.inr (some (770)))]) rfl ?_
            refine ez_pf hA t770 rfl rfl tq_75 rfl rfl rfl rfl (ez_vdI rfl rfl (by omega) (by omega)) (fun hB26 w27 => ?_)
            refine ez_go (n := 2) (pc' := 27) (L' := [(6, .inl (k + 1)), (7, .inl (c)), (0, .inr (.inr (some (770)))), (1, .inl (a)), (2, .inl (b)), (3, .inl (c)), (4, .inl (e)), (5, .inl (f))]) (st' := []) rfl ?_
            exfalso; omega
        · skip
          refine ez_go (n := 4) (pc' := 83) (L' := [(7, .inl (b)), (6, .inl (k)), (0, .inr (.inr (some (770)))), (1, .inl (a)), (2, .inl (b)), (3, .inl (c)), (4, .inl (e)), (5, .inl (f))]) (st' := [.inr (.inr (some (770)))]) rfl ?_
          refine ez_gC (p := 771) (tg := 76) hBg t770 rfl rfl tq_75 rfl rfl (fun (t771 : _ = 76) => ?_)
          refine ez_go (n := 1) (pc' := 87) (L' := [(7, .inl (b)), (6, .inl (k)), (0, .inr (.inr (some (770)))), (1, .inl (a)), (2, .inl (b)), (3, .inl (c)), (4, .inl (e)), (5, .inl (f))]) (st' := [.inr (.inr (some (770))), .inr (.inr (some (771)))]) rfl ?_
          refine ez_gI hBg t770 rfl rfl tq_75 rfl rfl (fun (b28 : 0 ≤ qz_I g 770 2) (b28' : qz_I g 770 2 ≤ 4096) => ?_)
          refine ez_go (n := 5) (pc' := 99) (L' := [(7, .inl (b)), (6, .inl (k)), (0, .inr (.inr (some (770)))), (1, .inl (a)), (2, .inl (b)), (3, .inl (c)), (4, .inl (e)), (5, .inl (f))]) (st' := [.inl (4), .inl (k), .inl (8), .inl (24), .inl (b), .inl (qz_I g 770 2), .inr (.inr (some (771)))]) rfl ?_
          refine ez_rem rfl (by omega) (by omega) (by omega) (by omega) ?_
          refine ez_go (n := 4) (pc' := 104) (L' := [(7, .inl (b)), (6, .inl (k)), (0, .inr (.inr (some (770)))), (1, .inl (a)), (2, .inl (b)), (3, .inl (c)), (4, .inl (e)), (5, .inl (f))]) (st' := [.inl ((Int32.ofInt ((Int32.ofInt (b) >>> (Int32.ofInt ((24) - ((8) * ((k) % (4)))) &&& 31)).toInt)).toInt8.toInt32.toInt), .inl (qz_I g 770 2), .inr (.inr (some (771)))]) rfl ?_
          have efs : fsl a b c e f k = b := by unfold fsl; rw [if_neg (by omega), if_pos (by omega)]
          rw [show (Int32.ofInt ((Int32.ofInt (b) >>> (Int32.ofInt ((24) - ((8) * ((k) % (4)))) &&& 31)).toInt)).toInt8.toInt32.toInt = fby a b c e f k by unfold fby bt; rw [efs]]
          have btb : -128 ≤ fby a b c e f k ∧ fby a b c e f k ≤ 127 := bt_bd _ _
          have n31 : 4096 ≤ qz_N g 771 ∧ qz_N g 771 ≤ 4096 := ez_len hBg t771 tq_76 rfl
          refine ez_ab hBg t771 rfl tq_76 rfl rfl (by omega) (by omega) (by first | omega | exact (i8_bd _).1) (by first | omega | exact (i8_bd _).2) (fun hB29 w30 => ?_)
          have fA : ez_fr (nz_P2 770 771) h (dz_put g 771 (qz_I g 770 2).toNat (ez_v (.inl (fby a b c e f k)))) := hf.put rfl _ _
          have vA : qz_I (dz_put g 771 (qz_I g 770 2).toNat (ez_v (.inl (fby a b c e f k)))) 771 (qz_I g 770 2).toNat = fby a b c e f k := w30.trans (rz_rd ⟨by omega, by omega⟩)
          have iA : ∀ j, j ≠ (qz_I g 770 2).toNat → qz_I (dz_put g 771 (qz_I g 770 2).toNat (ez_v (.inl (fby a b c e f k)))) 771 j = qz_I g 771 j := fun j hj => ez_put_I (fun w => hj w.2)
          have jA : ∀ j, qz_I (dz_put g 771 (qz_I g 770 2).toNat (ez_v (.inl (fby a b c e f k)))) 770 j = qz_I g 770 j := fun j => ez_put_I (fun w => absurd w.1 (by decide))
          have hA := hB29
          generalize (dz_put g 771 (qz_I g 770 2).toNat (ez_v (.inl (fby a b c e f k)))) = gA at *
          have jA1 := jA 2
          refine ez_go (n := 2) (pc' := 107) (L' := [(7, .inl (b)), (6, .inl (k)), (0, .inr (.inr (some (770)))), (1, .inl (a)), (2, .inl (b)), (3, .inl (c)), (4, .inl (e)), (5, .inl (f))]) (st' := [.inr (.inr (some (770))), .inr (.inr (some (770)))]) rfl ?_
          refine ez_gI hA t770 rfl rfl tq_75 rfl rfl (fun (b32 : 0 ≤ qz_I gA 770 2) (b32' : qz_I gA 770 2 ≤ 4096) => ?_)
          refine ez_go (n := 2) (pc' := 112) (L' := [(7, .inl (b)), (6, .inl (k)), (0, .inr (.inr (some (770)))), (1, .inl (a)), (2, .inl (b)), (3, .inl (c)), (4, .inl (e)), (5, .inl (f))]) (st' := [.inl ((qz_I gA 770 2) + (1)), .inr (.inr (some (770)))]) rfl ?_
          refine ez_pf hA t770 rfl rfl tq_75 rfl rfl rfl rfl (ez_vdI rfl rfl (by omega) (by omega)) (fun hB33 w34 => ?_)
          refine ez_go (n := 2) (pc' := 27) (L' := [(6, .inl (k + 1)), (7, .inl (b)), (0, .inr (.inr (some (770)))), (1, .inl (a)), (2, .inl (b)), (3, .inl (c)), (4, .inl (e)), (5, .inl (f))]) (st' := []) rfl ?_
          exfalso; omega
      · skip
        refine ez_go (n := 4) (pc' := 83) (L' := [(7, .inl (a)), (6, .inl (k)), (0, .inr (.inr (some (770)))), (1, .inl (a)), (2, .inl (b)), (3, .inl (c)), (4, .inl (e)), (5, .inl (f))]) (st' := [.inr (.inr (some (770)))]) rfl ?_
        refine ez_gC (p := 771) (tg := 76) hBg t770 rfl rfl tq_75 rfl rfl (fun (t771 : _ = 76) => ?_)
        refine ez_go (n := 1) (pc' := 87) (L' := [(7, .inl (a)), (6, .inl (k)), (0, .inr (.inr (some (770)))), (1, .inl (a)), (2, .inl (b)), (3, .inl (c)), (4, .inl (e)), (5, .inl (f))]) (st' := [.inr (.inr (some (770))), .inr (.inr (some (771)))]) rfl ?_
        refine ez_gI hBg t770 rfl rfl tq_75 rfl rfl (fun (b35 : 0 ≤ qz_I g 770 2) (b35' : qz_I g 770 2 ≤ 4096) => ?_)
        refine ez_go (n := 5) (pc' := 99) (L' := [(7, .inl (a)), (6, .inl (k)), (0, .inr (.inr (some (770)))), (1, .inl (a)), (2, .inl (b)), (3, .inl (c)), (4, .inl (e)), (5, .inl (f))]) (st' := [.inl (4), .inl (k), .inl (8), .inl (24), .inl (a), .inl (qz_I g 770 2), .inr (.inr (some (771)))]) rfl ?_
        refine ez_rem rfl (by omega) (by omega) (by omega) (by omega) ?_
        refine ez_go (n := 4) (pc' := 104) (L' := [(7, .inl (a)), (6, .inl (k)), (0, .inr (.inr (some (770)))), (1, .inl (a)), (2, .inl (b)), (3, .inl (c)), (4, .inl (e)), (5, .inl (f))]) (st' := [.inl ((Int32.ofInt ((Int32.ofInt (a) >>> (Int32.ofInt ((24) - ((8) * ((k) % (4)))) &&& 31)).toInt)).toInt8.toInt32.toInt), .inl (qz_I g 770 2), .inr (.inr (some (771)))]) rfl ?_
        have efs : fsl a b c e f k = a := by unfold fsl; rw [if_pos (by omega)]
        rw [show (Int32.ofInt ((Int32.ofInt (a) >>> (Int32.ofInt ((24) - ((8) * ((k) % (4)))) &&& 31)).toInt)).toInt8.toInt32.toInt = fby a b c e f k by unfold fby bt; rw [efs]]
        have btb : -128 ≤ fby a b c e f k ∧ fby a b c e f k ≤ 127 := bt_bd _ _
        have n38 : 4096 ≤ qz_N g 771 ∧ qz_N g 771 ≤ 4096 := ez_len hBg t771 tq_76 rfl
        refine ez_ab hBg t771 rfl tq_76 rfl rfl (by omega) (by omega) (by first | omega | exact (i8_bd _).1) (by first | omega | exact (i8_bd _).2) (fun hB36 w37 => ?_)
        have fA : ez_fr (nz_P2 770 771) h (dz_put g 771 (qz_I g 770 2).toNat (ez_v (.inl (fby a b c e f k)))) := hf.put rfl _ _
        have vA : qz_I (dz_put g 771 (qz_I g 770 2).toNat (ez_v (.inl (fby a b c e f k)))) 771 (qz_I g 770 2).toNat = fby a b c e f k := w37.trans (rz_rd ⟨by omega, by omega⟩)
        have iA : ∀ j, j ≠ (qz_I g 770 2).toNat → qz_I (dz_put g 771 (qz_I g 770 2).toNat (ez_v (.inl (fby a b c e f k)))) 771 j = qz_I g 771 j := fun j hj => ez_put_I (fun w => hj w.2)
        have jA : ∀ j, qz_I (dz_put g 771 (qz_I g 770 2).toNat (ez_v (.inl (fby a b c e f k)))) 770 j = qz_I g 770 j := fun j => ez_put_I (fun w => absurd w.1 (by decide))
        have hA := hB36
        generalize (dz_put g 771 (qz_I g 770 2).toNat (ez_v (.inl (fby a b c e f k)))) = gA at *
        have jA1 := jA 2
        refine ez_go (n := 2) (pc' := 107) (L' := [(7, .inl (a)), (6, .inl (k)), (0, .inr (.inr (some (770)))), (1, .inl (a)), (2, .inl (b)), (3, .inl (c)), (4, .inl (e)), (5, .inl (f))]) (st' := [.inr (.inr (some (770))), .inr (.inr (some (770)))]) rfl ?_
        refine ez_gI hA t770 rfl rfl tq_75 rfl rfl (fun (b39 : 0 ≤ qz_I gA 770 2) (b39' : qz_I gA 770 2 ≤ 4096) => ?_)
        refine ez_go (n := 2) (pc' := 112) (L' := [(7, .inl (a)), (6, .inl (k)), (0, .inr (.inr (some (770)))), (1, .inl (a)), (2, .inl (b)), (3, .inl (c)), (4, .inl (e)), (5, .inl (f))]) (st' := [.inl ((qz_I gA 770 2) + (1)), .inr (.inr (some (770)))]) rfl ?_
        refine ez_pf hA t770 rfl rfl tq_75 rfl rfl rfl rfl (ez_vdI rfl rfl (by omega) (by omega)) (fun hB40 w41 => ?_)
        refine ez_go (n := 2) (pc' := 27) (L' := [(6, .inl (k + 1)), (7, .inl (a)), (0, .inr (.inr (some (770)))), (1, .inl (a)), (2, .inl (b)), (3, .inl (c)), (4, .inl (e)), (5, .inl (f))]) (st' := []) rfl ?_
        exfalso; omega
  | succ m ih =>
    intro k g hm k0 k1 hBg hf hl hj9 ht
    refine ez_go (n := 2) (pc' := 31) (L' := [(6, .inl (k)), (0, .inr (.inr (some (770)))), (1, .inl (a)), (2, .inl (b)), (3, .inl (c)), (4, .inl (e)), (5, .inl (f))]) (st' := [.inl (20), .inl (k)]) rfl ?_
    refine ez_icmp rfl rfl ⟨by first | omega | exact (sz_i32 _).1, by first | omega | exact (sz_i32 _).2⟩ ⟨by first | omega | exact (sz_i32 _).1, by first | omega | exact (sz_i32 _).2⟩ (fun (c1 : (20) ≤ (k)) => ?_) (fun (c1 : ¬((20) ≤ (k))) => ?_)
    · skip
      refine ez_go (n := 1) (pc' := 122) (L' := [(6, .inl (k)), (0, .inr (.inr (some (770)))), (1, .inl (a)), (2, .inl (b)), (3, .inl (c)), (4, .inl (e)), (5, .inl (f))]) (st' := [.inr (.inr (some (770)))]) rfl ?_
      refine ez_gI hBg t770 rfl rfl tq_75 rfl rfl (fun (b2 : 0 ≤ qz_I g 770 2) (b2' : qz_I g 770 2 ≤ 4096) => ?_)
      have ek : k = 20 := by omega
      subst ek
      rw [hl]
      exact ez_retI rfl rfl (kx g hBg hf hl hj9 ht)
    · skip
      refine ez_go (n := 2) (pc' := 37) (L' := [(6, .inl (k)), (0, .inr (.inr (some (770)))), (1, .inl (a)), (2, .inl (b)), (3, .inl (c)), (4, .inl (e)), (5, .inl (f))]) (st' := [.inl (4), .inl (k)]) rfl ?_
      refine ez_icmp rfl rfl ⟨by first | omega | exact (sz_i32 _).1, by first | omega | exact (sz_i32 _).2⟩ ⟨by first | omega | exact (sz_i32 _).1, by first | omega | exact (sz_i32 _).2⟩ (fun (c3 : (4) ≤ (k)) => ?_) (fun (c3 : ¬((4) ≤ (k))) => ?_)
      · skip
        refine ez_go (n := 2) (pc' := 48) (L' := [(6, .inl (k)), (0, .inr (.inr (some (770)))), (1, .inl (a)), (2, .inl (b)), (3, .inl (c)), (4, .inl (e)), (5, .inl (f))]) (st' := [.inl (8), .inl (k)]) rfl ?_
        refine ez_icmp rfl rfl ⟨by first | omega | exact (sz_i32 _).1, by first | omega | exact (sz_i32 _).2⟩ ⟨by first | omega | exact (sz_i32 _).1, by first | omega | exact (sz_i32 _).2⟩ (fun (c4 : (8) ≤ (k)) => ?_) (fun (c4 : ¬((8) ≤ (k))) => ?_)
        · skip
          refine ez_go (n := 2) (pc' := 59) (L' := [(6, .inl (k)), (0, .inr (.inr (some (770)))), (1, .inl (a)), (2, .inl (b)), (3, .inl (c)), (4, .inl (e)), (5, .inl (f))]) (st' := [.inl (12), .inl (k)]) rfl ?_
          refine ez_icmp rfl rfl ⟨by first | omega | exact (sz_i32 _).1, by first | omega | exact (sz_i32 _).2⟩ ⟨by first | omega | exact (sz_i32 _).1, by first | omega | exact (sz_i32 _).2⟩ (fun (c5 : (12) ≤ (k)) => ?_) (fun (c5 : ¬((12) ≤ (k))) => ?_)
          · skip
            refine ez_go (n := 2) (pc' := 70) (L' := [(6, .inl (k)), (0, .inr (.inr (some (770)))), (1, .inl (a)), (2, .inl (b)), (3, .inl (c)), (4, .inl (e)), (5, .inl (f))]) (st' := [.inl (16), .inl (k)]) rfl ?_
            refine ez_icmp rfl rfl ⟨by first | omega | exact (sz_i32 _).1, by first | omega | exact (sz_i32 _).2⟩ ⟨by first | omega | exact (sz_i32 _).1, by first | omega | exact (sz_i32 _).2⟩ (fun (c6 : (16) ≤ (k)) => ?_) (fun (c6 : ¬((16) ≤ (k))) => ?_)
            · skip
              refine ez_go (n := 3) (pc' := 83) (L' := [(7, .inl (f)), (6, .inl (k)), (0, .inr (.inr (some (770)))), (1, .inl (a)), (2, .inl (b)), (3, .inl (c)), (4, .inl (e)), (5, .inl (f))]) (st' := [.inr (.inr (some (770)))]) rfl ?_
              refine ez_gC (p := 771) (tg := 76) hBg t770 rfl rfl tq_75 rfl rfl (fun (t771 : _ = 76) => ?_)
              refine ez_go (n := 1) (pc' := 87) (L' := [(7, .inl (f)), (6, .inl (k)), (0, .inr (.inr (some (770)))), (1, .inl (a)), (2, .inl (b)), (3, .inl (c)), (4, .inl (e)), (5, .inl (f))]) (st' := [.inr (.inr (some (770))), .inr (.inr (some (771)))]) rfl ?_
              refine ez_gI hBg t770 rfl rfl tq_75 rfl rfl (fun (b7 : 0 ≤ qz_I g 770 2) (b7' : qz_I g 770 2 ≤ 4096) => ?_)
              refine ez_go (n := 5) (pc' := 99) (L' := [(7, .inl (f)), (6, .inl (k)), (0, .inr (.inr (some (770)))), (1, .inl (a)), (2, .inl (b)), (3, .inl (c)), (4, .inl (e)), (5, .inl (f))]) (st' := [.inl (4), .inl (k), .inl (8), .inl (24), .inl (f), .inl (qz_I g 770 2), .inr (.inr (some (771)))]) rfl ?_
              refine ez_rem rfl (by omega) (by omega) (by omega) (by omega) ?_
              refine ez_go (n := 4) (pc' := 104) (L' := [(7, .inl (f)), (6, .inl (k)), (0, .inr (.inr (some (770)))), (1, .inl (a)), (2, .inl (b)), (3, .inl (c)), (4, .inl (e)), (5, .inl (f))]) (st' := [.inl ((Int32.ofInt ((Int32.ofInt (f) >>> (Int32.ofInt ((24) - ((8) * ((k) % (4)))) &&& 31)).toInt)).toInt8.toInt32.toInt), .inl (qz_I g 770 2), .inr (.inr (some (771)))]) rfl ?_
              have efs : fsl a b c e f k = f := by unfold fsl; rw [if_neg (by omega), if_neg (by omega), if_neg (by omega), if_neg (by omega)]
              rw [show (Int32.ofInt ((Int32.ofInt (f) >>> (Int32.ofInt ((24) - ((8) * ((k) % (4)))) &&& 31)).toInt)).toInt8.toInt32.toInt = fby a b c e f k by unfold fby bt; rw [efs]]
              have btb : -128 ≤ fby a b c e f k ∧ fby a b c e f k ≤ 127 := bt_bd _ _
              have n10 : 4096 ≤ qz_N g 771 ∧ qz_N g 771 ≤ 4096 := ez_len hBg t771 tq_76 rfl
              refine ez_ab hBg t771 rfl tq_76 rfl rfl (by omega) (by omega) (by first | omega | exact (i8_bd _).1) (by first | omega | exact (i8_bd _).2) (fun hB8 w9 => ?_)
              have fA : ez_fr (nz_P2 770 771) h (dz_put g 771 (qz_I g 770 2).toNat (ez_v (.inl (fby a b c e f k)))) := hf.put rfl _ _
              have vA : qz_I (dz_put g 771 (qz_I g 770 2).toNat (ez_v (.inl (fby a b c e f k)))) 771 (qz_I g 770 2).toNat = fby a b c e f k := w9.trans (rz_rd ⟨by omega, by omega⟩)
              have iA : ∀ j, j ≠ (qz_I g 770 2).toNat → qz_I (dz_put g 771 (qz_I g 770 2).toNat (ez_v (.inl (fby a b c e f k)))) 771 j = qz_I g 771 j := fun j hj => ez_put_I (fun w => hj w.2)
              have jA : ∀ j, qz_I (dz_put g 771 (qz_I g 770 2).toNat (ez_v (.inl (fby a b c e f k)))) 770 j = qz_I g 770 j := fun j => ez_put_I (fun w => absurd w.1 (by decide))
              have hA := hB8
              generalize (dz_put g 771 (qz_I g 770 2).toNat (ez_v (.inl (fby a b c e f k)))) = gA at *
              have jA1 := jA 2
              refine ez_go (n := 2) (pc' := 107) (L' := [(7, .inl (f)), (6, .inl (k)), (0, .inr (.inr (some (770)))), (1, .inl (a)), (2, .inl (b)), (3, .inl (c)), (4, .inl (e)), (5, .inl (f))]) (st' := [.inr (.inr (some (770))), .inr (.inr (some (770)))]) rfl ?_
              refine ez_gI hA t770 rfl rfl tq_75 rfl rfl (fun (b11 : 0 ≤ qz_I gA 770 2) (b11' : qz_I gA 770 2 ≤ 4096) => ?_)
              refine ez_go (n := 2) (pc' := 112) (L' := [(7, .inl (f)), (6, .inl (k)), (0, .inr (.inr (some (770)))), (1, .inl (a)), (2, .inl (b)), (3, .inl (c)), (4, .inl (e)), (5, .inl (f))]) (st' := [.inl ((qz_I gA 770 2) + (1)), .inr (.inr (some (770)))]) rfl ?_
              refine ez_pf hA t770 rfl rfl tq_75 rfl rfl rfl rfl (ez_vdI rfl rfl (by omega) (by omega)) (fun hB12 w13 => ?_)
              refine ez_go (n := 2) (pc' := 27) (L' := [(6, .inl (k + 1)), (7, .inl (f)), (0, .inr (.inr (some (770)))), (1, .inl (a)), (2, .inl (b)), (3, .inl (c)), (4, .inl (e)), (5, .inl (f))]) (st' := []) rfl ?_
              refine ez_less [(6, .inl (k + 1)), (0, .inr (.inr (some (770)))), (1, .inl (a)), (2, .inl (b)), (3, .inl (c)), (4, .inl (e)), (5, .inl (f))] rfl ⟨rfl, rfl, rfl, rfl, rfl, rfl, rfl, trivial⟩ ?_
              refine ih (k + 1) _ (by omega) (by omega) (by omega) hB12 (fA.put rfl _ _) (by rw [w13, rz_rd ⟨by omega, by omega⟩]; omega) (fun j hj => by rw [ez_put_I (fun w => hj w.2), jA]; exact hj9 j hj) (fun j => ?_)
              rw [ez_put_I (fun w => absurd w.1 (by decide))]
              by_cases e9 : j = (qz_I g 770 2).toNat
              · rw [e9, vA, if_pos (by omega)]; congr 1; omega
              · rw [iA j e9, ht j]
                by_cases e2 : n ≤ (j : Int) ∧ (j : Int) < n + k
                · rw [if_pos e2, if_pos (by omega)]
                · rw [if_neg e2, if_neg (by omega)]
            · skip
              refine ez_go (n := 4) (pc' := 83) (L' := [(7, .inl (e)), (6, .inl (k)), (0, .inr (.inr (some (770)))), (1, .inl (a)), (2, .inl (b)), (3, .inl (c)), (4, .inl (e)), (5, .inl (f))]) (st' := [.inr (.inr (some (770)))]) rfl ?_
              refine ez_gC (p := 771) (tg := 76) hBg t770 rfl rfl tq_75 rfl rfl (fun (t771 : _ = 76) => ?_)
              refine ez_go (n := 1) (pc' := 87) (L' := [(7, .inl (e)), (6, .inl (k)), (0, .inr (.inr (some (770)))), (1, .inl (a)), (2, .inl (b)), (3, .inl (c)), (4, .inl (e)), (5, .inl (f))]) (st' := [.inr (.inr (some (770))), .inr (.inr (some (771)))]) rfl ?_
              refine ez_gI hBg t770 rfl rfl tq_75 rfl rfl (fun (b14 : 0 ≤ qz_I g 770 2) (b14' : qz_I g 770 2 ≤ 4096) => ?_)
              refine ez_go (n := 5) (pc' := 99) (L' := [(7, .inl (e)), (6, .inl (k)), (0, .inr (.inr (some (770)))), (1, .inl (a)), (2, .inl (b)), (3, .inl (c)), (4, .inl (e)), (5, .inl (f))]) (st' := [.inl (4), .inl (k), .inl (8), .inl (24), .inl (e), .inl (qz_I g 770 2), .inr (.inr (some (771)))]) rfl ?_
              refine ez_rem rfl (by omega) (by omega) (by omega) (by omega) ?_
              refine ez_go (n := 4) (pc' := 104) (L' := [(7, .inl (e)), (6, .inl (k)), (0, .inr (.inr (some (770)))), (1, .inl (a)), (2, .inl (b)), (3, .inl (c)), (4, .inl (e)), (5, .inl (f))]) (st' := [.inl ((Int32.ofInt ((Int32.ofInt (e) >>> (Int32.ofInt ((24) - ((8) * ((k) % (4)))) &&& 31)).toInt)).toInt8.toInt32.toInt), .inl (qz_I g 770 2), .inr (.inr (some (771)))]) rfl ?_
              have efs : fsl a b c e f k = e := by unfold fsl; rw [if_neg (by omega), if_neg (by omega), if_neg (by omega), if_pos (by omega)]
              rw [show (Int32.ofInt ((Int32.ofInt (e) >>> (Int32.ofInt ((24) - ((8) * ((k) % (4)))) &&& 31)).toInt)).toInt8.toInt32.toInt = fby a b c e f k by unfold fby bt; rw [efs]]
              have btb : -128 ≤ fby a b c e f k ∧ fby a b c e f k ≤ 127 := bt_bd _ _
              have n17 : 4096 ≤ qz_N g 771 ∧ qz_N g 771 ≤ 4096 := ez_len hBg t771 tq_76 rfl
              refine ez_ab hBg t771 rfl tq_76 rfl rfl (by omega) (by omega) (by first | omega | exact (i8_bd _).1) (by first | omega | exact (i8_bd _).2) (fun hB15 w16 => ?_)
              have fA : ez_fr (nz_P2 770 771) h (dz_put g 771 (qz_I g 770 2).toNat (ez_v (.inl (fby a b c e f k)))) := hf.put rfl _ _
              have vA : qz_I (dz_put g 771 (qz_I g 770 2).toNat (ez_v (.inl (fby a b c e f k)))) 771 (qz_I g 770 2).toNat = fby a b c e f k := w16.trans (rz_rd ⟨by omega, by omega⟩)
              have iA : ∀ j, j ≠ (qz_I g 770 2).toNat → qz_I (dz_put g 771 (qz_I g 770 2).toNat (ez_v (.inl (fby a b c e f k)))) 771 j = qz_I g 771 j := fun j hj => ez_put_I (fun w => hj w.2)
              have jA : ∀ j, qz_I (dz_put g 771 (qz_I g 770 2).toNat (ez_v (.inl (fby a b c e f k)))) 770 j = qz_I g 770 j := fun j => ez_put_I (fun w => absurd w.1 (by decide))
              have hA := hB15
              generalize (dz_put g 771 (qz_I g 770 2).toNat (ez_v (.inl (fby a b c e f k)))) = gA at *
              have jA1 := jA 2
              refine ez_go (n := 2) (pc' := 107) (L' := [(7, .inl (e)), (6, .inl (k)), (0, .inr (.inr (some (770)))), (1, .inl (a)), (2, .inl (b)), (3, .inl (c)), (4, .inl (e)), (5, .inl (f))]) (st' := [.inr (.inr (some (770))), .inr (.inr (some (770)))]) rfl ?_
              refine ez_gI hA t770 rfl rfl tq_75 rfl rfl (fun (b18 : 0 ≤ qz_I gA 770 2) (b18' : qz_I gA 770 2 ≤ 4096) => ?_)
              refine ez_go (n := 2) (pc' := 112) (L' := [(7, .inl (e)), (6, .inl (k)), (0, .inr (.inr (some (770)))), (1, .inl (a)), (2, .inl (b)), (3, .inl (c)), (4, .inl (e)), (5, .inl (f))]) (st' := [.inl ((qz_I gA 770 2) + (1)), .inr (.inr (some (770)))]) rfl ?_
              refine ez_pf hA t770 rfl rfl tq_75 rfl rfl rfl rfl (ez_vdI rfl rfl (by omega) (by omega)) (fun hB19 w20 => ?_)
              refine ez_go (n := 2) (pc' := 27) (L' := [(6, .inl (k + 1)), (7, .inl (e)), (0, .inr (.inr (some (770)))), (1, .inl (a)), (2, .inl (b)), (3, .inl (c)), (4, .inl (e)), (5, .inl (f))]) (st' := []) rfl ?_
              refine ez_less [(6, .inl (k + 1)), (0, .inr (.inr (some (770)))), (1, .inl (a)), (2, .inl (b)), (3, .inl (c)), (4, .inl (e)), (5, .inl (f))] rfl ⟨rfl, rfl, rfl, rfl, rfl, rfl, rfl, trivial⟩ ?_
              refine ih (k + 1) _ (by omega) (by omega) (by omega) hB19 (fA.put rfl _ _) (by rw [w20, rz_rd ⟨by omega, by omega⟩]; omega) (fun j hj => by rw [ez_put_I (fun w => hj w.2), jA]; exact hj9 j hj) (fun j => ?_)
              rw [ez_put_I (fun w => absurd w.1 (by decide))]
              by_cases e9 : j = (qz_I g 770 2).toNat
              · rw [e9, vA, if_pos (by omega)]; congr 1; omega
              · rw [iA j e9, ht j]
                by_cases e2 : n ≤ (j : Int) ∧ (j : Int) < n + k
                · rw [if_pos e2, if_pos (by omega)]
                · rw [if_neg e2, if_neg (by omega)]
          · skip
            refine ez_go (n := 4) (pc' := 83) (L' := [(7, .inl (c)), (6, .inl (k)), (0, .inr (.inr (some (770)))), (1, .inl (a)), (2, .inl (b)), (3, .inl (c)), (4, .inl (e)), (5, .inl (f))]) (st' := [.inr (.inr (some (770)))]) rfl ?_
            refine ez_gC (p := 771) (tg := 76) hBg t770 rfl rfl tq_75 rfl rfl (fun (t771 : _ = 76) => ?_)
            refine ez_go (n := 1) (pc' := 87) (L' := [(7, .inl (c)), (6, .inl (k)), (0, .inr (.inr (some (770)))), (1, .inl (a)), (2, .inl (b)), (3, .inl (c)), (4, .inl (e)), (5, .inl (f))]) (st' := [.inr (.inr (some (770))), .inr (.inr (some (771)))]) rfl ?_
            refine ez_gI hBg t770 rfl rfl tq_75 rfl rfl (fun (b21 : 0 ≤ qz_I g 770 2) (b21' : qz_I g 770 2 ≤ 4096) => ?_)
            refine ez_go (n := 5) (pc' := 99) (L' := [(7, .inl (c)), (6, .inl (k)), (0, .inr (.inr (some (770)))), (1, .inl (a)), (2, .inl (b)), (3, .inl (c)), (4, .inl (e)), (5, .inl (f))]) (st' := [.inl (4), .inl (k), .inl (8), .inl (24), .inl (c), .inl (qz_I g 770 2), .inr (.inr (some (771)))]) rfl ?_
            refine ez_rem rfl (by omega) (by omega) (by omega) (by omega) ?_
            refine ez_go (n := 4) (pc' := 104) (L' := [(7, .inl (c)), (6, .inl (k)), (0, .inr (.inr (some (770)))), (1, .inl (a)), (2, .inl (b)), (3, .inl (c)), (4, .inl (e)), (5, .inl (f))]) (st' := [.inl ((Int32.ofInt ((Int32.ofInt (c) >>> (Int32.ofInt ((24) - ((8) * ((k) % (4)))) &&& 31)).toInt)).toInt8.toInt32.toInt), .inl (qz_I g 770 2), .inr (.inr (some (771)))]) rfl ?_
            have efs : fsl a b c e f k = c := by unfold fsl; rw [if_neg (by omega), if_neg (by omega), if_pos (by omega)]
            rw [show (Int32.ofInt ((Int32.ofInt (c) >>> (Int32.ofInt ((24) - ((8) * ((k) % (4)))) &&& 31)).toInt)).toInt8.toInt32.toInt = fby a b c e f k by unfold fby bt; rw [efs]]
            have btb : -128 ≤ fby a b c e f k ∧ fby a b c e f k ≤ 127 := bt_bd _ _
            have n24 : 4096 ≤ qz_N g 771 ∧ qz_N g 771 ≤ 4096 := ez_len hBg t771 tq_76 rfl
            refine ez_ab hBg t771 rfl tq_76 rfl rfl (by omega) (by omega) (by first | omega | exact (i8_bd _).1) (by first | omega | exact (i8_bd _).2) (fun hB22 w23 => ?_)
            have fA : ez_fr (nz_P2 770 771) h (dz_put g 771 (qz_I g 770 2).toNat (ez_v (.inl (fby a b c e f k)))) := hf.put rfl _ _
            have vA : qz_I (dz_put g 771 (qz_I g 770 2).toNat (ez_v (.inl (fby a b c e f k)))) 771 (qz_I g 770 2).toNat = fby a b c e f k := w23.trans (rz_rd ⟨by omega, by omega⟩)
            have iA : ∀ j, j ≠ (qz_I g 770 2).toNat → qz_I (dz_put g 771 (qz_I g 770 2).toNat (ez_v (.inl (fby a b c e f k)))) 771 j = qz_I g 771 j := fun j hj => ez_put_I (fun w => hj w.2)
            have jA : ∀ j, qz_I (dz_put g 771 (qz_I g 770 2).toNat (ez_v (.inl (fby a b c e f k)))) 770 j = qz_I g 770 j := fun j => ez_put_I (fun w => absurd w.1 (by decide))
            have hA := hB22
            generalize (dz_put g 771 (qz_I g 770 2).toNat (ez_v (.inl (fby a b c e f k)))) = gA at *
            have jA1 := jA 2
            refine ez_go (n := 2) (pc' := 107) (L' := [(7, .inl (c)), (6, .inl (k)), (0, .inr (.inr (some (770)))), (1, .inl (a)), (2, .inl (b)), (3, .inl (c)), (4, .inl (e)), (5, .inl (f))]) (st' := [.inr (.inr (some (770))), .inr (.inr (some (770)))]) rfl ?_
            refine ez_gI hA t770 rfl rfl tq_75 rfl rfl (fun (b25 : 0 ≤ qz_I gA 770 2) (b25' : qz_I gA 770 2 ≤ 4096) => ?_)
            refine ez_go (n := 2) (pc' := 112) (L' := [(7, .inl (c)), (6, .inl (k)), (0, .inr (.inr (some (770)))), (1, .inl (a)), (2, .inl (b)), (3, .inl (c)), (4, .inl (e)), (5, .inl (f))]) (st' := [.inl ((qz_I gA 770 2) + (1)), .inr (.inr (some (770)))]) rfl ?_
            refine ez_pf hA t770 rfl rfl tq_75 rfl rfl rfl rfl (ez_vdI rfl rfl (by omega) (by omega)) (fun hB26 w27 => ?_)
            refine ez_go (n := 2) (pc' := 27) (L' := [(6, .inl (k + 1)), (7, .inl (c)), (0, .inr (.inr (some (770)))), (1, .inl (a)), (2, .inl (b)), (3, .inl (c)), (4, .inl (e)), (5, .inl (f))]) (st' := []) rfl ?_
            refine ez_less [(6, .inl (k + 1)), (0, .inr (.inr (some (770)))), (1, .inl (a)), (2, .inl (b)), (3, .inl (c)), (4, .inl (e)), (5, .inl (f))] rfl ⟨rfl, rfl, rfl, rfl, rfl, rfl, rfl, trivial⟩ ?_
            refine ih (k + 1) _ (by omega) (by omega) (by omega) hB26 (fA.put rfl _ _) (by rw [w27, rz_rd ⟨by omega, by omega⟩]; omega) (fun j hj => by rw [ez_put_I (fun w => hj w.2), jA]; exact hj9 j hj) (fun j => ?_)
            rw [ez_put_I (fun w => absurd w.1 (by decide))]
            by_cases e9 : j = (qz_I g 770 2).toNat
            · rw [e9, vA, if_pos (by omega)]; congr 1; omega
            · rw [iA j e9, ht j]
              by_cases e2 : n ≤ (j : Int) ∧ (j : Int) < n + k
              · rw [if_pos e2, if_pos (by omega)]
              · rw [if_neg e2, if_neg (by omega)]
        · skip
          refine ez_go (n := 4) (pc' := 83) (L' := [(7, .inl (b)), (6, .inl (k)), (0, .inr (.inr (some (770)))), (1, .inl (a)), (2, .inl (b)), (3, .inl (c)), (4, .inl (e)), (5, .inl (f))]) (st' := [.inr (.inr (some (770)))]) rfl ?_
          refine ez_gC (p := 771) (tg := 76) hBg t770 rfl rfl tq_75 rfl rfl (fun (t771 : _ = 76) => ?_)
          refine ez_go (n := 1) (pc' := 87) (L' := [(7, .inl (b)), (6, .inl (k)), (0, .inr (.inr (some (770)))), (1, .inl (a)), (2, .inl (b)), (3, .inl (c)), (4, .inl (e)), (5, .inl (f))]) (st' := [.inr (.inr (some (770))), .inr (.inr (some (771)))]) rfl ?_
          refine ez_gI hBg t770 rfl rfl tq_75 rfl rfl (fun (b28 : 0 ≤ qz_I g 770 2) (b28' : qz_I g 770 2 ≤ 4096) => ?_)
          refine ez_go (n := 5) (pc' := 99) (L' := [(7, .inl (b)), (6, .inl (k)), (0, .inr (.inr (some (770)))), (1, .inl (a)), (2, .inl (b)), (3, .inl (c)), (4, .inl (e)), (5, .inl (f))]) (st' := [.inl (4), .inl (k), .inl (8), .inl (24), .inl (b), .inl (qz_I g 770 2), .inr (.inr (some (771)))]) rfl ?_
          refine ez_rem rfl (by omega) (by omega) (by omega) (by omega) ?_
          refine ez_go (n := 4) (pc' := 104) (L' := [(7, .inl (b)), (6, .inl (k)), (0, .inr (.inr (some (770)))), (1, .inl (a)), (2, .inl (b)), (3, .inl (c)), (4, .inl (e)), (5, .inl (f))]) (st' := [.inl ((Int32.ofInt ((Int32.ofInt (b) >>> (Int32.ofInt ((24) - ((8) * ((k) % (4)))) &&& 31)).toInt)).toInt8.toInt32.toInt), .inl (qz_I g 770 2), .inr (.inr (some (771)))]) rfl ?_
          have efs : fsl a b c e f k = b := by unfold fsl; rw [if_neg (by omega), if_pos (by omega)]
          rw [show (Int32.ofInt ((Int32.ofInt (b) >>> (Int32.ofInt ((24) - ((8) * ((k) % (4)))) &&& 31)).toInt)).toInt8.toInt32.toInt = fby a b c e f k by unfold fby bt; rw [efs]]
          have btb : -128 ≤ fby a b c e f k ∧ fby a b c e f k ≤ 127 := bt_bd _ _
          have n31 : 4096 ≤ qz_N g 771 ∧ qz_N g 771 ≤ 4096 := ez_len hBg t771 tq_76 rfl
          refine ez_ab hBg t771 rfl tq_76 rfl rfl (by omega) (by omega) (by first | omega | exact (i8_bd _).1) (by first | omega | exact (i8_bd _).2) (fun hB29 w30 => ?_)
          have fA : ez_fr (nz_P2 770 771) h (dz_put g 771 (qz_I g 770 2).toNat (ez_v (.inl (fby a b c e f k)))) := hf.put rfl _ _
          have vA : qz_I (dz_put g 771 (qz_I g 770 2).toNat (ez_v (.inl (fby a b c e f k)))) 771 (qz_I g 770 2).toNat = fby a b c e f k := w30.trans (rz_rd ⟨by omega, by omega⟩)
          have iA : ∀ j, j ≠ (qz_I g 770 2).toNat → qz_I (dz_put g 771 (qz_I g 770 2).toNat (ez_v (.inl (fby a b c e f k)))) 771 j = qz_I g 771 j := fun j hj => ez_put_I (fun w => hj w.2)
          have jA : ∀ j, qz_I (dz_put g 771 (qz_I g 770 2).toNat (ez_v (.inl (fby a b c e f k)))) 770 j = qz_I g 770 j := fun j => ez_put_I (fun w => absurd w.1 (by decide))
          have hA := hB29
          generalize (dz_put g 771 (qz_I g 770 2).toNat (ez_v (.inl (fby a b c e f k)))) = gA at *
          have jA1 := jA 2
          refine ez_go (n := 2) (pc' := 107) (L' := [(7, .inl (b)), (6, .inl (k)), (0, .inr (.inr (some (770)))), (1, .inl (a)), (2, .inl (b)), (3, .inl (c)), (4, .inl (e)), (5, .inl (f))]) (st' := [.inr (.inr (some (770))), .inr (.inr (some (770)))]) rfl ?_
          refine ez_gI hA t770 rfl rfl tq_75 rfl rfl (fun (b32 : 0 ≤ qz_I gA 770 2) (b32' : qz_I gA 770 2 ≤ 4096) => ?_)
          refine ez_go (n := 2) (pc' := 112) (L' := [(7, .inl (b)), (6, .inl (k)), (0, .inr (.inr (some (770)))), (1, .inl (a)), (2, .inl (b)), (3, .inl (c)), (4, .inl (e)), (5, .inl (f))]) (st' := [.inl ((qz_I gA 770 2) + (1)), .inr (.inr (some (770)))]) rfl ?_
          refine ez_pf hA t770 rfl rfl tq_75 rfl rfl rfl rfl (ez_vdI rfl rfl (by omega) (by omega)) (fun hB33 w34 => ?_)
          refine ez_go (n := 2) (pc' := 27) (L' := [(6, .inl (k + 1)), (7, .inl (b)), (0, .inr (.inr (some (770)))), (1, .inl (a)), (2, .inl (b)), (3, .inl (c)), (4, .inl (e)), (5, .inl (f))]) (st' := []) rfl ?_
          refine ez_less [(6, .inl (k + 1)), (0, .inr (.inr (some (770)))), (1, .inl (a)), (2, .inl (b)), (3, .inl (c)), (4, .inl (e)), (5, .inl (f))] rfl ⟨rfl, rfl, rfl, rfl, rfl, rfl, rfl, trivial⟩ ?_
          refine ih (k + 1) _ (by omega) (by omega) (by omega) hB33 (fA.put rfl _ _) (by rw [w34, rz_rd ⟨by omega, by omega⟩]; omega) (fun j hj => by rw [ez_put_I (fun w => hj w.2), jA]; exact hj9 j hj) (fun j => ?_)
          rw [ez_put_I (fun w => absurd w.1 (by decide))]
          by_cases e9 : j = (qz_I g 770 2).toNat
          · rw [e9, vA, if_pos (by omega)]; congr 1; omega
          · rw [iA j e9, ht j]
            by_cases e2 : n ≤ (j : Int) ∧ (j : Int) < n + k
            · rw [if_pos e2, if_pos (by omega)]
            · rw [if_neg e2, if_neg (by omega)]
      · skip
        refine ez_go (n := 4) (pc' := 83) (L' := [(7, .inl (a)), (6, .inl (k)), (0, .inr (.inr (some (770)))), (1, .inl (a)), (2, .inl (b)), (3, .inl (c)), (4, .inl (e)), (5, .inl (f))]) (st' := [.inr (.inr (some (770)))]) rfl ?_
        refine ez_gC (p := 771) (tg := 76) hBg t770 rfl rfl tq_75 rfl rfl (fun (t771 : _ = 76) => ?_)
        refine ez_go (n := 1) (pc' := 87) (L' := [(7, .inl (a)), (6, .inl (k)), (0, .inr (.inr (some (770)))), (1, .inl (a)), (2, .inl (b)), (3, .inl (c)), (4, .inl (e)), (5, .inl (f))]) (st' := [.inr (.inr (some (770))), .inr (.inr (some (771)))]) rfl ?_
        refine ez_gI hBg t770 rfl rfl tq_75 rfl rfl (fun (b35 : 0 ≤ qz_I g 770 2) (b35' : qz_I g 770 2 ≤ 4096) => ?_)
        refine ez_go (n := 5) (pc' := 99) (L' := [(7, .inl (a)), (6, .inl (k)), (0, .inr (.inr (some (770)))), (1, .inl (a)), (2, .inl (b)), (3, .inl (c)), (4, .inl (e)), (5, .inl (f))]) (st' := [.inl (4), .inl (k), .inl (8), .inl (24), .inl (a), .inl (qz_I g 770 2), .inr (.inr (some (771)))]) rfl ?_
        refine ez_rem rfl (by omega) (by omega) (by omega) (by omega) ?_
        refine ez_go (n := 4) (pc' := 104) (L' := [(7, .inl (a)), (6, .inl (k)), (0, .inr (.inr (some (770)))), (1, .inl (a)), (2, .inl (b)), (3, .inl (c)), (4, .inl (e)), (5, .inl (f))]) (st' := [.inl ((Int32.ofInt ((Int32.ofInt (a) >>> (Int32.ofInt ((24) - ((8) * ((k) % (4)))) &&& 31)).toInt)).toInt8.toInt32.toInt), .inl (qz_I g 770 2), .inr (.inr (some (771)))]) rfl ?_
        have efs : fsl a b c e f k = a := by unfold fsl; rw [if_pos (by omega)]
        rw [show (Int32.ofInt ((Int32.ofInt (a) >>> (Int32.ofInt ((24) - ((8) * ((k) % (4)))) &&& 31)).toInt)).toInt8.toInt32.toInt = fby a b c e f k by unfold fby bt; rw [efs]]
        have btb : -128 ≤ fby a b c e f k ∧ fby a b c e f k ≤ 127 := bt_bd _ _
        have n38 : 4096 ≤ qz_N g 771 ∧ qz_N g 771 ≤ 4096 := ez_len hBg t771 tq_76 rfl
        refine ez_ab hBg t771 rfl tq_76 rfl rfl (by omega) (by omega) (by first | omega | exact (i8_bd _).1) (by first | omega | exact (i8_bd _).2) (fun hB36 w37 => ?_)
        have fA : ez_fr (nz_P2 770 771) h (dz_put g 771 (qz_I g 770 2).toNat (ez_v (.inl (fby a b c e f k)))) := hf.put rfl _ _
        have vA : qz_I (dz_put g 771 (qz_I g 770 2).toNat (ez_v (.inl (fby a b c e f k)))) 771 (qz_I g 770 2).toNat = fby a b c e f k := w37.trans (rz_rd ⟨by omega, by omega⟩)
        have iA : ∀ j, j ≠ (qz_I g 770 2).toNat → qz_I (dz_put g 771 (qz_I g 770 2).toNat (ez_v (.inl (fby a b c e f k)))) 771 j = qz_I g 771 j := fun j hj => ez_put_I (fun w => hj w.2)
        have jA : ∀ j, qz_I (dz_put g 771 (qz_I g 770 2).toNat (ez_v (.inl (fby a b c e f k)))) 770 j = qz_I g 770 j := fun j => ez_put_I (fun w => absurd w.1 (by decide))
        have hA := hB36
        generalize (dz_put g 771 (qz_I g 770 2).toNat (ez_v (.inl (fby a b c e f k)))) = gA at *
        have jA1 := jA 2
        refine ez_go (n := 2) (pc' := 107) (L' := [(7, .inl (a)), (6, .inl (k)), (0, .inr (.inr (some (770)))), (1, .inl (a)), (2, .inl (b)), (3, .inl (c)), (4, .inl (e)), (5, .inl (f))]) (st' := [.inr (.inr (some (770))), .inr (.inr (some (770)))]) rfl ?_
        refine ez_gI hA t770 rfl rfl tq_75 rfl rfl (fun (b39 : 0 ≤ qz_I gA 770 2) (b39' : qz_I gA 770 2 ≤ 4096) => ?_)
        refine ez_go (n := 2) (pc' := 112) (L' := [(7, .inl (a)), (6, .inl (k)), (0, .inr (.inr (some (770)))), (1, .inl (a)), (2, .inl (b)), (3, .inl (c)), (4, .inl (e)), (5, .inl (f))]) (st' := [.inl ((qz_I gA 770 2) + (1)), .inr (.inr (some (770)))]) rfl ?_
        refine ez_pf hA t770 rfl rfl tq_75 rfl rfl rfl rfl (ez_vdI rfl rfl (by omega) (by omega)) (fun hB40 w41 => ?_)
        refine ez_go (n := 2) (pc' := 27) (L' := [(6, .inl (k + 1)), (7, .inl (a)), (0, .inr (.inr (some (770)))), (1, .inl (a)), (2, .inl (b)), (3, .inl (c)), (4, .inl (e)), (5, .inl (f))]) (st' := []) rfl ?_
        refine ez_less [(6, .inl (k + 1)), (0, .inr (.inr (some (770)))), (1, .inl (a)), (2, .inl (b)), (3, .inl (c)), (4, .inl (e)), (5, .inl (f))] rfl ⟨rfl, rfl, rfl, rfl, rfl, rfl, rfl, trivial⟩ ?_
        refine ih (k + 1) _ (by omega) (by omega) (by omega) hB40 (fA.put rfl _ _) (by rw [w41, rz_rd ⟨by omega, by omega⟩]; omega) (fun j hj => by rw [ez_put_I (fun w => hj w.2), jA]; exact hj9 j hj) (fun j => ?_)
        rw [ez_put_I (fun w => absurd w.1 (by decide))]
        by_cases e9 : j = (qz_I g 770 2).toNat
        · rw [e9, vA, if_pos (by omega)]; congr 1; omega
        · rw [iA j e9, ht j]
          by_cases e2 : n ≤ (j : Int) ∧ (j : Int) < n + k
          · rw [if_pos e2, if_pos (by omega)]
          · rw [if_neg e2, if_neg (by omega)]

theorem rd_mfeed {n a b c e f : Int} (hB : ez_B τ h) (t770 : τ 770 = 75) (ar : ez_rg a) (br : ez_rg b) (cr : ez_rg c) (er : ez_rg e) (fr : ez_rg f) (hn : qz_I h 770 2 = n) (k1 : n + 20 ≤ 4096 → ∀ g, ez_B τ g → ez_fr (nz_P2 770 771) h g → qz_I g 770 2 = n + 20 → (∀ j, j ≠ 0 → j ≠ 2 → qz_I g 770 j = qz_I h 770 j) → (∀ j : Nat, qz_I g 771 j = if n ≤ (j : Int) ∧ (j : Int) < n + 20 then fby a b c e f ((j : Int) - n) else qz_I h 771 j) → qz_I g 770 0 = 0 → Q (.inl (some (ez_v (.inl (n + 20)))), g)) (k0 : ¬ n + 20 ≤ 4096 → ∀ g, ez_B τ g → ez_fr (ez_one 770) h g → (∀ j, j ≠ 0 → qz_I g 770 j = qz_I h 770 j) → qz_I g 770 0 = 1 → Q (.inl (some (ez_v (.inl 0))), g)) : ez_W (d + 1) cm_253 0 [(0, .inr (.inr (some (770)))), (1, .inl (a)), (2, .inl (b)), (3, .inl (c)), (4, .inl (e)), (5, .inl (f))] [] h Q := by
  have b2 : 0 ≤ qz_I h 770 2 ∧ qz_I h 770 2 ≤ 4096 := ez_fB (cl := 11) (k := 2) hB t770 tq_75 rfl rfl (by decide)
  refine ez_go (n := 2) (pc' := 2) (L' := [(0, .inr (.inr (some (770)))), (1, .inl (a)), (2, .inl (b)), (3, .inl (c)), (4, .inl (e)), (5, .inl (f))]) (st' := [.inl (0), .inr (.inr (some (770)))]) rfl ?_
  refine ez_pf hB t770 rfl rfl tq_75 rfl rfl rfl rfl (ez_vdI rfl rfl (by omega) (by omega)) (fun hB1 w2 => ?_)
  have fP : ez_fr (ez_one 770) h (dz_put h 770 0 (ez_v (.inl (0)))) := (ez_fr.refl (ez_one 770) h).put rfl _ _
  have vP : qz_I (dz_put h 770 0 (ez_v (.inl (0)))) 770 0 = 0 := w2.trans (rz_rd ⟨by omega, by omega⟩)
  have iP : ∀ j, j ≠ 0 → qz_I (dz_put h 770 0 (ez_v (.inl (0)))) 770 j = qz_I h 770 j := fun j hj => ez_put_I (fun w => hj w.2)
  have hP := hB1
  generalize (dz_put h 770 0 (ez_v (.inl (0)))) = h1 at *
  have cP1 := fP.1; have cP2 := fP.2.1
  have e2 := iP 2 (by decide)
  refine ez_go (n := 1) (pc' := 6) (L' := [(0, .inr (.inr (some (770)))), (1, .inl (a)), (2, .inl (b)), (3, .inl (c)), (4, .inl (e)), (5, .inl (f))]) (st' := [.inr (.inr (some (770)))]) rfl ?_
  refine ez_gI hP t770 rfl rfl tq_75 rfl rfl (fun (b3 : 0 ≤ qz_I h1 770 2) (b3' : qz_I h1 770 2 ≤ 4096) => ?_)
  refine ez_go (n := 3) (pc' := 15) (L' := [(0, .inr (.inr (some (770)))), (1, .inl (a)), (2, .inl (b)), (3, .inl (c)), (4, .inl (e)), (5, .inl (f))]) (st' := [.inl (4096), .inl ((qz_I h1 770 2) + (20))]) rfl ?_
  refine ez_icmp rfl rfl ⟨by first | omega | exact (sz_i32 _).1, by first | omega | exact (sz_i32 _).2⟩ ⟨by first | omega | exact (sz_i32 _).1, by first | omega | exact (sz_i32 _).2⟩ (fun (c4 : ((qz_I h1 770 2) + (20)) ≤ (4096)) => ?_) (fun (c4 : ¬(((qz_I h1 770 2) + (20)) ≤ (4096))) => ?_)
  · skip
    refine ez_go (n := 2) (pc' := 27) (L' := [(6, .inl (0)), (0, .inr (.inr (some (770)))), (1, .inl (a)), (2, .inl (b)), (3, .inl (c)), (4, .inl (e)), (5, .inl (f))]) (st' := []) rfl ?_
    refine ez_less [(6, .inl (0)), (0, .inr (.inr (some (770)))), (1, .inl (a)), (2, .inl (b)), (3, .inl (c)), (4, .inl (e)), (5, .inl (f))] rfl ⟨rfl, rfl, rfl, rfl, rfl, rfl, rfl, trivial⟩ ?_
    refine rd_mfeed_l (h := h1) (n := n) t770 ar br cr er fr (by omega) (by omega) (fun g hBg hf hl hj9 ht => ?_) _ 0 h1 rfl (by omega) (by omega) hP (ez_fr.refl _ _) (by omega) (fun _ _ => rfl) (fun j => by rw [if_neg (by omega)])
    refine k1 (by omega) g hBg ⟨hf.1.trans fP.1, hf.2.1.trans fP.2.1, fun q hq => ?_⟩ hl (fun j j0 j2 => by rw [hj9 j j2, iP j j0]) (fun j => ?_) (by rw [hj9 0 (by decide)]; exact vP)
    · rw [hf.2.2 q hq, fP.2.2 q (Bool.or_eq_false_iff.mp hq).1]
    · rw [ht j]
      by_cases e9 : n ≤ (j : Int) ∧ (j : Int) < n + 20
      · rw [if_pos e9, if_pos e9]
      · rw [if_neg e9, if_neg e9]; exact fP.I rfl j
  · skip
    refine ez_go (n := 2) (pc' := 20) (L' := [(0, .inr (.inr (some (770)))), (1, .inl (a)), (2, .inl (b)), (3, .inl (c)), (4, .inl (e)), (5, .inl (f))]) (st' := [.inl (1), .inr (.inr (some (770)))]) rfl ?_
    refine ez_cv hP t770 rfl rfl rfl tq_75 rfl rfl rfl (rd_mfail hP t770 (by omega) (by omega) (fun gf hBf ff9 jf vf0 => ez_K1 ?_))
    exact ez_retI rfl rfl (k0 (by omega) gf hBf (fP.trans ff9) (fun j hj => by rw [jf j hj, iP j hj]) vf0)

end EzFe
