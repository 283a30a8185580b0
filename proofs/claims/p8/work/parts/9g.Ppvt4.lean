/-! The class: FORMS. (Written by wip/p2/py/pvt4.py.) -/
section EzCo
variable {d : Nat} {h : cz_H} {τ : Nat → Nat} {Q : cz_F → Prop} {T : Int → Nat} {F : rz_W} {E : Int → Prop} {r : Nat}
theorem so_keep {p : Nat} {g : cz_H} (hX : jz_X τ) (tp : τ p = 2) (f : ez_fr (so_P p) h g) {q : Nat} (q2 : τ q ≠ 2) (q6 : τ q < 62 ∨ 64 < τ q) : g.2.2 q = h.2.2 q := f.2.2 q (so_Pn (fun e => q2 (by rw [e]; exact tp)) (by
  by_cases e : 730 ≤ q ∧ q ≤ 732
  · have : q = 730 ∨ q = 731 ∨ q = 732 := by omega
    have t0 : τ 730 = 62 := hX 730 (by decide)
    have t1 : τ 731 = 63 := hX 731 (by decide)
    have t2 : τ 732 = 64 := hX 732 (by decide)
    rcases this with e | e | e <;> (subst e; omega)
  · omega))
theorem so_kD {p : Nat} {g : cz_H} (hX : jz_X τ) (tp : τ p = 2) (f : ez_fr (so_P p) h g) : ∀ q, kD (τ q) = true → g.2.2 q = h.2.2 q := fun q hq => so_keep hX tp f (fun e => by rw [e] at hq; cases hq) (by
  by_cases e : 62 ≤ τ q ∧ τ q ≤ 64
  · have : τ q = 62 ∨ τ q = 63 ∨ τ q = 64 := by omega
    rcases this with e | e | e <;> (rw [e] at hq; cases hq)
  · omega)
theorem pz_rg {x : Int} (hC : pz_C τ h T F E) (x0 : 0 ≤ x) (x1 : x ≤ 1114111) : ez_rg (F x).1 := by
  obtain ⟨tT, f2, -⟩ := hC.2.2.2.2 x x0 x1
  rw [← f2]
  exact (ez_fB (cl := 3) (k := 2) hC.1 tT tq_3 rfl rfl (by decide) : -2147483648 ≤ qz_I h (T x) 2 ∧ qz_I h (T x) 2 ≤ 2147483647)
theorem rd_sylOf {a b : Int} (a0 : 0 ≤ a) (a1 : a ≤ 1114111) (b0 : 0 ≤ b) (b1 : b ≤ 1114111) (k1 : hz_pair a b → Q (.inl (some (ez_v (.inl (hzv a b)))), h)) (k0 : ¬ hz_pair a b → Q (.inl (some (ez_v (.inl (-1)))), h)) : ez_W d cm_131 0 [(0, .inl (a)), (1, .inl (b))] [] h Q := by
  refine ez_go (n := 2) (pc' := 4) (L' := [(0, .inl (a)), (1, .inl (b))]) (st' := [.inl (4352), .inl (a)]) rfl ?_
  refine ez_icmp rfl rfl ⟨by first | omega | exact (sz_i32 _).1, by first | omega | exact (sz_i32 _).2⟩ ⟨by first | omega | exact (sz_i32 _).1, by first | omega | exact (sz_i32 _).2⟩ (fun (c1 : (a) < (4352)) => ?_) (fun (c1 : ¬((a) < (4352))) => ?_)
  · skip
    refine ez_go (n := 1) (pc' := 51) (L' := [(0, .inl (a)), (1, .inl (b))]) (st' := [.inl (a)]) rfl ?_
    refine ez_ldc (44032) rfl rfl rfl ?_
    refine ez_go (n := 3) (pc' := 56) (L' := [(2, .inl ((a) - (44032))), (0, .inl (a)), (1, .inl (b))]) (st' := [.inl ((a) - (44032))]) rfl ?_
    refine ez_if rfl rfl ⟨by first | omega | exact (sz_i32 _).1, by first | omega | exact (sz_i32 _).2⟩ (fun (c2 : ((a) - (44032)) < (0)) => ?_) (fun (c2 : ¬(((a) - (44032)) < (0))) => ?_)
    · skip
      refine ez_go (n := 3) (pc' := 79) (L' := [(3, .inl (0)), (2, .inl ((a) - (44032))), (0, .inl (a)), (1, .inl (b))]) (st' := [.inl (0)]) rfl ?_
      refine ez_if rfl rfl ⟨by decide, by decide⟩ (fun _ => ?_) (fun (c3 : ¬((0 : Int) = (0))) => absurd c3 (by decide))
      refine ez_go (n := 1) (pc' := 107) (L' := [(3, .inl (0)), (2, .inl ((a) - (44032))), (0, .inl (a)), (1, .inl (b))]) (st' := [.inl (-1)]) rfl ?_
      exact ez_retI rfl rfl (k0 (fun w => by rcases w with w | ⟨⟨w1, w2⟩, w3, w4⟩ <;> omega))
    · skip
      refine ez_go (n := 1) (pc' := 60) (L' := [(2, .inl ((a) - (44032))), (0, .inl (a)), (1, .inl (b))]) (st' := [.inl (a)]) rfl ?_
      refine ez_ldc (55203) rfl rfl rfl ?_
      refine ez_icmp rfl rfl ⟨by first | omega | exact (sz_i32 _).1, by first | omega | exact (sz_i32 _).2⟩ ⟨by first | omega | exact (sz_i32 _).1, by first | omega | exact (sz_i32 _).2⟩ (fun (c4 : (55203) < (a)) => ?_) (fun (c4 : ¬((55203) < (a))) => ?_)
      · skip
        refine ez_go (n := 3) (pc' := 79) (L' := [(3, .inl (0)), (2, .inl ((a) - (44032))), (0, .inl (a)), (1, .inl (b))]) (st' := [.inl (0)]) rfl ?_
        refine ez_if rfl rfl ⟨by decide, by decide⟩ (fun _ => ?_) (fun (c5 : ¬((0 : Int) = (0))) => absurd c5 (by decide))
        refine ez_go (n := 1) (pc' := 107) (L' := [(3, .inl (0)), (2, .inl ((a) - (44032))), (0, .inl (a)), (1, .inl (b))]) (st' := [.inl (-1)]) rfl ?_
        exact ez_retI rfl rfl (k0 (fun w => by rcases w with w | ⟨⟨w1, w2⟩, w3, w4⟩ <;> omega))
      · skip
        refine ez_go (n := 2) (pc' := 68) (L' := [(2, .inl ((a) - (44032))), (0, .inl (a)), (1, .inl (b))]) (st' := [.inl (28), .inl ((a) - (44032))]) rfl ?_
        refine ez_rem rfl (by omega) (by omega) (by omega) (by omega) ?_
        refine ez_if rfl rfl ⟨by first | omega | exact (sz_i32 _).1, by first | omega | exact (sz_i32 _).2⟩ (fun (c6 : (((a) - (44032)) % (28)) ≠ (0)) => ?_) (fun (c6 : ¬((((a) - (44032)) % (28)) ≠ (0))) => ?_)
        · skip
          refine ez_go (n := 3) (pc' := 79) (L' := [(3, .inl (0)), (2, .inl ((a) - (44032))), (0, .inl (a)), (1, .inl (b))]) (st' := [.inl (0)]) rfl ?_
          refine ez_if rfl rfl ⟨by decide, by decide⟩ (fun _ => ?_) (fun (c7 : ¬((0 : Int) = (0))) => absurd c7 (by decide))
          refine ez_go (n := 1) (pc' := 107) (L' := [(3, .inl (0)), (2, .inl ((a) - (44032))), (0, .inl (a)), (1, .inl (b))]) (st' := [.inl (-1)]) rfl ?_
          exact ez_retI rfl rfl (k0 (fun w => by rcases w with w | ⟨⟨w1, w2⟩, w3, w4⟩ <;> omega))
        · skip
          refine ez_go (n := 4) (pc' := 79) (L' := [(3, .inl (1)), (2, .inl ((a) - (44032))), (0, .inl (a)), (1, .inl (b))]) (st' := [.inl (1)]) rfl ?_
          refine ez_if rfl rfl ⟨by decide, by decide⟩ (fun (c8 : (1 : Int) = (0)) => absurd c8 (by decide)) (fun _ => ?_)
          refine ez_go (n := 2) (pc' := 86) (L' := [(3, .inl (1)), (2, .inl ((a) - (44032))), (0, .inl (a)), (1, .inl (b))]) (st' := [.inl (4520), .inl (b)]) rfl ?_
          refine ez_icmp rfl rfl ⟨by first | omega | exact (sz_i32 _).1, by first | omega | exact (sz_i32 _).2⟩ ⟨by first | omega | exact (sz_i32 _).1, by first | omega | exact (sz_i32 _).2⟩ (fun (c9 : (b) < (4520)) => ?_) (fun (c9 : ¬((b) < (4520))) => ?_)
          · skip
            refine ez_go (n := 1) (pc' := 107) (L' := [(3, .inl (1)), (2, .inl ((a) - (44032))), (0, .inl (a)), (1, .inl (b))]) (st' := [.inl (-1)]) rfl ?_
            exact ez_retI rfl rfl (k0 (fun w => by rcases w with w | ⟨⟨w1, w2⟩, w3, w4⟩ <;> omega))
          · skip
            refine ez_go (n := 2) (pc' := 93) (L' := [(3, .inl (1)), (2, .inl ((a) - (44032))), (0, .inl (a)), (1, .inl (b))]) (st' := [.inl (4546), .inl (b)]) rfl ?_
            refine ez_icmp rfl rfl ⟨by first | omega | exact (sz_i32 _).1, by first | omega | exact (sz_i32 _).2⟩ ⟨by first | omega | exact (sz_i32 _).1, by first | omega | exact (sz_i32 _).2⟩ (fun (c10 : (4546) < (b)) => ?_) (fun (c10 : ¬((4546) < (b))) => ?_)
            · skip
              refine ez_go (n := 1) (pc' := 107) (L' := [(3, .inl (1)), (2, .inl ((a) - (44032))), (0, .inl (a)), (1, .inl (b))]) (st' := [.inl (-1)]) rfl ?_
              exact ez_retI rfl rfl (k0 (fun w => by rcases w with w | ⟨⟨w1, w2⟩, w3, w4⟩ <;> omega))
            · skip
              refine ez_go (n := 6) (pc' := 107) (L' := [(3, .inl (1)), (2, .inl ((a) - (44032))), (0, .inl (a)), (1, .inl (b))]) (st' := [.inl (((a) + (b)) - (4519))]) rfl ?_
              have hh : hz_pair a b := by first | (exact Or.inl ⟨⟨by omega, by omega⟩, by omega, by omega⟩) | (exact Or.inr ⟨⟨by omega, by omega⟩, by omega, by omega, by omega⟩)
              have ev : ((a) + (b)) - (4519) = hzv a b := by unfold hzv; split <;> omega
              rw [ev]
              exact ez_retI rfl rfl (k1 hh)
  · skip
    refine ez_go (n := 2) (pc' := 11) (L' := [(0, .inl (a)), (1, .inl (b))]) (st' := [.inl (4370), .inl (a)]) rfl ?_
    refine ez_icmp rfl rfl ⟨by first | omega | exact (sz_i32 _).1, by first | omega | exact (sz_i32 _).2⟩ ⟨by first | omega | exact (sz_i32 _).1, by first | omega | exact (sz_i32 _).2⟩ (fun (c11 : (4370) < (a)) => ?_) (fun (c11 : ¬((4370) < (a))) => ?_)
    · skip
      refine ez_go (n := 1) (pc' := 51) (L' := [(0, .inl (a)), (1, .inl (b))]) (st' := [.inl (a)]) rfl ?_
      refine ez_ldc (44032) rfl rfl rfl ?_
      refine ez_go (n := 3) (pc' := 56) (L' := [(2, .inl ((a) - (44032))), (0, .inl (a)), (1, .inl (b))]) (st' := [.inl ((a) - (44032))]) rfl ?_
      refine ez_if rfl rfl ⟨by first | omega | exact (sz_i32 _).1, by first | omega | exact (sz_i32 _).2⟩ (fun (c12 : ((a) - (44032)) < (0)) => ?_) (fun (c12 : ¬(((a) - (44032)) < (0))) => ?_)
      · skip
        refine ez_go (n := 3) (pc' := 79) (L' := [(3, .inl (0)), (2, .inl ((a) - (44032))), (0, .inl (a)), (1, .inl (b))]) (st' := [.inl (0)]) rfl ?_
        refine ez_if rfl rfl ⟨by decide, by decide⟩ (fun _ => ?_) (fun (c13 : ¬((0 : Int) = (0))) => absurd c13 (by decide))
        refine ez_go (n := 1) (pc' := 107) (L' := [(3, .inl (0)), (2, .inl ((a) - (44032))), (0, .inl (a)), (1, .inl (b))]) (st' := [.inl (-1)]) rfl ?_
        exact ez_retI rfl rfl (k0 (fun w => by rcases w with w | ⟨⟨w1, w2⟩, w3, w4⟩ <;> omega))
      · skip
        refine ez_go (n := 1) (pc' := 60) (L' := [(2, .inl ((a) - (44032))), (0, .inl (a)), (1, .inl (b))]) (st' := [.inl (a)]) rfl ?_
        refine ez_ldc (55203) rfl rfl rfl ?_
        refine ez_icmp rfl rfl ⟨by first | omega | exact (sz_i32 _).1, by first | omega | exact (sz_i32 _).2⟩ ⟨by first | omega | exact (sz_i32 _).1, by first | omega | exact (sz_i32 _).2⟩ (fun (c14 : (55203) < (a)) => ?_) (fun (c14 : ¬((55203) < (a))) => ?_)
        · skip
          refine ez_go (n := 3) (pc' := 79) (L' := [(3, .inl (0)), (2, .inl ((a) - (44032))), (0, .inl (a)), (1, .inl (b))]) (st' := [.inl (0)]) rfl ?_
          refine ez_if rfl rfl ⟨by decide, by decide⟩ (fun _ => ?_) (fun (c15 : ¬((0 : Int) = (0))) => absurd c15 (by decide))
          refine ez_go (n := 1) (pc' := 107) (L' := [(3, .inl (0)), (2, .inl ((a) - (44032))), (0, .inl (a)), (1, .inl (b))]) (st' := [.inl (-1)]) rfl ?_
          exact ez_retI rfl rfl (k0 (fun w => by rcases w with w | ⟨⟨w1, w2⟩, w3, w4⟩ <;> omega))
        · skip
          refine ez_go (n := 2) (pc' := 68) (L' := [(2, .inl ((a) - (44032))), (0, .inl (a)), (1, .inl (b))]) (st' := [.inl (28), .inl ((a) - (44032))]) rfl ?_
          refine ez_rem rfl (by omega) (by omega) (by omega) (by omega) ?_
          refine ez_if rfl rfl ⟨by first | omega | exact (sz_i32 _).1, by first | omega | exact (sz_i32 _).2⟩ (fun (c16 : (((a) - (44032)) % (28)) ≠ (0)) => ?_) (fun (c16 : ¬((((a) - (44032)) % (28)) ≠ (0))) => ?_)
          · skip
            refine ez_go (n := 3) (pc' := 79) (L' := [(3, .inl (0)), (2, .inl ((a) - (44032))), (0, .inl (a)), (1, .inl (b))]) (st' := [.inl (0)]) rfl ?_
            refine ez_if rfl rfl ⟨by decide, by decide⟩ (fun _ => ?_) (fun (c17 : ¬((0 : Int) = (0))) => absurd c17 (by decide))
            refine ez_go (n := 1) (pc' := 107) (L' := [(3, .inl (0)), (2, .inl ((a) - (44032))), (0, .inl (a)), (1, .inl (b))]) (st' := [.inl (-1)]) rfl ?_
            exact ez_retI rfl rfl (k0 (fun w => by rcases w with w | ⟨⟨w1, w2⟩, w3, w4⟩ <;> omega))
          · skip
            refine ez_go (n := 4) (pc' := 79) (L' := [(3, .inl (1)), (2, .inl ((a) - (44032))), (0, .inl (a)), (1, .inl (b))]) (st' := [.inl (1)]) rfl ?_
            refine ez_if rfl rfl ⟨by decide, by decide⟩ (fun (c18 : (1 : Int) = (0)) => absurd c18 (by decide)) (fun _ => ?_)
            refine ez_go (n := 2) (pc' := 86) (L' := [(3, .inl (1)), (2, .inl ((a) - (44032))), (0, .inl (a)), (1, .inl (b))]) (st' := [.inl (4520), .inl (b)]) rfl ?_
            refine ez_icmp rfl rfl ⟨by first | omega | exact (sz_i32 _).1, by first | omega | exact (sz_i32 _).2⟩ ⟨by first | omega | exact (sz_i32 _).1, by first | omega | exact (sz_i32 _).2⟩ (fun (c19 : (b) < (4520)) => ?_) (fun (c19 : ¬((b) < (4520))) => ?_)
            · skip
              refine ez_go (n := 1) (pc' := 107) (L' := [(3, .inl (1)), (2, .inl ((a) - (44032))), (0, .inl (a)), (1, .inl (b))]) (st' := [.inl (-1)]) rfl ?_
              exact ez_retI rfl rfl (k0 (fun w => by rcases w with w | ⟨⟨w1, w2⟩, w3, w4⟩ <;> omega))
            · skip
              refine ez_go (n := 2) (pc' := 93) (L' := [(3, .inl (1)), (2, .inl ((a) - (44032))), (0, .inl (a)), (1, .inl (b))]) (st' := [.inl (4546), .inl (b)]) rfl ?_
              refine ez_icmp rfl rfl ⟨by first | omega | exact (sz_i32 _).1, by first | omega | exact (sz_i32 _).2⟩ ⟨by first | omega | exact (sz_i32 _).1, by first | omega | exact (sz_i32 _).2⟩ (fun (c20 : (4546) < (b)) => ?_) (fun (c20 : ¬((4546) < (b))) => ?_)
              · skip
                refine ez_go (n := 1) (pc' := 107) (L' := [(3, .inl (1)), (2, .inl ((a) - (44032))), (0, .inl (a)), (1, .inl (b))]) (st' := [.inl (-1)]) rfl ?_
                exact ez_retI rfl rfl (k0 (fun w => by rcases w with w | ⟨⟨w1, w2⟩, w3, w4⟩ <;> omega))
              · skip
                refine ez_go (n := 6) (pc' := 107) (L' := [(3, .inl (1)), (2, .inl ((a) - (44032))), (0, .inl (a)), (1, .inl (b))]) (st' := [.inl (((a) + (b)) - (4519))]) rfl ?_
                have hh : hz_pair a b := by first | (exact Or.inl ⟨⟨by omega, by omega⟩, by omega, by omega⟩) | (exact Or.inr ⟨⟨by omega, by omega⟩, by omega, by omega, by omega⟩)
                have ev : ((a) + (b)) - (4519) = hzv a b := by unfold hzv; split <;> omega
                rw [ev]
                exact ez_retI rfl rfl (k1 hh)
    · skip
      refine ez_go (n := 2) (pc' := 18) (L' := [(0, .inl (a)), (1, .inl (b))]) (st' := [.inl (4449), .inl (b)]) rfl ?_
      refine ez_icmp rfl rfl ⟨by first | omega | exact (sz_i32 _).1, by first | omega | exact (sz_i32 _).2⟩ ⟨by first | omega | exact (sz_i32 _).1, by first | omega | exact (sz_i32 _).2⟩ (fun (c21 : (b) < (4449)) => ?_) (fun (c21 : ¬((b) < (4449))) => ?_)
      · skip
        refine ez_go (n := 1) (pc' := 51) (L' := [(0, .inl (a)), (1, .inl (b))]) (st' := [.inl (a)]) rfl ?_
        refine ez_ldc (44032) rfl rfl rfl ?_
        refine ez_go (n := 3) (pc' := 56) (L' := [(2, .inl ((a) - (44032))), (0, .inl (a)), (1, .inl (b))]) (st' := [.inl ((a) - (44032))]) rfl ?_
        refine ez_if rfl rfl ⟨by first | omega | exact (sz_i32 _).1, by first | omega | exact (sz_i32 _).2⟩ (fun (c22 : ((a) - (44032)) < (0)) => ?_) (fun (c22 : ¬(((a) - (44032)) < (0))) => ?_)
        · skip
          refine ez_go (n := 3) (pc' := 79) (L' := [(3, .inl (0)), (2, .inl ((a) - (44032))), (0, .inl (a)), (1, .inl (b))]) (st' := [.inl (0)]) rfl ?_
          refine ez_if rfl rfl ⟨by decide, by decide⟩ (fun _ => ?_) (fun (c23 : ¬((0 : Int) = (0))) => absurd c23 (by decide))
          refine ez_go (n := 1) (pc' := 107) (L' := [(3, .inl (0)), (2, .inl ((a) - (44032))), (0, .inl (a)), (1, .inl (b))]) (st' := [.inl (-1)]) rfl ?_
          exact ez_retI rfl rfl (k0 (fun w => by rcases w with w | ⟨⟨w1, w2⟩, w3, w4⟩ <;> omega))
        · skip
          refine ez_go (n := 1) (pc' := 60) (L' := [(2, .inl ((a) - (44032))), (0, .inl (a)), (1, .inl (b))]) (st' := [.inl (a)]) rfl ?_
          refine ez_ldc (55203) rfl rfl rfl ?_
          refine ez_icmp rfl rfl ⟨by first | omega | exact (sz_i32 _).1, by first | omega | exact (sz_i32 _).2⟩ ⟨by first | omega | exact (sz_i32 _).1, by first | omega | exact (sz_i32 _).2⟩ (fun (c24 : (55203) < (a)) => ?_) (fun (c24 : ¬((55203) < (a))) => ?_)
          · skip
            refine ez_go (n := 3) (pc' := 79) (L' := [(3, .inl (0)), (2, .inl ((a) - (44032))), (0, .inl (a)), (1, .inl (b))]) (st' := [.inl (0)]) rfl ?_
            refine ez_if rfl rfl ⟨by decide, by decide⟩ (fun _ => ?_) (fun (c25 : ¬((0 : Int) = (0))) => absurd c25 (by decide))
            refine ez_go (n := 1) (pc' := 107) (L' := [(3, .inl (0)), (2, .inl ((a) - (44032))), (0, .inl (a)), (1, .inl (b))]) (st' := [.inl (-1)]) rfl ?_
            exact ez_retI rfl rfl (k0 (fun w => by rcases w with w | ⟨⟨w1, w2⟩, w3, w4⟩ <;> omega))
          · skip
            refine ez_go (n := 2) (pc' := 68) (L' := [(2, .inl ((a) - (44032))), (0, .inl (a)), (1, .inl (b))]) (st' := [.inl (28), .inl ((a) - (44032))]) rfl ?_
            refine ez_rem rfl (by omega) (by omega) (by omega) (by omega) ?_
            refine ez_if rfl rfl ⟨by first | omega | exact (sz_i32 _).1, by first | omega | exact (sz_i32 _).2⟩ (fun (c26 : (((a) - (44032)) % (28)) ≠ (0)) => ?_) (fun (c26 : ¬((((a) - (44032)) % (28)) ≠ (0))) => ?_)
            · skip
              refine ez_go (n := 3) (pc' := 79) (L' := [(3, .inl (0)), (2, .inl ((a) - (44032))), (0, .inl (a)), (1, .inl (b))]) (st' := [.inl (0)]) rfl ?_
              refine ez_if rfl rfl ⟨by decide, by decide⟩ (fun _ => ?_) (fun (c27 : ¬((0 : Int) = (0))) => absurd c27 (by decide))
              refine ez_go (n := 1) (pc' := 107) (L' := [(3, .inl (0)), (2, .inl ((a) - (44032))), (0, .inl (a)), (1, .inl (b))]) (st' := [.inl (-1)]) rfl ?_
              exact ez_retI rfl rfl (k0 (fun w => by rcases w with w | ⟨⟨w1, w2⟩, w3, w4⟩ <;> omega))
            · skip
              refine ez_go (n := 4) (pc' := 79) (L' := [(3, .inl (1)), (2, .inl ((a) - (44032))), (0, .inl (a)), (1, .inl (b))]) (st' := [.inl (1)]) rfl ?_
              refine ez_if rfl rfl ⟨by decide, by decide⟩ (fun (c28 : (1 : Int) = (0)) => absurd c28 (by decide)) (fun _ => ?_)
              refine ez_go (n := 2) (pc' := 86) (L' := [(3, .inl (1)), (2, .inl ((a) - (44032))), (0, .inl (a)), (1, .inl (b))]) (st' := [.inl (4520), .inl (b)]) rfl ?_
              refine ez_icmp rfl rfl ⟨by first | omega | exact (sz_i32 _).1, by first | omega | exact (sz_i32 _).2⟩ ⟨by first | omega | exact (sz_i32 _).1, by first | omega | exact (sz_i32 _).2⟩ (fun (c29 : (b) < (4520)) => ?_) (fun (c29 : ¬((b) < (4520))) => ?_)
              · skip
                refine ez_go (n := 1) (pc' := 107) (L' := [(3, .inl (1)), (2, .inl ((a) - (44032))), (0, .inl (a)), (1, .inl (b))]) (st' := [.inl (-1)]) rfl ?_
                exact ez_retI rfl rfl (k0 (fun w => by rcases w with w | ⟨⟨w1, w2⟩, w3, w4⟩ <;> omega))
              · skip
                refine ez_go (n := 2) (pc' := 93) (L' := [(3, .inl (1)), (2, .inl ((a) - (44032))), (0, .inl (a)), (1, .inl (b))]) (st' := [.inl (4546), .inl (b)]) rfl ?_
                refine ez_icmp rfl rfl ⟨by first | omega | exact (sz_i32 _).1, by first | omega | exact (sz_i32 _).2⟩ ⟨by first | omega | exact (sz_i32 _).1, by first | omega | exact (sz_i32 _).2⟩ (fun (c30 : (4546) < (b)) => ?_) (fun (c30 : ¬((4546) < (b))) => ?_)
                · skip
                  refine ez_go (n := 1) (pc' := 107) (L' := [(3, .inl (1)), (2, .inl ((a) - (44032))), (0, .inl (a)), (1, .inl (b))]) (st' := [.inl (-1)]) rfl ?_
                  exact ez_retI rfl rfl (k0 (fun w => by rcases w with w | ⟨⟨w1, w2⟩, w3, w4⟩ <;> omega))
                · skip
                  refine ez_go (n := 6) (pc' := 107) (L' := [(3, .inl (1)), (2, .inl ((a) - (44032))), (0, .inl (a)), (1, .inl (b))]) (st' := [.inl (((a) + (b)) - (4519))]) rfl ?_
                  have hh : hz_pair a b := by first | (exact Or.inl ⟨⟨by omega, by omega⟩, by omega, by omega⟩) | (exact Or.inr ⟨⟨by omega, by omega⟩, by omega, by omega, by omega⟩)
                  have ev : ((a) + (b)) - (4519) = hzv a b := by unfold hzv; split <;> omega
                  rw [ev]
                  exact ez_retI rfl rfl (k1 hh)
      · skip
        refine ez_go (n := 2) (pc' := 25) (L' := [(0, .inl (a)), (1, .inl (b))]) (st' := [.inl (4469), .inl (b)]) rfl ?_
        refine ez_icmp rfl rfl ⟨by first | omega | exact (sz_i32 _).1, by first | omega | exact (sz_i32 _).2⟩ ⟨by first | omega | exact (sz_i32 _).1, by first | omega | exact (sz_i32 _).2⟩ (fun (c31 : (4469) < (b)) => ?_) (fun (c31 : ¬((4469) < (b))) => ?_)
        · skip
          refine ez_go (n := 1) (pc' := 51) (L' := [(0, .inl (a)), (1, .inl (b))]) (st' := [.inl (a)]) rfl ?_
          refine ez_ldc (44032) rfl rfl rfl ?_
          refine ez_go (n := 3) (pc' := 56) (L' := [(2, .inl ((a) - (44032))), (0, .inl (a)), (1, .inl (b))]) (st' := [.inl ((a) - (44032))]) rfl ?_
          refine ez_if rfl rfl ⟨by first | omega | exact (sz_i32 _).1, by first | omega | exact (sz_i32 _).2⟩ (fun (c32 : ((a) - (44032)) < (0)) => ?_) (fun (c32 : ¬(((a) - (44032)) < (0))) => ?_)
          · skip
            refine ez_go (n := 3) (pc' := 79) (L' := [(3, .inl (0)), (2, .inl ((a) - (44032))), (0, .inl (a)), (1, .inl (b))]) (st' := [.inl (0)]) rfl ?_
            refine ez_if rfl rfl ⟨by decide, by decide⟩ (fun _ => ?_) (fun (c33 : ¬((0 : Int) = (0))) => absurd c33 (by decide))
            refine ez_go (n := 1) (pc' := 107) (L' := [(3, .inl (0)), (2, .inl ((a) - (44032))), (0, .inl (a)), (1, .inl (b))]) (st' := [.inl (-1)]) rfl ?_
            exact ez_retI rfl rfl (k0 (fun w => by rcases w with w | ⟨⟨w1, w2⟩, w3, w4⟩ <;> omega))
          · skip
            refine ez_go (n := 1) (pc' := 60) (L' := [(2, .inl ((a) - (44032))), (0, .inl (a)), (1, .inl (b))]) (st' := [.inl (a)]) rfl ?_
            refine ez_ldc (55203) rfl rfl rfl ?_
            refine ez_icmp rfl rfl ⟨by first | omega | exact (sz_i32 _).1, by first | omega | exact (sz_i32 _).2⟩ ⟨by first | omega | exact (sz_i32 _).1, by first | omega | exact (sz_i32 _).2⟩ (fun (c34 : (55203) < (a)) => ?_) (fun (c34 : ¬((55203) < (a))) => ?_)
            · skip
              refine ez_go (n := 3) (pc' := 79) (L' := [(3, .inl (0)), (2, .inl ((a) - (44032))), (0, .inl (a)), (1, .inl (b))]) (st' := [.inl (0)]) rfl ?_
              refine ez_if rfl rfl ⟨by decide, by decide⟩ (fun _ => ?_) (fun (c35 : ¬((0 : Int) = (0))) => absurd c35 (by decide))
              refine ez_go (n := 1) (pc' := 107) (L' := [(3, .inl (0)), (2, .inl ((a) - (44032))), (0, .inl (a)), (1, .inl (b))]) (st' := [.inl (-1)]) rfl ?_
              exact ez_retI rfl rfl (k0 (fun w => by rcases w with w | ⟨⟨w1, w2⟩, w3, w4⟩ <;> omega))
            · skip
              refine ez_go (n := 2) (pc' := 68) (L' := [(2, .inl ((a) - (44032))), (0, .inl (a)), (1, .inl (b))]) (st' := [.inl (28), .inl ((a) - (44032))]) rfl ?_
              refine ez_rem rfl (by omega) (by omega) (by omega) (by omega) ?_
              refine ez_if rfl rfl ⟨by first | omega | exact (sz_i32 _).1, by first | omega | exact (sz_i32 _).2⟩ (fun (c36 : (((a) - (44032)) % (28)) ≠ (0)) => ?_) (fun (c36 : ¬((((a) - (44032)) % (28)) ≠ (0))) => ?_)
              · skip
                refine ez_go (n := 3) (pc' := 79) (L' := [(3, .inl (0)), (2, .inl ((a) - (44032))), (0, .inl (a)), (1, .inl (b))]) (st' := [.inl (0)]) rfl ?_
                refine ez_if rfl rfl ⟨by decide, by decide⟩ (fun _ => ?_) (fun (c37 : ¬((0 : Int) = (0))) => absurd c37 (by decide))
                refine ez_go (n := 1) (pc' := 107) (L' := [(3, .inl (0)), (2, .inl ((a) - (44032))), (0, .inl (a)), (1, .inl (b))]) (st' := [.inl (-1)]) rfl ?_
                exact ez_retI rfl rfl (k0 (fun w => by rcases w with w | ⟨⟨w1, w2⟩, w3, w4⟩ <;> omega))
              · skip
                refine ez_go (n := 4) (pc' := 79) (L' := [(3, .inl (1)), (2, .inl ((a) - (44032))), (0, .inl (a)), (1, .inl (b))]) (st' := [.inl (1)]) rfl ?_
                refine ez_if rfl rfl ⟨by decide, by decide⟩ (fun (c38 : (1 : Int) = (0)) => absurd c38 (by decide)) (fun _ => ?_)
                refine ez_go (n := 2) (pc' := 86) (L' := [(3, .inl (1)), (2, .inl ((a) - (44032))), (0, .inl (a)), (1, .inl (b))]) (st' := [.inl (4520), .inl (b)]) rfl ?_
                refine ez_icmp rfl rfl ⟨by first | omega | exact (sz_i32 _).1, by first | omega | exact (sz_i32 _).2⟩ ⟨by first | omega | exact (sz_i32 _).1, by first | omega | exact (sz_i32 _).2⟩ (fun (c39 : (b) < (4520)) => ?_) (fun (c39 : ¬((b) < (4520))) => ?_)
                · skip
                  refine ez_go (n := 1) (pc' := 107) (L' := [(3, .inl (1)), (2, .inl ((a) - (44032))), (0, .inl (a)), (1, .inl (b))]) (st' := [.inl (-1)]) rfl ?_
                  exact ez_retI rfl rfl (k0 (fun w => by rcases w with w | ⟨⟨w1, w2⟩, w3, w4⟩ <;> omega))
                · skip
                  refine ez_go (n := 2) (pc' := 93) (L' := [(3, .inl (1)), (2, .inl ((a) - (44032))), (0, .inl (a)), (1, .inl (b))]) (st' := [.inl (4546), .inl (b)]) rfl ?_
                  refine ez_icmp rfl rfl ⟨by first | omega | exact (sz_i32 _).1, by first | omega | exact (sz_i32 _).2⟩ ⟨by first | omega | exact (sz_i32 _).1, by first | omega | exact (sz_i32 _).2⟩ (fun (c40 : (4546) < (b)) => ?_) (fun (c40 : ¬((4546) < (b))) => ?_)
                  · skip
                    refine ez_go (n := 1) (pc' := 107) (L' := [(3, .inl (1)), (2, .inl ((a) - (44032))), (0, .inl (a)), (1, .inl (b))]) (st' := [.inl (-1)]) rfl ?_
                    exact ez_retI rfl rfl (k0 (fun w => by rcases w with w | ⟨⟨w1, w2⟩, w3, w4⟩ <;> omega))
                  · skip
                    refine ez_go (n := 6) (pc' := 107) (L' := [(3, .inl (1)), (2, .inl ((a) - (44032))), (0, .inl (a)), (1, .inl (b))]) (st' := [.inl (((a) + (b)) - (4519))]) rfl ?_
                    have hh : hz_pair a b := by first | (exact Or.inl ⟨⟨by omega, by omega⟩, by omega, by omega⟩) | (exact Or.inr ⟨⟨by omega, by omega⟩, by omega, by omega, by omega⟩)
                    have ev : ((a) + (b)) - (4519) = hzv a b := by unfold hzv; split <;> omega
                    rw [ev]
                    exact ez_retI rfl rfl (k1 hh)
        · skip
          refine ez_ldc (44032) rfl rfl rfl ?_
          refine ez_go (n := 12) (pc' := 49) (L' := [(0, .inl (a)), (1, .inl (b))]) (st' := [.inl (((44032) + (((a) - (4352)) * (588))) + (((b) - (4449)) * (28)))]) rfl ?_
          have hh : hz_pair a b := by first | (exact Or.inl ⟨⟨by omega, by omega⟩, by omega, by omega⟩) | (exact Or.inr ⟨⟨by omega, by omega⟩, by omega, by omega, by omega⟩)
          have ev : ((44032) + (((a) - (4352)) * (588))) + (((b) - (4449)) * (28)) = hzv a b := by unfold hzv; split <;> omega
          rw [ev]
          exact ez_retI rfl rfl (k1 hh)

theorem rd_compositeOf {a b : Int} (hB : ez_B τ h) (hX : jz_X τ) (hw : uz_wf F) (cp : cP h F E) (a0 : 0 ≤ a) (a1 : a ≤ 1114111) (b0 : 0 ≤ b) (b1 : b ≤ 1114111) (k : ∀ v, cpR F E a b v → Q (.inl (some (ez_v (.inl v))), h)) : ez_W (d + 1) cm_114 0 [(0, .inr (.inr (some (723)))), (1, .inl (a)), (2, .inl (b))] [] h Q := by
  have t723 : τ 723 = 55 := hX 723 (by decide)
  have t727 : τ 727 = 59 := hX 727 (by decide)
  have t728 : τ 728 = 60 := hX 728 (by decide)
  have b8 : 0 ≤ qz_I h 723 8 ∧ qz_I h 723 8 ≤ 256 := ez_fB (cl := 6) (k := 8) hB t723 tq_55 rfl rfl (by decide)
  refine ez_go (n := 2) (pc' := 2) (L' := [(0, .inr (.inr (some (723)))), (1, .inl (a)), (2, .inl (b))]) (st' := [.inl (b), .inl (a)]) rfl ?_
  refine ez_cs hB.2.1 rfl rfl rfl rfl rfl (rd_sylOf a0 a1 b0 b1 (fun hh => ez_K1 ?_) (fun hh => ez_K1 ?_))
  · skip
    have hb9 := hzv_bd hh
    unfold hz at hb9
    refine ez_go (n := 3) (pc' := 8) (L' := [(3, .inl (hzv a b)), (0, .inr (.inr (some (723)))), (1, .inl (a)), (2, .inl (b))]) (st' := [.inl (-1), .inl (hzv a b)]) rfl ?_
    refine ez_icmp rfl rfl ⟨by first | omega | exact (sz_i32 _).1, by first | omega | exact (sz_i32 _).2⟩ ⟨by first | omega | exact (sz_i32 _).1, by first | omega | exact (sz_i32 _).2⟩ (fun (c1 : (hzv a b) = (-1)) => ?_) (fun (c1 : ¬((hzv a b) = (-1))) => ?_)
    · skip
      refine ez_go (n := 2) (pc' := 15) (L' := [(3, .inl (hzv a b)), (0, .inr (.inr (some (723)))), (1, .inl (a)), (2, .inl (b))]) (st' := [.inl (b), .inl (a)]) rfl ?_
      refine ez_cs hB.2.1 rfl rfl rfl rfl rfl (rd_packPair a0 a1 b0 b1 (fun y hy => ez_KL ?_))
      refine ez_go (n := 3) (pc' := 23) (L' := [(4, .inr (.inl (y))), (3, .inl (hzv a b)), (0, .inr (.inr (some (723)))), (1, .inl (a)), (2, .inl (b))]) (st' := [.inr (.inr (some (723))), .inr (.inl (y))]) rfl ?_
      refine ez_gC (p := 727) (tg := 59) hB t723 rfl rfl tq_55 rfl rfl (fun (t727 : _ = 59) => ?_)
      refine ez_go (n := 1) (pc' := 27) (L' := [(4, .inr (.inl (y))), (3, .inl (hzv a b)), (0, .inr (.inr (some (723)))), (1, .inl (a)), (2, .inl (b))]) (st' := [.inr (.inr (some (723))), .inr (.inr (some (727))), .inr (.inl (y))]) rfl ?_
      refine ez_gI hB t723 rfl rfl tq_55 rfl rfl (fun (b2 : 0 ≤ qz_I h 723 8) (b2' : qz_I h 723 8 ≤ 256) => ?_)
      refine ez_cs hB.2.1 rfl rfl rfl rfl rfl (rd_placeOfP hB t727 (by omega) (by omega) (fun pl p0 p1 q1 q2 => ez_K1 ?_))
      have lr : ∀ k, 0 ≤ k → k < 256 → (Int64.ofInt (qz_I h 727 k.toNat)).toInt = pp h k := fun k k0 k1 => ez_lrg hB t727 tq_59 rfl rfl k0 (by have := ez_len hB t727 tq_59 rfl; have : (256 : Int) ≤ qz_N h 727 := this.1; omega)
      have q1 : pl = 0 ∨ pp h (pl - 1) < y.toInt := by
        by_cases e : pl = 0
        · exact Or.inl e
        · refine Or.inr ?_; have := Int64.lt_iff_toInt_lt.mp (q1.resolve_left e); rw [lr _ (by omega) (by omega)] at this; exact this
      have q2 : pl = qz_I h 723 8 ∨ y.toInt ≤ pp h pl := by
        by_cases e : pl = qz_I h 723 8
        · exact Or.inl e
        · refine Or.inr ?_
          by_cases e3 : y.toInt ≤ pp h pl
          · exact e3
          · exact absurd (Int64.lt_iff_toInt_lt.mpr (by rw [lr _ (by omega) (by omega)]; omega)) (q2.resolve_left e)
      have lo : ∀ j, 0 ≤ j → j < pl → pp h j < y.toInt := fun j j0 j1 => by
        have w := q1.resolve_left (by omega)
        by_cases e3 : j = pl - 1
        · rw [e3]; exact w
        · have := cp.1 j (pl - 1) j0 (by omega) (by omega); omega
      refine ez_go (n := 3) (pc' := 38) (L' := [(6, .inl (pl)), (4, .inr (.inl (y))), (3, .inl (hzv a b)), (0, .inr (.inr (some (723)))), (1, .inl (a)), (2, .inl (b))]) (st' := [.inr (.inr (some (723))), .inl (pl)]) rfl ?_
      refine ez_gI hB t723 rfl rfl tq_55 rfl rfl (fun (b3 : 0 ≤ qz_I h 723 8) (b3' : qz_I h 723 8 ≤ 256) => ?_)
      refine ez_icmp rfl rfl ⟨by first | omega | exact (sz_i32 _).1, by first | omega | exact (sz_i32 _).2⟩ ⟨by first | omega | exact (sz_i32 _).1, by first | omega | exact (sz_i32 _).2⟩ (fun (c4 : (qz_I h 723 8) ≤ (pl)) => ?_) (fun (c4 : ¬((qz_I h 723 8) ≤ (pl))) => ?_)
      · skip
        refine ez_go (n := 1) (pc' := 68) (L' := [(6, .inl (pl)), (4, .inr (.inl (y))), (3, .inl (hzv a b)), (0, .inr (.inr (some (723)))), (1, .inl (a)), (2, .inl (b))]) (st' := [.inl (-1)]) rfl ?_
        exfalso; omega
      · skip
        refine ez_go (n := 1) (pc' := 45) (L' := [(6, .inl (pl)), (4, .inr (.inl (y))), (3, .inl (hzv a b)), (0, .inr (.inr (some (723)))), (1, .inl (a)), (2, .inl (b))]) (st' := [.inr (.inr (some (723)))]) rfl ?_
        refine ez_gC (p := 727) (tg := 59) hB t723 rfl rfl tq_55 rfl rfl (fun (t727 : _ = 59) => ?_)
        refine ez_go (n := 1) (pc' := 50) (L' := [(6, .inl (pl)), (4, .inr (.inl (y))), (3, .inl (hzv a b)), (0, .inr (.inr (some (723)))), (1, .inl (a)), (2, .inl (b))]) (st' := [.inl (pl), .inr (.inr (some (727)))]) rfl ?_
        have n5 : 256 ≤ qz_N h 727 ∧ qz_N h 727 ≤ 256 := ez_len hB t727 tq_59 rfl
        refine ez_aL hB t727 rfl tq_59 rfl rfl (by omega) (by omega) ?_
        refine ez_go (n := 2) (pc' := 54) (L' := [(6, .inl (pl)), (4, .inr (.inl (y))), (3, .inl (hzv a b)), (0, .inr (.inr (some (723)))), (1, .inl (a)), (2, .inl (b))]) (st' := [.inl ((lg_cmp (Int64.ofInt (qz_I h 727 (pl).toNat)) (y)).toInt)]) rfl ?_
        refine ez_if rfl rfl ⟨by first | omega | exact (sz_i32 _).1, by first | omega | exact (sz_i32 _).2⟩ (fun (c6 : ((lg_cmp (Int64.ofInt (qz_I h 727 (pl).toNat)) (y)).toInt) ≠ (0)) => ?_) (fun (c6 : ¬(((lg_cmp (Int64.ofInt (qz_I h 727 (pl).toNat)) (y)).toInt) ≠ (0))) => ?_)
        · skip
          refine ez_go (n := 1) (pc' := 68) (L' := [(6, .inl (pl)), (4, .inr (.inl (y))), (3, .inl (hzv a b)), (0, .inr (.inr (some (723)))), (1, .inl (a)), (2, .inl (b))]) (st' := [.inl (-1)]) rfl ?_
          exfalso; omega
        · skip
          refine ez_go (n := 1) (pc' := 58) (L' := [(6, .inl (pl)), (4, .inr (.inl (y))), (3, .inl (hzv a b)), (0, .inr (.inr (some (723)))), (1, .inl (a)), (2, .inl (b))]) (st' := [.inr (.inr (some (723)))]) rfl ?_
          refine ez_gC (p := 728) (tg := 60) hB t723 rfl rfl tq_55 rfl rfl (fun (t728 : _ = 60) => ?_)
          refine ez_go (n := 1) (pc' := 63) (L' := [(6, .inl (pl)), (4, .inr (.inl (y))), (3, .inl (hzv a b)), (0, .inr (.inr (some (723)))), (1, .inl (a)), (2, .inl (b))]) (st' := [.inl (pl), .inr (.inr (some (728)))]) rfl ?_
          have n8 : 256 ≤ qz_N h 728 ∧ qz_N h 728 ≤ 256 := ez_len hB t728 tq_60 rfl
          refine ez_aI hB t728 rfl tq_60 rfl rfl (by omega) (by omega) (fun (b7 : -2147483648 ≤ qz_I h 728 (pl).toNat) (b7' : qz_I h 728 (pl).toNat ≤ 2147483647) => ?_)
          refine ez_go (n := 1) (pc' := 68) (L' := [(6, .inl (pl)), (4, .inr (.inl (y))), (3, .inl (hzv a b)), (0, .inr (.inr (some (723)))), (1, .inl (a)), (2, .inl (b))]) (st' := [.inl (qz_I h 728 (pl).toNat)]) rfl ?_
          exfalso; omega
    · skip
      refine ez_go (n := 1) (pc' := 12) (L' := [(3, .inl (hzv a b)), (0, .inr (.inr (some (723)))), (1, .inl (a)), (2, .inl (b))]) (st' := [.inl (hzv a b)]) rfl ?_
      exact ez_retI rfl rfl (k _ (Or.inl ⟨hh, rfl⟩))
  · skip
    refine ez_go (n := 3) (pc' := 8) (L' := [(3, .inl (-1)), (0, .inr (.inr (some (723)))), (1, .inl (a)), (2, .inl (b))]) (st' := [.inl (-1), .inl (-1)]) rfl ?_
    refine ez_icmp rfl rfl ⟨by decide, by decide⟩ ⟨by decide, by decide⟩ (fun _ => ?_) (fun (c9 : ¬((-1 : Int) = (-1))) => absurd c9 (by decide))
    refine ez_go (n := 2) (pc' := 15) (L' := [(3, .inl (-1)), (0, .inr (.inr (some (723)))), (1, .inl (a)), (2, .inl (b))]) (st' := [.inl (b), .inl (a)]) rfl ?_
    refine ez_cs hB.2.1 rfl rfl rfl rfl rfl (rd_packPair a0 a1 b0 b1 (fun y hy => ez_KL ?_))
    refine ez_go (n := 3) (pc' := 23) (L' := [(4, .inr (.inl (y))), (3, .inl (-1)), (0, .inr (.inr (some (723)))), (1, .inl (a)), (2, .inl (b))]) (st' := [.inr (.inr (some (723))), .inr (.inl (y))]) rfl ?_
    refine ez_gC (p := 727) (tg := 59) hB t723 rfl rfl tq_55 rfl rfl (fun (t727 : _ = 59) => ?_)
    refine ez_go (n := 1) (pc' := 27) (L' := [(4, .inr (.inl (y))), (3, .inl (-1)), (0, .inr (.inr (some (723)))), (1, .inl (a)), (2, .inl (b))]) (st' := [.inr (.inr (some (723))), .inr (.inr (some (727))), .inr (.inl (y))]) rfl ?_
    refine ez_gI hB t723 rfl rfl tq_55 rfl rfl (fun (b10 : 0 ≤ qz_I h 723 8) (b10' : qz_I h 723 8 ≤ 256) => ?_)
    refine ez_cs hB.2.1 rfl rfl rfl rfl rfl (rd_placeOfP hB t727 (by omega) (by omega) (fun pl p0 p1 q1 q2 => ez_K1 ?_))
    have lr : ∀ k, 0 ≤ k → k < 256 → (Int64.ofInt (qz_I h 727 k.toNat)).toInt = pp h k := fun k k0 k1 => ez_lrg hB t727 tq_59 rfl rfl k0 (by have := ez_len hB t727 tq_59 rfl; have : (256 : Int) ≤ qz_N h 727 := this.1; omega)
    have q1 : pl = 0 ∨ pp h (pl - 1) < y.toInt := by
      by_cases e : pl = 0
      · exact Or.inl e
      · refine Or.inr ?_; have := Int64.lt_iff_toInt_lt.mp (q1.resolve_left e); rw [lr _ (by omega) (by omega)] at this; exact this
    have q2 : pl = qz_I h 723 8 ∨ y.toInt ≤ pp h pl := by
      by_cases e : pl = qz_I h 723 8
      · exact Or.inl e
      · refine Or.inr ?_
        by_cases e3 : y.toInt ≤ pp h pl
        · exact e3
        · exact absurd (Int64.lt_iff_toInt_lt.mpr (by rw [lr _ (by omega) (by omega)]; omega)) (q2.resolve_left e)
    have lo : ∀ j, 0 ≤ j → j < pl → pp h j < y.toInt := fun j j0 j1 => by
      have w := q1.resolve_left (by omega)
      by_cases e3 : j = pl - 1
      · rw [e3]; exact w
      · have := cp.1 j (pl - 1) j0 (by omega) (by omega); omega
    refine ez_go (n := 3) (pc' := 38) (L' := [(6, .inl (pl)), (4, .inr (.inl (y))), (3, .inl (-1)), (0, .inr (.inr (some (723)))), (1, .inl (a)), (2, .inl (b))]) (st' := [.inr (.inr (some (723))), .inl (pl)]) rfl ?_
    refine ez_gI hB t723 rfl rfl tq_55 rfl rfl (fun (b11 : 0 ≤ qz_I h 723 8) (b11' : qz_I h 723 8 ≤ 256) => ?_)
    refine ez_icmp rfl rfl ⟨by first | omega | exact (sz_i32 _).1, by first | omega | exact (sz_i32 _).2⟩ ⟨by first | omega | exact (sz_i32 _).1, by first | omega | exact (sz_i32 _).2⟩ (fun (c12 : (qz_I h 723 8) ≤ (pl)) => ?_) (fun (c12 : ¬((qz_I h 723 8) ≤ (pl))) => ?_)
    · skip
      refine ez_go (n := 1) (pc' := 68) (L' := [(6, .inl (pl)), (4, .inr (.inl (y))), (3, .inl (-1)), (0, .inr (.inr (some (723)))), (1, .inl (a)), (2, .inl (b))]) (st' := [.inl (-1)]) rfl ?_
      refine ez_retI rfl rfl (k _ (Or.inr (Or.inr ⟨hh, fun ⟨x, hx⟩ => ?_, rfl⟩)))
      obtain ⟨j, j0, j1, ej⟩ := cp.2.2 x a b hx
      rw [← hy] at ej
      by_cases e2 : j < pl
      · have := lo j j0 e2; omega
      · have hpl : y.toInt ≤ pp h pl := q2.resolve_left (by omega)
        have e4 : pp h pl ≠ y.toInt := fun e6 => by
          have e7 : Int64.ofInt (qz_I h 727 pl.toNat) = y := Int64.toInt_inj.mp (by rw [lr pl p0 (by omega)]; exact e6)
          have e8 := (nz_cmp_eq _ _).mpr e7
          first | (exact absurd e8 (by assumption)) | omega
        by_cases e3 : j = pl
        · rw [e3] at ej; omega
        · have := cp.1 pl j p0 (by omega) j1; omega
    · skip
      refine ez_go (n := 1) (pc' := 45) (L' := [(6, .inl (pl)), (4, .inr (.inl (y))), (3, .inl (-1)), (0, .inr (.inr (some (723)))), (1, .inl (a)), (2, .inl (b))]) (st' := [.inr (.inr (some (723)))]) rfl ?_
      refine ez_gC (p := 727) (tg := 59) hB t723 rfl rfl tq_55 rfl rfl (fun (t727 : _ = 59) => ?_)
      refine ez_go (n := 1) (pc' := 50) (L' := [(6, .inl (pl)), (4, .inr (.inl (y))), (3, .inl (-1)), (0, .inr (.inr (some (723)))), (1, .inl (a)), (2, .inl (b))]) (st' := [.inl (pl), .inr (.inr (some (727)))]) rfl ?_
      have n13 : 256 ≤ qz_N h 727 ∧ qz_N h 727 ≤ 256 := ez_len hB t727 tq_59 rfl
      refine ez_aL hB t727 rfl tq_59 rfl rfl (by omega) (by omega) ?_
      refine ez_go (n := 2) (pc' := 54) (L' := [(6, .inl (pl)), (4, .inr (.inl (y))), (3, .inl (-1)), (0, .inr (.inr (some (723)))), (1, .inl (a)), (2, .inl (b))]) (st' := [.inl ((lg_cmp (Int64.ofInt (qz_I h 727 (pl).toNat)) (y)).toInt)]) rfl ?_
      refine ez_if rfl rfl ⟨by first | omega | exact (sz_i32 _).1, by first | omega | exact (sz_i32 _).2⟩ (fun (c14 : ((lg_cmp (Int64.ofInt (qz_I h 727 (pl).toNat)) (y)).toInt) ≠ (0)) => ?_) (fun (c14 : ¬(((lg_cmp (Int64.ofInt (qz_I h 727 (pl).toNat)) (y)).toInt) ≠ (0))) => ?_)
      · skip
        refine ez_go (n := 1) (pc' := 68) (L' := [(6, .inl (pl)), (4, .inr (.inl (y))), (3, .inl (-1)), (0, .inr (.inr (some (723)))), (1, .inl (a)), (2, .inl (b))]) (st' := [.inl (-1)]) rfl ?_
        refine ez_retI rfl rfl (k _ (Or.inr (Or.inr ⟨hh, fun ⟨x, hx⟩ => ?_, rfl⟩)))
        obtain ⟨j, j0, j1, ej⟩ := cp.2.2 x a b hx
        rw [← hy] at ej
        by_cases e2 : j < pl
        · have := lo j j0 e2; omega
        · have hpl : y.toInt ≤ pp h pl := q2.resolve_left (by omega)
          have e4 : pp h pl ≠ y.toInt := fun e6 => by
            have e7 : Int64.ofInt (qz_I h 727 pl.toNat) = y := Int64.toInt_inj.mp (by rw [lr pl p0 (by omega)]; exact e6)
            have e8 := (nz_cmp_eq _ _).mpr e7
            first | (exact absurd e8 (by assumption)) | omega
          by_cases e3 : j = pl
          · rw [e3] at ej; omega
          · have := cp.1 pl j p0 (by omega) j1; omega
      · skip
        refine ez_go (n := 1) (pc' := 58) (L' := [(6, .inl (pl)), (4, .inr (.inl (y))), (3, .inl (-1)), (0, .inr (.inr (some (723)))), (1, .inl (a)), (2, .inl (b))]) (st' := [.inr (.inr (some (723)))]) rfl ?_
        refine ez_gC (p := 728) (tg := 60) hB t723 rfl rfl tq_55 rfl rfl (fun (t728 : _ = 60) => ?_)
        refine ez_go (n := 1) (pc' := 63) (L' := [(6, .inl (pl)), (4, .inr (.inl (y))), (3, .inl (-1)), (0, .inr (.inr (some (723)))), (1, .inl (a)), (2, .inl (b))]) (st' := [.inl (pl), .inr (.inr (some (728)))]) rfl ?_
        have n16 : 256 ≤ qz_N h 728 ∧ qz_N h 728 ≤ 256 := ez_len hB t728 tq_60 rfl
        refine ez_aI hB t728 rfl tq_60 rfl rfl (by omega) (by omega) (fun (b15 : -2147483648 ≤ qz_I h 728 (pl).toNat) (b15' : qz_I h 728 (pl).toNat ≤ 2147483647) => ?_)
        refine ez_go (n := 1) (pc' := 68) (L' := [(6, .inl (pl)), (4, .inr (.inl (y))), (3, .inl (-1)), (0, .inr (.inr (some (723)))), (1, .inl (a)), (2, .inl (b))]) (st' := [.inl (qz_I h 728 (pl).toNat)]) rfl ?_
        have e7 := (nz_cmp_eq (Int64.ofInt (qz_I h 727 (pl).toNat)) y).mp (by omega)
        obtain ⟨a2, b2, hx, e9⟩ := cp.2.1 pl p0 (by omega)
        have wr := ((hw _).2 _ _ hx.1).2.2.1
        have wa := wr a2 (by simp)
        have wb := wr b2 (by simp)
        have e10 : pp h pl = a * 2097152 + b := by rw [← lr pl p0 (by omega), e7, hy]
        have ea : a2 = a := by omega
        have eb : b2 = b := by omega
        subst ea
        subst eb
        exact ez_retI rfl rfl (k _ (Or.inr (Or.inl ⟨hh, hx⟩)))

theorem rd_lastStarter_l {n : Int} (hB : ez_B τ h) (t729 : τ 729 = 61) (n1 : n ≤ 2000) (k : ∀ s, (s = -1 ∧ ∀ j : Nat, (j : Int) < n → qz_I h 730 j ≠ 0) ∨ (0 ≤ s ∧ s < n ∧ qz_I h 730 s.toNat = 0 ∧ ∀ j : Nat, s < (j : Int) → (j : Int) < n → qz_I h 730 j ≠ 0) → Q (.inl (some (ez_v (.inl s))), h)) : ∀ (m : Nat) (i : Int), (i + 1).toNat ≤ m → -1 ≤ i → i < n → (∀ j : Nat, i < (j : Int) → (j : Int) < n → qz_I h 730 j ≠ 0) → ez_W d cm_142 4 [(2, .inl (i)), (0, .inr (.inr (some (729)))), (1, .inl (n))] [] h Q := by
  intro m
  induction m with
  | zero =>
    intro i hm i0 i1 hj
    refine ez_go (n := 1) (pc' := 5) (L' := [(2, .inl (i)), (0, .inr (.inr (some (729)))), (1, .inl (n))]) (st' := [.inl (i)]) rfl ?_
    refine ez_if rfl rfl ⟨by first | omega | exact (sz_i32 _).1, by first | omega | exact (sz_i32 _).2⟩ (fun (c1 : (i) < (0)) => ?_) (fun (c1 : ¬((i) < (0))) => ?_)
    · skip
      refine ez_go (n := 1) (pc' := 24) (L' := [(2, .inl (i)), (0, .inr (.inr (some (729)))), (1, .inl (n))]) (st' := [.inl (i)]) rfl ?_
      exact ez_retI rfl rfl (k i (by first | exact Or.inl ⟨by omega, fun j j1 => hj j (by omega) j1⟩ | exact Or.inr ⟨by omega, by omega, by omega, hj⟩))
    · exfalso; omega
  | succ m ih =>
    intro i hm i0 i1 hj
    refine ez_go (n := 1) (pc' := 5) (L' := [(2, .inl (i)), (0, .inr (.inr (some (729)))), (1, .inl (n))]) (st' := [.inl (i)]) rfl ?_
    refine ez_if rfl rfl ⟨by first | omega | exact (sz_i32 _).1, by first | omega | exact (sz_i32 _).2⟩ (fun (c1 : (i) < (0)) => ?_) (fun (c1 : ¬((i) < (0))) => ?_)
    · skip
      refine ez_go (n := 1) (pc' := 24) (L' := [(2, .inl (i)), (0, .inr (.inr (some (729)))), (1, .inl (n))]) (st' := [.inl (i)]) rfl ?_
      exact ez_retI rfl rfl (k i (by first | exact Or.inl ⟨by omega, fun j j1 => hj j (by omega) j1⟩ | exact Or.inr ⟨by omega, by omega, by omega, hj⟩))
    · skip
      refine ez_go (n := 1) (pc' := 9) (L' := [(2, .inl (i)), (0, .inr (.inr (some (729)))), (1, .inl (n))]) (st' := [.inr (.inr (some (729)))]) rfl ?_
      refine ez_gC (p := 730) (tg := 62) hB t729 rfl rfl tq_61 rfl rfl (fun (t730 : _ = 62) => ?_)
      refine ez_go (n := 1) (pc' := 13) (L' := [(2, .inl (i)), (0, .inr (.inr (some (729)))), (1, .inl (n))]) (st' := [.inl (i), .inr (.inr (some (730)))]) rfl ?_
      have n3 : 2000 ≤ qz_N h 730 ∧ qz_N h 730 ≤ 2000 := ez_len hB t730 tq_62 rfl
      refine ez_aI hB t730 rfl tq_62 rfl rfl (by omega) (by omega) (fun (b2 : -2147483648 ≤ qz_I h 730 (i).toNat) (b2' : qz_I h 730 (i).toNat ≤ 2147483647) => ?_)
      refine ez_if rfl rfl ⟨by first | omega | exact (sz_i32 _).1, by first | omega | exact (sz_i32 _).2⟩ (fun (c4 : (qz_I h 730 (i).toNat) = (0)) => ?_) (fun (c4 : ¬((qz_I h 730 (i).toNat) = (0))) => ?_)
      · skip
        refine ez_go (n := 1) (pc' := 24) (L' := [(2, .inl (i)), (0, .inr (.inr (some (729)))), (1, .inl (n))]) (st' := [.inl (i)]) rfl ?_
        exact ez_retI rfl rfl (k i (by first | exact Or.inl ⟨by omega, fun j j1 => hj j (by omega) j1⟩ | exact Or.inr ⟨by omega, by omega, by omega, hj⟩))
      · skip
        refine ez_go (n := 2) (pc' := 4) (L' := [(2, .inl (i + (-1))), (0, .inr (.inr (some (729)))), (1, .inl (n))]) (st' := []) rfl ?_
        refine ez_less [(2, .inl (i + (-1))), (0, .inr (.inr (some (729)))), (1, .inl (n))] rfl ⟨rfl, rfl, rfl, trivial⟩ ?_
        refine ih _ (by omega) (by omega) (by omega) (fun j j1 j2 => ?_)
        by_cases e : (j : Int) = i
        · rw [show j = i.toNat by omega]; omega
        · exact hj j (by omega) j2
theorem rd_lastStarter {n : Int} (hB : ez_B τ h) (t729 : τ 729 = 61) (n0 : 0 ≤ n) (n1 : n ≤ 2000) (k : ∀ s, (s = -1 ∧ ∀ j : Nat, (j : Int) < n → qz_I h 730 j ≠ 0) ∨ (0 ≤ s ∧ s < n ∧ qz_I h 730 s.toNat = 0 ∧ ∀ j : Nat, s < (j : Int) → (j : Int) < n → qz_I h 730 j ≠ 0) → Q (.inl (some (ez_v (.inl s))), h)) : ez_W d cm_142 0 [(0, .inr (.inr (some (729)))), (1, .inl (n))] [] h Q := by
  refine ez_go (n := 4) (pc' := 4) (L' := [(2, .inl ((n) - (1))), (0, .inr (.inr (some (729)))), (1, .inl (n))]) (st' := []) rfl ?_
  refine ez_less [(2, .inl ((n) - (1))), (0, .inr (.inr (some (729)))), (1, .inl (n))] rfl ⟨rfl, rfl, rfl, trivial⟩ ?_
  exact rd_lastStarter_l hB t729 n1 k _ _ (Nat.le_refl _) (by omega) (by omega) (fun j j1 j2 => by omega)

theorem rd_highest_l {f t : Int} (hB : ez_B τ h) (t729 : τ 729 = 61) (f0 : 0 ≤ f) (ft : f ≤ t) (t1 : t ≤ 2000) (k : ∀ w, (∀ j : Nat, f ≤ (j : Int) → (j : Int) < t → qz_I h 730 j ≤ w) ∧ (w = -1 ∨ ∃ j : Nat, f ≤ (j : Int) ∧ (j : Int) < t ∧ qz_I h 730 j = w) ∧ -1 ≤ w → Q (.inl (some (ez_v (.inl w))), h)) : ∀ (m : Nat) (i w : Int), m = (t - i).toNat → f ≤ i → i ≤ t → ez_rg w → (∀ j : Nat, f ≤ (j : Int) → (j : Int) < i → qz_I h 730 j ≤ w) ∧ (w = -1 ∨ ∃ j : Nat, f ≤ (j : Int) ∧ (j : Int) < i ∧ qz_I h 730 j = w) ∧ -1 ≤ w → ez_W (d + 1) cm_141 5 [(4, .inl (i)), (3, .inl (w)), (0, .inr (.inr (some (729)))), (1, .inl (f)), (2, .inl (t))] [] h Q := by
  intro m
  induction m with
  | zero =>
    intro i w hm i0 i1 wr hw
    obtain ⟨wr1, wr2⟩ := id wr
    refine ez_go (n := 2) (pc' := 8) (L' := [(4, .inl (i)), (3, .inl (w)), (0, .inr (.inr (some (729)))), (1, .inl (f)), (2, .inl (t))]) (st' := [.inl (t), .inl (i)]) rfl ?_
    refine ez_icmp rfl rfl ⟨by first | omega | exact (sz_i32 _).1, by first | omega | exact (sz_i32 _).2⟩ ⟨by first | omega | exact (sz_i32 _).1, by first | omega | exact (sz_i32 _).2⟩ (fun (c1 : (t) ≤ (i)) => ?_) (fun (c1 : ¬((t) ≤ (i))) => ?_)
    · skip
      refine ez_go (n := 1) (pc' := 30) (L' := [(4, .inl (i)), (3, .inl (w)), (0, .inr (.inr (some (729)))), (1, .inl (f)), (2, .inl (t))]) (st' := [.inl (w)]) rfl ?_
      exact ez_retI rfl rfl (k w (by rw [show i = t by omega] at hw; exact hw))
    · exfalso; omega
  | succ m ih =>
    intro i w hm i0 i1 wr hw
    obtain ⟨wr1, wr2⟩ := id wr
    refine ez_go (n := 2) (pc' := 8) (L' := [(4, .inl (i)), (3, .inl (w)), (0, .inr (.inr (some (729)))), (1, .inl (f)), (2, .inl (t))]) (st' := [.inl (t), .inl (i)]) rfl ?_
    refine ez_icmp rfl rfl ⟨by first | omega | exact (sz_i32 _).1, by first | omega | exact (sz_i32 _).2⟩ ⟨by first | omega | exact (sz_i32 _).1, by first | omega | exact (sz_i32 _).2⟩ (fun (c1 : (t) ≤ (i)) => ?_) (fun (c1 : ¬((t) ≤ (i))) => ?_)
    · exfalso; omega
    · skip
      refine ez_go (n := 2) (pc' := 13) (L' := [(4, .inl (i)), (3, .inl (w)), (0, .inr (.inr (some (729)))), (1, .inl (f)), (2, .inl (t))]) (st' := [.inr (.inr (some (729))), .inl (w)]) rfl ?_
      refine ez_gC (p := 730) (tg := 62) hB t729 rfl rfl tq_61 rfl rfl (fun (t730 : _ = 62) => ?_)
      refine ez_go (n := 1) (pc' := 18) (L' := [(4, .inl (i)), (3, .inl (w)), (0, .inr (.inr (some (729)))), (1, .inl (f)), (2, .inl (t))]) (st' := [.inl (i), .inr (.inr (some (730))), .inl (w)]) rfl ?_
      have n3 : 2000 ≤ qz_N h 730 ∧ qz_N h 730 ≤ 2000 := ez_len hB t730 tq_62 rfl
      refine ez_aI hB t730 rfl tq_62 rfl rfl (by omega) (by omega) (fun (b2 : -2147483648 ≤ qz_I h 730 (i).toNat) (b2' : qz_I h 730 (i).toNat ≤ 2147483647) => ?_)
      refine ez_cs hB.2.1 rfl rfl rfl rfl rfl (rd_maxE ⟨by omega, by omega⟩ ⟨by omega, by omega⟩ (ez_K1 ?_))
      refine ez_go (n := 3) (pc' := 5) (L' := [(4, .inl (i + 1)), (3, .inl (max (w) (qz_I h 730 (i).toNat))), (0, .inr (.inr (some (729)))), (1, .inl (f)), (2, .inl (t))]) (st' := []) rfl ?_
      refine ez_less [(4, .inl (i + 1)), (3, .inl (max (w) (qz_I h 730 (i).toNat))), (0, .inr (.inr (some (729)))), (1, .inl (f)), (2, .inl (t))] rfl ⟨rfl, rfl, rfl, rfl, rfl, trivial⟩ ?_
      refine ih _ _ (by omega) (by omega) (by omega) ⟨by omega, by omega⟩ ⟨fun j j1 j2 => ?_, ?_, by omega⟩
      · by_cases e : (j : Int) = i
        · rw [show j = i.toNat by omega]; omega
        · have := hw.1 j j1 (by omega); omega
      · by_cases e : w ≤ qz_I h 730 (i).toNat
        · exact Or.inr ⟨i.toNat, by omega, by omega, by omega⟩
        · rcases hw.2.1 with v | ⟨j, v1, v2, v3⟩
          · exact Or.inl (by omega)
          · exact Or.inr ⟨j, v1, by omega, by omega⟩
theorem rd_highest {f t : Int} (hB : ez_B τ h) (t729 : τ 729 = 61) (f0 : 0 ≤ f) (ft : f ≤ t) (t1 : t ≤ 2000) (k : ∀ w, (∀ j : Nat, f ≤ (j : Int) → (j : Int) < t → qz_I h 730 j ≤ w) ∧ (w = -1 ∨ ∃ j : Nat, f ≤ (j : Int) ∧ (j : Int) < t ∧ qz_I h 730 j = w) ∧ -1 ≤ w → Q (.inl (some (ez_v (.inl w))), h)) : ez_W (d + 1) cm_141 0 [(0, .inr (.inr (some (729)))), (1, .inl (f)), (2, .inl (t))] [] h Q := by
  refine ez_go (n := 4) (pc' := 5) (L' := [(4, .inl (f)), (3, .inl (-1)), (0, .inr (.inr (some (729)))), (1, .inl (f)), (2, .inl (t))]) (st' := []) rfl ?_
  refine ez_less [(4, .inl (f)), (3, .inl (-1)), (0, .inr (.inr (some (729)))), (1, .inl (f)), (2, .inl (t))] rfl ⟨rfl, rfl, rfl, rfl, rfl, trivial⟩ ?_
  exact rd_highest_l hB t729 f0 ft t1 k _ _ _ rfl (by omega) (by omega) ⟨by omega, by omega⟩ ⟨fun j j1 j2 => by omega, Or.inl rfl, by omega⟩

def co_P (r z : Nat) : Bool := Nat.beq z r || so_P (r + 1) z
theorem co_Pr (r : Nat) : co_P r r = true := by unfold co_P; rw [Nat.beq_refl]; rfl
theorem co_Ps {r z : Nat} (h : so_P (r + 1) z = true) : co_P r z = true := by unfold co_P; rw [h]; exact Bool.or_true _
theorem co_Pn {r z : Nat} (h1 : z ≠ r) (h2 : z ≠ r + 1) (h3 : z < 730 ∨ 732 < z) : co_P r z = false := by unfold co_P; rw [dz_beq_ne h1, so_Pn h2 h3]; rfl
theorem co_new {g : cz_H} {K : List (Int × Int)} {n s hi p : Int} {c : Int × Int} {st q : Nat} (_hB : ez_B τ g) (hn : (K.length : Int) = n) (hp : prs g q (K.set st c)) (h9 : (K.set st c).length = K.length) (hs : (s = -1 ∧ ∀ j : Nat, (j : Int) < n → qz_I g 730 j ≠ 0) ∨ (0 ≤ s ∧ s < n ∧ qz_I g 730 s.toNat = 0 ∧ ∀ j : Nat, s < (j : Int) → (j : Int) < n → qz_I g 730 j ≠ 0)) (hh : (∀ j : Nat, s + 1 ≤ (j : Int) → (j : Int) < n → qz_I g 730 j ≤ hi) ∧ (hi = -1 ∨ ∃ j : Nat, s + 1 ≤ (j : Int) ∧ (j : Int) < n ∧ qz_I g 730 j = hi) ∧ -1 ≤ hi) : cst (K.set st c) s hi := by
  have lt : ∀ (j : Nat) y, (K.set st c)[j]? = some y → (j : Int) < n := fun j y hj => by have := (List.getElem?_eq_some_iff.mp hj).1; omega
  refine cst_new ?_ ⟨fun j y h1 h2 => ?_, ?_, hh.2.2⟩
  · rcases hs with ⟨w0, w⟩ | ⟨w0, w1, w2, w3⟩
    · exact Or.inl ⟨w0, fun j y hj => by rw [← (hp j y hj).2]; exact w j (lt j y hj)⟩
    · have l9 : s.toNat < (K.set st c).length := by omega
      refine Or.inr ⟨w0, _, List.getElem?_eq_getElem l9, ?_, fun j y h1 hj => by rw [← (hp j y hj).2]; exact w3 j h1 (lt j y hj)⟩
      rw [← (hp _ _ (List.getElem?_eq_getElem l9)).2]; exact w2
  · rw [← (hp j y h2).2]; exact hh.1 j (by omega) (lt j y h2)
  · rcases hh.2.1 with w | ⟨j, w1, w2, w3⟩
    · exact Or.inl w
    · have l9 : j < (K.set st c).length := by omega
      exact Or.inr ⟨j, _, by omega, List.getElem?_eq_getElem l9, by rw [← (hp _ _ (List.getElem?_eq_getElem l9)).2]; exact w3⟩
theorem rd_compose_l {L : List (Int × Int)} (hC : pz_C τ h T F E) (hw : uz_wf F) (cp : cP h F E) (tr : τ r = 1) (nr : r < 730 ∨ 732 < r) (hl : qz_I h r 1 = (L.length : Int)) (hL : kok F L) (k : ∀ g K, ez_B τ g → ez_fr (co_P r) h g → kcR F E L [] K → kok F K → tx g r (K.map Prod.fst) → Q (.inl none, g)) : ∀ (m : Nat) (i hi st n : Int) (K : List (Int × Int)) (g : cz_H), m = ((L.length : Int) - i).toNat → 0 ≤ i → i ≤ (L.length : Int) → n ≤ i → ez_B τ g → ez_fr (so_P (r + 1)) h g → (K.length : Int) = n → kok F K → prs g (r + 1) K → (∀ (j : Nat) z, i ≤ (j : Int) → L[j]? = some z → qz_I g (r + 1) j = z.1 ∧ qz_I g 730 j = z.2) → cst K st hi → (∀ R, kcR F E (L.drop i.toNat) K R → kcR F E L [] R) → ez_W (d + 2) cm_136 16 [(6, .inl (i)), (5, .inl (hi)), (4, .inl (st)), (3, .inl (n)), (2, .inr (.inr (some (r + 1)))), (0, .inr (.inr (some (729)))), (1, .inr (.inr (some (r))))] [] g Q := by
  have t729 : τ 729 = 61 := hC.2.1 729 (by decide)
  have t723 : τ 723 = 55 := hC.2.1 723 (by decide)
  have t730 : τ 730 = 62 := hC.2.1 730 (by decide)
  have t202 : τ 202 = 48 := hC.2.1 202 (by decide)
  have tp := tx_p1 hC.1 tr
  have np0 : r + 1 ≠ 730 := fun e => by rw [e, t730] at tp; cases tp
  have np1 : r ≠ 730 := fun e => by rw [e, t730] at tr; cases tr
  have hb := tx_l1 hC.1 tr
  rw [hl] at hb
  intro m
  induction m with
  | zero =>
    intro i hi st n K g hm i0 i1 ni hBg hf hn hK hp hq hcs hac
    have cr9 : qz_I g r 1 = (L.length : Int) := (hf.I (so_Pn (by omega) nr) 1).trans hl
    have hst := cst_lt hcs
    have hi1 := hcs.2.2.2
    have stn : -1 ≤ st := by rcases hcs.1 with w | w <;> omega
    refine ez_go (n := 2) (pc' := 19) (L' := [(6, .inl (i)), (5, .inl (hi)), (4, .inl (st)), (3, .inl (n)), (2, .inr (.inr (some (r + 1)))), (0, .inr (.inr (some (729)))), (1, .inr (.inr (some (r))))]) (st' := [.inr (.inr (some (r))), .inl (i)]) rfl ?_
    refine ez_gI hBg tr rfl rfl tq_1 rfl rfl (fun (b1 : 0 ≤ qz_I g r 1) (b1' : qz_I g r 1 ≤ 2000) => ?_)
    refine ez_icmp rfl rfl ⟨by first | omega | exact (sz_i32 _).1, by first | omega | exact (sz_i32 _).2⟩ ⟨by first | omega | exact (sz_i32 _).1, by first | omega | exact (sz_i32 _).2⟩ (fun (c2 : (qz_I g r 1) ≤ (i)) => ?_) (fun (c2 : ¬((qz_I g r 1) ≤ (i))) => ?_)
    · skip
      refine ez_go (n := 2) (pc' := 197) (L' := [(6, .inl (i)), (5, .inl (hi)), (4, .inl (st)), (3, .inl (n)), (2, .inr (.inr (some (r + 1)))), (0, .inr (.inr (some (729)))), (1, .inr (.inr (some (r))))]) (st' := [.inl (n), .inr (.inr (some (r)))]) rfl ?_
      refine ez_pf hBg tr rfl rfl tq_1 rfl rfl rfl rfl (ez_vdI rfl rfl (by omega) (by omega)) (fun hB3 w4 => ?_)
      refine ez_ret0 rfl rfl (k _ K hB3 ((ez_fr_mono hf (fun z hz => co_Ps hz)).put (co_Pr r) _ _) (hac K (by rw [List.drop_of_length_le (by omega)]; rfl)) hK ⟨by rw [w4, List.length_map]; rw [show ((Int32.ofInt n).toInt) = n from ez_rg.v ⟨by omega, by omega⟩]; exact hn.symm, fun j v hv => ?_⟩)
      rw [List.getElem?_map] at hv
      obtain ⟨z, z1, z2⟩ := Option.map_eq_some_iff.mp hv
      rw [ez_put_I (fun w => by omega), ← z2]; exact (hp j z z1).1
    · exfalso; omega
  | succ m ih =>
    intro i hi st n K g hm i0 i1 ni hBg hf hn hK hp hq hcs hac
    have cr9 : qz_I g r 1 = (L.length : Int) := (hf.I (so_Pn (by omega) nr) 1).trans hl
    have hst := cst_lt hcs
    have hi1 := hcs.2.2.2
    have stn : -1 ≤ st := by rcases hcs.1 with w | w <;> omega
    by_cases iL : i < (L.length : Int)
    · have l9 : i.toNat < L.length := by omega
      obtain ⟨c, hc9⟩ : ∃ c, c = L[i.toNat] := ⟨_, rfl⟩
      have hc : L[i.toNat]? = some c := by rw [hc9]; exact List.getElem?_eq_getElem l9
      have ec := hq _ _ (by omega) hc
      have cb := (hL c (List.mem_of_getElem? hc)).1
      have ce := (hL c (List.mem_of_getElem? hc)).2
      have c20 : 0 ≤ c.2 := by rw [ce]; exact (hw _).1
      have cr : ez_rg c.2 := by rw [ce]; exact pz_rg hC cb.1 cb.2
      obtain ⟨cr1, cr2⟩ := id cr
      have cl := cst_lst hcs c20
      have hir : hi ≤ 2147483647 := by rcases hcs.2.2.1 with w | ⟨j, y, w1, w2, w3⟩; (· omega); (· have := (hK y (List.mem_of_getElem? w2)); have q := (pz_rg hC this.1.1 this.1.2).2; rw [← this.2] at q; omega)
      have dr : L.drop i.toNat = c :: L.drop (i + 1).toNat := by rw [List.drop_eq_getElem_cons l9, ← hc9, show (i + 1).toNat = i.toNat + 1 by omega]
      refine ez_go (n := 2) (pc' := 19) (L' := [(6, .inl (i)), (5, .inl (hi)), (4, .inl (st)), (3, .inl (n)), (2, .inr (.inr (some (r + 1)))), (0, .inr (.inr (some (729)))), (1, .inr (.inr (some (r))))]) (st' := [.inr (.inr (some (r))), .inl (i)]) rfl ?_
      refine ez_gI hBg tr rfl rfl tq_1 rfl rfl (fun (b1 : 0 ≤ qz_I g r 1) (b1' : qz_I g r 1 ≤ 2000) => ?_)
      refine ez_icmp rfl rfl ⟨by first | omega | exact (sz_i32 _).1, by first | omega | exact (sz_i32 _).2⟩ ⟨by first | omega | exact (sz_i32 _).1, by first | omega | exact (sz_i32 _).2⟩ (fun (c2 : (qz_I g r 1) ≤ (i)) => ?_) (fun (c2 : ¬((qz_I g r 1) ≤ (i))) => ?_)
      · exfalso; omega
      · skip
        refine ez_go (n := 2) (pc' := 28) (L' := [(6, .inl (i)), (5, .inl (hi)), (4, .inl (st)), (3, .inl (n)), (2, .inr (.inr (some (r + 1)))), (0, .inr (.inr (some (729)))), (1, .inr (.inr (some (r))))]) (st' := [.inl (-1), .inl (st)]) rfl ?_
        refine ez_icmp rfl rfl ⟨by first | omega | exact (sz_i32 _).1, by first | omega | exact (sz_i32 _).2⟩ ⟨by first | omega | exact (sz_i32 _).1, by first | omega | exact (sz_i32 _).2⟩ (fun (c3 : (st) = (-1)) => ?_) (fun (c3 : ¬((st) = (-1))) => ?_)
        · skip
          refine ez_go (n := 3) (pc' := 52) (L' := [(7, .inl (0)), (6, .inl (i)), (5, .inl (hi)), (4, .inl (st)), (3, .inl (n)), (2, .inr (.inr (some (r + 1)))), (0, .inr (.inr (some (729)))), (1, .inr (.inr (some (r))))]) (st' := [.inl (0)]) rfl ?_
          refine ez_if rfl rfl ⟨by decide, by decide⟩ (fun _ => ?_) (fun (c4 : ¬((0 : Int) = (0))) => absurd c4 (by decide))
          refine ez_go (n := 4) (pc' := 79) (L' := [(8, .inl (-1)), (7, .inl (0)), (6, .inl (i)), (5, .inl (hi)), (4, .inl (st)), (3, .inl (n)), (2, .inr (.inr (some (r + 1)))), (0, .inr (.inr (some (729)))), (1, .inr (.inr (some (r))))]) (st' := [.inl (-1), .inl (-1)]) rfl ?_
          refine ez_icmp rfl rfl ⟨by decide, by decide⟩ ⟨by decide, by decide⟩ (fun _ => ?_) (fun (c5 : ¬((-1 : Int) = (-1))) => absurd c5 (by decide))
          have hk : kst F E K c (K ++ [c]) := Or.inr ⟨fun s x2 hs => by have q := cl.1 s x2 hs; exfalso; omega, rfl⟩
          refine ez_go (n := 4) (pc' := 140) (L' := [(8, .inl (-1)), (7, .inl (0)), (6, .inl (i)), (5, .inl (hi)), (4, .inl (st)), (3, .inl (n)), (2, .inr (.inr (some (r + 1)))), (0, .inr (.inr (some (729)))), (1, .inr (.inr (some (r))))]) (st' := [.inl (i), .inr (.inr (some (r + 1))), .inl (n), .inr (.inr (some (r + 1)))]) rfl ?_
          have n7 : 2000 ≤ qz_N g (r + 1) ∧ qz_N g (r + 1) ≤ 2000 := ez_len hBg tp tq_2 rfl
          refine ez_aI hBg tp rfl tq_2 rfl rfl (by omega) (by omega) (fun (b6 : -2147483648 ≤ qz_I g (r + 1) (i).toNat) (b6' : qz_I g (r + 1) (i).toNat ≤ 2147483647) => ?_)
          have n10 : 2000 ≤ qz_N g (r + 1) ∧ qz_N g (r + 1) ≤ 2000 := ez_len hBg tp tq_2 rfl
          refine ez_as hBg tp rfl tq_2 rfl rfl (by omega) (by omega) (ez_vdI rfl rfl (by omega) (by omega)) (fun hB8 w9 => ?_)
          refine ez_go (n := 1) (pc' := 143) (L' := [(8, .inl (-1)), (7, .inl (0)), (6, .inl (i)), (5, .inl (hi)), (4, .inl (st)), (3, .inl (n)), (2, .inr (.inr (some (r + 1)))), (0, .inr (.inr (some (729)))), (1, .inr (.inr (some (r))))]) (st' := [.inr (.inr (some (729)))]) rfl ?_
          refine ez_gC (p := 730) (tg := 62) hB8 t729 rfl rfl tq_61 rfl rfl (fun (t730 : _ = 62) => ?_)
          refine ez_go (n := 2) (pc' := 148) (L' := [(8, .inl (-1)), (7, .inl (0)), (6, .inl (i)), (5, .inl (hi)), (4, .inl (st)), (3, .inl (n)), (2, .inr (.inr (some (r + 1)))), (0, .inr (.inr (some (729)))), (1, .inr (.inr (some (r))))]) (st' := [.inr (.inr (some (729))), .inl (n), .inr (.inr (some (730)))]) rfl ?_
          refine ez_gC (p := 730) (tg := 62) hB8 t729 rfl rfl tq_61 rfl rfl (fun (t730 : _ = 62) => ?_)
          refine ez_go (n := 1) (pc' := 153) (L' := [(8, .inl (-1)), (7, .inl (0)), (6, .inl (i)), (5, .inl (hi)), (4, .inl (st)), (3, .inl (n)), (2, .inr (.inr (some (r + 1)))), (0, .inr (.inr (some (729)))), (1, .inr (.inr (some (r))))]) (st' := [.inl (i), .inr (.inr (some (730))), .inl (n), .inr (.inr (some (730)))]) rfl ?_
          have n12 : 2000 ≤ qz_N (dz_put g (r + 1) (n).toNat (ez_v (.inl (qz_I g (r + 1) (i).toNat)))) 730 ∧ qz_N (dz_put g (r + 1) (n).toNat (ez_v (.inl (qz_I g (r + 1) (i).toNat)))) 730 ≤ 2000 := ez_len hB8 t730 tq_62 rfl
          refine ez_aI hB8 t730 rfl tq_62 rfl rfl (by omega) (by omega) (fun (b11 : -2147483648 ≤ qz_I (dz_put g (r + 1) (n).toNat (ez_v (.inl (qz_I g (r + 1) (i).toNat)))) 730 (i).toNat) (b11' : qz_I (dz_put g (r + 1) (n).toNat (ez_v (.inl (qz_I g (r + 1) (i).toNat)))) 730 (i).toNat ≤ 2147483647) => ?_)
          have n15 : 2000 ≤ qz_N (dz_put g (r + 1) (n).toNat (ez_v (.inl (qz_I g (r + 1) (i).toNat)))) 730 ∧ qz_N (dz_put g (r + 1) (n).toNat (ez_v (.inl (qz_I g (r + 1) (i).toNat)))) 730 ≤ 2000 := ez_len hB8 t730 tq_62 rfl
          refine ez_as hB8 t730 rfl tq_62 rfl rfl (by omega) (by omega) (ez_vdI rfl rfl (by omega) (by omega)) (fun hB13 w14 => ?_)
          have e0 : qz_I (dz_put (dz_put g (r + 1) (n).toNat (ez_v (.inl (qz_I g (r + 1) (i).toNat)))) 730 (n).toNat (ez_v (.inl (qz_I (dz_put g (r + 1) (n).toNat (ez_v (.inl (qz_I g (r + 1) (i).toNat)))) 730 (i).toNat)))) (r + 1) (n).toNat = c.1 := by rw [ez_put_I (fun w => by omega), w9, show qz_I g (r + 1) (i).toNat = c.1 from ec.1]; exact ez_rg.v ⟨by omega, by omega⟩
          have e1 : qz_I (dz_put (dz_put g (r + 1) (n).toNat (ez_v (.inl (qz_I g (r + 1) (i).toNat)))) 730 (n).toNat (ez_v (.inl (qz_I (dz_put g (r + 1) (n).toNat (ez_v (.inl (qz_I g (r + 1) (i).toNat)))) 730 (i).toNat)))) 730 (n).toNat = c.2 := by rw [w14, ez_put_I (fun w => by omega), show qz_I g 730 (i).toNat = c.2 from ec.2]; exact ez_rg.v cr
          have e2 : ∀ j, j ≠ n.toNat → qz_I (dz_put (dz_put g (r + 1) (n).toNat (ez_v (.inl (qz_I g (r + 1) (i).toNat)))) 730 (n).toNat (ez_v (.inl (qz_I (dz_put g (r + 1) (n).toNat (ez_v (.inl (qz_I g (r + 1) (i).toNat)))) 730 (i).toNat)))) (r + 1) j = qz_I g (r + 1) j ∧ qz_I (dz_put (dz_put g (r + 1) (n).toNat (ez_v (.inl (qz_I g (r + 1) (i).toNat)))) 730 (n).toNat (ez_v (.inl (qz_I (dz_put g (r + 1) (n).toNat (ez_v (.inl (qz_I g (r + 1) (i).toNat)))) 730 (i).toNat)))) 730 j = qz_I g 730 j := fun j hj => ⟨by rw [ez_put_I (fun w => by omega), ez_put_I (fun w => hj w.2)], by rw [ez_put_I (fun w => hj w.2), ez_put_I (fun w => by omega)]⟩
          have f9 : ez_fr (so_P (r + 1)) h (dz_put (dz_put g (r + 1) (n).toNat (ez_v (.inl (qz_I g (r + 1) (i).toNat)))) 730 (n).toNat (ez_v (.inl (qz_I (dz_put g (r + 1) (n).toNat (ez_v (.inl (qz_I g (r + 1) (i).toNat)))) 730 (i).toNat)))) := (hf.put (so_Pp (r + 1)) _ _).put (so_Po (by decide)) _ _
          have hB9 := hB13
          generalize (dz_put (dz_put g (r + 1) (n).toNat (ez_v (.inl (qz_I g (r + 1) (i).toNat)))) 730 (n).toNat (ez_v (.inl (qz_I (dz_put g (r + 1) (n).toNat (ez_v (.inl (qz_I g (r + 1) (i).toNat)))) 730 (i).toNat)))) = g9 at *
          have p9 : prs g9 (r + 1) (K ++ [c]) := fun j z hz => by
            by_cases ej : j = n.toNat
            · rw [ej, List.getElem?_append_right (by omega), show n.toNat - K.length = 0 by omega] at hz; cases hz; rw [ej]; exact ⟨e0, e1⟩
            · have hj9 := (List.getElem?_eq_some_iff.mp hz).1
              rw [List.length_append, List.length_singleton] at hj9
              rw [List.getElem?_append_left (by omega)] at hz; rw [(e2 j ej).1, (e2 j ej).2]; exact hp j z hz
          have q9 : ∀ (j : Nat) z, i + 1 ≤ (j : Int) → L[j]? = some z → qz_I g9 (r + 1) j = z.1 ∧ qz_I g9 730 j = z.2 := fun j z hj hz => by rw [(e2 j (by omega)).1, (e2 j (by omega)).2]; exact hq j z (by omega) hz
          have n9 : (K ++ [c]).length = K.length + 1 := by rw [List.length_append, List.length_singleton]
          refine ez_go (n := 1) (pc' := 156) (L' := [(8, .inl (-1)), (7, .inl (0)), (6, .inl (i)), (5, .inl (hi)), (4, .inl (st)), (3, .inl (n)), (2, .inr (.inr (some (r + 1)))), (0, .inr (.inr (some (729)))), (1, .inr (.inr (some (r))))]) (st' := [.inr (.inr (some (729)))]) rfl ?_
          refine ez_gC (p := 730) (tg := 62) hB9 t729 rfl rfl tq_61 rfl rfl (fun (t730 : _ = 62) => ?_)
          refine ez_go (n := 1) (pc' := 160) (L' := [(8, .inl (-1)), (7, .inl (0)), (6, .inl (i)), (5, .inl (hi)), (4, .inl (st)), (3, .inl (n)), (2, .inr (.inr (some (r + 1)))), (0, .inr (.inr (some (729)))), (1, .inr (.inr (some (r))))]) (st' := [.inl (n), .inr (.inr (some (730)))]) rfl ?_
          have n17 : 2000 ≤ qz_N g9 730 ∧ qz_N g9 730 ≤ 2000 := ez_len hB9 t730 tq_62 rfl
          refine ez_aI hB9 t730 rfl tq_62 rfl rfl (by omega) (by omega) (fun (b16 : -2147483648 ≤ qz_I g9 730 (n).toNat) (b16' : qz_I g9 730 (n).toNat ≤ 2147483647) => ?_)
          rw [e1]
          refine ez_if rfl rfl ⟨by first | omega | exact (sz_i32 _).1, by first | omega | exact (sz_i32 _).2⟩ (fun (c18 : (c.2) ≠ (0)) => ?_) (fun (c18 : ¬((c.2) ≠ (0))) => ?_)
          · skip
            refine ez_go (n := 2) (pc' := 176) (L' := [(8, .inl (-1)), (7, .inl (0)), (6, .inl (i)), (5, .inl (hi)), (4, .inl (st)), (3, .inl (n)), (2, .inr (.inr (some (r + 1)))), (0, .inr (.inr (some (729)))), (1, .inr (.inr (some (r))))]) (st' := [.inr (.inr (some (729))), .inl (hi)]) rfl ?_
            refine ez_gC (p := 730) (tg := 62) hB9 t729 rfl rfl tq_61 rfl rfl (fun (t730 : _ = 62) => ?_)
            refine ez_go (n := 1) (pc' := 180) (L' := [(8, .inl (-1)), (7, .inl (0)), (6, .inl (i)), (5, .inl (hi)), (4, .inl (st)), (3, .inl (n)), (2, .inr (.inr (some (r + 1)))), (0, .inr (.inr (some (729)))), (1, .inr (.inr (some (r))))]) (st' := [.inl (n), .inr (.inr (some (730))), .inl (hi)]) rfl ?_
            have n20 : 2000 ≤ qz_N g9 730 ∧ qz_N g9 730 ≤ 2000 := ez_len hB9 t730 tq_62 rfl
            refine ez_aI hB9 t730 rfl tq_62 rfl rfl (by omega) (by omega) (fun (b19 : -2147483648 ≤ qz_I g9 730 (n).toNat) (b19' : qz_I g9 730 (n).toNat ≤ 2147483647) => ?_)
            rw [e1]
            refine ez_cs hB9.2.1 rfl rfl rfl rfl rfl (rd_maxE ⟨by omega, by omega⟩ ⟨by omega, by omega⟩ (ez_K1 ?_))
            refine ez_go (n := 4) (pc' := 16) (L' := [(6, .inl (i + 1)), (3, .inl (n + 1)), (5, .inl (max (hi) (c.2))), (8, .inl (-1)), (7, .inl (0)), (4, .inl (st)), (2, .inr (.inr (some (r + 1)))), (0, .inr (.inr (some (729)))), (1, .inr (.inr (some (r))))]) (st' := []) rfl ?_
            refine ez_less [(6, .inl (i + 1)), (5, .inl (max (hi) (c.2))), (4, .inl (st)), (3, .inl (n + 1)), (2, .inr (.inr (some (r + 1)))), (0, .inr (.inr (some (729)))), (1, .inr (.inr (some (r))))] rfl ⟨rfl, rfl, rfl, rfl, rfl, rfl, rfl, trivial⟩ ?_
            refine ih _ _ _ _ (K ++ [c]) g9 (by omega) (by omega) (by omega) (by omega) hB9 f9 (by rw [n9]; omega) (kst_ok hw hk hK (hL c (List.mem_of_getElem? hc))) p9 q9 (cst_n hcs hst (by omega) c20) (fun R hR => hac R ?_)
            rw [dr]; exact ⟨_, hk, hR⟩
          · skip
            refine ez_go (n := 8) (pc' := 16) (L' := [(6, .inl (i + 1)), (3, .inl (n + 1)), (5, .inl (-1)), (4, .inl (n)), (8, .inl (-1)), (7, .inl (0)), (2, .inr (.inr (some (r + 1)))), (0, .inr (.inr (some (729)))), (1, .inr (.inr (some (r))))]) (st' := []) rfl ?_
            refine ez_less [(6, .inl (i + 1)), (5, .inl (-1)), (4, .inl (n)), (3, .inl (n + 1)), (2, .inr (.inr (some (r + 1)))), (0, .inr (.inr (some (729)))), (1, .inr (.inr (some (r))))] rfl ⟨rfl, rfl, rfl, rfl, rfl, rfl, rfl, trivial⟩ ?_
            refine ih _ _ _ _ (K ++ [c]) g9 (by omega) (by omega) (by omega) (by omega) hB9 f9 (by rw [n9]; omega) (kst_ok hw hk hK (hL c (List.mem_of_getElem? hc))) p9 q9 (by rw [hn]; exact cst_z (st := st) (hi := hi) (by omega)) (fun R hR => hac R ?_)
            rw [dr]; exact ⟨_, hk, hR⟩
        · skip
          refine ez_go (n := 2) (pc' := 34) (L' := [(6, .inl (i)), (5, .inl (hi)), (4, .inl (st)), (3, .inl (n)), (2, .inr (.inr (some (r + 1)))), (0, .inr (.inr (some (729)))), (1, .inr (.inr (some (r))))]) (st' := [.inr (.inr (some (729))), .inl (hi)]) rfl ?_
          refine ez_gC (p := 730) (tg := 62) hBg t729 rfl rfl tq_61 rfl rfl (fun (t730 : _ = 62) => ?_)
          refine ez_go (n := 1) (pc' := 39) (L' := [(6, .inl (i)), (5, .inl (hi)), (4, .inl (st)), (3, .inl (n)), (2, .inr (.inr (some (r + 1)))), (0, .inr (.inr (some (729)))), (1, .inr (.inr (some (r))))]) (st' := [.inl (i), .inr (.inr (some (730))), .inl (hi)]) rfl ?_
          have n22 : 2000 ≤ qz_N g 730 ∧ qz_N g 730 ≤ 2000 := ez_len hBg t730 tq_62 rfl
          refine ez_aI hBg t730 rfl tq_62 rfl rfl (by omega) (by omega) (fun (b21 : -2147483648 ≤ qz_I g 730 (i).toNat) (b21' : qz_I g 730 (i).toNat ≤ 2147483647) => ?_)
          rw [show qz_I g 730 (i).toNat = c.2 from ec.2]
          refine ez_icmp rfl rfl ⟨by first | omega | exact (sz_i32 _).1, by first | omega | exact (sz_i32 _).2⟩ ⟨by first | omega | exact (sz_i32 _).1, by first | omega | exact (sz_i32 _).2⟩ (fun (c23 : (c.2) ≤ (hi)) => ?_) (fun (c23 : ¬((c.2) ≤ (hi))) => ?_)
          · skip
            refine ez_go (n := 3) (pc' := 52) (L' := [(7, .inl (0)), (6, .inl (i)), (5, .inl (hi)), (4, .inl (st)), (3, .inl (n)), (2, .inr (.inr (some (r + 1)))), (0, .inr (.inr (some (729)))), (1, .inr (.inr (some (r))))]) (st' := [.inl (0)]) rfl ?_
            refine ez_if rfl rfl ⟨by decide, by decide⟩ (fun _ => ?_) (fun (c24 : ¬((0 : Int) = (0))) => absurd c24 (by decide))
            refine ez_go (n := 4) (pc' := 79) (L' := [(8, .inl (-1)), (7, .inl (0)), (6, .inl (i)), (5, .inl (hi)), (4, .inl (st)), (3, .inl (n)), (2, .inr (.inr (some (r + 1)))), (0, .inr (.inr (some (729)))), (1, .inr (.inr (some (r))))]) (st' := [.inl (-1), .inl (-1)]) rfl ?_
            refine ez_icmp rfl rfl ⟨by decide, by decide⟩ ⟨by decide, by decide⟩ (fun _ => ?_) (fun (c25 : ¬((-1 : Int) = (-1))) => absurd c25 (by decide))
            have hk : kst F E K c (K ++ [c]) := Or.inr ⟨fun s x2 hs => by have q := cl.1 s x2 hs; exfalso; omega, rfl⟩
            refine ez_go (n := 4) (pc' := 140) (L' := [(8, .inl (-1)), (7, .inl (0)), (6, .inl (i)), (5, .inl (hi)), (4, .inl (st)), (3, .inl (n)), (2, .inr (.inr (some (r + 1)))), (0, .inr (.inr (some (729)))), (1, .inr (.inr (some (r))))]) (st' := [.inl (i), .inr (.inr (some (r + 1))), .inl (n), .inr (.inr (some (r + 1)))]) rfl ?_
            have n27 : 2000 ≤ qz_N g (r + 1) ∧ qz_N g (r + 1) ≤ 2000 := ez_len hBg tp tq_2 rfl
            refine ez_aI hBg tp rfl tq_2 rfl rfl (by omega) (by omega) (fun (b26 : -2147483648 ≤ qz_I g (r + 1) (i).toNat) (b26' : qz_I g (r + 1) (i).toNat ≤ 2147483647) => ?_)
            have n30 : 2000 ≤ qz_N g (r + 1) ∧ qz_N g (r + 1) ≤ 2000 := ez_len hBg tp tq_2 rfl
            refine ez_as hBg tp rfl tq_2 rfl rfl (by omega) (by omega) (ez_vdI rfl rfl (by omega) (by omega)) (fun hB28 w29 => ?_)
            refine ez_go (n := 1) (pc' := 143) (L' := [(8, .inl (-1)), (7, .inl (0)), (6, .inl (i)), (5, .inl (hi)), (4, .inl (st)), (3, .inl (n)), (2, .inr (.inr (some (r + 1)))), (0, .inr (.inr (some (729)))), (1, .inr (.inr (some (r))))]) (st' := [.inr (.inr (some (729)))]) rfl ?_
            refine ez_gC (p := 730) (tg := 62) hB28 t729 rfl rfl tq_61 rfl rfl (fun (t730 : _ = 62) => ?_)
            refine ez_go (n := 2) (pc' := 148) (L' := [(8, .inl (-1)), (7, .inl (0)), (6, .inl (i)), (5, .inl (hi)), (4, .inl (st)), (3, .inl (n)), (2, .inr (.inr (some (r + 1)))), (0, .inr (.inr (some (729)))), (1, .inr (.inr (some (r))))]) (st' := [.inr (.inr (some (729))), .inl (n), .inr (.inr (some (730)))]) rfl ?_
            refine ez_gC (p := 730) (tg := 62) hB28 t729 rfl rfl tq_61 rfl rfl (fun (t730 : _ = 62) => ?_)
            refine ez_go (n := 1) (pc' := 153) (L' := [(8, .inl (-1)), (7, .inl (0)), (6, .inl (i)), (5, .inl (hi)), (4, .inl (st)), (3, .inl (n)), (2, .inr (.inr (some (r + 1)))), (0, .inr (.inr (some (729)))), (1, .inr (.inr (some (r))))]) (st' := [.inl (i), .inr (.inr (some (730))), .inl (n), .inr (.inr (some (730)))]) rfl ?_
            have n32 : 2000 ≤ qz_N (dz_put g (r + 1) (n).toNat (ez_v (.inl (qz_I g (r + 1) (i).toNat)))) 730 ∧ qz_N (dz_put g (r + 1) (n).toNat (ez_v (.inl (qz_I g (r + 1) (i).toNat)))) 730 ≤ 2000 := ez_len hB28 t730 tq_62 rfl
            refine ez_aI hB28 t730 rfl tq_62 rfl rfl (by omega) (by omega) (fun (b31 : -2147483648 ≤ qz_I (dz_put g (r + 1) (n).toNat (ez_v (.inl (qz_I g (r + 1) (i).toNat)))) 730 (i).toNat) (b31' : qz_I (dz_put g (r + 1) (n).toNat (ez_v (.inl (qz_I g (r + 1) (i).toNat)))) 730 (i).toNat ≤ 2147483647) => ?_)
            have n35 : 2000 ≤ qz_N (dz_put g (r + 1) (n).toNat (ez_v (.inl (qz_I g (r + 1) (i).toNat)))) 730 ∧ qz_N (dz_put g (r + 1) (n).toNat (ez_v (.inl (qz_I g (r + 1) (i).toNat)))) 730 ≤ 2000 := ez_len hB28 t730 tq_62 rfl
            refine ez_as hB28 t730 rfl tq_62 rfl rfl (by omega) (by omega) (ez_vdI rfl rfl (by omega) (by omega)) (fun hB33 w34 => ?_)
            have e0 : qz_I (dz_put (dz_put g (r + 1) (n).toNat (ez_v (.inl (qz_I g (r + 1) (i).toNat)))) 730 (n).toNat (ez_v (.inl (qz_I (dz_put g (r + 1) (n).toNat (ez_v (.inl (qz_I g (r + 1) (i).toNat)))) 730 (i).toNat)))) (r + 1) (n).toNat = c.1 := by rw [ez_put_I (fun w => by omega), w29, show qz_I g (r + 1) (i).toNat = c.1 from ec.1]; exact ez_rg.v ⟨by omega, by omega⟩
            have e1 : qz_I (dz_put (dz_put g (r + 1) (n).toNat (ez_v (.inl (qz_I g (r + 1) (i).toNat)))) 730 (n).toNat (ez_v (.inl (qz_I (dz_put g (r + 1) (n).toNat (ez_v (.inl (qz_I g (r + 1) (i).toNat)))) 730 (i).toNat)))) 730 (n).toNat = c.2 := by rw [w34, ez_put_I (fun w => by omega), show qz_I g 730 (i).toNat = c.2 from ec.2]; exact ez_rg.v cr
            have e2 : ∀ j, j ≠ n.toNat → qz_I (dz_put (dz_put g (r + 1) (n).toNat (ez_v (.inl (qz_I g (r + 1) (i).toNat)))) 730 (n).toNat (ez_v (.inl (qz_I (dz_put g (r + 1) (n).toNat (ez_v (.inl (qz_I g (r + 1) (i).toNat)))) 730 (i).toNat)))) (r + 1) j = qz_I g (r + 1) j ∧ qz_I (dz_put (dz_put g (r + 1) (n).toNat (ez_v (.inl (qz_I g (r + 1) (i).toNat)))) 730 (n).toNat (ez_v (.inl (qz_I (dz_put g (r + 1) (n).toNat (ez_v (.inl (qz_I g (r + 1) (i).toNat)))) 730 (i).toNat)))) 730 j = qz_I g 730 j := fun j hj => ⟨by rw [ez_put_I (fun w => by omega), ez_put_I (fun w => hj w.2)], by rw [ez_put_I (fun w => hj w.2), ez_put_I (fun w => by omega)]⟩
            have f9 : ez_fr (so_P (r + 1)) h (dz_put (dz_put g (r + 1) (n).toNat (ez_v (.inl (qz_I g (r + 1) (i).toNat)))) 730 (n).toNat (ez_v (.inl (qz_I (dz_put g (r + 1) (n).toNat (ez_v (.inl (qz_I g (r + 1) (i).toNat)))) 730 (i).toNat)))) := (hf.put (so_Pp (r + 1)) _ _).put (so_Po (by decide)) _ _
            have hB9 := hB33
            generalize (dz_put (dz_put g (r + 1) (n).toNat (ez_v (.inl (qz_I g (r + 1) (i).toNat)))) 730 (n).toNat (ez_v (.inl (qz_I (dz_put g (r + 1) (n).toNat (ez_v (.inl (qz_I g (r + 1) (i).toNat)))) 730 (i).toNat)))) = g9 at *
            have p9 : prs g9 (r + 1) (K ++ [c]) := fun j z hz => by
              by_cases ej : j = n.toNat
              · rw [ej, List.getElem?_append_right (by omega), show n.toNat - K.length = 0 by omega] at hz; cases hz; rw [ej]; exact ⟨e0, e1⟩
              · have hj9 := (List.getElem?_eq_some_iff.mp hz).1
                rw [List.length_append, List.length_singleton] at hj9
                rw [List.getElem?_append_left (by omega)] at hz; rw [(e2 j ej).1, (e2 j ej).2]; exact hp j z hz
            have q9 : ∀ (j : Nat) z, i + 1 ≤ (j : Int) → L[j]? = some z → qz_I g9 (r + 1) j = z.1 ∧ qz_I g9 730 j = z.2 := fun j z hj hz => by rw [(e2 j (by omega)).1, (e2 j (by omega)).2]; exact hq j z (by omega) hz
            have n9 : (K ++ [c]).length = K.length + 1 := by rw [List.length_append, List.length_singleton]
            refine ez_go (n := 1) (pc' := 156) (L' := [(8, .inl (-1)), (7, .inl (0)), (6, .inl (i)), (5, .inl (hi)), (4, .inl (st)), (3, .inl (n)), (2, .inr (.inr (some (r + 1)))), (0, .inr (.inr (some (729)))), (1, .inr (.inr (some (r))))]) (st' := [.inr (.inr (some (729)))]) rfl ?_
            refine ez_gC (p := 730) (tg := 62) hB9 t729 rfl rfl tq_61 rfl rfl (fun (t730 : _ = 62) => ?_)
            refine ez_go (n := 1) (pc' := 160) (L' := [(8, .inl (-1)), (7, .inl (0)), (6, .inl (i)), (5, .inl (hi)), (4, .inl (st)), (3, .inl (n)), (2, .inr (.inr (some (r + 1)))), (0, .inr (.inr (some (729)))), (1, .inr (.inr (some (r))))]) (st' := [.inl (n), .inr (.inr (some (730)))]) rfl ?_
            have n37 : 2000 ≤ qz_N g9 730 ∧ qz_N g9 730 ≤ 2000 := ez_len hB9 t730 tq_62 rfl
            refine ez_aI hB9 t730 rfl tq_62 rfl rfl (by omega) (by omega) (fun (b36 : -2147483648 ≤ qz_I g9 730 (n).toNat) (b36' : qz_I g9 730 (n).toNat ≤ 2147483647) => ?_)
            rw [e1]
            refine ez_if rfl rfl ⟨by first | omega | exact (sz_i32 _).1, by first | omega | exact (sz_i32 _).2⟩ (fun (c38 : (c.2) ≠ (0)) => ?_) (fun (c38 : ¬((c.2) ≠ (0))) => ?_)
            · skip
              refine ez_go (n := 2) (pc' := 176) (L' := [(8, .inl (-1)), (7, .inl (0)), (6, .inl (i)), (5, .inl (hi)), (4, .inl (st)), (3, .inl (n)), (2, .inr (.inr (some (r + 1)))), (0, .inr (.inr (some (729)))), (1, .inr (.inr (some (r))))]) (st' := [.inr (.inr (some (729))), .inl (hi)]) rfl ?_
              refine ez_gC (p := 730) (tg := 62) hB9 t729 rfl rfl tq_61 rfl rfl (fun (t730 : _ = 62) => ?_)
              refine ez_go (n := 1) (pc' := 180) (L' := [(8, .inl (-1)), (7, .inl (0)), (6, .inl (i)), (5, .inl (hi)), (4, .inl (st)), (3, .inl (n)), (2, .inr (.inr (some (r + 1)))), (0, .inr (.inr (some (729)))), (1, .inr (.inr (some (r))))]) (st' := [.inl (n), .inr (.inr (some (730))), .inl (hi)]) rfl ?_
              have n40 : 2000 ≤ qz_N g9 730 ∧ qz_N g9 730 ≤ 2000 := ez_len hB9 t730 tq_62 rfl
              refine ez_aI hB9 t730 rfl tq_62 rfl rfl (by omega) (by omega) (fun (b39 : -2147483648 ≤ qz_I g9 730 (n).toNat) (b39' : qz_I g9 730 (n).toNat ≤ 2147483647) => ?_)
              rw [e1]
              refine ez_cs hB9.2.1 rfl rfl rfl rfl rfl (rd_maxE ⟨by omega, by omega⟩ ⟨by omega, by omega⟩ (ez_K1 ?_))
              refine ez_go (n := 4) (pc' := 16) (L' := [(6, .inl (i + 1)), (3, .inl (n + 1)), (5, .inl (max (hi) (c.2))), (8, .inl (-1)), (7, .inl (0)), (4, .inl (st)), (2, .inr (.inr (some (r + 1)))), (0, .inr (.inr (some (729)))), (1, .inr (.inr (some (r))))]) (st' := []) rfl ?_
              refine ez_less [(6, .inl (i + 1)), (5, .inl (max (hi) (c.2))), (4, .inl (st)), (3, .inl (n + 1)), (2, .inr (.inr (some (r + 1)))), (0, .inr (.inr (some (729)))), (1, .inr (.inr (some (r))))] rfl ⟨rfl, rfl, rfl, rfl, rfl, rfl, rfl, trivial⟩ ?_
              refine ih _ _ _ _ (K ++ [c]) g9 (by omega) (by omega) (by omega) (by omega) hB9 f9 (by rw [n9]; omega) (kst_ok hw hk hK (hL c (List.mem_of_getElem? hc))) p9 q9 (cst_n hcs hst (by omega) c20) (fun R hR => hac R ?_)
              rw [dr]; exact ⟨_, hk, hR⟩
            · skip
              refine ez_go (n := 8) (pc' := 16) (L' := [(6, .inl (i + 1)), (3, .inl (n + 1)), (5, .inl (-1)), (4, .inl (n)), (8, .inl (-1)), (7, .inl (0)), (2, .inr (.inr (some (r + 1)))), (0, .inr (.inr (some (729)))), (1, .inr (.inr (some (r))))]) (st' := []) rfl ?_
              refine ez_less [(6, .inl (i + 1)), (5, .inl (-1)), (4, .inl (n)), (3, .inl (n + 1)), (2, .inr (.inr (some (r + 1)))), (0, .inr (.inr (some (729)))), (1, .inr (.inr (some (r))))] rfl ⟨rfl, rfl, rfl, rfl, rfl, rfl, rfl, trivial⟩ ?_
              refine ih _ _ _ _ (K ++ [c]) g9 (by omega) (by omega) (by omega) (by omega) hB9 f9 (by rw [n9]; omega) (kst_ok hw hk hK (hL c (List.mem_of_getElem? hc))) p9 q9 (by rw [hn]; exact cst_z (st := st) (hi := hi) (by omega)) (fun R hR => hac R ?_)
              rw [dr]; exact ⟨_, hk, hR⟩
          · skip
            refine ez_go (n := 4) (pc' := 52) (L' := [(7, .inl (1)), (6, .inl (i)), (5, .inl (hi)), (4, .inl (st)), (3, .inl (n)), (2, .inr (.inr (some (r + 1)))), (0, .inr (.inr (some (729)))), (1, .inr (.inr (some (r))))]) (st' := [.inl (1)]) rfl ?_
            refine ez_if rfl rfl ⟨by decide, by decide⟩ (fun (c41 : (1 : Int) = (0)) => absurd c41 (by decide)) (fun _ => ?_)
            refine ez_go (n := 1) (pc' := 56) (L' := [(7, .inl (1)), (6, .inl (i)), (5, .inl (hi)), (4, .inl (st)), (3, .inl (n)), (2, .inr (.inr (some (r + 1)))), (0, .inr (.inr (some (729)))), (1, .inr (.inr (some (r))))]) (st' := [.inr (.inr (some (729)))]) rfl ?_
            refine ez_gC (p := 723) (tg := 55) hBg t729 rfl rfl tq_61 rfl rfl (fun (t723 : _ = 55) => ?_)
            refine ez_go (n := 2) (pc' := 62) (L' := [(7, .inl (1)), (6, .inl (i)), (5, .inl (hi)), (4, .inl (st)), (3, .inl (n)), (2, .inr (.inr (some (r + 1)))), (0, .inr (.inr (some (729)))), (1, .inr (.inr (some (r))))]) (st' := [.inl (st), .inr (.inr (some (r + 1))), .inr (.inr (some (723)))]) rfl ?_
            have n43 : 2000 ≤ qz_N g (r + 1) ∧ qz_N g (r + 1) ≤ 2000 := ez_len hBg tp tq_2 rfl
            refine ez_aI hBg tp rfl tq_2 rfl rfl (by omega) (by omega) (fun (b42 : -2147483648 ≤ qz_I g (r + 1) (st).toNat) (b42' : qz_I g (r + 1) (st).toNat ≤ 2147483647) => ?_)
            refine ez_go (n := 2) (pc' := 66) (L' := [(7, .inl (1)), (6, .inl (i)), (5, .inl (hi)), (4, .inl (st)), (3, .inl (n)), (2, .inr (.inr (some (r + 1)))), (0, .inr (.inr (some (729)))), (1, .inr (.inr (some (r))))]) (st' := [.inl (i), .inr (.inr (some (r + 1))), .inl (qz_I g (r + 1) (st).toNat), .inr (.inr (some (723)))]) rfl ?_
            have n45 : 2000 ≤ qz_N g (r + 1) ∧ qz_N g (r + 1) ≤ 2000 := ez_len hBg tp tq_2 rfl
            refine ez_aI hBg tp rfl tq_2 rfl rfl (by omega) (by omega) (fun (b44 : -2147483648 ≤ qz_I g (r + 1) (i).toNat) (b44' : qz_I g (r + 1) (i).toNat ≤ 2147483647) => ?_)
            have sl9 : st.toNat < K.length := by omega
            have ex := hp _ _ (List.getElem?_eq_getElem sl9)
            obtain ⟨x, hx⟩ : ∃ x, x = K[st.toNat] := ⟨_, rfl⟩
            rw [← hx] at ex
            have hx2 : K[st.toNat]? = some x := by rw [hx]; exact List.getElem?_eq_getElem sl9
            have xb := (hK x (List.mem_of_getElem? hx2)).1
            have cb := (hL c (List.mem_of_getElem? hc)).1
            have cpg : cP g F E := cp.keep (so_keep hC.2.1 tp hf (by rw [t723]; decide) (by rw [t723]; decide)) (so_keep hC.2.1 tp hf (by rw [hC.2.1 727 (by decide)]; decide) (by rw [hC.2.1 727 (by decide)]; decide)) (so_keep hC.2.1 tp hf (by rw [hC.2.1 728 (by decide)]; decide) (by rw [hC.2.1 728 (by decide)]; decide))
            rw [show qz_I g (r + 1) (st).toNat = x.1 from ex.1, show qz_I g (r + 1) (i).toNat = c.1 from ec.1]
            refine ez_cv hBg t723 rfl rfl rfl tq_55 rfl rfl rfl (rd_compositeOf hBg hC.2.1 hw cpg xb.1 xb.2 cb.1 cb.2 (fun v hv => ez_K1 ?_))
            have vb := cpR_bd hw hv
            refine ez_go (n := 4) (pc' := 79) (L' := [(8, .inl (v)), (7, .inl (1)), (6, .inl (i)), (5, .inl (hi)), (4, .inl (st)), (3, .inl (n)), (2, .inr (.inr (some (r + 1)))), (0, .inr (.inr (some (729)))), (1, .inr (.inr (some (r))))]) (st' := [.inl (-1), .inl (v)]) rfl ?_
            refine ez_icmp rfl rfl ⟨by first | omega | exact (sz_i32 _).1, by first | omega | exact (sz_i32 _).2⟩ ⟨by first | omega | exact (sz_i32 _).1, by first | omega | exact (sz_i32 _).2⟩ (fun (c46 : (v) = (-1)) => ?_) (fun (c46 : ¬((v) = (-1))) => ?_)
            · skip
              have hk : kst F E K c (K ++ [c]) := Or.inr ⟨fun s x2 hs => by have q := cl.1 s x2 hs; have e2 := hs.1; rw [show s = st.toNat by omega, hx2] at e2; cases e2; rw [show (-1 : Int) = v by omega]; exact hv, rfl⟩
              refine ez_go (n := 4) (pc' := 140) (L' := [(8, .inl (v)), (7, .inl (1)), (6, .inl (i)), (5, .inl (hi)), (4, .inl (st)), (3, .inl (n)), (2, .inr (.inr (some (r + 1)))), (0, .inr (.inr (some (729)))), (1, .inr (.inr (some (r))))]) (st' := [.inl (i), .inr (.inr (some (r + 1))), .inl (n), .inr (.inr (some (r + 1)))]) rfl ?_
              have n48 : 2000 ≤ qz_N g (r + 1) ∧ qz_N g (r + 1) ≤ 2000 := ez_len hBg tp tq_2 rfl
              refine ez_aI hBg tp rfl tq_2 rfl rfl (by omega) (by omega) (fun (b47 : -2147483648 ≤ qz_I g (r + 1) (i).toNat) (b47' : qz_I g (r + 1) (i).toNat ≤ 2147483647) => ?_)
              have n51 : 2000 ≤ qz_N g (r + 1) ∧ qz_N g (r + 1) ≤ 2000 := ez_len hBg tp tq_2 rfl
              refine ez_as hBg tp rfl tq_2 rfl rfl (by omega) (by omega) (ez_vdI rfl rfl (by omega) (by omega)) (fun hB49 w50 => ?_)
              refine ez_go (n := 1) (pc' := 143) (L' := [(8, .inl (v)), (7, .inl (1)), (6, .inl (i)), (5, .inl (hi)), (4, .inl (st)), (3, .inl (n)), (2, .inr (.inr (some (r + 1)))), (0, .inr (.inr (some (729)))), (1, .inr (.inr (some (r))))]) (st' := [.inr (.inr (some (729)))]) rfl ?_
              refine ez_gC (p := 730) (tg := 62) hB49 t729 rfl rfl tq_61 rfl rfl (fun (t730 : _ = 62) => ?_)
              refine ez_go (n := 2) (pc' := 148) (L' := [(8, .inl (v)), (7, .inl (1)), (6, .inl (i)), (5, .inl (hi)), (4, .inl (st)), (3, .inl (n)), (2, .inr (.inr (some (r + 1)))), (0, .inr (.inr (some (729)))), (1, .inr (.inr (some (r))))]) (st' := [.inr (.inr (some (729))), .inl (n), .inr (.inr (some (730)))]) rfl ?_
              refine ez_gC (p := 730) (tg := 62) hB49 t729 rfl rfl tq_61 rfl rfl (fun (t730 : _ = 62) => ?_)
              refine ez_go (n := 1) (pc' := 153) (L' := [(8, .inl (v)), (7, .inl (1)), (6, .inl (i)), (5, .inl (hi)), (4, .inl (st)), (3, .inl (n)), (2, .inr (.inr (some (r + 1)))), (0, .inr (.inr (some (729)))), (1, .inr (.inr (some (r))))]) (st' := [.inl (i), .inr (.inr (some (730))), .inl (n), .inr (.inr (some (730)))]) rfl ?_
              have n53 : 2000 ≤ qz_N (dz_put g (r + 1) (n).toNat (ez_v (.inl (qz_I g (r + 1) (i).toNat)))) 730 ∧ qz_N (dz_put g (r + 1) (n).toNat (ez_v (.inl (qz_I g (r + 1) (i).toNat)))) 730 ≤ 2000 := ez_len hB49 t730 tq_62 rfl
              refine ez_aI hB49 t730 rfl tq_62 rfl rfl (by omega) (by omega) (fun (b52 : -2147483648 ≤ qz_I (dz_put g (r + 1) (n).toNat (ez_v (.inl (qz_I g (r + 1) (i).toNat)))) 730 (i).toNat) (b52' : qz_I (dz_put g (r + 1) (n).toNat (ez_v (.inl (qz_I g (r + 1) (i).toNat)))) 730 (i).toNat ≤ 2147483647) => ?_)
              have n56 : 2000 ≤ qz_N (dz_put g (r + 1) (n).toNat (ez_v (.inl (qz_I g (r + 1) (i).toNat)))) 730 ∧ qz_N (dz_put g (r + 1) (n).toNat (ez_v (.inl (qz_I g (r + 1) (i).toNat)))) 730 ≤ 2000 := ez_len hB49 t730 tq_62 rfl
              refine ez_as hB49 t730 rfl tq_62 rfl rfl (by omega) (by omega) (ez_vdI rfl rfl (by omega) (by omega)) (fun hB54 w55 => ?_)
              have e0 : qz_I (dz_put (dz_put g (r + 1) (n).toNat (ez_v (.inl (qz_I g (r + 1) (i).toNat)))) 730 (n).toNat (ez_v (.inl (qz_I (dz_put g (r + 1) (n).toNat (ez_v (.inl (qz_I g (r + 1) (i).toNat)))) 730 (i).toNat)))) (r + 1) (n).toNat = c.1 := by rw [ez_put_I (fun w => by omega), w50, show qz_I g (r + 1) (i).toNat = c.1 from ec.1]; exact ez_rg.v ⟨by omega, by omega⟩
              have e1 : qz_I (dz_put (dz_put g (r + 1) (n).toNat (ez_v (.inl (qz_I g (r + 1) (i).toNat)))) 730 (n).toNat (ez_v (.inl (qz_I (dz_put g (r + 1) (n).toNat (ez_v (.inl (qz_I g (r + 1) (i).toNat)))) 730 (i).toNat)))) 730 (n).toNat = c.2 := by rw [w55, ez_put_I (fun w => by omega), show qz_I g 730 (i).toNat = c.2 from ec.2]; exact ez_rg.v cr
              have e2 : ∀ j, j ≠ n.toNat → qz_I (dz_put (dz_put g (r + 1) (n).toNat (ez_v (.inl (qz_I g (r + 1) (i).toNat)))) 730 (n).toNat (ez_v (.inl (qz_I (dz_put g (r + 1) (n).toNat (ez_v (.inl (qz_I g (r + 1) (i).toNat)))) 730 (i).toNat)))) (r + 1) j = qz_I g (r + 1) j ∧ qz_I (dz_put (dz_put g (r + 1) (n).toNat (ez_v (.inl (qz_I g (r + 1) (i).toNat)))) 730 (n).toNat (ez_v (.inl (qz_I (dz_put g (r + 1) (n).toNat (ez_v (.inl (qz_I g (r + 1) (i).toNat)))) 730 (i).toNat)))) 730 j = qz_I g 730 j := fun j hj => ⟨by rw [ez_put_I (fun w => by omega), ez_put_I (fun w => hj w.2)], by rw [ez_put_I (fun w => hj w.2), ez_put_I (fun w => by omega)]⟩
              have f9 : ez_fr (so_P (r + 1)) h (dz_put (dz_put g (r + 1) (n).toNat (ez_v (.inl (qz_I g (r + 1) (i).toNat)))) 730 (n).toNat (ez_v (.inl (qz_I (dz_put g (r + 1) (n).toNat (ez_v (.inl (qz_I g (r + 1) (i).toNat)))) 730 (i).toNat)))) := (hf.put (so_Pp (r + 1)) _ _).put (so_Po (by decide)) _ _
              have hB9 := hB54
              generalize (dz_put (dz_put g (r + 1) (n).toNat (ez_v (.inl (qz_I g (r + 1) (i).toNat)))) 730 (n).toNat (ez_v (.inl (qz_I (dz_put g (r + 1) (n).toNat (ez_v (.inl (qz_I g (r + 1) (i).toNat)))) 730 (i).toNat)))) = g9 at *
              have p9 : prs g9 (r + 1) (K ++ [c]) := fun j z hz => by
                by_cases ej : j = n.toNat
                · rw [ej, List.getElem?_append_right (by omega), show n.toNat - K.length = 0 by omega] at hz; cases hz; rw [ej]; exact ⟨e0, e1⟩
                · have hj9 := (List.getElem?_eq_some_iff.mp hz).1
                  rw [List.length_append, List.length_singleton] at hj9
                  rw [List.getElem?_append_left (by omega)] at hz; rw [(e2 j ej).1, (e2 j ej).2]; exact hp j z hz
              have q9 : ∀ (j : Nat) z, i + 1 ≤ (j : Int) → L[j]? = some z → qz_I g9 (r + 1) j = z.1 ∧ qz_I g9 730 j = z.2 := fun j z hj hz => by rw [(e2 j (by omega)).1, (e2 j (by omega)).2]; exact hq j z (by omega) hz
              have n9 : (K ++ [c]).length = K.length + 1 := by rw [List.length_append, List.length_singleton]
              refine ez_go (n := 1) (pc' := 156) (L' := [(8, .inl (v)), (7, .inl (1)), (6, .inl (i)), (5, .inl (hi)), (4, .inl (st)), (3, .inl (n)), (2, .inr (.inr (some (r + 1)))), (0, .inr (.inr (some (729)))), (1, .inr (.inr (some (r))))]) (st' := [.inr (.inr (some (729)))]) rfl ?_
              refine ez_gC (p := 730) (tg := 62) hB9 t729 rfl rfl tq_61 rfl rfl (fun (t730 : _ = 62) => ?_)
              refine ez_go (n := 1) (pc' := 160) (L' := [(8, .inl (v)), (7, .inl (1)), (6, .inl (i)), (5, .inl (hi)), (4, .inl (st)), (3, .inl (n)), (2, .inr (.inr (some (r + 1)))), (0, .inr (.inr (some (729)))), (1, .inr (.inr (some (r))))]) (st' := [.inl (n), .inr (.inr (some (730)))]) rfl ?_
              have n58 : 2000 ≤ qz_N g9 730 ∧ qz_N g9 730 ≤ 2000 := ez_len hB9 t730 tq_62 rfl
              refine ez_aI hB9 t730 rfl tq_62 rfl rfl (by omega) (by omega) (fun (b57 : -2147483648 ≤ qz_I g9 730 (n).toNat) (b57' : qz_I g9 730 (n).toNat ≤ 2147483647) => ?_)
              rw [e1]
              refine ez_if rfl rfl ⟨by first | omega | exact (sz_i32 _).1, by first | omega | exact (sz_i32 _).2⟩ (fun (c59 : (c.2) ≠ (0)) => ?_) (fun (c59 : ¬((c.2) ≠ (0))) => ?_)
              · skip
                refine ez_go (n := 2) (pc' := 176) (L' := [(8, .inl (v)), (7, .inl (1)), (6, .inl (i)), (5, .inl (hi)), (4, .inl (st)), (3, .inl (n)), (2, .inr (.inr (some (r + 1)))), (0, .inr (.inr (some (729)))), (1, .inr (.inr (some (r))))]) (st' := [.inr (.inr (some (729))), .inl (hi)]) rfl ?_
                refine ez_gC (p := 730) (tg := 62) hB9 t729 rfl rfl tq_61 rfl rfl (fun (t730 : _ = 62) => ?_)
                refine ez_go (n := 1) (pc' := 180) (L' := [(8, .inl (v)), (7, .inl (1)), (6, .inl (i)), (5, .inl (hi)), (4, .inl (st)), (3, .inl (n)), (2, .inr (.inr (some (r + 1)))), (0, .inr (.inr (some (729)))), (1, .inr (.inr (some (r))))]) (st' := [.inl (n), .inr (.inr (some (730))), .inl (hi)]) rfl ?_
                have n61 : 2000 ≤ qz_N g9 730 ∧ qz_N g9 730 ≤ 2000 := ez_len hB9 t730 tq_62 rfl
                refine ez_aI hB9 t730 rfl tq_62 rfl rfl (by omega) (by omega) (fun (b60 : -2147483648 ≤ qz_I g9 730 (n).toNat) (b60' : qz_I g9 730 (n).toNat ≤ 2147483647) => ?_)
                rw [e1]
                refine ez_cs hB9.2.1 rfl rfl rfl rfl rfl (rd_maxE ⟨by omega, by omega⟩ ⟨by omega, by omega⟩ (ez_K1 ?_))
                refine ez_go (n := 4) (pc' := 16) (L' := [(6, .inl (i + 1)), (3, .inl (n + 1)), (5, .inl (max (hi) (c.2))), (8, .inl (v)), (7, .inl (1)), (4, .inl (st)), (2, .inr (.inr (some (r + 1)))), (0, .inr (.inr (some (729)))), (1, .inr (.inr (some (r))))]) (st' := []) rfl ?_
                refine ez_less [(6, .inl (i + 1)), (5, .inl (max (hi) (c.2))), (4, .inl (st)), (3, .inl (n + 1)), (2, .inr (.inr (some (r + 1)))), (0, .inr (.inr (some (729)))), (1, .inr (.inr (some (r))))] rfl ⟨rfl, rfl, rfl, rfl, rfl, rfl, rfl, trivial⟩ ?_
                refine ih _ _ _ _ (K ++ [c]) g9 (by omega) (by omega) (by omega) (by omega) hB9 f9 (by rw [n9]; omega) (kst_ok hw hk hK (hL c (List.mem_of_getElem? hc))) p9 q9 (cst_n hcs hst (by omega) c20) (fun R hR => hac R ?_)
                rw [dr]; exact ⟨_, hk, hR⟩
              · skip
                refine ez_go (n := 8) (pc' := 16) (L' := [(6, .inl (i + 1)), (3, .inl (n + 1)), (5, .inl (-1)), (4, .inl (n)), (8, .inl (v)), (7, .inl (1)), (2, .inr (.inr (some (r + 1)))), (0, .inr (.inr (some (729)))), (1, .inr (.inr (some (r))))]) (st' := []) rfl ?_
                refine ez_less [(6, .inl (i + 1)), (5, .inl (-1)), (4, .inl (n)), (3, .inl (n + 1)), (2, .inr (.inr (some (r + 1)))), (0, .inr (.inr (some (729)))), (1, .inr (.inr (some (r))))] rfl ⟨rfl, rfl, rfl, rfl, rfl, rfl, rfl, trivial⟩ ?_
                refine ih _ _ _ _ (K ++ [c]) g9 (by omega) (by omega) (by omega) (by omega) hB9 f9 (by rw [n9]; omega) (kst_ok hw hk hK (hL c (List.mem_of_getElem? hc))) p9 q9 (by rw [hn]; exact cst_z (st := st) (hi := hi) (by omega)) (fun R hR => hac R ?_)
                rw [dr]; exact ⟨_, hk, hR⟩
            · skip
              have v1 : 0 ≤ v ∧ v ≤ 1114111 := vb.resolve_left (by omega)
              have hlt : lst K c.2 st.toNat x := by obtain ⟨x2, h2⟩ := cl.2 (by omega) (by omega); have h3 := h2.1; rw [hx2] at h3; cases h3; exact h2
              have hk : kst F E K c (K.set st.toNat (v, (F v).1)) := Or.inl ⟨_, x, v, hlt, hv, by omega, rfl⟩
              have vr := pz_rg hC v1.1 v1.2
              obtain ⟨vr1, vr2⟩ := id vr
              have vn := (hw v).1
              refine ez_go (n := 3) (pc' := 87) (L' := [(8, .inl (v)), (7, .inl (1)), (6, .inl (i)), (5, .inl (hi)), (4, .inl (st)), (3, .inl (n)), (2, .inr (.inr (some (r + 1)))), (0, .inr (.inr (some (729)))), (1, .inr (.inr (some (r))))]) (st' := [.inl (v), .inl (st), .inr (.inr (some (r + 1)))]) rfl ?_
              have n64 : 2000 ≤ qz_N g (r + 1) ∧ qz_N g (r + 1) ≤ 2000 := ez_len hBg tp tq_2 rfl
              refine ez_as hBg tp rfl tq_2 rfl rfl (by omega) (by omega) (ez_vdI rfl rfl (by omega) (by omega)) (fun hB62 w63 => ?_)
              refine ez_go (n := 1) (pc' := 89) (L' := [(8, .inl (v)), (7, .inl (1)), (6, .inl (i)), (5, .inl (hi)), (4, .inl (st)), (3, .inl (n)), (2, .inr (.inr (some (r + 1)))), (0, .inr (.inr (some (729)))), (1, .inr (.inr (some (r))))]) (st' := [.inr (.inr (some (729)))]) rfl ?_
              refine ez_gC (p := 730) (tg := 62) hB62 t729 rfl rfl tq_61 rfl rfl (fun (t730 : _ = 62) => ?_)
              refine ez_go (n := 2) (pc' := 95) (L' := [(8, .inl (v)), (7, .inl (1)), (6, .inl (i)), (5, .inl (hi)), (4, .inl (st)), (3, .inl (n)), (2, .inr (.inr (some (r + 1)))), (0, .inr (.inr (some (729)))), (1, .inr (.inr (some (r))))]) (st' := [.inr (.inr (some (729))), .inl (st), .inr (.inr (some (730)))]) rfl ?_
              refine ez_gC (p := 202) (tg := 48) hB62 t729 rfl rfl tq_61 rfl rfl (fun (t202 : _ = 48) => ?_)
              refine ez_go (n := 1) (pc' := 100) (L' := [(8, .inl (v)), (7, .inl (1)), (6, .inl (i)), (5, .inl (hi)), (4, .inl (st)), (3, .inl (n)), (2, .inr (.inr (some (r + 1)))), (0, .inr (.inr (some (729)))), (1, .inr (.inr (some (r))))]) (st' := [.inl (v), .inr (.inr (some (202))), .inl (st), .inr (.inr (some (730)))]) rfl ?_
              have hC2 : pz_C τ (dz_put g (r + 1) (st).toNat (ez_v (.inl (v)))) T F E := hC.keep hB62 (so_kD hC.2.1 tp (hf.put (so_Pp (r + 1)) _ _))
              refine ez_cv hB62 t202 rfl rfl rfl tq_48 rfl rfl rfl (rd_classOf hC2 v1.1 v1.2 (ez_K1 ?_))
              have n67 : 2000 ≤ qz_N (dz_put g (r + 1) (st).toNat (ez_v (.inl (v)))) 730 ∧ qz_N (dz_put g (r + 1) (st).toNat (ez_v (.inl (v)))) 730 ≤ 2000 := ez_len hB62 t730 tq_62 rfl
              refine ez_as hB62 t730 rfl tq_62 rfl rfl (by omega) (by omega) (ez_vdI rfl rfl (by omega) (by omega)) (fun hB65 w66 => ?_)
              have e0 : qz_I (dz_put (dz_put g (r + 1) (st).toNat (ez_v (.inl (v)))) 730 (st).toNat (ez_v (.inl ((F v).1)))) (r + 1) (st).toNat = v := by rw [ez_put_I (fun w => by omega), w63]; exact ez_rg.v ⟨by omega, by omega⟩
              have e1 : qz_I (dz_put (dz_put g (r + 1) (st).toNat (ez_v (.inl (v)))) 730 (st).toNat (ez_v (.inl ((F v).1)))) 730 (st).toNat = (F v).1 := by rw [w66]; exact ez_rg.v vr
              have e2 : ∀ j, j ≠ st.toNat → qz_I (dz_put (dz_put g (r + 1) (st).toNat (ez_v (.inl (v)))) 730 (st).toNat (ez_v (.inl ((F v).1)))) (r + 1) j = qz_I g (r + 1) j ∧ qz_I (dz_put (dz_put g (r + 1) (st).toNat (ez_v (.inl (v)))) 730 (st).toNat (ez_v (.inl ((F v).1)))) 730 j = qz_I g 730 j := fun j hj => ⟨by rw [ez_put_I (fun w => by omega), ez_put_I (fun w => hj w.2)], by rw [ez_put_I (fun w => hj w.2), ez_put_I (fun w => by omega)]⟩
              have f9 : ez_fr (so_P (r + 1)) h (dz_put (dz_put g (r + 1) (st).toNat (ez_v (.inl (v)))) 730 (st).toNat (ez_v (.inl ((F v).1)))) := (hf.put (so_Pp (r + 1)) _ _).put (so_Po (by decide)) _ _
              have hB9 := hB65
              generalize (dz_put (dz_put g (r + 1) (st).toNat (ez_v (.inl (v)))) 730 (st).toNat (ez_v (.inl ((F v).1)))) = g9 at *
              have p9 : prs g9 (r + 1) (K.set st.toNat (v, (F v).1)) := fun j z hz => by
                by_cases ej : j = st.toNat
                · rw [ej, List.getElem?_set_self sl9] at hz; cases hz; rw [ej]; exact ⟨e0, e1⟩
                · rw [List.getElem?_set_ne (fun w => ej w.symm)] at hz; rw [(e2 j ej).1, (e2 j ej).2]; exact hp j z hz
              have q9 : ∀ (j : Nat) z, i + 1 ≤ (j : Int) → L[j]? = some z → qz_I g9 (r + 1) j = z.1 ∧ qz_I g9 730 j = z.2 := fun j z hj hz => by rw [(e2 j (by omega)).1, (e2 j (by omega)).2]; exact hq j z (by omega) hz
              have n9 : (K.set st.toNat (v, (F v).1)).length = K.length := List.length_set
              refine ez_go (n := 1) (pc' := 105) (L' := [(8, .inl (v)), (7, .inl (1)), (6, .inl (i)), (5, .inl (hi)), (4, .inl (st)), (3, .inl (n)), (2, .inr (.inr (some (r + 1)))), (0, .inr (.inr (some (729)))), (1, .inr (.inr (some (r))))]) (st' := [.inr (.inr (some (729)))]) rfl ?_
              refine ez_gC (p := 730) (tg := 62) hB9 t729 rfl rfl tq_61 rfl rfl (fun (t730 : _ = 62) => ?_)
              refine ez_go (n := 1) (pc' := 110) (L' := [(8, .inl (v)), (7, .inl (1)), (6, .inl (i)), (5, .inl (hi)), (4, .inl (st)), (3, .inl (n)), (2, .inr (.inr (some (r + 1)))), (0, .inr (.inr (some (729)))), (1, .inr (.inr (some (r))))]) (st' := [.inl (st), .inr (.inr (some (730)))]) rfl ?_
              have n69 : 2000 ≤ qz_N g9 730 ∧ qz_N g9 730 ≤ 2000 := ez_len hB9 t730 tq_62 rfl
              refine ez_aI hB9 t730 rfl tq_62 rfl rfl (by omega) (by omega) (fun (b68 : -2147483648 ≤ qz_I g9 730 (st).toNat) (b68' : qz_I g9 730 (st).toNat ≤ 2147483647) => ?_)
              rw [e1]
              refine ez_if rfl rfl ⟨by first | omega | exact (sz_i32 _).1, by first | omega | exact (sz_i32 _).2⟩ (fun (c70 : ((F v).1) = (0)) => ?_) (fun (c70 : ¬(((F v).1) = (0))) => ?_)
              · skip
                refine ez_go (n := 2) (pc' := 16) (L' := [(6, .inl (i + 1)), (8, .inl (v)), (7, .inl (1)), (5, .inl (hi)), (4, .inl (st)), (3, .inl (n)), (2, .inr (.inr (some (r + 1)))), (0, .inr (.inr (some (729)))), (1, .inr (.inr (some (r))))]) (st' := []) rfl ?_
                refine ez_less [(6, .inl (i + 1)), (5, .inl (hi)), (4, .inl (st)), (3, .inl (n)), (2, .inr (.inr (some (r + 1)))), (0, .inr (.inr (some (729)))), (1, .inr (.inr (some (r))))] rfl ⟨rfl, rfl, rfl, rfl, rfl, rfl, rfl, trivial⟩ ?_
                refine ih _ _ _ _ (K.set st.toNat (v, (F v).1)) g9 (by omega) (by omega) (by omega) (by omega) hB9 f9 (by rw [n9]; omega) (kst_ok hw hk hK (hL c (List.mem_of_getElem? hc))) p9 q9 (cst_set0 hcs (by omega) (by show (F v).1 = 0; omega)) (fun R hR => hac R ?_)
                rw [dr]; exact ⟨_, hk, hR⟩
              · skip
                refine ez_go (n := 2) (pc' := 116) (L' := [(8, .inl (v)), (7, .inl (1)), (6, .inl (i)), (5, .inl (hi)), (4, .inl (st)), (3, .inl (n)), (2, .inr (.inr (some (r + 1)))), (0, .inr (.inr (some (729)))), (1, .inr (.inr (some (r))))]) (st' := [.inl (n), .inr (.inr (some (729)))]) rfl ?_
                refine ez_cv hB9 t729 rfl rfl rfl tq_61 rfl rfl rfl (rd_lastStarter (h := g9) hB9 t729 (by omega) (by omega) (fun s2 hs2 => ez_K1 ?_))
                have s2b : -1 ≤ s2 ∧ s2 < n := by omega
                refine ez_go (n := 6) (pc' := 127) (L' := [(4, .inl (s2)), (8, .inl (v)), (7, .inl (1)), (6, .inl (i)), (5, .inl (hi)), (3, .inl (n)), (2, .inr (.inr (some (r + 1)))), (0, .inr (.inr (some (729)))), (1, .inr (.inr (some (r))))]) (st' := [.inl (n), .inl ((s2) + (1)), .inr (.inr (some (729)))]) rfl ?_
                refine ez_cv hB9 t729 rfl rfl rfl tq_61 rfl rfl rfl (rd_highest (h := g9) hB9 t729 (by omega) (by omega) (by omega) (fun h2 hh2 => ez_K1 ?_))
                refine ez_go (n := 4) (pc' := 16) (L' := [(6, .inl (i + 1)), (5, .inl (h2)), (4, .inl (s2)), (8, .inl (v)), (7, .inl (1)), (3, .inl (n)), (2, .inr (.inr (some (r + 1)))), (0, .inr (.inr (some (729)))), (1, .inr (.inr (some (r))))]) (st' := []) rfl ?_
                refine ez_less [(6, .inl (i + 1)), (5, .inl (h2)), (4, .inl (s2)), (3, .inl (n)), (2, .inr (.inr (some (r + 1)))), (0, .inr (.inr (some (729)))), (1, .inr (.inr (some (r))))] rfl ⟨rfl, rfl, rfl, rfl, rfl, rfl, rfl, trivial⟩ ?_
                refine ih _ _ _ _ (K.set st.toNat (v, (F v).1)) g9 (by omega) (by omega) (by omega) (by omega) hB9 f9 (by rw [n9]; omega) (kst_ok hw hk hK (hL c (List.mem_of_getElem? hc))) p9 q9 (co_new hB9 hn p9 n9 hs2 hh2) (fun R hR => hac R ?_)
                rw [dr]; exact ⟨_, hk, hR⟩
    · skip
      refine ez_go (n := 2) (pc' := 19) (L' := [(6, .inl (i)), (5, .inl (hi)), (4, .inl (st)), (3, .inl (n)), (2, .inr (.inr (some (r + 1)))), (0, .inr (.inr (some (729)))), (1, .inr (.inr (some (r))))]) (st' := [.inr (.inr (some (r))), .inl (i)]) rfl ?_
      refine ez_gI hBg tr rfl rfl tq_1 rfl rfl (fun (b1 : 0 ≤ qz_I g r 1) (b1' : qz_I g r 1 ≤ 2000) => ?_)
      refine ez_icmp rfl rfl ⟨by first | omega | exact (sz_i32 _).1, by first | omega | exact (sz_i32 _).2⟩ ⟨by first | omega | exact (sz_i32 _).1, by first | omega | exact (sz_i32 _).2⟩ (fun (c2 : (qz_I g r 1) ≤ (i)) => ?_) (fun (c2 : ¬((qz_I g r 1) ≤ (i))) => ?_)
      · skip
        refine ez_go (n := 2) (pc' := 197) (L' := [(6, .inl (i)), (5, .inl (hi)), (4, .inl (st)), (3, .inl (n)), (2, .inr (.inr (some (r + 1)))), (0, .inr (.inr (some (729)))), (1, .inr (.inr (some (r))))]) (st' := [.inl (n), .inr (.inr (some (r)))]) rfl ?_
        refine ez_pf hBg tr rfl rfl tq_1 rfl rfl rfl rfl (ez_vdI rfl rfl (by omega) (by omega)) (fun hB3 w4 => ?_)
        refine ez_ret0 rfl rfl (k _ K hB3 ((ez_fr_mono hf (fun z hz => co_Ps hz)).put (co_Pr r) _ _) (hac K (by rw [List.drop_of_length_le (by omega)]; rfl)) hK ⟨by rw [w4, List.length_map]; rw [show ((Int32.ofInt n).toInt) = n from ez_rg.v ⟨by omega, by omega⟩]; exact hn.symm, fun j v hv => ?_⟩)
        rw [List.getElem?_map] at hv
        obtain ⟨z, z1, z2⟩ := Option.map_eq_some_iff.mp hv
        rw [ez_put_I (fun w => by omega), ← z2]; exact (hp j z z1).1
      · exfalso; omega
theorem rd_compose {L : List (Int × Int)} (hC : pz_C τ h T F E) (hw : uz_wf F) (cp : cP h F E) (tr : τ r = 1) (nr : r < 730 ∨ 732 < r) (hl : qz_I h r 1 = (L.length : Int)) (hL : kok F L) (hp : prs h (r + 1) L) (k : ∀ g K, ez_B τ g → ez_fr (co_P r) h g → kcR F E L [] K → kok F K → tx g r (K.map Prod.fst) → Q (.inl none, g)) : ez_W (d + 2) cm_136 0 [(0, .inr (.inr (some (729)))), (1, .inr (.inr (some (r))))] [] h Q := by
  have t729 : τ 729 = 61 := hC.2.1 729 (by decide)
  have t723 : τ 723 = 55 := hC.2.1 723 (by decide)
  have t730 : τ 730 = 62 := hC.2.1 730 (by decide)
  have t202 : τ 202 = 48 := hC.2.1 202 (by decide)
  have tp := tx_p1 hC.1 tr
  have np0 : r + 1 ≠ 730 := fun e => by rw [e, t730] at tp; cases tp
  have np1 : r ≠ 730 := fun e => by rw [e, t730] at tr; cases tr
  have hb := tx_l1 hC.1 tr
  rw [hl] at hb
  refine ez_go (n := 1) (pc' := 1) (L' := [(0, .inr (.inr (some (729)))), (1, .inr (.inr (some (r))))]) (st' := [.inr (.inr (some (r)))]) rfl ?_
  refine ez_g3 hC.1 tr rfl rfl tq_1 rfl rfl (fun (t1 : _ = 2) => ?_)
  refine ez_go (n := 9) (pc' := 16) (L' := [(6, .inl (0)), (5, .inl (-1)), (4, .inl (-1)), (3, .inl (0)), (2, .inr (.inr (some (r + 1)))), (0, .inr (.inr (some (729)))), (1, .inr (.inr (some (r))))]) (st' := []) rfl ?_
  refine ez_less [(6, .inl (0)), (5, .inl (-1)), (4, .inl (-1)), (3, .inl (0)), (2, .inr (.inr (some (r + 1)))), (0, .inr (.inr (some (729)))), (1, .inr (.inr (some (r))))] rfl ⟨rfl, rfl, rfl, rfl, rfl, rfl, rfl, trivial⟩ ?_
  exact rd_compose_l (h := h) hC hw cp tr nr hl hL k _ 0 (-1) (-1) 0 [] h rfl (by omega) (by omega) (by omega) hC.1 (ez_fr.refl _ _) rfl (fun x hx => by cases hx) (fun j z hz => by cases hz) (fun j z _ hz => hp j z hz) cst_0 (fun R hR => hR)

end EzCo
