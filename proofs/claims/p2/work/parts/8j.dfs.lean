/-! The class: enter, descend. (Written by wip/p2/py/pv31.py.) -/
/-- a point goes onto the path -/
def en (τ : Nat → Nat) (h g : cz_H) (r : Nat) (n : Int) : Prop := ez_B τ g ∧ pz τ h g ∧ (∀ q, τ q = 3 → q ≠ r → g.2.2 q = h.2.2 q) ∧ qz_I g r 8 = 1 ∧ (∀ j, j ≠ 8 → qz_I g r j = qz_I h r j) ∧ qz_I g 723 5 = n + 1 ∧ (∀ j, j ≠ 5 → qz_I g 723 j = qz_I h 723 j) ∧ g.2.2 724 = h.2.2 724 ∧ (∀ i : Nat, (i : Int) ≠ n → qz_I g 725 i = qz_I h 725 i ∧ qz_I g 726 i = qz_I h 726 i) ∧ qz_I g 725 n.toNat = (r : Int) + 1 ∧ qz_I g 726 n.toNat = 0
section EzEn
variable {d : Nat} {h : cz_H} {τ : Nat → Nat} {Q : cz_F → Prop} {T : Int → Nat} {F : rz_W} {E : Int → Prop}
theorem rd_enter {r : Nat} (hB : ez_B τ h) (hX : jz_X τ) (tr : τ r = 3) (hr : (r : Int) + 1 ≤ 1000000) (hd : qz_I h 723 5 < 256) (k : ∀ g, en τ h g r (qz_I h 723 5) → Q (.inl (some (ez_v (.inl 1))), g)) : ez_W d cm_116 0 [(0, .inr (.inr (some (723)))), (1, .inr (.inr (some (r))))] [] h Q := by
  have t723 : τ 723 = 55 := hX 723 (by decide)
  have t725 : τ 725 = 57 := hX 725 (by decide)
  have t726 : τ 726 = 58 := hX 726 (by decide)
  have r723 : r ≠ 723 := fun e => by rw [e, t723] at tr; cases tr
  have r725 : r ≠ 725 := fun e => by rw [e, t725] at tr; cases tr
  have r726 : r ≠ 726 := fun e => by rw [e, t726] at tr; cases tr
  refine ez_go (n := 1) (pc' := 1) (L' := [(0, .inr (.inr (some (723)))), (1, .inr (.inr (some (r))))]) (st' := [.inr (.inr (some (723)))]) rfl ?_
  refine ez_gI hB t723 rfl rfl tq_55 rfl rfl (fun (b1 : 0 ≤ qz_I h 723 5) (b1' : qz_I h 723 5 ≤ 256) => ?_)
  refine ez_go (n := 1) (pc' := 7) (L' := [(0, .inr (.inr (some (723)))), (1, .inr (.inr (some (r))))]) (st' := [.inl (256), .inl (qz_I h 723 5)]) rfl ?_
  refine ez_icmp rfl rfl ⟨by first | omega | exact (sz_i32 _).1, by first | omega | exact (sz_i32 _).2⟩ ⟨by first | omega | exact (sz_i32 _).1, by first | omega | exact (sz_i32 _).2⟩ (fun (c2 : (qz_I h 723 5) < (256)) => ?_) (fun (c2 : ¬((qz_I h 723 5) < (256))) => ?_)
  · skip
    refine ez_go (n := 2) (pc' := 14) (L' := [(0, .inr (.inr (some (723)))), (1, .inr (.inr (some (r))))]) (st' := [.inl (1), .inr (.inr (some (r)))]) rfl ?_
    refine ez_pf hB tr rfl rfl tq_3 rfl rfl rfl rfl (ez_vdI rfl rfl (by omega) (by omega)) (fun hB3 w4 => ?_)
    refine ez_go (n := 1) (pc' := 18) (L' := [(0, .inr (.inr (some (723)))), (1, .inr (.inr (some (r))))]) (st' := [.inr (.inr (some (723)))]) rfl ?_
    refine ez_gC (p := 725) (tg := 57) hB3 t723 rfl rfl tq_55 rfl rfl (fun (t725 : _ = 57) => ?_)
    refine ez_go (n := 1) (pc' := 22) (L' := [(0, .inr (.inr (some (723)))), (1, .inr (.inr (some (r))))]) (st' := [.inr (.inr (some (723))), .inr (.inr (some (725)))]) rfl ?_
    refine ez_gI hB3 t723 rfl rfl tq_55 rfl rfl (fun (b5 : 0 ≤ qz_I (dz_put h r 8 (ez_v (.inl (1)))) 723 5) (b5' : qz_I (dz_put h r 8 (ez_v (.inl (1)))) 723 5 ≤ 256) => ?_)
    have z1 : qz_I (dz_put h r 8 (ez_v (.inl (1)))) 723 5 = qz_I h 723 5 := by rw [ez_put_I (by omega)]
    refine ez_go (n := 1) (pc' := 26) (L' := [(0, .inr (.inr (some (723)))), (1, .inr (.inr (some (r))))]) (st' := [.inr (.inr (some (r))), .inl (qz_I (dz_put h r 8 (ez_v (.inl (1)))) 723 5), .inr (.inr (some (725)))]) rfl ?_
    have n8 : 256 ≤ qz_N (dz_put h r 8 (ez_v (.inl (1)))) 725 ∧ qz_N (dz_put h r 8 (ez_v (.inl (1)))) 725 ≤ 256 := ez_len hB3 t725 tq_57 rfl
    refine ez_aa hB3 t725 tr rfl tq_57 tq_3 rfl rfl rfl (by omega) (by omega) (ez_vdR rfl tr (by omega) (by omega)) (fun hB6 w7 => ?_)
    refine ez_go (n := 1) (pc' := 28) (L' := [(0, .inr (.inr (some (723)))), (1, .inr (.inr (some (r))))]) (st' := [.inr (.inr (some (723)))]) rfl ?_
    refine ez_gC (p := 726) (tg := 58) hB6 t723 rfl rfl tq_55 rfl rfl (fun (t726 : _ = 58) => ?_)
    refine ez_go (n := 1) (pc' := 32) (L' := [(0, .inr (.inr (some (723)))), (1, .inr (.inr (some (r))))]) (st' := [.inr (.inr (some (723))), .inr (.inr (some (726)))]) rfl ?_
    refine ez_gI hB6 t723 rfl rfl tq_55 rfl rfl (fun (b9 : 0 ≤ qz_I (dz_put (dz_put h r 8 (ez_v (.inl (1)))) 725 (qz_I (dz_put h r 8 (ez_v (.inl (1)))) 723 5).toNat (ez_v (.inr (.inr (some (r)))))) 723 5) (b9' : qz_I (dz_put (dz_put h r 8 (ez_v (.inl (1)))) 725 (qz_I (dz_put h r 8 (ez_v (.inl (1)))) 723 5).toNat (ez_v (.inr (.inr (some (r)))))) 723 5 ≤ 256) => ?_)
    have z2 : qz_I (dz_put (dz_put h r 8 (ez_v (.inl (1)))) 725 (qz_I (dz_put h r 8 (ez_v (.inl (1)))) 723 5).toNat (ez_v (.inr (.inr (some (r)))))) 723 5 = qz_I h 723 5 := by rw [ez_put_I (by omega)]; rw [ez_put_I (by omega)]
    refine ez_go (n := 1) (pc' := 36) (L' := [(0, .inr (.inr (some (723)))), (1, .inr (.inr (some (r))))]) (st' := [.inl (0), .inl (qz_I (dz_put (dz_put h r 8 (ez_v (.inl (1)))) 725 (qz_I (dz_put h r 8 (ez_v (.inl (1)))) 723 5).toNat (ez_v (.inr (.inr (some (r)))))) 723 5), .inr (.inr (some (726)))]) rfl ?_
    have n12 : 256 ≤ qz_N (dz_put (dz_put h r 8 (ez_v (.inl (1)))) 725 (qz_I (dz_put h r 8 (ez_v (.inl (1)))) 723 5).toNat (ez_v (.inr (.inr (some (r)))))) 726 ∧ qz_N (dz_put (dz_put h r 8 (ez_v (.inl (1)))) 725 (qz_I (dz_put h r 8 (ez_v (.inl (1)))) 723 5).toNat (ez_v (.inr (.inr (some (r)))))) 726 ≤ 256 := ez_len hB6 t726 tq_58 rfl
    refine ez_as hB6 t726 rfl tq_58 rfl rfl (by omega) (by omega) (ez_vdI rfl rfl (by omega) (by omega)) (fun hB10 w11 => ?_)
    refine ez_go (n := 2) (pc' := 39) (L' := [(0, .inr (.inr (some (723)))), (1, .inr (.inr (some (r))))]) (st' := [.inr (.inr (some (723))), .inr (.inr (some (723)))]) rfl ?_
    refine ez_gI hB10 t723 rfl rfl tq_55 rfl rfl (fun (b13 : 0 ≤ qz_I (dz_put (dz_put (dz_put h r 8 (ez_v (.inl (1)))) 725 (qz_I (dz_put h r 8 (ez_v (.inl (1)))) 723 5).toNat (ez_v (.inr (.inr (some (r)))))) 726 (qz_I (dz_put (dz_put h r 8 (ez_v (.inl (1)))) 725 (qz_I (dz_put h r 8 (ez_v (.inl (1)))) 723 5).toNat (ez_v (.inr (.inr (some (r)))))) 723 5).toNat (ez_v (.inl (0)))) 723 5) (b13' : qz_I (dz_put (dz_put (dz_put h r 8 (ez_v (.inl (1)))) 725 (qz_I (dz_put h r 8 (ez_v (.inl (1)))) 723 5).toNat (ez_v (.inr (.inr (some (r)))))) 726 (qz_I (dz_put (dz_put h r 8 (ez_v (.inl (1)))) 725 (qz_I (dz_put h r 8 (ez_v (.inl (1)))) 723 5).toNat (ez_v (.inr (.inr (some (r)))))) 723 5).toNat (ez_v (.inl (0)))) 723 5 ≤ 256) => ?_)
    have z3 : qz_I (dz_put (dz_put (dz_put h r 8 (ez_v (.inl (1)))) 725 (qz_I (dz_put h r 8 (ez_v (.inl (1)))) 723 5).toNat (ez_v (.inr (.inr (some (r)))))) 726 (qz_I (dz_put (dz_put h r 8 (ez_v (.inl (1)))) 725 (qz_I (dz_put h r 8 (ez_v (.inl (1)))) 723 5).toNat (ez_v (.inr (.inr (some (r)))))) 723 5).toNat (ez_v (.inl (0)))) 723 5 = qz_I h 723 5 := by rw [ez_put_I (by omega)]; rw [ez_put_I (by omega)]; rw [ez_put_I (by omega)]
    refine ez_go (n := 2) (pc' := 44) (L' := [(0, .inr (.inr (some (723)))), (1, .inr (.inr (some (r))))]) (st' := [.inl ((qz_I (dz_put (dz_put (dz_put h r 8 (ez_v (.inl (1)))) 725 (qz_I (dz_put h r 8 (ez_v (.inl (1)))) 723 5).toNat (ez_v (.inr (.inr (some (r)))))) 726 (qz_I (dz_put (dz_put h r 8 (ez_v (.inl (1)))) 725 (qz_I (dz_put h r 8 (ez_v (.inl (1)))) 723 5).toNat (ez_v (.inr (.inr (some (r)))))) 723 5).toNat (ez_v (.inl (0)))) 723 5) + (1)), .inr (.inr (some (723)))]) rfl ?_
    refine ez_pf hB10 t723 rfl rfl tq_55 rfl rfl rfl rfl (ez_vdI rfl rfl (by omega) (by omega)) (fun hB14 w15 => ?_)
    refine ez_go (n := 1) (pc' := 48) (L' := [(0, .inr (.inr (some (723)))), (1, .inr (.inr (some (r))))]) (st' := [.inl (1)]) rfl ?_
    have X3 := fun q (q1 : 723 ≤ q) (q2 : q ≤ 728) => (pz_X hX q1 q2).1
    refine ez_retZ rfl rfl (by decide) (k _ ⟨hB14, ((((pz_put3 tr (by omega)).trans (pz_put (by omega) (by omega) (X3 725 (by omega) (by omega)))).trans (pz_put (by omega) (by omega) (X3 726 (by omega) (by omega)))).trans (pz_put (by omega) (by omega) (X3 723 (by omega) (by omega)))), fun q q1 q2 => ?_, ?_, fun j hj => ?_, ?_, fun j hj => ?_, ?_, fun i hi => ⟨?_, ?_⟩, ?_, ?_⟩)
    · rw [qz_put_at _ _ _ _ (fun e => X3 q (by omega) (by omega) q1), qz_put_at _ _ _ _ (fun e => X3 q (by omega) (by omega) q1), qz_put_at _ _ _ _ (fun e => X3 q (by omega) (by omega) q1), qz_put_at _ _ _ _ q2]
    · rw [ez_put_I (by omega), ez_put_I (by omega), ez_put_I (by omega), w4]; rfl
    · rw [ez_put_I (by omega), ez_put_I (by omega), ez_put_I (by omega), ez_put_I (fun w => hj w.2)]
    · rw [w15, rz_rd ⟨by omega, by omega⟩]; omega
    · rw [ez_put_I (fun w => hj w.2), ez_put_I (by omega), ez_put_I (by omega), ez_put_I (by omega)]
    · rw [qz_put_at _ _ _ _ (by omega), qz_put_at _ _ _ _ (by omega), qz_put_at _ _ _ _ (by omega), qz_put_at _ _ _ _ (fun e => X3 724 (by omega) (by omega) (by rw [e]; exact tr))]
    · rw [ez_put_I (by omega), ez_put_I (by omega), ez_put_I (by omega), ez_put_I (by omega)]
    · rw [ez_put_I (by omega), ez_put_I (by omega), ez_put_I (by omega), ez_put_I (by omega)]
    · rw [ez_put_I (by omega), ez_put_I (by omega)]; have e : qz_I h 723 5 = _ := z1.symm; rw [e]; exact w7
    · rw [ez_put_I (by omega)]; have e : qz_I h 723 5 = _ := z2.symm; rw [e]; exact w11
  · skip
    refine ez_go (n := 1) (pc' := 11) (L' := [(0, .inr (.inr (some (723)))), (1, .inr (.inr (some (r))))]) (st' := [.inl (0)]) rfl ?_
    exfalso; omega

theorem rd_descend {x : Int} (hC : pz_C τ h T F E) (x0 : 0 ≤ x) (x1 : x ≤ 1114111) (hd : ¬ hz x → (F x).2 ≠ none → qz_I h (T x) 8 = 0 → qz_I h 723 5 < 256) (kD : (hz x ∨ (F x).2 = none ∨ qz_I h (T x) 8 = 2) → Q (.inl (some (ez_v (.inl 1))), h)) (kE : ¬ hz x → (F x).2 ≠ none → qz_I h (T x) 8 = 0 → ∀ g, en τ h g (T x) (qz_I h 723 5) → Q (.inl (some (ez_v (.inl 1))), g)) (kF : ¬ hz x → (F x).2 ≠ none → qz_I h (T x) 8 = 1 → Q (.inl (some (ez_v (.inl 0))), h)) : ez_W (d + 2) cm_115 0 [(0, .inr (.inr (some (723)))), (1, .inl (x))] [] h Q := by
  have t723 : τ 723 = 55 := hC.2.1 723 (by decide)
  have rm : h.1 + 0 ≤ 600192 := by have : cz_room h 0 0 = true := hC.1.2.1; unfold cz_room at this; rw [Bool.and_eq_true] at this; exact Nat.ble_eq.mp this.1
  refine ez_go (n := 1) (pc' := 1) (L' := [(0, .inr (.inr (some (723)))), (1, .inl (x))]) (st' := [.inr (.inr (some (723)))]) rfl ?_
  refine ez_gC (p := 202) (tg := 48) hC.1 t723 rfl rfl tq_55 rfl rfl (fun (t202 : _ = 48) => ?_)
  refine ez_go (n := 1) (pc' := 5) (L' := [(0, .inr (.inr (some (723)))), (1, .inl (x))]) (st' := [.inl (x), .inr (.inr (some (202)))]) rfl ?_
  refine ez_cv hC.1 t202 rfl rfl rfl tq_48 rfl rfl rfl (rd_spanOf hC x0 x1 (fun z tz z1 _ => ez_KA ?_))
  refine ez_gR hC.1 tz rfl rfl tq_4 rfl rfl (fun (t1 : _ = 3) (t1' : 1 ≤ qz_I h z 1) => ?_)
  have eT : qz_P h z 1 = T x := by unfold qz_P; omega
  rw [eT]
  obtain ⟨tT, -, f3, f4⟩ := hC.2.2.2.2 x x0 x1
  have lT := dz_here_lt (hC.1.1 _ (by rw [tT]; decide)).1
  refine ez_go (n := 2) (pc' := 13) (L' := [(2, .inr (.inr (some ((T x))))), (0, .inr (.inr (some (723)))), (1, .inl (x))]) (st' := [.inl (x)]) rfl ?_
  refine ez_cs hC.1.2.1 rfl rfl rfl rfl rfl (rd_isSyl (by omega) (by omega) (fun e => ez_K1 ?_) (fun e => ez_K1 ?_))
  · skip
    refine ez_if rfl rfl ⟨by decide, by decide⟩ (fun _ => ?_) (fun (c2 : ¬((1 : Int) ≠ (0))) => absurd c2 (by decide))
    refine ez_go (n := 1) (pc' := 35) (L' := [(2, .inr (.inr (some ((T x))))), (0, .inr (.inr (some (723)))), (1, .inl (x))]) (st' := [.inl (1)]) rfl ?_
    exact ez_retZ rfl rfl (by decide) (kD (Or.inl e))
  · skip
    refine ez_if rfl rfl ⟨by decide, by decide⟩ (fun (c3 : (0 : Int) ≠ (0)) => absurd c3 (by decide)) (fun _ => ?_)
    refine ez_go (n := 1) (pc' := 20) (L' := [(2, .inr (.inr (some ((T x))))), (0, .inr (.inr (some (723)))), (1, .inl (x))]) (st' := [.inr (.inr (some ((T x))))]) rfl ?_
    refine ez_gN hC.1 tT rfl rfl tq_3 rfl rfl (fun (t4 : qz_I h ((T x)) 3 = 0) => ?_) (fun (t4 : _ = 5) (t4' : 1 ≤ qz_I h ((T x)) 3) => ?_)
    · skip
      refine ez_null0 rfl rfl ?_
      refine ez_go (n := 1) (pc' := 35) (L' := [(2, .inr (.inr (some ((T x))))), (0, .inr (.inr (some (723)))), (1, .inl (x))]) (st' := [.inl (1)]) rfl ?_
      exact ez_retZ rfl rfl (by decide) (kD (by first | (exact Or.inr (Or.inr (by omega))) | (refine Or.inr (Or.inl ?_); cases hq : (F x).2 with | none => rfl | some q => have := (f4 q.1 q.2 hq).2.2.1; omega)))
    · skip
      have hns : (F x).2 ≠ none := fun w => by have := f3 w; omega
      refine ez_null1 rfl ?_
      refine ez_go (n := 1) (pc' := 27) (L' := [(2, .inr (.inr (some ((T x))))), (0, .inr (.inr (some (723)))), (1, .inl (x))]) (st' := [.inr (.inr (some ((T x))))]) rfl ?_
      refine ez_gI hC.1 tT rfl rfl tq_3 rfl rfl (fun (b5 : 0 ≤ qz_I h ((T x)) 8) (b5' : qz_I h ((T x)) 8 ≤ 2) => ?_)
      refine ez_go (n := 1) (pc' := 31) (L' := [(2, .inr (.inr (some ((T x))))), (0, .inr (.inr (some (723)))), (1, .inl (x))]) (st' := [.inl (2), .inl (qz_I h ((T x)) 8)]) rfl ?_
      refine ez_icmp rfl rfl ⟨by first | omega | exact (sz_i32 _).1, by first | omega | exact (sz_i32 _).2⟩ ⟨by first | omega | exact (sz_i32 _).1, by first | omega | exact (sz_i32 _).2⟩ (fun (c6 : (qz_I h ((T x)) 8) ≠ (2)) => ?_) (fun (c6 : ¬((qz_I h ((T x)) 8) ≠ (2))) => ?_)
      · skip
        refine ez_go (n := 1) (pc' := 37) (L' := [(2, .inr (.inr (some ((T x))))), (0, .inr (.inr (some (723)))), (1, .inl (x))]) (st' := [.inr (.inr (some ((T x))))]) rfl ?_
        refine ez_gI hC.1 tT rfl rfl tq_3 rfl rfl (fun (b7 : 0 ≤ qz_I h ((T x)) 8) (b7' : qz_I h ((T x)) 8 ≤ 2) => ?_)
        refine ez_if rfl rfl ⟨by first | omega | exact (sz_i32 _).1, by first | omega | exact (sz_i32 _).2⟩ (fun (c8 : (qz_I h ((T x)) 8) ≠ (0)) => ?_) (fun (c8 : ¬((qz_I h ((T x)) 8) ≠ (0))) => ?_)
        · skip
          refine ez_go (n := 1) (pc' := 56) (L' := [(2, .inr (.inr (some ((T x))))), (0, .inr (.inr (some (723)))), (1, .inl (x))]) (st' := [.inl (0)]) rfl ?_
          exact ez_retZ rfl rfl (by decide) (kF e hns (by omega))
        · skip
          refine ez_go (n := 2) (pc' := 45) (L' := [(2, .inr (.inr (some ((T x))))), (0, .inr (.inr (some (723)))), (1, .inl (x))]) (st' := [.inr (.inr (some ((T x)))), .inr (.inr (some (723)))]) rfl ?_
          refine ez_cv hC.1 t723 rfl rfl rfl tq_55 rfl rfl rfl (rd_enter hC.1 hC.2.1 tT (by omega) (hd e (by assumption) (by omega)) (fun g he => ez_K1 ?_))
          refine ez_if rfl rfl ⟨by decide, by decide⟩ (fun (c9 : (1 : Int) = (0)) => absurd c9 (by decide)) (fun _ => ?_)
          refine ez_go (n := 2) (pc' := 56) (L' := [(2, .inr (.inr (some ((T x))))), (0, .inr (.inr (some (723)))), (1, .inl (x))]) (st' := [.inl (1)]) rfl ?_
          exact ez_retZ rfl rfl (by decide) (kE e hns (by omega) g he)
      · skip
        refine ez_go (n := 1) (pc' := 35) (L' := [(2, .inr (.inr (some ((T x))))), (0, .inr (.inr (some (723)))), (1, .inl (x))]) (st' := [.inl (1)]) rfl ?_
        exact ez_retZ rfl rfl (by decide) (kD (by first | (exact Or.inr (Or.inr (by omega))) | (refine Or.inr (Or.inl ?_); cases hq : (F x).2 with | none => rfl | some q => have := (f4 q.1 q.2 hq).2.2.1; omega)))

end EzEn
/-! The class: the path through the decompositions. -/
theorem wz_le2 {W W' : Int → Nat} : ∀ {xs : List Int}, (∀ x ∈ xs, W' x ≤ W x) → wz W' xs ≤ wz W xs
  | [], _ => Nat.le_refl _
  | x :: xs, h => by
    have := wz_le2 (xs := xs) (fun y hy => h y (List.mem_cons_of_mem _ hy))
    have := h x List.mem_cons_self
    unfold wz
    omega
theorem wz_lt2 {W W' : Int → Nat} {y : Int} {k : Nat} : ∀ {xs : List Int}, (∀ x ∈ xs, W' x ≤ W x) → y ∈ xs → W' y + k ≤ W y → wz W' xs + k ≤ wz W xs
  | x :: xs, h, hy, hk => by
    unfold wz
    rcases List.mem_cons.mp hy with rfl | hy
    · have := wz_le2 (xs := xs) (fun y hy => h y (List.mem_cons_of_mem _ hy))
      omega
    · have := wz_lt2 (xs := xs) (fun y hy => h y (List.mem_cons_of_mem _ hy)) hy hk
      have := h x List.mem_cons_self
      omega
theorem wz_eq2 {W W' : Int → Nat} {xs : List Int} (h : ∀ x ∈ xs, W' x = W x) : wz W' xs = wz W xs := by
  have h1 := wz_le2 (W := W) (W' := W') (xs := xs) (fun x hx => by rw [h x hx]; exact Nat.le_refl _)
  have h2 := wz_le2 (W := W') (W' := W) (xs := xs) (fun x hx => by rw [h x hx]; exact Nat.le_refl _)
  omega
def dd (g : cz_H) (T : Int → Nat) (F : rz_W) (v : Int) : Prop := hz v ∨ (F v).2 = none ∨ qz_I g (T v) 8 = 2
def nd (g : cz_H) (T : Int → Nat) (F : rz_W) (x : Int) (i : Nat) (ab : Option Int) : Prop := (0 ≤ x ∧ x ≤ 1114111) ∧ ¬ hz x ∧ qz_I g 725 i = (T x : Int) + 1 ∧ qz_I g (T x) 8 = 1 ∧ ∃ cp vs, (F x).2 = some (cp, vs) ∧ 0 ≤ qz_I g 726 i ∧ qz_I g 726 i ≤ (vs.length : Int) ∧ (match ab with
  | none => ∀ (j : Nat) v, (j : Int) < qz_I g 726 i → vs[j]? = some v → dd g T F v
  | some y => 1 ≤ qz_I g 726 i ∧ vs[(qz_I g 726 i - 1).toNat]? = some y ∧ ∀ (j : Nat) v, (j : Int) < qz_I g 726 i - 1 → vs[j]? = some v → dd g T F v)
def pk (g : cz_H) (T : Int → Nat) (F : rz_W) : Option Int → List Int → Prop
  | _, [] => True
  | ab, x :: rest => nd g T F x rest.length ab ∧ pk g T F (some x) rest
def cl (g : cz_H) (T : Int → Nat) (F : rz_W) : Prop := ∀ x, 0 ≤ x → x ≤ 1114111 → (F x).2 ≠ none → qz_I g (T x) 8 = 2 → az_e F x ∧ ∀ c, ∃ l, uz_F F c x l ∧ sg g (T x) c l ∧ l.length ≤ 40
def wU (g : cz_H) (T : Int → Nat) (x : Int) : Nat := if qz_I g (T x) 8 = 0 then 1 else 0
def wN (g : cz_H) (T : Int → Nat) (x : Int) : Nat := if qz_I g (T x) 8 = 2 then 0 else 1
def rl (F : rz_W) (x : Int) : Nat := match (F x).2 with
  | none => 0
  | some q => q.2.length
def ps (g : cz_H) (F : rz_W) : List Int → Nat
  | [] => 0
  | x :: rest => ((rl F x : Int) - qz_I g 726 rest.length + 1).toNat + ps g F rest
def xz (τ : Nat → Nat) (T : Int → Nat) (F : rz_W) (E : Int → Prop) (Xs : List Int) (g : cz_H) (ab : Option Int) (pt : List Int) : Prop := pz_C τ g T F E ∧ qz_I g 723 5 = (pt.length : Int) ∧ pt.Nodup ∧ pk g T F ab pt ∧ cl g T F ∧ (∀ x, 0 ≤ x → x ≤ 1114111 → (F x).2 ≠ none → qz_I g (T x) 8 = 1 → x ∈ pt) ∧ pt.length + wz (wU g T) Xs ≤ Xs.length ∧ qz_I g 723 2 + 80 * (wz (wN g T) Xs : Int) ≤ 80 * (Xs.length : Int)
theorem T_inj {τ : Nat → Nat} {g : cz_H} {T : Int → Nat} {F : rz_W} {E : Int → Prop} (hC : pz_C τ g T F E) {x y : Int} (x0 : 0 ≤ x) (x1 : x ≤ 1114111) (y0 : 0 ≤ y) (y1 : y ≤ 1114111) (hx : (F x).2 ≠ none) (e : T y = T x) : y = x := by
  obtain ⟨-, -, a3, a4⟩ := hC.2.2.2.2 x x0 x1
  obtain ⟨-, -, b3, b4⟩ := hC.2.2.2.2 y y0 y1
  cases hq : (F x).2 with
  | none => exact absurd hq hx
  | some q =>
    obtain ⟨c0, -, c3, -⟩ := a4 q.1 q.2 hq
    cases hp : (F y).2 with
    | none => have := b3 hp; rw [e] at this; omega
    | some p =>
      obtain ⟨d0, -⟩ := b4 p.1 p.2 hp
      rw [e] at d0
      omega
theorem pk_tr {g g2 : cz_H} {T : Int → Nat} {F : rz_W} : ∀ {pt : List Int} {ab : Option Int}, pk g T F ab pt → (∀ i, i < pt.length → qz_I g2 725 i = qz_I g 725 i ∧ qz_I g2 726 i = qz_I g 726 i) → (∀ x ∈ pt, qz_I g2 (T x) 8 = qz_I g (T x) 8) → (∀ x ∈ pt, ∀ cp vs, (F x).2 = some (cp, vs) → ∀ v ∈ vs, dd g T F v → dd g2 T F v) → pk g2 T F ab pt
  | [], _, _, _, _, _ => trivial
  | x :: rest, ab, ⟨h1, h2⟩, hi, hv, hd => by
    refine ⟨?_, pk_tr h2 (fun i hl => hi i (by simp only [List.length_cons]; omega)) (fun y hy => hv y (List.mem_cons_of_mem _ hy)) (fun y hy => hd y (List.mem_cons_of_mem _ hy))⟩
    obtain ⟨a1, a2, a3, a4, cp, vs, a5, a6, a7, a8⟩ := h1
    obtain ⟨e1, e2⟩ := hi rest.length (by simp only [List.length_cons]; omega)
    have hdx := hd x List.mem_cons_self cp vs a5
    refine ⟨a1, a2, by rw [e1]; exact a3, by rw [hv x List.mem_cons_self]; exact a4, cp, vs, a5, by rw [e2]; exact a6, by rw [e2]; exact a7, ?_⟩
    rw [e2]
    cases ab with
    | none => exact fun j v j1 j2 => hdx v (List.mem_of_getElem? j2) (a8 j v j1 j2)
    | some y => exact ⟨a8.1, a8.2.1, fun j v j1 j2 => hdx v (List.mem_of_getElem? j2) (a8.2.2 j v j1 j2)⟩
theorem ps_tr {g g2 : cz_H} {F : rz_W} : ∀ {pt : List Int}, (∀ i, i < pt.length → qz_I g2 726 i = qz_I g 726 i) → ps g2 F pt = ps g F pt
  | [], _ => rfl
  | x :: rest, hi => by
    unfold ps
    rw [hi rest.length (by simp only [List.length_cons]; omega), ps_tr (fun i hl => hi i (by simp only [List.length_cons]; omega))]
/-- what is done is done -/
theorem xz_D {τ : Nat → Nat} {T : Int → Nat} {F : rz_W} {E : Int → Prop} {Xs : List Int} {g : cz_H} {v : Int} {pt : List Int} (h : xz τ T F E Xs g (some v) pt) (hd : dd g T F v) : xz τ T F E Xs g none pt := by
  obtain ⟨a1, a2, a3, a4, a5, a6, a7, a8⟩ := h
  refine ⟨a1, a2, a3, ?_, a5, a6, a7, a8⟩
  cases pt with
  | nil => trivial
  | cons x rest =>
    obtain ⟨⟨b1, b2, b3, b4, cp, vs, b5, b6, b7, b8, b9, b10⟩, c⟩ := a4
    refine ⟨⟨b1, b2, b3, b4, cp, vs, b5, b6, b7, fun j w j1 j2 => ?_⟩, c⟩
    by_cases e : (j : Int) < qz_I g 726 rest.length - 1
    · exact b10 j w e j2
    · have : j = (qz_I g 726 rest.length - 1).toNat := by omega
      rw [← this, j2] at b9
      cases b9
      exact hd
theorem pk_mem {g : cz_H} {T : Int → Nat} {F : rz_W} : ∀ {pt : List Int} {ab : Option Int}, pk g T F ab pt → ∀ y ∈ pt, (0 ≤ y ∧ y ≤ 1114111) ∧ ¬ hz y ∧ (F y).2 ≠ none ∧ qz_I g (T y) 8 = 1
  | [], _, _, y, hy => by cases hy
  | z :: r, ab, hp, y, hy => by
    rcases List.mem_cons.mp hy with rfl | hy
    · obtain ⟨a1, a2, a3, a4, cp, vs, a5, -⟩ := hp.1
      exact ⟨a1, a2, by rw [a5]; exact fun e => (by cases e), a4⟩
    · exact pk_mem hp.2 y hy
/-- another place of the row -/
theorem xz_P {τ : Nat → Nat} {T : Int → Nat} {F : rz_W} {E : Int → Prop} {Xs : List Int} {g g2 : cz_H} {x cp v : Int} {vs rest : List Int} (hw : uz_wf F) (hXr : ∀ x ∈ Xs, 0 ≤ x ∧ x ≤ 1114111) (h : xz τ T F E Xs g none (x :: rest)) (hdec : (F x).2 = some (cp, vs)) (hv : vs[(qz_I g 726 rest.length).toNat]? = some v) (hB : ez_B τ g2) (hf : ez_fr (ez_one 726) g g2) (h1 : qz_I g2 726 rest.length = qz_I g 726 rest.length + 1) (h2 : ∀ i, i ≠ rest.length → qz_I g2 726 i = qz_I g 726 i) : xz τ T F E Xs g2 (some v) (x :: rest) ∧ ps g2 F (x :: rest) + 1 = ps g F (x :: rest) ∧ wz (wU g2 T) Xs = wz (wU g T) Xs := by
  obtain ⟨a1, a2, a3, a4, a5, a6, a7, a8⟩ := h
  have hX := a1.2.1
  have i3 : ∀ q, q ≠ 726 → ∀ j, qz_I g2 q j = qz_I g q j := fun q hq j => hf.I (dz_beq_ne hq) j
  have hT : ∀ y, 0 ≤ y → y ≤ 1114111 → T y ≠ 726 := fun y y0 y1 e => by
    have := (a1.2.2.2.2 y y0 y1).1
    rw [e, hX 726 (by decide)] at this
    cases this
  have hpz : pz τ g g2 := pz_fr hf (fun q hq => by
    have e := Nat.eq_of_beq_eq_true hq
    subst e
    exact ⟨by omega, by omega, (pz_X hX (by omega) (by omega)).1⟩)
  have hmem := pk_mem a4
  obtain ⟨⟨b1, b2, b3, b4, cp', vs', b5, b6, b7, b8⟩, c⟩ := a4
  rw [hdec] at b5
  cases b5
  have hl : (qz_I g 726 rest.length).toNat < vs.length := (List.getElem?_eq_some_iff.mp hv).1
  have hI : ∀ y, 0 ≤ y → y ≤ 1114111 → ∀ j, qz_I g2 (T y) j = qz_I g (T y) j := fun y y0 y1 j => i3 _ (hT y y0 y1) j
  have hdm : ∀ z cp vs, (F z).2 = some (cp, vs) → ∀ w ∈ vs, dd g T F w → dd g2 T F w := fun z cp vs e w hw' hd => by
    obtain ⟨w0, w1⟩ := ((hw z).2 cp vs e).2.2.1 w hw'
    exact hd.imp id (fun hd => hd.imp id (fun hd => by rw [hI w w0 w1]; exact hd))
  have hlen : ∀ i, i < rest.length → qz_I g2 725 i = qz_I g 725 i ∧ qz_I g2 726 i = qz_I g 726 i := fun i hi => ⟨i3 725 (by decide) i, h2 i (by omega)⟩
  refine ⟨⟨a1.fr hB hpz, by rw [i3 723 (by decide)]; exact a2, a3, ⟨⟨b1, b2, by rw [i3 725 (by decide)]; exact b3, by rw [hI x b1.1 b1.2]; exact b4, cp, vs, hdec, by rw [h1]; omega, by rw [h1]; omega, by rw [h1]; omega, ?_, ?_⟩, ?_⟩, ?_, ?_, ?_, ?_⟩, ?_, ?_⟩
  · rw [h1, show (qz_I g 726 rest.length + 1 - 1).toNat = (qz_I g 726 rest.length).toNat by omega]; exact hv
  · intro j w j1 j2
    rw [h1] at j1
    exact hdm x cp vs hdec w (List.mem_of_getElem? j2) (b8 j w (by omega) j2)
  · exact pk_tr c hlen (fun y hy => hI y (hmem y (List.mem_cons_of_mem _ hy)).1.1 (hmem y (List.mem_cons_of_mem _ hy)).1.2 8) (fun y _ cp vs e => hdm y cp vs e)
  · intro y y0 y1 hy hv2
    rw [hI y y0 y1] at hv2
    obtain ⟨c1, c2⟩ := a5 y y0 y1 hy hv2
    refine ⟨c1, fun c => ?_⟩
    obtain ⟨l, l1, ⟨l2, l3, l4, l5⟩, l6⟩ := c2 c
    exact ⟨l, l1, ⟨by rw [hI y y0 y1]; exact l2, by rw [hI y y0 y1]; exact l3, by rw [hI y y0 y1, i3 723 (by decide)]; exact l4, fun j v hj => by rw [hI y y0 y1, i3 724 (by decide)]; exact l5 j v hj⟩, l6⟩
  · intro y y0 y1 hy hv2
    rw [hI y y0 y1] at hv2
    exact a6 y y0 y1 hy hv2
  · rw [wz_eq2 (W := wU g T) (fun y hy => by unfold wU; rw [hI y (hXr y hy).1 (hXr y hy).2])]; exact a7
  · rw [i3 723 (by decide), wz_eq2 (W := wN g T) (fun y hy => by unfold wN; rw [hI y (hXr y hy).1 (hXr y hy).2])]; exact a8
  · unfold ps
    rw [h1, ps_tr (fun i hi => (hlen i hi).2)]
    have : (rl F x : Int) = (vs.length : Int) := by unfold rl; rw [hdec]
    omega
  · exact wz_eq2 (fun y hy => by unfold wU; rw [hI y (hXr y hy).1 (hXr y hy).2])
/-- onto the path -/
theorem xz_E {τ : Nat → Nat} {T : Int → Nat} {F : rz_W} {E : Int → Prop} {Xs : List Int} {g g2 : cz_H} {v : Int} {pt : List Int} (hw : uz_wf F) (hXr : ∀ x ∈ Xs, 0 ≤ x ∧ x ≤ 1114111) (hXs : ∀ x, (F x).2 ≠ none → x ∈ Xs) (h : xz τ T F E Xs g (some v) pt) (v0 : 0 ≤ v) (v1 : v ≤ 1114111) (hv : ¬ hz v) (hn : (F v).2 ≠ none) (h8 : qz_I g (T v) 8 = 0) (he : en τ g g2 (T v) (pt.length : Int)) : xz τ T F E Xs g2 none (v :: pt) ∧ 20 * wz (wU g2 T) Xs + ps g2 F (v :: pt) + 1 ≤ 20 * wz (wU g T) Xs + ps g F pt := by
  obtain ⟨a1, a2, a3, a4, a5, a6, a7, a8⟩ := h
  obtain ⟨e1, e2, e3, e4, e5, e6, e7, e8, e9, e10, e11⟩ := he
  have hmem := pk_mem a4
  have hX := a1.2.1
  have hTy : ∀ y, 0 ≤ y → y ≤ 1114111 → y ≠ v → g2.2.2 (T y) = g.2.2 (T y) := fun y y0 y1 hy => e3 _ (a1.2.2.2.2 y y0 y1).1 (fun e => hy (T_inj a1 v0 v1 y0 y1 hn e))
  have hI : ∀ y, 0 ≤ y → y ≤ 1114111 → y ≠ v → ∀ j, qz_I g2 (T y) j = qz_I g (T y) j := fun y y0 y1 hy j => by unfold qz_I; rw [hTy y y0 y1 hy]
  have hvp : v ∉ pt := fun w => by have := (hmem v w).2.2.2; omega
  have hnv : ∀ y ∈ pt, y ≠ v := fun y hy e => by rw [e] at hy; exact hvp hy
  have hdm : ∀ z cp vs, (F z).2 = some (cp, vs) → ∀ w ∈ vs, dd g T F w → dd g2 T F w := fun z cp vs e w hw' hd => by
    obtain ⟨w0, w1⟩ := ((hw z).2 cp vs e).2.2.1 w hw'
    rcases hd with hd | hd | hd
    · exact Or.inl hd
    · exact Or.inr (Or.inl hd)
    · refine Or.inr (Or.inr ?_)
      rw [hI w w0 w1 (fun e => by rw [e] at hd; omega)]; exact hd
  have hlen : ∀ i, i < pt.length → qz_I g2 725 i = qz_I g 725 i ∧ qz_I g2 726 i = qz_I g 726 i := fun i hi => e9 i (by omega)
  obtain ⟨cp, vs, hdec⟩ : ∃ cp vs, (F v).2 = some (cp, vs) := by
    cases hq : (F v).2 with
    | none => exact absurd hq hn
    | some q => exact ⟨q.1, q.2, rfl⟩
  have hlv : rl F v ≤ 18 := by
    unfold rl; rw [hdec]; exact ((hw v).2 cp vs hdec).2.1.2
  have hU : wz (wU g2 T) Xs + 1 ≤ wz (wU g T) Xs := by
    refine wz_lt2 (y := v) (fun y hy => ?_) (hXs v hn) ?_
    · by_cases e : y = v
      · subst e; unfold wU; rw [e4, if_neg (by decide), h8, if_pos rfl]; omega
      · unfold wU; rw [hI y (hXr y hy).1 (hXr y hy).2 e]; exact Nat.le_refl _
    · unfold wU; rw [e4, if_neg (by decide), h8, if_pos rfl]; omega
  have hN : wz (wN g2 T) Xs = wz (wN g T) Xs := wz_eq2 (fun y hy => by
    by_cases e : y = v
    · subst e; unfold wN; rw [e4, if_neg (by decide), h8, if_neg (by decide)]
    · unfold wN; rw [hI y (hXr y hy).1 (hXr y hy).2 e])
  have en725 : qz_I g2 725 pt.length = (T v : Int) + 1 := by have := e10; rw [show ((pt.length : Int)).toNat = pt.length by omega] at this; exact this
  have en726 : qz_I g2 726 pt.length = 0 := by have := e11; rw [show ((pt.length : Int)).toNat = pt.length by omega] at this; exact this
  refine ⟨⟨a1.fr e1 e2, by rw [e6]; simp only [List.length_cons]; omega, List.nodup_cons.mpr ⟨hvp, a3⟩, ⟨⟨⟨v0, v1⟩, hv, en725, e4, cp, vs, hdec, by rw [en726]; omega, by rw [en726]; omega, fun j w j1 j2 => by rw [en726] at j1; omega⟩, pk_tr a4 hlen (fun y hy => hI y (hmem y hy).1.1 (hmem y hy).1.2 (hnv y hy) 8) (fun y _ cp vs e => hdm y cp vs e)⟩, ?_, ?_, by simp only [List.length_cons]; omega, by rw [e7 2 (by decide), hN]; exact a8⟩, ?_⟩
  · intro y y0 y1 hy hv2
    have hyv : y ≠ v := fun e => by rw [e, e4] at hv2; omega
    rw [hI y y0 y1 hyv] at hv2
    obtain ⟨c1, c2⟩ := a5 y y0 y1 hy hv2
    refine ⟨c1, fun c => ?_⟩
    obtain ⟨l, l1, ⟨l2, l3, l4, l5⟩, l6⟩ := c2 c
    exact ⟨l, l1, ⟨by rw [hI y y0 y1 hyv]; exact l2, by rw [hI y y0 y1 hyv]; exact l3, by rw [hI y y0 y1 hyv, e7 2 (by decide)]; exact l4, fun j v hj => by rw [hI y y0 y1 hyv]; unfold qz_I; rw [e8]; exact l5 j v hj⟩, l6⟩
  · intro y y0 y1 hy hv2
    by_cases e : y = v
    · rw [e]; exact List.mem_cons_self
    · rw [hI y y0 y1 e] at hv2
      exact List.mem_cons_of_mem _ (a6 y y0 y1 hy hv2)
  · show 20 * wz (wU g2 T) Xs + (((rl F v : Int) - qz_I g2 726 pt.length + 1).toNat + ps g2 F pt) + 1 ≤ _
    rw [en726, ps_tr (fun i hi => (hlen i hi).2)]
    omega
/-- the lists of what is done -/
theorem dd_dn {g : cz_H} {T : Int → Nat} {F : rz_W} (hcl : cl g T F) (hS : uz_S1 F) {v : Int} (v0 : 0 ≤ v) (v1 : v ≤ 1114111) (hd : dd g T F v) (c : Bool) : ∃ l, dn g T F c v l ∧ uz_F F c v l := by
  by_cases e : hz v
  · exact ⟨_, Or.inl ⟨e, rfl⟩, uz_syl e⟩
  · cases hq : (F v).2 with
    | none => exact ⟨_, Or.inr (Or.inl ⟨e, hq, rfl⟩), uz_leaf e hq⟩
    | some q =>
      have hn : (F v).2 ≠ none := by rw [hq]; exact fun e => by cases e
      rcases hd with hd | hd | hd
      · exact absurd hd e
      · exact absurd hd hn
      · obtain ⟨-, h2⟩ := hcl v v0 v1 hn hd
        obtain ⟨l, l1, l2, -⟩ := h2 c
        exact ⟨l, Or.inr (Or.inr ⟨e, hn, l2⟩), l1⟩
theorem dd_fun {g : cz_H} {T : Int → Nat} {F : rz_W} (hcl : cl g T F) (hS : uz_S1 F) {vs : List Int} (hr : ∀ v ∈ vs, 0 ≤ v ∧ v ≤ 1114111) (hd : ∀ v ∈ vs, dd g T F v) (c : Bool) : ∃ f : Int → List Int, ∀ v ∈ vs, dn g T F c v (f v) ∧ uz_F F c v (f v) :=
  ⟨fun v => Classical.epsilon (fun l => dn g T F c v l ∧ uz_F F c v l), fun v hv => Classical.epsilon_spec (dd_dn hcl hS (hr v hv).1 (hr v hv).2 (hd v hv) c)⟩
/-- from the path -/
theorem xz_X {τ : Nat → Nat} {T : Int → Nat} {F : rz_W} {E : Int → Prop} {Xs : List Int} {g g2 g3 : cz_H} {x cp : Int} {vs rest l1 l2 : List Int} (hw : uz_wf F) (hXr : ∀ x ∈ Xs, 0 ≤ x ∧ x ≤ 1114111) (hXs : ∀ x, (F x).2 ≠ none → x ∈ Xs) (h : xz τ T F E Xs g none (x :: rest)) (hdec : (F x).2 = some (cp, vs)) (hc : qz_I g 726 rest.length = (vs.length : Int)) (haz : az_e F x) (u1 : uz_F F true x l1) (u2 : uz_F F false x l2) (hB2 : ez_B τ g2) (hf2 : ez_fr (nz_PR (T x)) g g2) (h28 : ∀ j, j < 8 → qz_I g2 (T x) j = qz_I g (T x) j) (h2j : ∀ j, j ≠ 2 → qz_I g2 723 j = qz_I g 723 j) (hpl : pl_same g g2) (hu : qz_I g2 723 2 = qz_I g 723 2 + (l1.length : Int) + (l2.length : Int)) (s1 : sg g2 (T x) true l1) (s2 : sg g2 (T x) false l2) (h2v : qz_I g2 (T x) 8 = 2) (n1 : l1.length ≤ 40) (n2 : l2.length ≤ 40) (hB3 : ez_B τ g3) (hf3 : ez_fr (ez_one 723) g2 g3) (h35 : qz_I g3 723 5 = qz_I g2 723 5 - 1) (h3j : ∀ j, j ≠ 5 → qz_I g3 723 j = qz_I g2 723 j) : xz τ T F E Xs g3 none rest ∧ ps g3 F rest + 1 = ps g F (x :: rest) ∧ wz (wU g3 T) Xs = wz (wU g T) Xs := by
  obtain ⟨a1, a2, a3, a4, a5, a6, a7, a8⟩ := h
  have hX := a1.2.1
  have hmem := pk_mem a4
  obtain ⟨⟨x0, x1⟩, hzx, hnx, h1x⟩ := hmem x List.mem_cons_self
  have tT := (a1.2.2.2.2 x x0 x1).1
  have t723 : τ 723 = 55 := hX 723 (by decide)
  have n723 : ∀ y, 0 ≤ y → y ≤ 1114111 → T y ≠ 723 := fun y y0 y1 e => by
    have := (a1.2.2.2.2 y y0 y1).1
    rw [e, t723] at this; cases this
  have n724 : ∀ y, 0 ≤ y → y ≤ 1114111 → T y ≠ 724 := fun y y0 y1 e => by
    have := (a1.2.2.2.2 y y0 y1).1
    rw [e, hX 724 (by decide)] at this; cases this
  have i3 : ∀ q, q ≠ 723 → ∀ j, qz_I g3 q j = qz_I g2 q j := fun q hq j => hf3.I (dz_beq_ne hq) j
  have p2 : ∀ q, q ≠ T x → q ≠ 723 → q ≠ 724 → ∀ j, qz_I g2 q j = qz_I g q j := fun q q1 q2 q3 j => hf2.I (by unfold nz_PR nz_PP; rw [dz_beq_ne q1, dz_beq_ne q2, dz_beq_ne q3]; rfl) j
  have hI : ∀ y, 0 ≤ y → y ≤ 1114111 → y ≠ x → ∀ j, qz_I g3 (T y) j = qz_I g (T y) j := fun y y0 y1 hy j => by
    rw [i3 _ (n723 y y0 y1), p2 _ (fun e => hy (T_inj a1 x0 x1 y0 y1 hnx e)) (n723 y y0 y1) (n724 y y0 y1)]
  have hIx : ∀ j, qz_I g3 (T x) j = qz_I g2 (T x) j := fun j => i3 _ (n723 x x0 x1) j
  have hxr : x ∉ rest := (List.nodup_cons.mp a3).1
  have hnr : ∀ y ∈ rest, y ≠ x := fun y hy e => by rw [e] at hy; exact hxr hy
  have n3 : ∀ q, q = 725 ∨ q = 726 → ∀ j, qz_I g3 q j = qz_I g q j := fun q hq j => by
    have e : q ≠ T x := fun e => by
      rw [← e] at tT
      rcases hq with hq | hq
      · rw [hq, hX 725 (by decide)] at tT; cases tT
      · rw [hq, hX 726 (by decide)] at tT; cases tT
    rw [i3 q (by omega), p2 q e (by omega) (by omega)]
  have used3 : qz_I g3 723 2 = qz_I g2 723 2 := h3j 2 (by decide)
  have hdm : ∀ z cp vs, (F z).2 = some (cp, vs) → ∀ w ∈ vs, dd g T F w → dd g3 T F w := fun z cp vs e w hw' hd => by
    obtain ⟨w0, w1⟩ := ((hw z).2 cp vs e).2.2.1 w hw'
    rcases hd with hd | hd | hd
    · exact Or.inl hd
    · exact Or.inr (Or.inl hd)
    · refine Or.inr (Or.inr ?_)
      by_cases e : w = x
      · rw [e, hIx]; exact h2v
      · rw [hI w w0 w1 e]; exact hd
  have hsg : ∀ {r c l}, sg g2 r c l → r ≠ 723 → sg g3 r c l := fun {r c l} hs hr => by
    obtain ⟨b1, b2, b3, b4⟩ := hs
    exact ⟨by rw [i3 r hr]; exact b1, by rw [i3 r hr]; exact b2, by rw [i3 r hr, used3]; exact b3, fun j v hj => by rw [i3 r hr, i3 724 (by decide)]; exact b4 j v hj⟩
  have hU : wz (wU g3 T) Xs = wz (wU g T) Xs := wz_eq2 (fun y hy => by
    by_cases e : y = x
    · subst e; unfold wU; rw [hIx, h2v, h1x]; rfl
    · unfold wU; rw [hI y (hXr y hy).1 (hXr y hy).2 e])
  have hN : wz (wN g3 T) Xs + 1 ≤ wz (wN g T) Xs := by
    refine wz_lt2 (y := x) (fun y hy => ?_) (hXs x hnx) ?_
    · by_cases e : y = x
      · subst e; unfold wN; rw [hIx, h2v, h1x, if_pos rfl]; omega
      · unfold wN; rw [hI y (hXr y hy).1 (hXr y hy).2 e]; exact Nat.le_refl _
    · unfold wN; rw [hIx, h2v, h1x, if_pos rfl, if_neg (by decide)]; omega
  have hpz : pz τ g g3 := (nz_PR_pz hX tT hf2 h28).trans (pz_fr hf3 (fun q hq => by
    have e := Nat.eq_of_beq_eq_true hq
    subst e
    exact ⟨by omega, by omega, (pz_X hX (by omega) (by omega)).1⟩))
  refine ⟨xz_D (v := x) ⟨a1.fr hB3 hpz, ?_, (List.nodup_cons.mp a3).2, ?_, ?_, ?_, ?_, ?_⟩ (Or.inr (Or.inr (by rw [hIx]; exact h2v))), ?_, hU⟩
  · rw [h35, h2j 5 (by decide), a2]; simp only [List.length_cons]; omega
  · exact pk_tr a4.2 (fun i hi => ⟨n3 725 (Or.inl rfl) i, n3 726 (Or.inr rfl) i⟩) (fun y hy => hI y (hmem y (List.mem_cons_of_mem _ hy)).1.1 (hmem y (List.mem_cons_of_mem _ hy)).1.2 (hnr y hy) 8) (fun y _ cp vs e => hdm y cp vs e)
  · intro y y0 y1 hy hv2
    by_cases e : y = x
    · subst e
      refine ⟨haz, fun c => ?_⟩
      cases c with
      | true => exact ⟨l1, u1, hsg s1 (n723 y y0 y1), n1⟩
      | false => exact ⟨l2, u2, hsg s2 (n723 y y0 y1), n2⟩
    · rw [hI y y0 y1 e] at hv2
      obtain ⟨c1, c2⟩ := a5 y y0 y1 hy hv2
      refine ⟨c1, fun c => ?_⟩
      obtain ⟨l, w1, ⟨w2, w3, w4, w5⟩, w6⟩ := c2 c
      refine ⟨l, w1, ⟨by rw [hI y y0 y1 e]; exact w2, by rw [hI y y0 y1 e]; exact w3, by rw [hI y y0 y1 e, used3, hu]; omega, fun j v hj => ?_⟩, w6⟩
      have hjl := (List.getElem?_eq_some_iff.mp hj).1
      rw [hI y y0 y1 e, i3 724 (by decide), hpl _ (by omega) (by omega)]
      exact w5 j v hj
  · intro y y0 y1 hy hv2
    have hyx : y ≠ x := fun e => by rw [e, hIx, h2v] at hv2; omega
    rw [hI y y0 y1 hyx] at hv2
    exact (List.mem_cons.mp (a6 y y0 y1 hy hv2)).resolve_left hyx
  · rw [hU]; simp only [List.length_cons] at a7; omega
  · rw [used3, hu]; omega
  · show ps g3 F rest + 1 = ((rl F x : Int) - qz_I g 726 rest.length + 1).toNat + ps g F rest
    rw [ps_tr (fun i hi => n3 726 (Or.inr rfl) i), hc]
    have : (rl F x : Int) = (vs.length : Int) := by unfold rl; rw [hdec]
    omega
/-- a point that is on the path already: no end -/
theorem pk_cyc {g : cz_H} {T : Int → Nat} {F : rz_W} : ∀ {A B : List Int} {v u : Int}, pk g T F (some u) (A ++ v :: B) → ∀ z ∈ A ++ [v], ∃ w, (w = u ∨ w ∈ A ++ [v]) ∧ ¬ hz z ∧ ∃ cp vs, (F z).2 = some (cp, vs) ∧ w ∈ vs
  | [], B, v, u, h, z, hz' => by
    rw [List.nil_append, List.mem_singleton] at hz'
    subst hz'
    obtain ⟨a1, a2, a3, a4, cp, vs, a5, a6, a7, a8, a9, a10⟩ := h.1
    exact ⟨u, Or.inl rfl, a2, cp, vs, a5, List.mem_of_getElem? a9⟩
  | y :: A, B, v, u, h, z, hz' => by
    rw [List.cons_append] at hz'
    rcases List.mem_cons.mp hz' with rfl | hz'
    · obtain ⟨a1, a2, a3, a4, cp, vs, a5, a6, a7, a8, a9, a10⟩ := h.1
      exact ⟨u, Or.inl rfl, a2, cp, vs, a5, List.mem_of_getElem? a9⟩
    · obtain ⟨w, w1, w2⟩ := pk_cyc (A := A) h.2 z hz'
      refine ⟨w, Or.inr ?_, w2⟩
      rw [List.cons_append]
      rcases w1 with w1 | w1
      · rw [w1]; exact List.mem_cons_self
      · exact List.mem_cons_of_mem _ w1
theorem xz_cyc {τ : Nat → Nat} {T : Int → Nat} {F : rz_W} {E : Int → Prop} {Xs : List Int} {g : cz_H} {v : Int} {pt : List Int} (h : xz τ T F E Xs g (some v) pt) (hv : v ∈ pt) : ¬ az_e F v := by
  obtain ⟨A, B, rfl⟩ := List.append_of_mem hv
  have hp := pk_cyc h.2.2.2.1
  rintro ⟨n, hn⟩
  refine az_cycle (F := F) (Z := fun z => z ∈ A ++ [v]) (fun z hz' => ?_) n v (by simp) hn
  obtain ⟨w, w1, w2, cp, vs, w3, w4⟩ := hp z hz'
  refine ⟨w2, cp, vs, w3, w, w4, ?_⟩
  rcases w1 with w1 | w1
  · rw [w1]; simp
  · exact w1
/-- visits go on -/
def vm (T : Int → Nat) (F : rz_W) (g g2 : cz_H) : Prop := ∀ y, 0 ≤ y → y ≤ 1114111 → (F y).2 ≠ none → (qz_I g (T y) 8 = 2 → qz_I g2 (T y) 8 = 2) ∧ (qz_I g (T y) 8 ≠ 0 → qz_I g2 (T y) 8 ≠ 0)
theorem vm.refl (T : Int → Nat) (F : rz_W) (g : cz_H) : vm T F g g := fun _ _ _ _ => ⟨id, id⟩
theorem vm.trans {T : Int → Nat} {F : rz_W} {g g1 g2 : cz_H} (a : vm T F g g1) (b : vm T F g1 g2) : vm T F g g2 := fun y y0 y1 hy => ⟨fun w => (b y y0 y1 hy).1 ((a y y0 y1 hy).1 w), fun w => (b y y0 y1 hy).2 ((a y y0 y1 hy).2 w)⟩
theorem vm_fr {P : Nat → Bool} {τ : Nat → Nat} {T : Int → Nat} {F : rz_W} {E : Int → Prop} {g g2 : cz_H} (hC : pz_C τ g T F E) (hf : ez_fr P g g2) (hP : ∀ q, τ q = 3 → P q = false) : vm T F g g2 := fun y y0 y1 _ => by
  rw [hf.I (hP _ (hC.2.2.2.2 y y0 y1).1)]
  exact ⟨id, id⟩
theorem vm_1 {τ : Nat → Nat} {T : Int → Nat} {F : rz_W} {E : Int → Prop} {g g2 : cz_H} {r : Nat} (hC : pz_C τ g T F E) (h1 : 723 ≤ r) (h2 : r ≤ 728) (hf : ez_fr (ez_one r) g g2) : vm T F g g2 := vm_fr hC hf (fun q hq => dz_beq_ne (fun e => by rw [e] at hq; exact (pz_X hC.2.1 h1 h2).1 hq))
theorem vm_r {τ : Nat → Nat} {T : Int → Nat} {F : rz_W} {E : Int → Prop} {g g2 : cz_H} {x k : Int} (hC : pz_C τ g T F E) (x0 : 0 ≤ x) (x1 : x ≤ 1114111) (hn : (F x).2 ≠ none) (ho : ∀ q, τ q = 3 → q ≠ T x → ∀ j, qz_I g2 q j = qz_I g q j) (hk : qz_I g2 (T x) 8 = k) (h0 : k ≠ 0) (h2 : qz_I g (T x) 8 = 2 → k = 2) : vm T F g g2 := fun y y0 y1 _ => by
  by_cases e : y = x
  · subst e; rw [hk]; exact ⟨fun w => h2 w, fun _ => h0⟩
  · rw [ho _ (hC.2.2.2.2 y y0 y1).1 (fun w => e (T_inj hC x0 x1 y0 y1 hn w))]
    exact ⟨id, id⟩
/-- between two expansions -/
def xy (τ : Nat → Nat) (T : Int → Nat) (F : rz_W) (E : Int → Prop) (Xs : List Int) (g : cz_H) : Prop := pz_C τ g T F E ∧ cl g T F ∧ (∀ x, 0 ≤ x → x ≤ 1114111 → (F x).2 ≠ none → qz_I g (T x) 8 ≠ 1) ∧ wz (wU g T) Xs ≤ Xs.length ∧ qz_I g 723 2 + 80 * (wz (wN g T) Xs : Int) ≤ 80 * (Xs.length : Int)
theorem xy_of {τ : Nat → Nat} {T : Int → Nat} {F : rz_W} {E : Int → Prop} {Xs : List Int} {g : cz_H} (h : xz τ T F E Xs g none []) : xy τ T F E Xs g := by
  obtain ⟨a1, a2, a3, a4, a5, a6, a7, a8⟩ := h
  exact ⟨a1, a5, fun x x0 x1 hx h1 => (by have := a6 x x0 x1 hx h1; cases this), by simpa using a7, a8⟩
theorem xy_to {τ : Nat → Nat} {T : Int → Nat} {F : rz_W} {E : Int → Prop} {Xs : List Int} {g : cz_H} (h : xy τ T F E Xs g) (h5 : qz_I g 723 5 = 0) : xz τ T F E Xs g none [] :=
  ⟨h.1, by rw [h5]; rfl, List.nodup_nil, trivial, h.2.1, fun x x0 x1 hx h1 => absurd h1 (h.2.2.1 x x0 x1 hx), by simpa using h.2.2.2.1, h.2.2.2.2⟩
/-- nothing of it hangs on the other cells -/
theorem xy_tr {τ : Nat → Nat} {T : Int → Nat} {F : rz_W} {E : Int → Prop} {Xs : List Int} {g g2 : cz_H} (hXr : ∀ x ∈ Xs, 0 ≤ x ∧ x ≤ 1114111) (h : xy τ T F E Xs g) (hB : ez_B τ g2) (hp : pz τ g g2) (hT : ∀ q, τ q = 3 → ∀ j, 8 ≤ j → qz_I g2 q j = qz_I g q j) (hu : qz_I g2 723 2 = qz_I g 723 2) (hl : ∀ j, qz_I g2 724 j = qz_I g 724 j) : xy τ T F E Xs g2 := by
  obtain ⟨a1, a2, a3, a4, a5⟩ := h
  have hI : ∀ y, 0 ≤ y → y ≤ 1114111 → ∀ j, 8 ≤ j → qz_I g2 (T y) j = qz_I g (T y) j := fun y y0 y1 j hj => hT _ (a1.2.2.2.2 y y0 y1).1 j hj
  refine ⟨a1.fr hB hp, fun y y0 y1 hy hv => ?_, fun y y0 y1 hy hv => ?_, ?_, ?_⟩
  · rw [hI y y0 y1 8 (by omega)] at hv
    obtain ⟨c1, c2⟩ := a2 y y0 y1 hy hv
    refine ⟨c1, fun c => ?_⟩
    obtain ⟨l, w1, ⟨w2, w3, w4, w5⟩, w6⟩ := c2 c
    have hs1 : 8 ≤ sa c := by unfold sa; cases c <;> decide
    have hs2 : 8 ≤ sl c := by unfold sl; cases c <;> decide
    exact ⟨l, w1, ⟨by rw [hI y y0 y1 _ hs2]; exact w2, by rw [hI y y0 y1 _ hs1]; exact w3, by rw [hI y y0 y1 _ hs1, hu]; exact w4, fun j v hj => by rw [hI y y0 y1 _ hs1, hl]; exact w5 j v hj⟩, w6⟩
  · rw [hI y y0 y1 8 (by omega)] at hv; exact a3 y y0 y1 hy hv
  · rw [wz_eq2 (W := wU g T) (fun y hy => by unfold wU; rw [hI y (hXr y hy).1 (hXr y hy).2 8 (by omega)])]; exact a4
  · rw [hu, wz_eq2 (W := wN g T) (fun y hy => by unfold wN; rw [hI y (hXr y hy).1 (hXr y hy).2 8 (by omega)])]; exact a5
/-! The class: expandFrom. (Written by wip/p2/py/pv32.py.) -/
section EzXf
variable {d : Nat} {h : cz_H} {τ : Nat → Nat} {Q : cz_F → Prop} {T : Int → Nat} {F : rz_W} {E : Int → Prop} {Xs : List Int}
theorem rd_expand_0 {w st : Int} {g : cz_H} (hx : xz τ T F E Xs g none []) (s0 : 0 ≤ st) (s1 : st ≤ 10000) (hp : pz τ h g) (h8 : qz_I g 723 8 = qz_I h 723 8) (hv : vm T F h g) (kS : ∀ g, xy τ T F E Xs g → pz τ h g → qz_I g 723 8 = qz_I h 723 8 → vm T F h g → Q (.inl (some (ez_v (.inl 1))), g)) : ez_W (d + 4) cm_117 13 [(2, .inl (st)), (0, .inr (.inr (some (723)))), (1, .inr (.inr (some ((T w)))))] [] g Q := by
  have t723 : τ 723 = 55 := hx.1.2.1 723 (by decide)
  have h5 : qz_I g 723 5 = 0 := hx.2.1
  refine ez_go (n := 1) (pc' := 14) (L' := [(2, .inl (st)), (0, .inr (.inr (some (723)))), (1, .inr (.inr (some ((T w)))))]) (st' := [.inl (st)]) rfl ?_
  refine ez_ldc (1000000) rfl rfl rfl ?_
  refine ez_icmp rfl rfl ⟨by first | omega | exact (sz_i32 _).1, by first | omega | exact (sz_i32 _).2⟩ ⟨by first | omega | exact (sz_i32 _).1, by first | omega | exact (sz_i32 _).2⟩ (fun (c1 : (1000000) ≤ (st)) => ?_) (fun (c1 : ¬((1000000) ≤ (st))) => ?_)
  · exfalso; omega
  · skip
    refine ez_go (n := 1) (pc' := 20) (L' := [(2, .inl (st)), (0, .inr (.inr (some (723)))), (1, .inr (.inr (some ((T w)))))]) (st' := [.inr (.inr (some (723)))]) rfl ?_
    refine ez_gI hx.1.1 t723 rfl rfl tq_55 rfl rfl (fun (b2 : 0 ≤ qz_I g 723 5) (b2' : qz_I g 723 5 ≤ 256) => ?_)
    refine ez_if rfl rfl ⟨by first | omega | exact (sz_i32 _).1, by first | omega | exact (sz_i32 _).2⟩ (fun (c3 : (qz_I g 723 5) ≤ (0)) => ?_) (fun (c3 : ¬((qz_I g 723 5) ≤ (0))) => ?_)
    · skip
      refine ez_go (n := 1) (pc' := 122) (L' := [(2, .inl (st)), (0, .inr (.inr (some (723)))), (1, .inr (.inr (some ((T w)))))]) (st' := [.inr (.inr (some (723)))]) rfl ?_
      refine ez_gI hx.1.1 t723 rfl rfl tq_55 rfl rfl (fun (b4 : 0 ≤ qz_I g 723 5) (b4' : qz_I g 723 5 ≤ 256) => ?_)
      refine ez_if rfl rfl ⟨by first | omega | exact (sz_i32 _).1, by first | omega | exact (sz_i32 _).2⟩ (fun (c5 : (qz_I g 723 5) ≠ (0)) => ?_) (fun (c5 : ¬((qz_I g 723 5) ≠ (0))) => ?_)
      · skip
        refine ez_go (n := 1) (pc' := 133) (L' := [(2, .inl (st)), (0, .inr (.inr (some (723)))), (1, .inr (.inr (some ((T w)))))]) (st' := [.inl (0)]) rfl ?_
        exfalso; omega
      · skip
        refine ez_go (n := 2) (pc' := 133) (L' := [(2, .inl (st)), (0, .inr (.inr (some (723)))), (1, .inr (.inr (some ((T w)))))]) (st' := [.inl (1)]) rfl ?_
        exact ez_retZ rfl rfl (by decide) (kS g (xy_of hx) hp h8 hv)
    · exfalso; omega

theorem rd_expand_l {w : Int} (hw : uz_wf F) (hS : uz_S1 F) (hXr : ∀ x ∈ Xs, 0 ≤ x ∧ x ≤ 1114111) (hXs : ∀ x, (F x).2 ≠ none → x ∈ Xs) (hXl : Xs.length ≤ 256) (tw : τ (T w) = 3) (kF : ¬ (uz_S2 F ∧ uz_S3 F) → ∀ g, ez_B τ g → pz τ h g → Q (.inl (some (ez_v (.inl 0))), g)) (kS : ∀ g, xy τ T F E Xs g → pz τ h g → qz_I g 723 8 = qz_I h 723 8 → vm T F h g → Q (.inl (some (ez_v (.inl 1))), g)) : ∀ (m : Nat) (st : Int) (pt : List Int) (g : cz_H), 20 * wz (wU g T) Xs + ps g F pt ≤ m → 0 ≤ st → st + (m : Int) ≤ 10000 → xz τ T F E Xs g none pt → pz τ h g → qz_I g 723 8 = qz_I h 723 8 → vm T F h g → ez_W (d + 4) cm_117 13 [(2, .inl (st)), (0, .inr (.inr (some (723)))), (1, .inr (.inr (some ((T w)))))] [] g Q := by
  intro m
  induction m with
  | zero =>
    intro st pt g hm s0 s1 hx hp h8 hv
    cases pt with
    | nil => exact rd_expand_0 hx s0 (by omega) hp h8 hv kS
    | cons x rest =>
      exfalso
      obtain ⟨ab1, ab2, ab3, ab4, cp, vs, hdec, ab6, ab7, ab8⟩ := hx.2.2.2.1.1
      have hps : 1 ≤ ps g F (x :: rest) := by show 1 ≤ ((rl F x : Int) - qz_I g 726 rest.length + 1).toNat + ps g F rest; have : (rl F x : Int) = (vs.length : Int) := by { unfold rl; rw [hdec] }; omega
      omega
  | succ m ih =>
    intro st pt g hm s0 s1 hx hp h8 hv
    cases pt with
    | nil => exact rd_expand_0 hx s0 (by omega) hp h8 hv kS
    | cons x rest =>
        have t723 : τ 723 = 55 := hx.1.2.1 723 (by decide)
        have hcl := hx.2.2.2.2.1
        have h5 : qz_I g 723 5 = (rest.length : Int) + 1 := by have := hx.2.1; simp only [List.length_cons] at this; omega
        have ei : ((qz_I g 723 5) - (1)).toNat = rest.length := by omega
        obtain ⟨ab1, ab2, ab3, ab4, cp, vs, hdec, ab6, ab7, ab8⟩ := hx.2.2.2.1.1
        have hnx : (F x).2 ≠ none := by rw [hdec]; exact fun e => by cases e
        obtain ⟨tT, -, -, f4⟩ := hx.1.2.2.2.2 x ab1.1 ab1.2
        obtain ⟨f40, f41, f42, f43, f44, f45⟩ := f4 cp vs hdec
        have hlv := ((hw x).2 cp vs hdec).2.1
        have hus := hx.2.2.2.2.2.2.2
        have hdl := hx.2.2.2.2.2.2.1
        simp only [List.length_cons] at hdl
        have hps : 1 ≤ ps g F (x :: rest) := by show 1 ≤ ((rl F x : Int) - qz_I g 726 rest.length + 1).toNat + ps g F rest; have : (rl F x : Int) = (vs.length : Int) := by { unfold rl; rw [hdec] }; omega
        refine ez_go (n := 1) (pc' := 14) (L' := [(2, .inl (st)), (0, .inr (.inr (some (723)))), (1, .inr (.inr (some ((T w)))))]) (st' := [.inl (st)]) rfl ?_
        refine ez_ldc (1000000) rfl rfl rfl ?_
        refine ez_icmp rfl rfl ⟨by first | omega | exact (sz_i32 _).1, by first | omega | exact (sz_i32 _).2⟩ ⟨by first | omega | exact (sz_i32 _).1, by first | omega | exact (sz_i32 _).2⟩ (fun (c1 : (1000000) ≤ (st)) => ?_) (fun (c1 : ¬((1000000) ≤ (st))) => ?_)
        · exfalso; omega
        · skip
          refine ez_go (n := 1) (pc' := 20) (L' := [(2, .inl (st)), (0, .inr (.inr (some (723)))), (1, .inr (.inr (some ((T w)))))]) (st' := [.inr (.inr (some (723)))]) rfl ?_
          refine ez_gI hx.1.1 t723 rfl rfl tq_55 rfl rfl (fun (b2 : 0 ≤ qz_I g 723 5) (b2' : qz_I g 723 5 ≤ 256) => ?_)
          refine ez_if rfl rfl ⟨by first | omega | exact (sz_i32 _).1, by first | omega | exact (sz_i32 _).2⟩ (fun (c3 : (qz_I g 723 5) ≤ (0)) => ?_) (fun (c3 : ¬((qz_I g 723 5) ≤ (0))) => ?_)
          · exfalso; omega
          · skip
            refine ez_go (n := 1) (pc' := 27) (L' := [(2, .inl (st)), (0, .inr (.inr (some (723)))), (1, .inr (.inr (some ((T w)))))]) (st' := [.inr (.inr (some (723)))]) rfl ?_
            refine ez_gC (p := 725) (tg := 57) hx.1.1 t723 rfl rfl tq_55 rfl rfl (fun (t725 : _ = 57) => ?_)
            refine ez_go (n := 1) (pc' := 31) (L' := [(2, .inl (st)), (0, .inr (.inr (some (723)))), (1, .inr (.inr (some ((T w)))))]) (st' := [.inr (.inr (some (723))), .inr (.inr (some (725)))]) rfl ?_
            refine ez_gI hx.1.1 t723 rfl rfl tq_55 rfl rfl (fun (b4 : 0 ≤ qz_I g 723 5) (b4' : qz_I g 723 5 ≤ 256) => ?_)
            refine ez_go (n := 2) (pc' := 36) (L' := [(2, .inl (st)), (0, .inr (.inr (some (723)))), (1, .inr (.inr (some ((T w)))))]) (st' := [.inl ((qz_I g 723 5) - (1)), .inr (.inr (some (725)))]) rfl ?_
            have n6 : 256 ≤ qz_N g 725 ∧ qz_N g 725 ≤ 256 := ez_len hx.1.1 t725 tq_57 rfl
            have y7 : 1 ≤ qz_I g 725 ((qz_I g 723 5) - (1)).toNat := (by rw [ei, ab3]; omega)
            have y8 : 0 ≤ qz_I g 725 ((qz_I g 723 5) - (1)).toNat ∧ qz_I g 725 ((qz_I g 723 5) - (1)).toNat ≤ 1000000 := ez_aB hx.1.1 t725 tq_57 rfl rfl (by decide) (by omega) (by omega)
            have y8' : ((qz_P g 725 ((qz_I g 723 5) - (1)).toNat : Nat) : Int) + 1 = qz_I g 725 ((qz_I g 723 5) - (1)).toNat := by unfold qz_P; omega
            refine ez_aR hx.1.1 t725 rfl tq_57 rfl rfl (by omega) (by omega) (by omega) (fun (t5 : _ = 3) => ?_)
            have eP : qz_P g 725 ((qz_I g 723 5) - (1)).toNat = T x := by unfold qz_P; rw [ei, ab3]; omega
            rw [eP]
            refine ez_go (n := 2) (pc' := 39) (L' := [(3, .inr (.inr (some ((T x))))), (2, .inl (st)), (0, .inr (.inr (some (723)))), (1, .inr (.inr (some ((T w)))))]) (st' := [.inr (.inr (some (723)))]) rfl ?_
            refine ez_gC (p := 726) (tg := 58) hx.1.1 t723 rfl rfl tq_55 rfl rfl (fun (t726 : _ = 58) => ?_)
            refine ez_go (n := 1) (pc' := 43) (L' := [(3, .inr (.inr (some ((T x))))), (2, .inl (st)), (0, .inr (.inr (some (723)))), (1, .inr (.inr (some ((T w)))))]) (st' := [.inr (.inr (some (723))), .inr (.inr (some (726)))]) rfl ?_
            refine ez_gI hx.1.1 t723 rfl rfl tq_55 rfl rfl (fun (b9 : 0 ≤ qz_I g 723 5) (b9' : qz_I g 723 5 ≤ 256) => ?_)
            refine ez_go (n := 2) (pc' := 48) (L' := [(3, .inr (.inr (some ((T x))))), (2, .inl (st)), (0, .inr (.inr (some (723)))), (1, .inr (.inr (some ((T w)))))]) (st' := [.inl ((qz_I g 723 5) - (1)), .inr (.inr (some (726)))]) rfl ?_
            have n11 : 256 ≤ qz_N g 726 ∧ qz_N g 726 ≤ 256 := ez_len hx.1.1 t726 tq_58 rfl
            refine ez_aI hx.1.1 t726 rfl tq_58 rfl rfl (by omega) (by omega) (fun (b10 : 0 ≤ qz_I g 726 ((qz_I g 723 5) - (1)).toNat) (b10' : qz_I g 726 ((qz_I g 723 5) - (1)).toNat ≤ 18) => ?_)
            rw [ei]
            have hcb : 0 ≤ qz_I g 726 rest.length ∧ qz_I g 726 rest.length ≤ 18 := by omega
            refine ez_go (n := 3) (pc' := 54) (L' := [(4, .inl (qz_I g 726 rest.length)), (3, .inr (.inr (some ((T x))))), (2, .inl (st)), (0, .inr (.inr (some (723)))), (1, .inr (.inr (some ((T w)))))]) (st' := [.inr (.inr (some ((T x)))), .inl (qz_I g 726 rest.length)]) rfl ?_
            refine ez_gN hx.1.1 tT rfl rfl tq_3 rfl rfl (fun (t12 : qz_I g ((T x)) 3 = 0) => ?_) (fun (t12 : _ = 5) (t12' : 1 ≤ qz_I g ((T x)) 3) => ?_)
            · exfalso; omega
            · skip
              refine ez_al hx.1.1 t12 rfl tq_5 rfl (fun (b13 : 0 ≤ qz_N g (qz_P g ((T x)) 3)) (b13' : qz_N g (qz_P g ((T x)) 3) ≤ 18) => ?_)
              refine ez_icmp rfl rfl ⟨by first | omega | exact (sz_i32 _).1, by first | omega | exact (sz_i32 _).2⟩ ⟨by first | omega | exact (sz_i32 _).1, by first | omega | exact (sz_i32 _).2⟩ (fun (c14 : (qz_I g 726 rest.length) ≠ (qz_N g (qz_P g ((T x)) 3))) => ?_) (fun (c14 : ¬((qz_I g 726 rest.length) ≠ (qz_N g (qz_P g ((T x)) 3)))) => ?_)
              · skip
                refine ez_go (n := 1) (pc' := 85) (L' := [(4, .inl (qz_I g 726 rest.length)), (3, .inr (.inr (some ((T x))))), (2, .inl (st)), (0, .inr (.inr (some (723)))), (1, .inr (.inr (some ((T w)))))]) (st' := [.inr (.inr (some (723)))]) rfl ?_
                refine ez_gC (p := 726) (tg := 58) hx.1.1 t723 rfl rfl tq_55 rfl rfl (fun (t726 : _ = 58) => ?_)
                refine ez_go (n := 1) (pc' := 89) (L' := [(4, .inl (qz_I g 726 rest.length)), (3, .inr (.inr (some ((T x))))), (2, .inl (st)), (0, .inr (.inr (some (723)))), (1, .inr (.inr (some ((T w)))))]) (st' := [.inr (.inr (some (723))), .inr (.inr (some (726)))]) rfl ?_
                refine ez_gI hx.1.1 t723 rfl rfl tq_55 rfl rfl (fun (b15 : 0 ≤ qz_I g 723 5) (b15' : qz_I g 723 5 ≤ 256) => ?_)
                refine ez_go (n := 3) (pc' := 95) (L' := [(4, .inl (qz_I g 726 rest.length)), (3, .inr (.inr (some ((T x))))), (2, .inl (st)), (0, .inr (.inr (some (723)))), (1, .inr (.inr (some ((T w)))))]) (st' := [.inl ((qz_I g 723 5) - (1)), .inr (.inr (some (726))), .inl ((qz_I g 723 5) - (1)), .inr (.inr (some (726)))]) rfl ?_
                have n17 : 256 ≤ qz_N g 726 ∧ qz_N g 726 ≤ 256 := ez_len hx.1.1 t726 tq_58 rfl
                refine ez_aI hx.1.1 t726 rfl tq_58 rfl rfl (by omega) (by omega) (fun (b16 : 0 ≤ qz_I g 726 ((qz_I g 723 5) - (1)).toNat) (b16' : qz_I g 726 ((qz_I g 723 5) - (1)).toNat ≤ 18) => ?_)
                have ec2 : qz_I g 726 ((qz_I g 723 5) - (1)).toNat = qz_I g 726 rest.length := by rw [ei]
                refine ez_go (n := 2) (pc' := 98) (L' := [(4, .inl (qz_I g 726 rest.length)), (3, .inr (.inr (some ((T x))))), (2, .inl (st)), (0, .inr (.inr (some (723)))), (1, .inr (.inr (some ((T w)))))]) (st' := [.inl ((qz_I g 726 ((qz_I g 723 5) - (1)).toNat) + (1)), .inl ((qz_I g 723 5) - (1)), .inr (.inr (some (726)))]) rfl ?_
                have n20 : 256 ≤ qz_N g 726 ∧ qz_N g 726 ≤ 256 := ez_len hx.1.1 t726 tq_58 rfl
                refine ez_as hx.1.1 t726 rfl tq_58 rfl rfl (by omega) (by omega) (ez_vdI rfl rfl (by omega) (by omega)) (fun hB18 w19 => ?_)
                have h726 : qz_I (dz_put g 726 ((qz_I g 723 5) - (1)).toNat (ez_v (.inl ((qz_I g 726 ((qz_I g 723 5) - (1)).toNat) + (1))))) 726 rest.length = qz_I g 726 rest.length + 1 := by
                  have q := w19
                  rw [rz_rd ⟨by omega, by omega⟩] at q; rw [ei] at q ⊢; exact q
                have nT : T x ≠ 726 := fun e => by rw [e, hx.1.2.1 726 (by decide)] at tT; cases tT
                have hr3 : qz_I (dz_put g 726 ((qz_I g 723 5) - (1)).toNat (ez_v (.inl ((qz_I g 726 ((qz_I g 723 5) - (1)).toNat) + (1))))) (T x) 3 = qz_I g (T x) 3 := ez_put_I (fun w => nT w.1)
                have hrP : qz_P (dz_put g 726 ((qz_I g 723 5) - (1)).toNat (ez_v (.inl ((qz_I g 726 ((qz_I g 723 5) - (1)).toNat) + (1))))) (T x) 3 = qz_P g (T x) 3 := ez_put_P (fun w => nT w.1)
                have hrN : qz_N (dz_put g 726 ((qz_I g 723 5) - (1)).toNat (ez_v (.inl ((qz_I g 726 ((qz_I g 723 5) - (1)).toNat) + (1))))) (qz_P (dz_put g 726 ((qz_I g 723 5) - (1)).toNat (ez_v (.inl ((qz_I g 726 ((qz_I g 723 5) - (1)).toNat) + (1))))) (T x) 3) = (vs.length : Int) := by rw [hrP, ez_put_N]; exact f44
                have h726o : ∀ i, i ≠ rest.length → qz_I (dz_put g 726 ((qz_I g 723 5) - (1)).toNat (ez_v (.inl ((qz_I g 726 ((qz_I g 723 5) - (1)).toNat) + (1))))) 726 i = qz_I g 726 i := fun i hi => ez_put_I (by omega)
                refine ez_go (n := 2) (pc' := 101) (L' := [(4, .inl (qz_I g 726 rest.length)), (3, .inr (.inr (some ((T x))))), (2, .inl (st)), (0, .inr (.inr (some (723)))), (1, .inr (.inr (some ((T w)))))]) (st' := [.inr (.inr (some ((T x)))), .inr (.inr (some (723)))]) rfl ?_
                refine ez_gN hB18 tT rfl rfl tq_3 rfl rfl (fun (t21 : qz_I (dz_put g 726 ((qz_I g 723 5) - (1)).toNat (ez_v (.inl ((qz_I g 726 ((qz_I g 723 5) - (1)).toNat) + (1))))) ((T x)) 3 = 0) => ?_) (fun (t21 : _ = 5) (t21' : 1 ≤ qz_I (dz_put g 726 ((qz_I g 723 5) - (1)).toNat (ez_v (.inl ((qz_I g 726 ((qz_I g 723 5) - (1)).toNat) + (1))))) ((T x)) 3) => ?_)
                · exfalso; omega
                · skip
                  refine ez_go (n := 1) (pc' := 106) (L' := [(4, .inl (qz_I g 726 rest.length)), (3, .inr (.inr (some ((T x))))), (2, .inl (st)), (0, .inr (.inr (some (723)))), (1, .inr (.inr (some ((T w)))))]) (st' := [.inl (qz_I g 726 rest.length), .inr (.inr (some (qz_P (dz_put g 726 ((qz_I g 723 5) - (1)).toNat (ez_v (.inl ((qz_I g 726 ((qz_I g 723 5) - (1)).toNat) + (1))))) ((T x)) 3))), .inr (.inr (some (723)))]) rfl ?_
                  have n23 : qz_N (dz_put g 726 ((qz_I g 723 5) - (1)).toNat (ez_v (.inl ((qz_I g 726 ((qz_I g 723 5) - (1)).toNat) + (1))))) (qz_P (dz_put g 726 ((qz_I g 723 5) - (1)).toNat (ez_v (.inl ((qz_I g 726 ((qz_I g 723 5) - (1)).toNat) + (1))))) ((T x)) 3) = qz_N g (qz_P (dz_put g 726 ((qz_I g 723 5) - (1)).toNat (ez_v (.inl ((qz_I g 726 ((qz_I g 723 5) - (1)).toNat) + (1))))) ((T x)) 3) := ez_put_N _
                  have n24 : 0 ≤ qz_N (dz_put g 726 ((qz_I g 723 5) - (1)).toNat (ez_v (.inl ((qz_I g 726 ((qz_I g 723 5) - (1)).toNat) + (1))))) (qz_P (dz_put g 726 ((qz_I g 723 5) - (1)).toNat (ez_v (.inl ((qz_I g 726 ((qz_I g 723 5) - (1)).toNat) + (1))))) ((T x)) 3) ∧ qz_N (dz_put g 726 ((qz_I g 723 5) - (1)).toNat (ez_v (.inl ((qz_I g 726 ((qz_I g 723 5) - (1)).toNat) + (1))))) (qz_P (dz_put g 726 ((qz_I g 723 5) - (1)).toNat (ez_v (.inl ((qz_I g 726 ((qz_I g 723 5) - (1)).toNat) + (1))))) ((T x)) 3) ≤ 18 := ez_len hB18 t21 tq_5 rfl
                  refine ez_aI hB18 t21 rfl tq_5 rfl rfl (by omega) (by omega) (fun (b22 : -2147483648 ≤ qz_I (dz_put g 726 ((qz_I g 723 5) - (1)).toNat (ez_v (.inl ((qz_I g 726 ((qz_I g 723 5) - (1)).toNat) + (1))))) (qz_P (dz_put g 726 ((qz_I g 723 5) - (1)).toNat (ez_v (.inl ((qz_I g 726 ((qz_I g 723 5) - (1)).toNat) + (1))))) ((T x)) 3) (qz_I g 726 rest.length).toNat) (b22' : qz_I (dz_put g 726 ((qz_I g 723 5) - (1)).toNat (ez_v (.inl ((qz_I g 726 ((qz_I g 723 5) - (1)).toNat) + (1))))) (qz_P (dz_put g 726 ((qz_I g 723 5) - (1)).toNat (ez_v (.inl ((qz_I g 726 ((qz_I g 723 5) - (1)).toNat) + (1))))) ((T x)) 3) (qz_I g 726 rest.length).toNat ≤ 2147483647) => ?_)
                  have hlt : (qz_I g 726 rest.length).toNat < vs.length := by omega
                  have hv2 := List.getElem?_eq_getElem hlt
                  have hvr : ∀ v ∈ vs, 0 ≤ v ∧ v ≤ 1114111 := ((hw x).2 cp vs hdec).2.2.1
                  have vr := hvr _ (List.getElem_mem hlt)
                  have hv3 : qz_I (dz_put g 726 ((qz_I g 723 5) - (1)).toNat (ez_v (.inl ((qz_I g 726 ((qz_I g 723 5) - (1)).toNat) + (1))))) (qz_P (dz_put g 726 ((qz_I g 723 5) - (1)).toNat (ez_v (.inl ((qz_I g 726 ((qz_I g 723 5) - (1)).toNat) + (1))))) ((T x)) 3) (qz_I g 726 rest.length).toNat = vs[(qz_I g 726 rest.length).toNat] := by
                    have q5 := f45 _ _ hv2
                    have n5 : qz_P g (T x) 3 ≠ 726 := fun e => by rw [e, hx.1.2.1 726 (by decide)] at f43; cases f43
                    have nT : T x ≠ 726 := fun e => by rw [e, hx.1.2.1 726 (by decide)] at tT; cases tT
                    rw [ez_put_P (fun w => nT w.1), ez_put_I (fun w => n5 w.1)]; exact q5
                  rw [hv3]
                  generalize vs[(qz_I g 726 rest.length).toNat] = v at *
                  obtain ⟨xP, psP, wP⟩ := xz_P (g2 := (dz_put g 726 ((qz_I g 723 5) - (1)).toNat (ez_v (.inl ((qz_I g 726 ((qz_I g 723 5) - (1)).toNat) + (1)))))) hw hXr hx hdec hv2 hB18 ((ez_fr.refl (ez_one 726) g).put (show Nat.beq 726 726 = true from rfl) _ _) h726 h726o
                  have pP : pz τ g (dz_put g 726 ((qz_I g 723 5) - (1)).toNat (ez_v (.inl ((qz_I g 726 ((qz_I g 723 5) - (1)).toNat) + (1))))) := pz_put (by omega) (by omega) (pz_X hx.1.2.1 (by omega) (by omega)).1
                  have vP : vm T F g (dz_put g 726 ((qz_I g 723 5) - (1)).toNat (ez_v (.inl ((qz_I g 726 ((qz_I g 723 5) - (1)).toNat) + (1))))) := vm_1 hx.1 (by omega) (by omega) ((ez_fr.refl (ez_one 726) g).put (show Nat.beq 726 726 = true from rfl) _ _)
                  have u8 : qz_I (dz_put g 726 ((qz_I g 723 5) - (1)).toNat (ez_v (.inl ((qz_I g 726 ((qz_I g 723 5) - (1)).toNat) + (1))))) 723 8 = qz_I g 723 8 := ez_put_I (by omega)
                  have u5 : qz_I (dz_put g 726 ((qz_I g 723 5) - (1)).toNat (ez_v (.inl ((qz_I g 726 ((qz_I g 723 5) - (1)).toNat) + (1))))) 723 5 = qz_I g 723 5 := ez_put_I (by omega)
                  generalize (dz_put g 726 ((qz_I g 723 5) - (1)).toNat (ez_v (.inl ((qz_I g 726 ((qz_I g 723 5) - (1)).toNat) + (1))))) = gp at *
                  have hU1 : ¬ hz v → (F v).2 ≠ none → qz_I gp (T v) 8 = 0 → qz_I gp 723 5 < 256 := fun _ hn h0 => by
                    have := wz_lt2 (W := wU gp T) (W' := fun _ => 0) (y := v) (k := 1) (xs := Xs) (fun _ _ => Nat.zero_le _) (hXs v hn) (by unfold wU; rw [h0, if_pos rfl]; omega)
                    have q7 := xP.2.2.2.2.2.2.1
                    have q2 := xP.2.1
                    omega
                  refine ez_cv xP.1.1 t723 rfl rfl rfl tq_55 rfl rfl rfl (rd_descend xP.1 vr.1 vr.2 hU1 (fun hdn => ez_K1 ?_) (fun e1 e2 e3 g2 hen => ez_K1 ?_) (fun e1 e2 e3 => ez_K1 ?_))
                  · skip
                    refine ez_if rfl rfl ⟨by decide, by decide⟩ (fun _ => ?_) (fun (c25 : ¬((1 : Int) ≠ (0))) => absurd c25 (by decide))
                    refine ez_go (n := 2) (pc' := 13) (L' := [(2, .inl (st + 1)), (4, .inl (qz_I g 726 rest.length)), (3, .inr (.inr (some ((T x))))), (0, .inr (.inr (some (723)))), (1, .inr (.inr (some ((T w)))))]) (st' := []) rfl ?_
                    refine ez_less [(2, .inl (st + 1)), (0, .inr (.inr (some (723)))), (1, .inr (.inr (some ((T w)))))] rfl ⟨rfl, rfl, rfl, trivial⟩ ?_
                    exact ih _ _ gp (by rw [wP]; omega) (by omega) (by omega) (xz_D xP hdn) (hp.trans pP) (u8.trans h8) (hv.trans vP)
                  · skip
                    refine ez_if rfl rfl ⟨by decide, by decide⟩ (fun _ => ?_) (fun (c26 : ¬((1 : Int) ≠ (0))) => absurd c26 (by decide))
                    refine ez_go (n := 2) (pc' := 13) (L' := [(2, .inl (st + 1)), (4, .inl (qz_I g 726 rest.length)), (3, .inr (.inr (some ((T x))))), (0, .inr (.inr (some (723)))), (1, .inr (.inr (some ((T w)))))]) (st' := []) rfl ?_
                    refine ez_less [(2, .inl (st + 1)), (0, .inr (.inr (some (723)))), (1, .inr (.inr (some ((T w)))))] rfl ⟨rfl, rfl, rfl, trivial⟩ ?_
                    have hen2 : en τ gp g2 (T v) (((x :: rest).length : Nat) : Int) := by rw [← xP.2.1]; exact hen
                    obtain ⟨xE, pE⟩ := xz_E hw hXr hXs xP vr.1 vr.2 e1 e2 e3 hen2
                    exact ih _ _ g2 (by rw [wP] at pE; omega) (by omega) (by omega) xE ((hp.trans pP).trans hen.2.1) ((hen.2.2.2.2.2.2.1 8 (by decide)).trans (u8.trans h8)) ((hv.trans vP).trans (vm_r xP.1 vr.1 vr.2 e2 (fun q q1 q2 j => by unfold qz_I; rw [hen.2.2.1 q q1 q2]) hen.2.2.2.1 (by decide) (fun w => by omega)))
                  · skip
                    refine ez_if rfl rfl ⟨by decide, by decide⟩ (fun (c27 : (0 : Int) ≠ (0)) => absurd c27 (by decide)) (fun _ => ?_)
                    refine ez_go (n := 1) (pc' := 114) (L' := [(4, .inl (qz_I g 726 rest.length)), (3, .inr (.inr (some ((T x))))), (2, .inl (st)), (0, .inr (.inr (some (723)))), (1, .inr (.inr (some ((T w)))))]) (st' := [.inl (0)]) rfl ?_
                    exact ez_retZ rfl rfl (by decide) (kF (fun hss => xz_cyc xP (xP.2.2.2.2.2.1 v vr.1 vr.2 e2 e3) (hss.1 v e2)) gp xP.1.1 (hp.trans pP))
              · skip
                refine ez_go (n := 2) (pc' := 63) (L' := [(4, .inl (qz_I g 726 rest.length)), (3, .inr (.inr (some ((T x))))), (2, .inl (st)), (0, .inr (.inr (some (723)))), (1, .inr (.inr (some ((T w)))))]) (st' := [.inr (.inr (some ((T x)))), .inr (.inr (some (723)))]) rfl ?_
                have hc : qz_I g 726 rest.length = (vs.length : Int) := by omega
                have hch : ∀ v ∈ vs, dd g T F v := fun v hv => by obtain ⟨j, hj⟩ := List.mem_iff_getElem?.mp hv; exact ab8 j v (by have := (List.getElem?_eq_some_iff.mp hj).1; omega) hj
                have hvr : ∀ v ∈ vs, 0 ≤ v ∧ v ≤ 1114111 := ((hw x).2 cp vs hdec).2.2.1
                obtain ⟨f1, hf1⟩ := dd_fun hcl hS hvr hch true
                obtain ⟨f2, hf2⟩ := dd_fun hcl hS hvr hch false
                have hcp := ((hw x).2 cp vs hdec).1
                obtain ⟨l2, hl2⟩ : ∃ l2, l2 = if cp = 1 then [x] else ct f2 vs := ⟨_, rfl⟩
                have u1 : uz_F F true x (ct f1 vs) := uz_row ab2 hdec (Or.inl rfl) (ct_FL (fun v hv => (hf1 v hv).2))
                have u2 : uz_F F false x l2 := by
                  rcases hcp with e | e
                  · rw [hl2, if_neg (by omega)]; exact uz_row ab2 hdec (Or.inr e) (ct_FL (fun v hv => (hf2 v hv).2))
                  · rw [hl2, if_pos e]; exact uz_keep ab2 hdec (by simp; omega)
                have haz : az_e F x := az_row hdec (fun v hv => by
                  by_cases e : hz v
                  · exact az_leaf (Or.inl e)
                  · by_cases e2 : (F v).2 = none
                    · exact az_leaf (Or.inr e2)
                    · exact (hcl v (hvr v hv).1 (hvr v hv).2 e2 ((hch v hv).resolve_left e |>.resolve_left e2)).1)
                have hN1 : 1 ≤ wz (wN g T) Xs := by
                  have := wz_lt2 (W := wN g T) (W' := fun _ => 0) (y := x) (k := 1) (xs := Xs) (fun _ _ => Nat.zero_le _) (hXs x hnx) (by unfold wN; rw [ab4, if_neg (by decide)]; omega)
                  omega
                refine ez_cv hx.1.1 t723 rfl rfl rfl tq_55 rfl rfl rfl (rd_close hx.1 ab1.1 ab1.2 hdec hvr hcp (by omega) (fun v hv => (hf1 v hv).1) (fun v hv => (hf2 v hv).1) (fun v hv e1 e2 e3 => ?_) hl2 (fun g2 hB2 fr2 h28 h2j hpl hu s1' s2' h2v n1 n2 => ez_K1 ?_) (fun hbig g2 hB2 hp2 => ez_K1 ?_))
                · have e4 := T_inj hx.1 ab1.1 ab1.2 (hvr v hv).1 (hvr v hv).2 hnx e3
                  rcases (hch v hv).resolve_left e1 with q | q
                  · exact e2 q
                  · rw [e3] at q; omega
                · skip
                  refine ez_if rfl rfl ⟨by decide, by decide⟩ (fun _ => ?_) (fun (c28 : ¬((1 : Int) ≠ (0))) => absurd c28 (by decide))
                  refine ez_go (n := 2) (pc' := 73) (L' := [(4, .inl (qz_I g 726 rest.length)), (3, .inr (.inr (some ((T x))))), (2, .inl (st)), (0, .inr (.inr (some (723)))), (1, .inr (.inr (some ((T w)))))]) (st' := [.inr (.inr (some (723))), .inr (.inr (some (723)))]) rfl ?_
                  refine ez_gI hB2 t723 rfl rfl tq_55 rfl rfl (fun (b29 : 0 ≤ qz_I g2 723 5) (b29' : qz_I g2 723 5 ≤ 256) => ?_)
                  have hd2 : qz_I g2 723 5 = qz_I g 723 5 := h2j 5 (by decide)
                  refine ez_go (n := 2) (pc' := 78) (L' := [(4, .inl (qz_I g 726 rest.length)), (3, .inr (.inr (some ((T x))))), (2, .inl (st)), (0, .inr (.inr (some (723)))), (1, .inr (.inr (some ((T w)))))]) (st' := [.inl ((qz_I g2 723 5) - (1)), .inr (.inr (some (723)))]) rfl ?_
                  refine ez_pf hB2 t723 rfl rfl tq_55 rfl rfl rfl rfl (ez_vdI rfl rfl (by omega) (by omega)) (fun hB30 w31 => ?_)
                  refine ez_go (n := 3) (pc' := 13) (L' := [(2, .inl (st + 1)), (4, .inl (qz_I g 726 rest.length)), (3, .inr (.inr (some ((T x))))), (0, .inr (.inr (some (723)))), (1, .inr (.inr (some ((T w)))))]) (st' := []) rfl ?_
                  refine ez_less [(2, .inl (st + 1)), (0, .inr (.inr (some (723)))), (1, .inr (.inr (some ((T w)))))] rfl ⟨rfl, rfl, rfl, trivial⟩ ?_
                  have fr3 : ez_fr (ez_one 723) g2 (dz_put g2 723 5 (ez_v (.inl ((qz_I g2 723 5) - (1))))) := (ez_fr.refl (ez_one 723) g2).put (show Nat.beq 723 723 = true from rfl) _ _
                  obtain ⟨xX, psX, wX⟩ := xz_X (g3 := (dz_put g2 723 5 (ez_v (.inl ((qz_I g2 723 5) - (1)))))) hw hXr hXs hx hdec hc haz u1 u2 hB2 fr2 h28 h2j hpl hu s1' s2' h2v n1 n2 hB30 fr3 (by rw [w31, rz_rd ⟨by omega, by omega⟩]) (fun j hj => ez_put_I (fun w => hj w.2))
                  have vX : vm T F g (dz_put g2 723 5 (ez_v (.inl ((qz_I g2 723 5) - (1))))) := (vm_r hx.1 ab1.1 ab1.2 hnx (fun q q1 q2 j => fr2.I (by unfold nz_PR nz_PP; rw [dz_beq_ne q2, dz_beq_ne (fun e => by rw [e] at q1; exact (pz_X hx.1.2.1 (by omega) (by omega)).1 q1), dz_beq_ne (fun e => by rw [e] at q1; exact (pz_X hx.1.2.1 (by omega) (by omega)).1 q1)]; rfl) j) h2v (by decide) (fun _ => rfl)).trans (vm_1 (hx.1.fr hB2 (nz_PR_pz hx.1.2.1 tT fr2 h28)) (by omega) (by omega) fr3)
                  have u8 : qz_I (dz_put g2 723 5 (ez_v (.inl ((qz_I g2 723 5) - (1))))) 723 8 = qz_I g 723 8 := (ez_put_I (by omega)).trans (h2j 8 (by decide))
                  exact ih _ _ _ (by rw [wX]; omega) (by omega) (by omega) xX ((hp.trans (nz_PR_pz hx.1.2.1 tT fr2 h28)).trans (pz_put (by omega) (by omega) (pz_X hx.1.2.1 (by omega) (by omega)).1)) (u8.trans h8) (hv.trans vX)
                · skip
                  refine ez_if rfl rfl ⟨by decide, by decide⟩ (fun (c32 : (0 : Int) ≠ (0)) => absurd c32 (by decide)) (fun _ => ?_)
                  refine ez_go (n := 1) (pc' := 70) (L' := [(4, .inl (qz_I g 726 rest.length)), (3, .inr (.inr (some ((T x))))), (2, .inl (st)), (0, .inr (.inr (some (723)))), (1, .inr (.inr (some ((T w)))))]) (st' := [.inl (0)]) rfl ?_
                  refine ez_retZ rfl rfl (by decide) (kF (fun hss => ?_) g2 hB2 (hp.trans hp2))
                  rcases hbig with q | q
                  · obtain ⟨l, l1, l2'⟩ := hss.2 x hnx true; rw [uz_uniq u1 l1] at q; omega
                  · obtain ⟨l, l1, l2'⟩ := hss.2 x hnx false; rw [uz_uniq u2 l1] at q; omega

end EzXf
