/-! The class: enter, descend. (Written by wip/p2/py/pv31.py.) -/
/-- a point goes onto the path -/
def en (τ : Nat → Nat) (h g : cz_H) (r : Nat) (n : Int) : Prop := ez_B τ g ∧ pz τ h g ∧ (∀ q, τ q = 3 → q ≠ r → g.2.2 q = h.2.2 q) ∧ qz_I g r 8 = 1 ∧ (∀ j, j ≠ 8 → qz_I g r j = qz_I h r j) ∧ qz_I g 723 5 = n + 1 ∧ (∀ j, j ≠ 5 → qz_I g 723 j = qz_I h 723 j) ∧ g.2.2 724 = h.2.2 724 ∧ (∀ i : Nat, (i : Int) ≠ n → qz_I g 725 i = qz_I h 725 i ∧ qz_I g 726 i = qz_I h 726 i) ∧ qz_I g 725 n.toNat = (r : Int) + 1 ∧ qz_I g 726 n.toNat = 0
section EzEn
variable {d : Nat} {h : cz_H} {τ : Nat → Nat} {Q : cz_F → Prop} {T : Int → Nat} {F : rz_W} {E : Int → Prop}
theorem rd_enter {r : Nat} (hB : ez_B τ h) (hX : jz_X τ) (tr : τ r = 3) (hr : (r : Int) + 1 ≤ 1000000) (hd : qz_I h 723 5 < 256) (k : ∀ g, en τ h g r (qz_I h 723 5) → Q (.inl (some (ez_v (.inl 1))), g)) : ez_W d cm_116 0 [(0, .inr (.inr (some (723)))), (1, .inr (.inr (some (r))))] [] h Q := by
  have t723 : τ 723 = 55 := hX 723 (by decide)
  have t725 : τ 725 = 57 := hX 725 (by decide)
  have t726 : τ 726 = 58 := hX 726 (by decide)
  have r723 : r ≠ 723 := fun e => by rw [e, t723] at tr; cases tr
  have r725 : r ≠ 725 := fun e => by rw [e, t725] at tr; cases tr
  have r726 : r ≠ 726 := fun e => by rw [e, t726] at tr; cases tr
  refine ez_go (n := 1) (pc' := 1) (L' := [(0, .inr (.inr (some (723)))), (1, .inr (.inr (some (r))))]) (st' := [.inr (.inr (some (723)))]) rfl ?_
  refine ez_gI hB t723 rfl rfl tq_55 rfl rfl (fun (b1 : 0 ≤ qz_I h 723 5) (b1' : qz_I h 723 5 ≤ 256) => ?_)
  refine ez_go (n := 1) (pc' := 7) (L' := [(0, .inr (.inr (some (723)))), (1, .inr (.inr (some (r))))]) (st' := [.inl (256), .inl (qz_I h 723 5)]) rfl ?_
  refine ez_icmp rfl rfl ⟨by first | omega | exact (sz_i32 _).1, by first | omega | exact (sz_i32 _).2⟩ ⟨by first | omega | exact (sz_i32 _).1, by first | omega | exact (sz_i32 _).2⟩ (fun (c2 : (qz_I h 723 5) < (256)) => ?_) (fun (c2 : ¬((qz_I h 723 5) < (256))) => ?_)
  · skip
    refine ez_go (n := 2) (pc' := 14) (L' := [(0, .inr (.inr (some (723)))), (1, .inr (.inr (some (r))))]) (st' := [.inl (1), .inr (.inr (some (r)))]) rfl ?_
    refine ez_pf hB tr rfl rfl tq_3 rfl rfl rfl rfl (ez_vdI rfl rfl (by omega) (by omega)) (fun hB3 w4 => ?_)
    refine ez_go (n := 1) (pc' := 18) (L' := [(0, .inr (.inr (some (723)))), (1, .inr (.inr (some (r))))]) (st' := [.inr (.inr (some (723)))]) rfl ?_
    refine ez_gC (p := 725) (tg := 57) hB3 t723 rfl rfl tq_55 rfl rfl (fun (t725 : _ = 57) => ?_)
    refine ez_go (n := 1) (pc' := 22) (L' := [(0, .inr (.inr (some (723)))), (1, .inr (.inr (some (r))))]) (st' := [.inr (.inr (some (723))), .inr (.inr (some (725)))]) rfl ?_
    refine ez_gI hB3 t723 rfl rfl tq_55 rfl rfl (fun (b5 : 0 ≤ qz_I (dz_put h r 8 (ez_v (.inl (1)))) 723 5) (b5' : qz_I (dz_put h r 8 (ez_v (.inl (1)))) 723 5 ≤ 256) => ?_)
    have z1 : qz_I (dz_put h r 8 (ez_v (.inl (1)))) 723 5 = qz_I h 723 5 := by rw [ez_put_I (by omega)]
    refine ez_go (n := 1) (pc' := 26) (L' := [(0, .inr (.inr (some (723)))), (1, .inr (.inr (some (r))))]) (st' := [.inr (.inr (some (r))), .inl (qz_I (dz_put h r 8 (ez_v (.inl (1)))) 723 5), .inr (.inr (some (725)))]) rfl ?_
    have n8 : 256 ≤ qz_N (dz_put h r 8 (ez_v (.inl (1)))) 725 ∧ qz_N (dz_put h r 8 (ez_v (.inl (1)))) 725 ≤ 256 := ez_len hB3 t725 tq_57 rfl
    refine ez_aa hB3 t725 tr rfl tq_57 tq_3 rfl rfl rfl (by omega) (by omega) (ez_vdR rfl tr (by omega) (by omega)) (fun hB6 w7 => ?_)
    refine ez_go (n := 1) (pc' := 28) (L' := [(0, .inr (.inr (some (723)))), (1, .inr (.inr (some (r))))]) (st' := [.inr (.inr (some (723)))]) rfl ?_
    refine ez_gC (p := 726) (tg := 58) hB6 t723 rfl rfl tq_55 rfl rfl (fun (t726 : _ = 58) => ?_)
    refine ez_go (n := 1) (pc' := 32) (L' := [(0, .inr (.inr (some (723)))), (1, .inr (.inr (some (r))))]) (st' := [.inr (.inr (some (723))), .inr (.inr (some (726)))]) rfl ?_
    refine ez_gI hB6 t723 rfl rfl tq_55 rfl rfl (fun (b9 : 0 ≤ qz_I (dz_put (dz_put h r 8 (ez_v (.inl (1)))) 725 (qz_I (dz_put h r 8 (ez_v (.inl (1)))) 723 5).toNat (ez_v (.inr (.inr (some (r)))))) 723 5) (b9' : qz_I (dz_put (dz_put h r 8 (ez_v (.inl (1)))) 725 (qz_I (dz_put h r 8 (ez_v (.inl (1)))) 723 5).toNat (ez_v (.inr (.inr (some (r)))))) 723 5 ≤ 256) => ?_)
    have z2 : qz_I (dz_put (dz_put h r 8 (ez_v (.inl (1)))) 725 (qz_I (dz_put h r 8 (ez_v (.inl (1)))) 723 5).toNat (ez_v (.inr (.inr (some (r)))))) 723 5 = qz_I h 723 5 := by rw [ez_put_I (by omega)]; rw [ez_put_I (by omega)]
    refine ez_go (n := 1) (pc' := 36) (L' := [(0, .inr (.inr (some (723)))), (1, .inr (.inr (some (r))))]) (st' := [.inl (0), .inl (qz_I (dz_put (dz_put h r 8 (ez_v (.inl (1)))) 725 (qz_I (dz_put h r 8 (ez_v (.inl (1)))) 723 5).toNat (ez_v (.inr (.inr (some (r)))))) 723 5), .inr (.inr (some (726)))]) rfl ?_
    have n12 : 256 ≤ qz_N (dz_put (dz_put h r 8 (ez_v (.inl (1)))) 725 (qz_I (dz_put h r 8 (ez_v (.inl (1)))) 723 5).toNat (ez_v (.inr (.inr (some (r)))))) 726 ∧ qz_N (dz_put (dz_put h r 8 (ez_v (.inl (1)))) 725 (qz_I (dz_put h r 8 (ez_v (.inl (1)))) 723 5).toNat (ez_v (.inr (.inr (some (r)))))) 726 ≤ 256 := ez_len hB6 t726 tq_58 rfl
    refine ez_as hB6 t726 rfl tq_58 rfl rfl (by omega) (by omega) (ez_vdI rfl rfl (by omega) (by omega)) (fun hB10 w11 => ?_)
    refine ez_go (n := 2) (pc' := 39) (L' := [(0, .inr (.inr (some (723)))), (1, .inr (.inr (some (r))))]) (st' := [.inr (.inr (some (723))), .inr (.inr (some (723)))]) rfl ?_
    refine ez_gI hB10 t723 rfl rfl tq_55 rfl rfl (fun (b13 : 0 ≤ qz_I (dz_put (dz_put (dz_put h r 8 (ez_v (.inl (1)))) 725 (qz_I (dz_put h r 8 (ez_v (.inl (1)))) 723 5).toNat (ez_v (.inr (.inr (some (r)))))) 726 (qz_I (dz_put (dz_put h r 8 (ez_v (.inl (1)))) 725 (qz_I (dz_put h r 8 (ez_v (.inl (1)))) 723 5).toNat (ez_v (.inr (.inr (some (r)))))) 723 5).toNat (ez_v (.inl (0)))) 723 5) (b13' : qz_I (dz_put (dz_put (dz_put h r 8 (ez_v (.inl (1)))) 725 (qz_I (dz_put h r 8 (ez_v (.inl (1)))) 723 5).toNat (ez_v (.inr (.inr (some (r)))))) 726 (qz_I (dz_put (dz_put h r 8 (ez_v (.inl (1)))) 725 (qz_I (dz_put h r 8 (ez_v (.inl (1)))) 723 5).toNat (ez_v (.inr (.inr (some (r)))))) 723 5).toNat (ez_v (.inl (0)))) 723 5 ≤ 256) => ?_)
    have z3 : qz_I (dz_put (dz_put (dz_put h r 8 (ez_v (.inl (1)))) 725 (qz_I (dz_put h r 8 (ez_v (.inl (1)))) 723 5).toNat (ez_v (.inr (.inr (some (r)))))) 726 (qz_I (dz_put (dz_put h r 8 (ez_v (.inl (1)))) 725 (qz_I (dz_put h r 8 (ez_v (.inl (1)))) 723 5).toNat (ez_v (.inr (.inr (some (r)))))) 723 5).toNat (ez_v (.inl (0)))) 723 5 = qz_I h 723 5 := by rw [ez_put_I (by omega)]; rw [ez_put_I (by omega)]; rw [ez_put_I (by omega)]
    refine ez_go (n := 2) (pc' := 44) (L' := [(0, .inr (.inr (some (723)))), (1, .inr (.inr (some (r))))]) (st' := [.inl ((qz_I (dz_put (dz_put (dz_put h r 8 (ez_v (.inl (1)))) 725 (qz_I (dz_put h r 8 (ez_v (.inl (1)))) 723 5).toNat (ez_v (.inr (.inr (some (r)))))) 726 (qz_I (dz_put (dz_put h r 8 (ez_v (.inl (1)))) 725 (qz_I (dz_put h r 8 (ez_v (.inl (1)))) 723 5).toNat (ez_v (.inr (.inr (some (r)))))) 723 5).toNat (ez_v (.inl (0)))) 723 5) + (1)), .inr (.inr (some (723)))]) rfl ?_
    refine ez_pf hB10 t723 rfl rfl tq_55 rfl rfl rfl rfl (ez_vdI rfl rfl (by omega) (by omega)) (fun hB14 w15 => ?_)
    refine ez_go (n := 1) (pc' := 48) (L' := [(0, .inr (.inr (some (723)))), (1, .inr (.inr (some (r))))]) (st' := [.inl (1)]) rfl ?_
    have X3 := fun q (q1 : 723 ≤ q) (q2 : q ≤ 728) => (pz_X hX q1 q2).1
    refine ez_retZ rfl rfl (by decide) (k _ ⟨hB14, ((((pz_put3 tr (by omega)).trans (pz_put (by omega) (by omega) (X3 725 (by omega) (by omega)))).trans (pz_put (by omega) (by omega) (X3 726 (by omega) (by omega)))).trans (pz_put (by omega) (by omega) (X3 723 (by omega) (by omega)))), fun q q1 q2 => ?_, ?_, fun j hj => ?_, ?_, fun j hj => ?_, ?_, fun i hi => ⟨?_, ?_⟩, ?_, ?_⟩)
    · rw [qz_put_at _ _ _ _ (fun e => X3 q (by omega) (by omega) q1), qz_put_at _ _ _ _ (fun e => X3 q (by omega) (by omega) q1), qz_put_at _ _ _ _ (fun e => X3 q (by omega) (by omega) q1), qz_put_at _ _ _ _ q2]
    · rw [ez_put_I (by omega), ez_put_I (by omega), ez_put_I (by omega), w4]; rfl
    · rw [ez_put_I (by omega), ez_put_I (by omega), ez_put_I (by omega), ez_put_I (fun w => hj w.2)]
    · rw [w15, rz_rd ⟨by omega, by omega⟩]; omega
    · rw [ez_put_I (fun w => hj w.2), ez_put_I (by omega), ez_put_I (by omega), ez_put_I (by omega)]
    · rw [qz_put_at _ _ _ _ (by omega), qz_put_at _ _ _ _ (by omega), qz_put_at _ _ _ _ (by omega), qz_put_at _ _ _ _ (fun e => X3 724 (by omega) (by omega) (by rw [e]; exact tr))]
    · rw [ez_put_I (by omega), ez_put_I (by omega), ez_put_I (by omega), ez_put_I (by omega)]
    · rw [ez_put_I (by omega), ez_put_I (by omega), ez_put_I (by omega), ez_put_I (by omega)]
    · rw [ez_put_I (by omega), ez_put_I (by omega)]; have e : qz_I h 723 5 = _ := z1.symm; rw [e]; exact w7
    · rw [ez_put_I (by omega)]; have e : qz_I h 723 5 = _ := z2.symm; rw [e]; exact w11
  · skip
    refine ez_go (n := 1) (pc' := 11) (L' := [(0, .inr (.inr (some (723)))), (1, .inr (.inr (some (r))))]) (st' := [.inl (0)]) rfl ?_
    exfalso; omega

theorem rd_descend {x : Int} (hC : pz_C τ h T F E) (x0 : 0 ≤ x) (x1 : x ≤ 1114111) (hd : ¬ hz x → (F x).2 ≠ none → qz_I h (T x) 8 = 0 → qz_I h 723 5 < 256) (kD : (hz x ∨ (F x).2 = none ∨ qz_I h (T x) 8 = 2) → Q (.inl (some (ez_v (.inl 1))), h)) (kE : ¬ hz x → (F x).2 ≠ none → qz_I h (T x) 8 = 0 → ∀ g, en τ h g (T x) (qz_I h 723 5) → Q (.inl (some (ez_v (.inl 1))), g)) (kF : ¬ hz x → (F x).2 ≠ none → qz_I h (T x) 8 = 1 → Q (.inl (some (ez_v (.inl 0))), h)) : ez_W (d + 2) cm_115 0 [(0, .inr (.inr (some (723)))), (1, .inl (x))] [] h Q := by
  have t723 : τ 723 = 55 := hC.2.1 723 (by decide)
  have rm : h.1 + 0 ≤ 600192 := by have : cz_room h 0 0 = true := hC.1.2.1; unfold cz_room at this; rw [Bool.and_eq_true] at this; exact Nat.ble_eq.mp this.1
  refine ez_go (n := 1) (pc' := 1) (L' := [(0, .inr (.inr (some (723)))), (1, .inl (x))]) (st' := [.inr (.inr (some (723)))]) rfl ?_
  refine ez_gC (p := 202) (tg := 48) hC.1 t723 rfl rfl tq_55 rfl rfl (fun (t202 : _ = 48) => ?_)
  refine ez_go (n := 1) (pc' := 5) (L' := [(0, .inr (.inr (some (723)))), (1, .inl (x))]) (st' := [.inl (x), .inr (.inr (some (202)))]) rfl ?_
  refine ez_cv hC.1 t202 rfl rfl rfl tq_48 rfl rfl rfl (rd_spanOf hC x0 x1 (fun z tz z1 _ => ez_KA ?_))
  refine ez_gR hC.1 tz rfl rfl tq_4 rfl rfl (fun (t1 : _ = 3) (t1' : 1 ≤ qz_I h z 1) => ?_)
  have eT : qz_P h z 1 = T x := by unfold qz_P; omega
  rw [eT]
  obtain ⟨tT, -, f3, f4⟩ := hC.2.2.2.2 x x0 x1
  have lT := dz_here_lt (hC.1.1 _ (by rw [tT]; decide)).1
  refine ez_go (n := 2) (pc' := 13) (L' := [(2, .inr (.inr (some ((T x))))), (0, .inr (.inr (some (723)))), (1, .inl (x))]) (st' := [.inl (x)]) rfl ?_
  refine ez_cs hC.1.2.1 rfl rfl rfl rfl rfl (rd_isSyl (by omega) (by omega) (fun e => ez_K1 ?_) (fun e => ez_K1 ?_))
  · skip
    refine ez_if rfl rfl ⟨by decide, by decide⟩ (fun _ => ?_) (fun (c2 : ¬((1 : Int) ≠ (0))) => absurd c2 (by decide))
    refine ez_go (n := 1) (pc' := 35) (L' := [(2, .inr (.inr (some ((T x))))), (0, .inr (.inr (some (723)))), (1, .inl (x))]) (st' := [.inl (1)]) rfl ?_
    exact ez_retZ rfl rfl (by decide) (kD (Or.inl e))
  · skip
    refine ez_if rfl rfl ⟨by decide, by decide⟩ (fun (c3 : (0 : Int) ≠ (0)) => absurd c3 (by decide)) (fun _ => ?_)
    refine ez_go (n := 1) (pc' := 20) (L' := [(2, .inr (.inr (some ((T x))))), (0, .inr (.inr (some (723)))), (1, .inl (x))]) (st' := [.inr (.inr (some ((T x))))]) rfl ?_
    refine ez_gN hC.1 tT rfl rfl tq_3 rfl rfl (fun (t4 : qz_I h ((T x)) 3 = 0) => ?_) (fun (t4 : _ = 5) (t4' : 1 ≤ qz_I h ((T x)) 3) => ?_)
    · skip
      refine ez_null0 rfl rfl ?_
      refine ez_go (n := 1) (pc' := 35) (L' := [(2, .inr (.inr (some ((T x))))), (0, .inr (.inr (some (723)))), (1, .inl (x))]) (st' := [.inl (1)]) rfl ?_
      exact ez_retZ rfl rfl (by decide) (kD (by first | (exact Or.inr (Or.inr (by omega))) | (refine Or.inr (Or.inl ?_); cases hq : (F x).2 with | none => rfl | some q => have := (f4 q.1 q.2 hq).2.2.1; omega)))
    · skip
      have hns : (F x).2 ≠ none := fun w => by have := f3 w; omega
      refine ez_null1 rfl ?_
      refine ez_go (n := 1) (pc' := 27) (L' := [(2, .inr (.inr (some ((T x))))), (0, .inr (.inr (some (723)))), (1, .inl (x))]) (st' := [.inr (.inr (some ((T x))))]) rfl ?_
      refine ez_gI hC.1 tT rfl rfl tq_3 rfl rfl (fun (b5 : 0 ≤ qz_I h ((T x)) 8) (b5' : qz_I h ((T x)) 8 ≤ 2) => ?_)
      refine ez_go (n := 1) (pc' := 31) (L' := [(2, .inr (.inr (some ((T x))))), (0, .inr (.inr (some (723)))), (1, .inl (x))]) (st' := [.inl (2), .inl (qz_I h ((T x)) 8)]) rfl ?_
      refine ez_icmp rfl rfl ⟨by first | omega | exact (sz_i32 _).1, by first | omega | exact (sz_i32 _).2⟩ ⟨by first | omega | exact (sz_i32 _).1, by first | omega | exact (sz_i32 _).2⟩ (fun (c6 : (qz_I h ((T x)) 8) ≠ (2)) => ?_) (fun (c6 : ¬((qz_I h ((T x)) 8) ≠ (2))) => ?_)
      · skip
        refine ez_go (n := 1) (pc' := 37) (L' := [(2, .inr (.inr (some ((T x))))), (0, .inr (.inr (some (723)))), (1, .inl (x))]) (st' := [.inr (.inr (some ((T x))))]) rfl ?_
        refine ez_gI hC.1 tT rfl rfl tq_3 rfl rfl (fun (b7 : 0 ≤ qz_I h ((T x)) 8) (b7' : qz_I h ((T x)) 8 ≤ 2) => ?_)
        refine ez_if rfl rfl ⟨by first | omega | exact (sz_i32 _).1, by first | omega | exact (sz_i32 _).2⟩ (fun (c8 : (qz_I h ((T x)) 8) ≠ (0)) => ?_) (fun (c8 : ¬((qz_I h ((T x)) 8) ≠ (0))) => ?_)
        · skip
          refine ez_go (n := 1) (pc' := 56) (L' := [(2, .inr (.inr (some ((T x))))), (0, .inr (.inr (some (723)))), (1, .inl (x))]) (st' := [.inl (0)]) rfl ?_
          exact ez_retZ rfl rfl (by decide) (kF e hns (by omega))
        · skip
          refine ez_go (n := 2) (pc' := 45) (L' := [(2, .inr (.inr (some ((T x))))), (0, .inr (.inr (some (723)))), (1, .inl (x))]) (st' := [.inr (.inr (some ((T x)))), .inr (.inr (some (723)))]) rfl ?_
          refine ez_cv hC.1 t723 rfl rfl rfl tq_55 rfl rfl rfl (rd_enter hC.1 hC.2.1 tT (by omega) (hd e (by assumption) (by omega)) (fun g he => ez_K1 ?_))
          refine ez_if rfl rfl ⟨by decide, by decide⟩ (fun (c9 : (1 : Int) = (0)) => absurd c9 (by decide)) (fun _ => ?_)
          refine ez_go (n := 2) (pc' := 56) (L' := [(2, .inr (.inr (some ((T x))))), (0, .inr (.inr (some (723)))), (1, .inl (x))]) (st' := [.inl (1)]) rfl ?_
          exact ez_retZ rfl rfl (by decide) (kE e hns (by omega) g he)
      · skip
        refine ez_go (n := 1) (pc' := 35) (L' := [(2, .inr (.inr (some ((T x))))), (0, .inr (.inr (some (723)))), (1, .inl (x))]) (st' := [.inl (1)]) rfl ?_
        exact ez_retZ rfl rfl (by decide) (kD (by first | (exact Or.inr (Or.inr (by omega))) | (refine Or.inr (Or.inl ?_); cases hq : (F x).2 with | none => rfl | some q => have := (f4 q.1 q.2 hq).2.2.1; omega)))

end EzEn
/-! The class: the path through the decompositions. -/
theorem wz_le2 {W W' : Int → Nat} : ∀ {xs : List Int}, (∀ x ∈ xs, W' x ≤ W x) → wz W' xs ≤ wz W xs
  | [], _ => Nat.le_refl _
  | x :: xs, h => by
    have := wz_le2 (xs := xs) (fun y hy => h y (List.mem_cons_of_mem _ hy))
    have := h x List.mem_cons_self
    unfold wz
    omega
theorem wz_lt2 {W W' : Int → Nat} {y : Int} {k : Nat} : ∀ {xs : List Int}, (∀ x ∈ xs, W' x ≤ W x) → y ∈ xs → W' y + k ≤ W y → wz W' xs + k ≤ wz W xs
  | x :: xs, h, hy, hk => by
    unfold wz
    rcases List.mem_cons.mp hy with rfl | hy
    · have := wz_le2 (xs := xs) (fun y hy => h y (List.mem_cons_of_mem _ hy))
      omega
    · have := wz_lt2 (xs := xs) (fun y hy => h y (List.mem_cons_of_mem _ hy)) hy hk
      have := h x List.mem_cons_self
      omega
theorem wz_eq2 {W W' : Int → Nat} {xs : List Int} (h : ∀ x ∈ xs, W' x = W x) : wz W' xs = wz W xs := by
  have h1 := wz_le2 (W := W) (W' := W') (xs := xs) (fun x hx => by rw [h x hx]; exact Nat.le_refl _)
  have h2 := wz_le2 (W := W') (W' := W) (xs := xs) (fun x hx => by rw [h x hx]; exact Nat.le_refl _)
  omega
def dd (g : cz_H) (T : Int → Nat) (F : rz_W) (v : Int) : Prop := hz v ∨ (F v).2 = none ∨ qz_I g (T v) 8 = 2
def nd (g : cz_H) (T : Int → Nat) (F : rz_W) (x : Int) (i : Nat) (ab : Option Int) : Prop := (0 ≤ x ∧ x ≤ 1114111) ∧ ¬ hz x ∧ qz_I g 725 i = (T x : Int) + 1 ∧ qz_I g (T x) 8 = 1 ∧ ∃ cp vs, (F x).2 = some (cp, vs) ∧ 0 ≤ qz_I g 726 i ∧ qz_I g 726 i ≤ (vs.length : Int) ∧ (match ab with
  | none => ∀ (j : Nat) v, (j : Int) < qz_I g 726 i → vs[j]? = some v → dd g T F v
  | some y => 1 ≤ qz_I g 726 i ∧ vs[(qz_I g 726 i - 1).toNat]? = some y ∧ ∀ (j : Nat) v, (j : Int) < qz_I g 726 i - 1 → vs[j]? = some v → dd g T F v)
def pk (g : cz_H) (T : Int → Nat) (F : rz_W) : Option Int → List Int → Prop
  | _, [] => True
  | ab, x :: rest => nd g T F x rest.length ab ∧ pk g T F (some x) rest
def cl (g : cz_H) (T : Int → Nat) (F : rz_W) : Prop := ∀ x, 0 ≤ x → x ≤ 1114111 → (F x).2 ≠ none → qz_I g (T x) 8 = 2 → az_e F x ∧ ∀ c, ∃ l, uz_F F c x l ∧ sg g (T x) c l ∧ l.length ≤ 40
def wU (g : cz_H) (T : Int → Nat) (x : Int) : Nat := if qz_I g (T x) 8 = 0 then 1 else 0
def wN (g : cz_H) (T : Int → Nat) (x : Int) : Nat := if qz_I g (T x) 8 = 2 then 0 else 1
def rl (F : rz_W) (x : Int) : Nat := match (F x).2 with
  | none => 0
  | some q => q.2.length
def ps (g : cz_H) (F : rz_W) : List Int → Nat
  | [] => 0
  | x :: rest => ((rl F x : Int) - qz_I g 726 rest.length + 1).toNat + ps g F rest
def xz (τ : Nat → Nat) (T : Int → Nat) (F : rz_W) (E : Int → Prop) (Xs : List Int) (g : cz_H) (ab : Option Int) (pt : List Int) : Prop := pz_C τ g T F E ∧ qz_I g 723 5 = (pt.length : Int) ∧ pt.Nodup ∧ pk g T F ab pt ∧ cl g T F ∧ (∀ x, 0 ≤ x → x ≤ 1114111 → (F x).2 ≠ none → qz_I g (T x) 8 = 1 → x ∈ pt) ∧ pt.length + wz (wU g T) Xs ≤ Xs.length ∧ qz_I g 723 2 + 80 * (wz (wN g T) Xs : Int) ≤ 80 * (Xs.length : Int)
theorem T_inj {τ : Nat → Nat} {g : cz_H} {T : Int → Nat} {F : rz_W} {E : Int → Prop} (hC : pz_C τ g T F E) {x y : Int} (x0 : 0 ≤ x) (x1 : x ≤ 1114111) (y0 : 0 ≤ y) (y1 : y ≤ 1114111) (hx : (F x).2 ≠ none) (e : T y = T x) : y = x := by
  obtain ⟨-, -, a3, a4⟩ := hC.2.2.2.2 x x0 x1
  obtain ⟨-, -, b3, b4⟩ := hC.2.2.2.2 y y0 y1
  cases hq : (F x).2 with
  | none => exact absurd hq hx
  | some q =>
    obtain ⟨c0, -, c3, -⟩ := a4 q.1 q.2 hq
    cases hp : (F y).2 with
    | none => have := b3 hp; rw [e] at this; omega
    | some p =>
      obtain ⟨d0, -⟩ := b4 p.1 p.2 hp
      rw [e] at d0
      omega
theorem pk_tr {g g2 : cz_H} {T : Int → Nat} {F : rz_W} : ∀ {pt : List Int} {ab : Option Int}, pk g T F ab pt → (∀ i, i < pt.length → qz_I g2 725 i = qz_I g 725 i ∧ qz_I g2 726 i = qz_I g 726 i) → (∀ x ∈ pt, qz_I g2 (T x) 8 = qz_I g (T x) 8) → (∀ x ∈ pt, ∀ cp vs, (F x).2 = some (cp, vs) → ∀ v ∈ vs, dd g T F v → dd g2 T F v) → pk g2 T F ab pt
  | [], _, _, _, _, _ => trivial
  | x :: rest, ab, ⟨h1, h2⟩, hi, hv, hd => by
    refine ⟨?_, pk_tr h2 (fun i hl => hi i (by simp only [List.length_cons]; omega)) (fun y hy => hv y (List.mem_cons_of_mem _ hy)) (fun y hy => hd y (List.mem_cons_of_mem _ hy))⟩
    obtain ⟨a1, a2, a3, a4, cp, vs, a5, a6, a7, a8⟩ := h1
    obtain ⟨e1, e2⟩ := hi rest.length (by simp only [List.length_cons]; omega)
    have hdx := hd x List.mem_cons_self cp vs a5
    refine ⟨a1, a2, by rw [e1]; exact a3, by rw [hv x List.mem_cons_self]; exact a4, cp, vs, a5, by rw [e2]; exact a6, by rw [e2]; exact a7, ?_⟩
    rw [e2]
    cases ab with
    | none => exact fun j v j1 j2 => hdx v (List.mem_of_getElem? j2) (a8 j v j1 j2)
    | some y => exact ⟨a8.1, a8.2.1, fun j v j1 j2 => hdx v (List.mem_of_getElem? j2) (a8.2.2 j v j1 j2)⟩
theorem ps_tr {g g2 : cz_H} {F : rz_W} : ∀ {pt : List Int}, (∀ i, i < pt.length → qz_I g2 726 i = qz_I g 726 i) → ps g2 F pt = ps g F pt
  | [], _ => rfl
  | x :: rest, hi => by
    unfold ps
    rw [hi rest.length (by simp only [List.length_cons]; omega), ps_tr (fun i hl => hi i (by simp only [List.length_cons]; omega))]
/-- what is done is done -/
theorem xz_D {τ : Nat → Nat} {T : Int → Nat} {F : rz_W} {E : Int → Prop} {Xs : List Int} {g : cz_H} {v : Int} {pt : List Int} (h : xz τ T F E Xs g (some v) pt) (hd : dd g T F v) : xz τ T F E Xs g none pt := by
  obtain ⟨a1, a2, a3, a4, a5, a6, a7, a8⟩ := h
  refine ⟨a1, a2, a3, ?_, a5, a6, a7, a8⟩
  cases pt with
  | nil => trivial
  | cons x rest =>
    obtain ⟨⟨b1, b2, b3, b4, cp, vs, b5, b6, b7, b8, b9, b10⟩, c⟩ := a4
    refine ⟨⟨b1, b2, b3, b4, cp, vs, b5, b6, b7, fun j w j1 j2 => ?_⟩, c⟩
    by_cases e : (j : Int) < qz_I g 726 rest.length - 1
    · exact b10 j w e j2
    · have : j = (qz_I g 726 rest.length - 1).toNat := by omega
      rw [← this, j2] at b9
      cases b9
      exact hd
theorem pk_mem {g : cz_H} {T : Int → Nat} {F : rz_W} : ∀ {pt : List Int} {ab : Option Int}, pk g T F ab pt → ∀ y ∈ pt, (0 ≤ y ∧ y ≤ 1114111) ∧ ¬ hz y ∧ (F y).2 ≠ none ∧ qz_I g (T y) 8 = 1
  | [], _, _, y, hy => by cases hy
  | z :: r, ab, hp, y, hy => by
    rcases List.mem_cons.mp hy with rfl | hy
    · obtain ⟨a1, a2, a3, a4, cp, vs, a5, -⟩ := hp.1
      exact ⟨a1, a2, by rw [a5]; exact fun e => (by cases e), a4⟩
    · exact pk_mem hp.2 y hy
/-- another place of the row -/
theorem xz_P {τ : Nat → Nat} {T : Int → Nat} {F : rz_W} {E : Int → Prop} {Xs : List Int} {g g2 : cz_H} {x cp v : Int} {vs rest : List Int} (hw : uz_wf F) (hXr : ∀ x ∈ Xs, 0 ≤ x ∧ x ≤ 1114111) (h : xz τ T F E Xs g none (x :: rest)) (hdec : (F x).2 = some (cp, vs)) (hv : vs[(qz_I g 726 rest.length).toNat]? = some v) (hB : ez_B τ g2) (hf : ez_fr (ez_one 726) g g2) (h1 : qz_I g2 726 rest.length = qz_I g 726 rest.length + 1) (h2 : ∀ i, i ≠ rest.length → qz_I g2 726 i = qz_I g 726 i) : xz τ T F E Xs g2 (some v) (x :: rest) ∧ ps g2 F (x :: rest) + 1 = ps g F (x :: rest) ∧ wz (wU g2 T) Xs = wz (wU g T) Xs := by
  obtain ⟨a1, a2, a3, a4, a5, a6, a7, a8⟩ := h
  have hX := a1.2.1
  have i3 : ∀ q, q ≠ 726 → ∀ j, qz_I g2 q j = qz_I g q j := fun q hq j => hf.I (dz_beq_ne hq) j
  have hT : ∀ y, 0 ≤ y → y ≤ 1114111 → T y ≠ 726 := fun y y0 y1 e => by
    have := (a1.2.2.2.2 y y0 y1).1
    rw [e, hX 726 (by decide)] at this
    cases this
  have hpz : pz τ g g2 := pz_fr hf (fun q hq => by
    have e := Nat.eq_of_beq_eq_true hq
    subst e
    exact ⟨by omega, by omega, (pz_X hX (by omega) (by omega)).1⟩)
  have hmem := pk_mem a4
  obtain ⟨⟨b1, b2, b3, b4, cp', vs', b5, b6, b7, b8⟩, c⟩ := a4
  rw [hdec] at b5
  cases b5
  have hl : (qz_I g 726 rest.length).toNat < vs.length := (List.getElem?_eq_some_iff.mp hv).1
  have hI : ∀ y, 0 ≤ y → y ≤ 1114111 → ∀ j, qz_I g2 (T y) j = qz_I g (T y) j := fun y y0 y1 j => i3 _ (hT y y0 y1) j
  have hdm : ∀ z cp vs, (F z).2 = some (cp, vs) → ∀ w ∈ vs, dd g T F w → dd g2 T F w := fun z cp vs e w hw' hd => by
    obtain ⟨w0, w1⟩ := ((hw z).2 cp vs e).2.2.1 w hw'
    exact hd.imp id (fun hd => hd.imp id (fun hd => by rw [hI w w0 w1]; exact hd))
  have hlen : ∀ i, i < rest.length → qz_I g2 725 i = qz_I g 725 i ∧ qz_I g2 726 i = qz_I g 726 i := fun i hi => ⟨i3 725 (by decide) i, h2 i (by omega)⟩
  refine ⟨⟨a1.fr hB hpz, by rw [i3 723 (by decide)]; exact a2, a3, ⟨⟨b1, b2, by rw [i3 725 (by decide)]; exact b3, by rw [hI x b1.1 b1.2]; exact b4, cp, vs, hdec, by rw [h1]; omega, by rw [h1]; omega, by rw [h1]; omega, ?_, ?_⟩, ?_⟩, ?_, ?_, ?_, ?_⟩, ?_, ?_⟩
  · rw [h1, show (qz_I g 726 rest.length + 1 - 1).toNat = (qz_I g 726 rest.length).toNat by omega]; exact hv
  · intro j w j1 j2
    rw [h1] at j1
    exact hdm x cp vs hdec w (List.mem_of_getElem? j2) (b8 j w (by omega) j2)
  · exact pk_tr c hlen (fun y hy => hI y (hmem y (List.mem_cons_of_mem _ hy)).1.1 (hmem y (List.mem_cons_of_mem _ hy)).1.2 8) (fun y _ cp vs e => hdm y cp vs e)
  · intro y y0 y1 hy hv2
    rw [hI y y0 y1] at hv2
    obtain ⟨c1, c2⟩ := a5 y y0 y1 hy hv2
    refine ⟨c1, fun c => ?_⟩
    obtain ⟨l, l1, ⟨l2, l3, l4, l5⟩, l6⟩ := c2 c
    exact ⟨l, l1, ⟨by rw [hI y y0 y1]; exact l2, by rw [hI y y0 y1]; exact l3, by rw [hI y y0 y1, i3 723 (by decide)]; exact l4, fun j v hj => by rw [hI y y0 y1, i3 724 (by decide)]; exact l5 j v hj⟩, l6⟩
  · intro y y0 y1 hy hv2
    rw [hI y y0 y1] at hv2
    exact a6 y y0 y1 hy hv2
  · rw [wz_eq2 (W := wU g T) (fun y hy => by unfold wU; rw [hI y (hXr y hy).1 (hXr y hy).2])]; exact a7
  · rw [i3 723 (by decide), wz_eq2 (W := wN g T) (fun y hy => by unfold wN; rw [hI y (hXr y hy).1 (hXr y hy).2])]; exact a8
  · unfold ps
    rw [h1, ps_tr (fun i hi => (hlen i hi).2)]
    have : (rl F x : Int) = (vs.length : Int) := by unfold rl; rw [hdec]
    omega
  · exact wz_eq2 (fun y hy => by unfold wU; rw [hI y (hXr y hy).1 (hXr y hy).2])
/-- onto the path -/
theorem xz_E {τ : Nat → Nat} {T : Int → Nat} {F : rz_W} {E : Int → Prop} {Xs : List Int} {g g2 : cz_H} {v : Int} {pt : List Int} (hw : uz_wf F) (hXr : ∀ x ∈ Xs, 0 ≤ x ∧ x ≤ 1114111) (hXs : ∀ x, (F x).2 ≠ none → x ∈ Xs) (h : xz τ T F E Xs g (some v) pt) (v0 : 0 ≤ v) (v1 : v ≤ 1114111) (hv : ¬ hz v) (hn : (F v).2 ≠ none) (h8 : qz_I g (T v) 8 = 0) (he : en τ g g2 (T v) (pt.length : Int)) : xz τ T F E Xs g2 none (v :: pt) ∧ 20 * wz (wU g2 T) Xs + ps g2 F (v :: pt) + 1 ≤ 20 * wz (wU g T) Xs + ps g F pt := by
  obtain ⟨a1, a2, a3, a4, a5, a6, a7, a8⟩ := h
  obtain ⟨e1, e2, e3, e4, e5, e6, e7, e8, e9, e10, e11⟩ := he
  have hmem := pk_mem a4
  have hX := a1.2.1
  have hTy : ∀ y, 0 ≤ y → y ≤ 1114111 → y ≠ v → g2.2.2 (T y) = g.2.2 (T y) := fun y y0 y1 hy => e3 _ (a1.2.2.2.2 y y0 y1).1 (fun e => hy (T_inj a1 v0 v1 y0 y1 hn e))
  have hI : ∀ y, 0 ≤ y → y ≤ 1114111 → y ≠ v → ∀ j, qz_I g2 (T y) j = qz_I g (T y) j := fun y y0 y1 hy j => by unfold qz_I; rw [hTy y y0 y1 hy]
  have hvp : v ∉ pt := fun w => by have := (hmem v w).2.2.2; omega
  have hnv : ∀ y ∈ pt, y ≠ v := fun y hy e => by rw [e] at hy; exact hvp hy
  have hdm : ∀ z cp vs, (F z).2 = some (cp, vs) → ∀ w ∈ vs, dd g T F w → dd g2 T F w := fun z cp vs e w hw' hd => by
    obtain ⟨w0, w1⟩ := ((hw z).2 cp vs e).2.2.1 w hw'
    rcases hd with hd | hd | hd
    · exact Or.inl hd
    · exact Or.inr (Or.inl hd)
    · refine Or.inr (Or.inr ?_)
      rw [hI w w0 w1 (fun e => by rw [e] at hd; omega)]; exact hd
  have hlen : ∀ i, i < pt.length → qz_I g2 725 i = qz_I g 725 i ∧ qz_I g2 726 i = qz_I g 726 i := fun i hi => e9 i (by omega)
  obtain ⟨cp, vs, hdec⟩ : ∃ cp vs, (F v).2 = some (cp, vs) := by
    cases hq : (F v).2 with
    | none => exact absurd hq hn
    | some q => exact ⟨q.1, q.2, rfl⟩
  have hlv : rl F v ≤ 18 := by
    unfold rl; rw [hdec]; exact ((hw v).2 cp vs hdec).2.1.2
  have hU : wz (wU g2 T) Xs + 1 ≤ wz (wU g T) Xs := by
    refine wz_lt2 (y := v) (fun y hy => ?_) (hXs v hn) ?_
    · by_cases e : y = v
      · subst e; unfold wU; rw [e4, if_neg (by decide), h8, if_pos rfl]; omega
      · unfold wU; rw [hI y (hXr y hy).1 (hXr y hy).2 e]; exact Nat.le_refl _
    · unfold wU; rw [e4, if_neg (by decide), h8, if_pos rfl]; omega
  have hN : wz (wN g2 T) Xs = wz (wN g T) Xs := wz_eq2 (fun y hy => by
    by_cases e : y = v
    · subst e; unfold wN; rw [e4, if_neg (by decide), h8, if_neg (by decide)]
    · unfold wN; rw [hI y (hXr y hy).1 (hXr y hy).2 e])
  have en725 : qz_I g2 725 pt.length = (T v : Int) + 1 := by have := e10; rw [show ((pt.length : Int)).toNat = pt.length by omega] at this; exact this
  have en726 : qz_I g2 726 pt.length = 0 := by have := e11; rw [show ((pt.length : Int)).toNat = pt.length by omega] at this; exact this
  refine ⟨⟨a1.fr e1 e2, by rw [e6]; simp only [List.length_cons]; omega, List.nodup_cons.mpr ⟨hvp, a3⟩, ⟨⟨⟨v0, v1⟩, hv, en725, e4, cp, vs, hdec, by rw [en726]; omega, by rw [en726]; omega, fun j w j1 j2 => by rw [en726] at j1; omega⟩, pk_tr a4 hlen (fun y hy => hI y (hmem y hy).1.1 (hmem y hy).1.2 (hnv y hy) 8) (fun y _ cp vs e => hdm y cp vs e)⟩, ?_, ?_, by simp only [List.length_cons]; omega, by rw [e7 2 (by decide), hN]; exact a8⟩, ?_⟩
  · intro y y0 y1 hy hv2
    have hyv : y ≠ v := fun e => by rw [e, e4] at hv2; omega
    rw [hI y y0 y1 hyv] at hv2
    obtain ⟨c1, c2⟩ := a5 y y0 y1 hy hv2
    refine ⟨c1, fun c => ?_⟩
    obtain ⟨l, l1, ⟨l2, l3, l4, l5⟩, l6⟩ := c2 c
    exact ⟨l, l1, ⟨by rw [hI y y0 y1 hyv]; exact l2, by rw [hI y y0 y1 hyv]; exact l3, by rw [hI y y0 y1 hyv, e7 2 (by decide)]; exact l4, fun j v hj => by rw [hI y y0 y1 hyv]; unfold qz_I; rw [e8]; exact l5 j v hj⟩, l6⟩
  · intro y y0 y1 hy hv2
    by_cases e : y = v
    · rw [e]; exact List.mem_cons_self
    · rw [hI y y0 y1 e] at hv2
      exact List.mem_cons_of_mem _ (a6 y y0 y1 hy hv2)
  · show 20 * wz (wU g2 T) Xs + (((rl F v : Int) - qz_I g2 726 pt.length + 1).toNat + ps g2 F pt) + 1 ≤ _
    rw [en726, ps_tr (fun i hi => (hlen i hi).2)]
    omega
/-- the lists of what is done -/
theorem dd_dn {g : cz_H} {T : Int → Nat} {F : rz_W} (hcl : cl g T F) (hS : uz_S1 F) {v : Int} (v0 : 0 ≤ v) (v1 : v ≤ 1114111) (hd : dd g T F v) (c : Bool) : ∃ l, dn g T F c v l ∧ uz_F F c v l := by
  by_cases e : hz v
  · exact ⟨_, Or.inl ⟨e, rfl⟩, uz_syl e⟩
  · cases hq : (F v).2 with
    | none => exact ⟨_, Or.inr (Or.inl ⟨e, hq, rfl⟩), uz_leaf e hq⟩
    | some q =>
      have hn : (F v).2 ≠ none := by rw [hq]; exact fun e => by cases e
      rcases hd with hd | hd | hd
      · exact absurd hd e
      · exact absurd hd hn
      · obtain ⟨-, h2⟩ := hcl v v0 v1 hn hd
        obtain ⟨l, l1, l2, -⟩ := h2 c
        exact ⟨l, Or.inr (Or.inr ⟨e, hn, l2⟩), l1⟩
theorem dd_fun {g : cz_H} {T : Int → Nat} {F : rz_W} (hcl : cl g T F) (hS : uz_S1 F) {vs : List Int} (hr : ∀ v ∈ vs, 0 ≤ v ∧ v ≤ 1114111) (hd : ∀ v ∈ vs, dd g T F v) (c : Bool) : ∃ f : Int → List Int, ∀ v ∈ vs, dn g T F c v (f v) ∧ uz_F F c v (f v) :=
  ⟨fun v => Classical.epsilon (fun l => dn g T F c v l ∧ uz_F F c v l), fun v hv => Classical.epsilon_spec (dd_dn hcl hS (hr v hv).1 (hr v hv).2 (hd v hv) c)⟩
/-- from the path -/
theorem xz_X {τ : Nat → Nat} {T : Int → Nat} {F : rz_W} {E : Int → Prop} {Xs : List Int} {g g2 g3 : cz_H} {x cp : Int} {vs rest l1 l2 : List Int} (hw : uz_wf F) (hXr : ∀ x ∈ Xs, 0 ≤ x ∧ x ≤ 1114111) (hXs : ∀ x, (F x).2 ≠ none → x ∈ Xs) (h : xz τ T F E Xs g none (x :: rest)) (hdec : (F x).2 = some (cp, vs)) (hc : qz_I g 726 rest.length = (vs.length : Int)) (haz : az_e F x) (u1 : uz_F F true x l1) (u2 : uz_F F false x l2) (hB2 : ez_B τ g2) (hf2 : ez_fr (nz_PR (T x)) g g2) (h28 : ∀ j, j < 8 → qz_I g2 (T x) j = qz_I g (T x) j) (h2j : ∀ j, j ≠ 2 → qz_I g2 723 j = qz_I g 723 j) (hpl : pl_same g g2) (hu : qz_I g2 723 2 = qz_I g 723 2 + (l1.length : Int) + (l2.length : Int)) (s1 : sg g2 (T x) true l1) (s2 : sg g2 (T x) false l2) (h2v : qz_I g2 (T x) 8 = 2) (n1 : l1.length ≤ 40) (n2 : l2.length ≤ 40) (hB3 : ez_B τ g3) (hf3 : ez_fr (ez_one 723) g2 g3) (h35 : qz_I g3 723 5 = qz_I g2 723 5 - 1) (h3j : ∀ j, j ≠ 5 → qz_I g3 723 j = qz_I g2 723 j) : xz τ T F E Xs g3 none rest ∧ ps g3 F rest + 1 = ps g F (x :: rest) ∧ wz (wU g3 T) Xs = wz (wU g T) Xs := by
  obtain ⟨a1, a2, a3, a4, a5, a6, a7, a8⟩ := h
  have hX := a1.2.1
  have hmem := pk_mem a4
  obtain ⟨⟨x0, x1⟩, hzx, hnx, h1x⟩ := hmem x List.mem_cons_self
  have tT := (a1.2.2.2.2 x x0 x1).1
  have t723 : τ 723 = 55 := hX 723 (by decide)
  have n723 : ∀ y, 0 ≤ y → y ≤ 1114111 → T y ≠ 723 := fun y y0 y1 e => by
    have := (a1.2.2.2.2 y y0 y1).1
    rw [e, t723] at this; cases this
  have n724 : ∀ y, 0 ≤ y → y ≤ 1114111 → T y ≠ 724 := fun y y0 y1 e => by
    have := (a1.2.2.2.2 y y0 y1).1
    rw [e, hX 724 (by decide)] at this; cases this
  have i3 : ∀ q, q ≠ 723 → ∀ j, qz_I g3 q j = qz_I g2 q j := fun q hq j => hf3.I (dz_beq_ne hq) j
  have p2 : ∀ q, q ≠ T x → q ≠ 723 → q ≠ 724 → ∀ j, qz_I g2 q j = qz_I g q j := fun q q1 q2 q3 j => hf2.I (by unfold nz_PR nz_PP; rw [dz_beq_ne q1, dz_beq_ne q2, dz_beq_ne q3]; rfl) j
  have hI : ∀ y, 0 ≤ y → y ≤ 1114111 → y ≠ x → ∀ j, qz_I g3 (T y) j = qz_I g (T y) j := fun y y0 y1 hy j => by
    rw [i3 _ (n723 y y0 y1), p2 _ (fun e => hy (T_inj a1 x0 x1 y0 y1 hnx e)) (n723 y y0 y1) (n724 y y0 y1)]
  have hIx : ∀ j, qz_I g3 (T x) j = qz_I g2 (T x) j := fun j => i3 _ (n723 x x0 x1) j
  have hxr : x ∉ rest := (List.nodup_cons.mp a3).1
  have hnr : ∀ y ∈ rest, y ≠ x := fun y hy e => by rw [e] at hy; exact hxr hy
  have n3 : ∀ q, q = 725 ∨ q = 726 → ∀ j, qz_I g3 q j = qz_I g q j := fun q hq j => by
    have e : q ≠ T x := fun e => by
      rw [← e] at tT
      rcases hq with hq | hq
      · rw [hq, hX 725 (by decide)] at tT; cases tT
      · rw [hq, hX 726 (by decide)] at tT; cases tT
    rw [i3 q (by omega), p2 q e (by omega) (by omega)]
  have used3 : qz_I g3 723 2 = qz_I g2 723 2 := h3j 2 (by decide)
  have hdm : ∀ z cp vs, (F z).2 = some (cp, vs) → ∀ w ∈ vs, dd g T F w → dd g3 T F w := fun z cp vs e w hw' hd => by
    obtain ⟨w0, w1⟩ := ((hw z).2 cp vs e).2.2.1 w hw'
    rcases hd with hd | hd | hd
    · exact Or.inl hd
    · exact Or.inr (Or.inl hd)
    · refine Or.inr (Or.inr ?_)
      by_cases e : w = x
      · rw [e, hIx]; exact h2v
      · rw [hI w w0 w1 e]; exact hd
  have hsg : ∀ {r c l}, sg g2 r c l → r ≠ 723 → sg g3 r c l := fun {r c l} hs hr => by
    obtain ⟨b1, b2, b3, b4⟩ := hs
    exact ⟨by rw [i3 r hr]; exact b1, by rw [i3 r hr]; exact b2, by rw [i3 r hr, used3]; exact b3, fun j v hj => by rw [i3 r hr, i3 724 (by decide)]; exact b4 j v hj⟩
  have hU : wz (wU g3 T) Xs = wz (wU g T) Xs := wz_eq2 (fun y hy => by
    by_cases e : y = x
    · subst e; unfold wU; rw [hIx, h2v, h1x]; rfl
    · unfold wU; rw [hI y (hXr y hy).1 (hXr y hy).2 e])
  have hN : wz (wN g3 T) Xs + 1 ≤ wz (wN g T) Xs := by
    refine wz_lt2 (y := x) (fun y hy => ?_) (hXs x hnx) ?_
    · by_cases e : y = x
      · subst e; unfold wN; rw [hIx, h2v, h1x, if_pos rfl]; omega
      · unfold wN; rw [hI y (hXr y hy).1 (hXr y hy).2 e]; exact Nat.le_refl _
    · unfold wN; rw [hIx, h2v, h1x, if_pos rfl, if_neg (by decide)]; omega
  have hpz : pz τ g g3 := (nz_PR_pz hX tT hf2 h28).trans (pz_fr hf3 (fun q hq => by
    have e := Nat.eq_of_beq_eq_true hq
    subst e
    exact ⟨by omega, by omega, (pz_X hX (by omega) (by omega)).1⟩))
  refine ⟨xz_D (v := x) ⟨a1.fr hB3 hpz, ?_, (List.nodup_cons.mp a3).2, ?_, ?_, ?_, ?_, ?_⟩ (Or.inr (Or.inr (by rw [hIx]; exact h2v))), ?_, hU⟩
  · rw [h35, h2j 5 (by decide), a2]; simp only [List.length_cons]; omega
  · exact pk_tr a4.2 (fun i hi => ⟨n3 725 (Or.inl rfl) i, n3 726 (Or.inr rfl) i⟩) (fun y hy => hI y (hmem y (List.mem_cons_of_mem _ hy)).1.1 (hmem y (List.mem_cons_of_mem _ hy)).1.2 (hnr y hy) 8) (fun y _ cp vs e => hdm y cp vs e)
  · intro y y0 y1 hy hv2
    by_cases e : y = x
    · subst e
      refine ⟨haz, fun c => ?_⟩
      cases c with
      | true => exact ⟨l1, u1, hsg s1 (n723 y y0 y1), n1⟩
      | false => exact ⟨l2, u2, hsg s2 (n723 y y0 y1), n2⟩
    · rw [hI y y0 y1 e] at hv2
      obtain ⟨c1, c2⟩ := a5 y y0 y1 hy hv2
      refine ⟨c1, fun c => ?_⟩
      obtain ⟨l, w1, ⟨w2, w3, w4, w5⟩, w6⟩ := c2 c
      refine ⟨l, w1, ⟨by rw [hI y y0 y1 e]; exact w2, by rw [hI y y0 y1 e]; exact w3, by rw [hI y y0 y1 e, used3, hu]; omega, fun j v hj => ?_⟩, w6⟩
      have hjl := (List.getElem?_eq_some_iff.mp hj).1
      rw [hI y y0 y1 e, i3 724 (by decide), hpl _ (by omega) (by omega)]
      exact w5 j v hj
  · intro y y0 y1 hy hv2
    have hyx : y ≠ x := fun e => by rw [e, hIx, h2v] at hv2; omega
    rw [hI y y0 y1 hyx] at hv2
    exact (List.mem_cons.mp (a6 y y0 y1 hy hv2)).resolve_left hyx
  · rw [hU]; simp only [List.length_cons] at a7; omega
  · rw [used3, hu]; omega
  · show ps g3 F rest + 1 = ((rl F x : Int) - qz_I g 726 rest.length + 1).toNat + ps g F rest
    rw [ps_tr (fun i hi => n3 726 (Or.inr rfl) i), hc]
    have : (rl F x : Int) = (vs.length : Int) := by unfold rl; rw [hdec]
    omega
/-- a point that is on the path already: no end -/
theorem pk_cyc {g : cz_H} {T : Int → Nat} {F : rz_W} : ∀ {A B : List Int} {v u : Int}, pk g T F (some u) (A ++ v :: B) → ∀ z ∈ A ++ [v], ∃ w, (w = u ∨ w ∈ A ++ [v]) ∧ ¬ hz z ∧ ∃ cp vs, (F z).2 = some (cp, vs) ∧ w ∈ vs
  | [], B, v, u, h, z, hz' => by
    rw [List.nil_append, List.mem_singleton] at hz'
    subst hz'
    obtain ⟨a1, a2, a3, a4, cp, vs, a5, a6, a7, a8, a9, a10⟩ := h.1
    exact ⟨u, Or.inl rfl, a2, cp, vs, a5, List.mem_of_getElem? a9⟩
  | y :: A, B, v, u, h, z, hz' => by
    rw [List.cons_append] at hz'
    rcases List.mem_cons.mp hz' with rfl | hz'
    · obtain ⟨a1, a2, a3, a4, cp, vs, a5, a6, a7, a8, a9, a10⟩ := h.1
      exact ⟨u, Or.inl rfl, a2, cp, vs, a5, List.mem_of_getElem? a9⟩
    · obtain ⟨w, w1, w2⟩ := pk_cyc (A := A) h.2 z hz'
      refine ⟨w, Or.inr ?_, w2⟩
      rw [List.cons_append]
      rcases w1 with w1 | w1
      · rw [w1]; exact List.mem_cons_self
      · exact List.mem_cons_of_mem _ w1
theorem xz_cyc {τ : Nat → Nat} {T : Int → Nat} {F : rz_W} {E : Int → Prop} {Xs : List Int} {g : cz_H} {v : Int} {pt : List Int} (h : xz τ T F E Xs g (some v) pt) (hv : v ∈ pt) : ¬ az_e F v := by
  obtain ⟨A, B, rfl⟩ := List.append_of_mem hv
  have hp := pk_cyc h.2.2.2.1
  rintro ⟨n, hn⟩
  refine az_cycle (F := F) (Z := fun z => z ∈ A ++ [v]) (fun z hz' => ?_) n v (by simp) hn
  obtain ⟨w, w1, w2, cp, vs, w3, w4⟩ := hp z hz'
  refine ⟨w2, cp, vs, w3, w, w4, ?_⟩
  rcases w1 with w1 | w1
  · rw [w1]; simp
  · exact w1
/-- visits go on -/
def vm (T : Int → Nat) (F : rz_W) (g g2 : cz_H) : Prop := ∀ y, 0 ≤ y → y ≤ 1114111 → (F y).2 ≠ none → (qz_I g (T y) 8 = 2 → qz_I g2 (T y) 8 = 2) ∧ (qz_I g (T y) 8 ≠ 0 → qz_I g2 (T y) 8 ≠ 0)
theorem vm.refl (T : Int → Nat) (F : rz_W) (g : cz_H) : vm T F g g := fun _ _ _ _ => ⟨id, id⟩
theorem vm.trans {T : Int → Nat} {F : rz_W} {g g1 g2 : cz_H} (a : vm T F g g1) (b : vm T F g1 g2) : vm T F g g2 := fun y y0 y1 hy => ⟨fun w => (b y y0 y1 hy).1 ((a y y0 y1 hy).1 w), fun w => (b y y0 y1 hy).2 ((a y y0 y1 hy).2 w)⟩
theorem vm_fr {P : Nat → Bool} {τ : Nat → Nat} {T : Int → Nat} {F : rz_W} {E : Int → Prop} {g g2 : cz_H} (hC : pz_C τ g T F E) (hf : ez_fr P g g2) (hP : ∀ q, τ q = 3 → P q = false) : vm T F g g2 := fun y y0 y1 _ => by
  rw [hf.I (hP _ (hC.2.2.2.2 y y0 y1).1)]
  exact ⟨id, id⟩
theorem vm_1 {τ : Nat → Nat} {T : Int → Nat} {F : rz_W} {E : Int → Prop} {g g2 : cz_H} {r : Nat} (hC : pz_C τ g T F E) (h1 : 723 ≤ r) (h2 : r ≤ 728) (hf : ez_fr (ez_one r) g g2) : vm T F g g2 := vm_fr hC hf (fun q hq => dz_beq_ne (fun e => by rw [e] at hq; exact (pz_X hC.2.1 h1 h2).1 hq))
theorem vm_r {τ : Nat → Nat} {T : Int → Nat} {F : rz_W} {E : Int → Prop} {g g2 : cz_H} {x k : Int} (hC : pz_C τ g T F E) (x0 : 0 ≤ x) (x1 : x ≤ 1114111) (hn : (F x).2 ≠ none) (ho : ∀ q, τ q = 3 → q ≠ T x → ∀ j, qz_I g2 q j = qz_I g q j) (hk : qz_I g2 (T x) 8 = k) (h0 : k ≠ 0) (h2 : qz_I g (T x) 8 = 2 → k = 2) : vm T F g g2 := fun y y0 y1 _ => by
  by_cases e : y = x
  · subst e; rw [hk]; exact ⟨fun w => h2 w, fun _ => h0⟩
  · rw [ho _ (hC.2.2.2.2 y y0 y1).1 (fun w => e (T_inj hC x0 x1 y0 y1 hn w))]
    exact ⟨id, id⟩
/-- between two expansions -/
def xy (τ : Nat → Nat) (T : Int → Nat) (F : rz_W) (E : Int → Prop) (Xs : List Int) (g : cz_H) : Prop := pz_C τ g T F E ∧ cl g T F ∧ (∀ x, 0 ≤ x → x ≤ 1114111 → (F x).2 ≠ none → qz_I g (T x) 8 ≠ 1) ∧ wz (wU g T) Xs ≤ Xs.length ∧ qz_I g 723 2 + 80 * (wz (wN g T) Xs : Int) ≤ 80 * (Xs.length : Int)
theorem xy_of {τ : Nat → Nat} {T : Int → Nat} {F : rz_W} {E : Int → Prop} {Xs : List Int} {g : cz_H} (h : xz τ T F E Xs g none []) : xy τ T F E Xs g := by
  obtain ⟨a1, a2, a3, a4, a5, a6, a7, a8⟩ := h
  exact ⟨a1, a5, fun x x0 x1 hx h1 => (by have := a6 x x0 x1 hx h1; cases this), by simpa using a7, a8⟩
theorem xy_to {τ : Nat → Nat} {T : Int → Nat} {F : rz_W} {E : Int → Prop} {Xs : List Int} {g : cz_H} (h : xy τ T F E Xs g) (h5 : qz_I g 723 5 = 0) : xz τ T F E Xs g none [] :=
  ⟨h.1, by rw [h5]; rfl, List.nodup_nil, trivial, h.2.1, fun x x0 x1 hx h1 => absurd h1 (h.2.2.1 x x0 x1 hx), by simpa using h.2.2.2.1, h.2.2.2.2⟩
/-- nothing of it hangs on the other cells -/
theorem xy_tr {τ : Nat → Nat} {T : Int → Nat} {F : rz_W} {E : Int → Prop} {Xs : List Int} {g g2 : cz_H} (hXr : ∀ x ∈ Xs, 0 ≤ x ∧ x ≤ 1114111) (h : xy τ T F E Xs g) (hB : ez_B τ g2) (hp : pz τ g g2) (hT : ∀ q, τ q = 3 → ∀ j, 8 ≤ j → qz_I g2 q j = qz_I g q j) (hu : qz_I g2 723 2 = qz_I g 723 2) (hl : ∀ j, qz_I g2 724 j = qz_I g 724 j) : xy τ T F E Xs g2 := by
  obtain ⟨a1, a2, a3, a4, a5⟩ := h
  have hI : ∀ y, 0 ≤ y → y ≤ 1114111 → ∀ j, 8 ≤ j → qz_I g2 (T y) j = qz_I g (T y) j := fun y y0 y1 j hj => hT _ (a1.2.2.2.2 y y0 y1).1 j hj
  refine ⟨a1.fr hB hp, fun y y0 y1 hy hv => ?_, fun y y0 y1 hy hv => ?_, ?_, ?_⟩
  · rw [hI y y0 y1 8 (by omega)] at hv
    obtain ⟨c1, c2⟩ := a2 y y0 y1 hy hv
    refine ⟨c1, fun c => ?_⟩
    obtain ⟨l, w1, ⟨w2, w3, w4, w5⟩, w6⟩ := c2 c
    have hs1 : 8 ≤ sa c := by unfold sa; cases c <;> decide
    have hs2 : 8 ≤ sl c := by unfold sl; cases c <;> decide
    exact ⟨l, w1, ⟨by rw [hI y y0 y1 _ hs2]; exact w2, by rw [hI y y0 y1 _ hs1]; exact w3, by rw [hI y y0 y1 _ hs1, hu]; exact w4, fun j v hj => by rw [hI y y0 y1 _ hs1, hl]; exact w5 j v hj⟩, w6⟩
  · rw [hI y y0 y1 8 (by omega)] at hv; exact a3 y y0 y1 hy hv
  · rw [wz_eq2 (W := wU g T) (fun y hy => by unfold wU; rw [hI y (hXr y hy).1 (hXr y hy).2 8 (by omega)])]; exact a4
  · rw [hu, wz_eq2 (W := wN g T) (fun y hy => by unfold wN; rw [hI y (hXr y hy).1 (hXr y hy).2 8 (by omega)])]; exact a5
/-! The class: expandFrom. (Written by wip/p2/py/pv32.py.) -/
section EzXf
variable {d : Nat} {h : cz_H} {τ : Nat → Nat} {Q : cz_F → Prop} {T : Int → Nat} {F : rz_W} {E : Int → Prop} {Xs : List Int}
theorem rd_expand_0 {w st : Int} {g : cz_H} (hx : xz τ T F E Xs g none []) (s0 : 0 ≤ st) (s1 : st ≤ 10000) (hp : pz τ h g) (h8 : qz_I g 723 8 = qz_I h 723 8) (hv : vm T F h g) (kS : ∀ g, xy τ T F E Xs g → pz τ h g → qz_I g 723 8 = qz_I h 723 8 → vm T F h g → Q (.inl (some (ez_v (.inl 1))), g)) : ez_W (d + 4) cm_117 13 [(2, .inl (st)), (0, .inr (.inr (some (723)))), (1, .inr (.inr (some ((T w)))))] [] g Q := by
  have t723 : τ 723 = 55 := hx.1.2.1 723 (by decide)
  have h5 : qz_I g 723 5 = 0 := hx.2.1
  refine ez_go (n := 1) (pc' := 14) (L' := [(2, .inl (st)), (0, .inr (.inr (some (723)))), (1, .inr (.inr (some ((T w)))))]) (st' := [.inl (st)]) rfl ?_
  refine ez_ldc (1000000) rfl rfl rfl ?_
  refine ez_icmp rfl rfl ⟨by first | omega | exact (sz_i32 _).1, by first | omega | exact (sz_i32 _).2⟩ ⟨by first | omega | exact (sz_i32 _).1, by first | omega | exact (sz_i32 _).2⟩ (fun (c1 : (1000000) ≤ (st)) => ?_) (fun (c1 : ¬((1000000) ≤ (st))) => ?_)
  · exfalso; omega
  · skip
    refine ez_go (n := 1) (pc' := 20) (L' := [(2, .inl (st)), (0, .inr (.inr (some (723)))), (1, .inr (.inr (some ((T w)))))]) (st' := [.inr (.inr (some (723)))]) rfl ?_
    refine ez_gI hx.1.1 t723 rfl rfl tq_55 rfl rfl (fun (b2 : 0 ≤ qz_I g 723 5) (b2' : qz_I g 723 5 ≤ 256) => ?_)
    refine ez_if rfl rfl ⟨by first | omega | exact (sz_i32 _).1, by first | omega | exact (sz_i32 _).2⟩ (fun (c3 : (qz_I g 723 5) ≤ (0)) => ?_) (fun (c3 : ¬((qz_I g 723 5) ≤ (0))) => ?_)
    · skip
      refine ez_go (n := 1) (pc' := 122) (L' := [(2, .inl (st)), (0, .inr (.inr (some (723)))), (1, .inr (.inr (some ((T w)))))]) (st' := [.inr (.inr (some (723)))]) rfl ?_
      refine ez_gI hx.1.1 t723 rfl rfl tq_55 rfl rfl (fun (b4 : 0 ≤ qz_I g 723 5) (b4' : qz_I g 723 5 ≤ 256) => ?_)
      refine ez_if rfl rfl ⟨by first | omega | exact (sz_i32 _).1, by first | omega | exact (sz_i32 _).2⟩ (fun (c5 : (qz_I g 723 5) ≠ (0)) => ?_) (fun (c5 : ¬((qz_I g 723 5) ≠ (0))) => ?_)
      · skip
        refine ez_go (n := 1) (pc' := 133) (L' := [(2, .inl (st)), (0, .inr (.inr (some (723)))), (1, .inr (.inr (some ((T w)))))]) (st' := [.inl (0)]) rfl ?_
        exfalso; omega
      · skip
        refine ez_go (n := 2) (pc' := 133) (L' := [(2, .inl (st)), (0, .inr (.inr (some (723)))), (1, .inr (.inr (some ((T w)))))]) (st' := [.inl (1)]) rfl ?_
        exact ez_retZ rfl rfl (by decide) (kS g (xy_of hx) hp h8 hv)
    · exfalso; omega

theorem rd_expand_l {w : Int} (hw : uz_wf F) (hS : uz_S1 F) (hXr : ∀ x ∈ Xs, 0 ≤ x ∧ x ≤ 1114111) (hXs : ∀ x, (F x).2 ≠ none → x ∈ Xs) (hXl : Xs.length ≤ 256) (tw : τ (T w) = 3) (kF : ¬ (uz_S2 F ∧ uz_S3 F) → ∀ g, ez_B τ g → pz τ h g → Q (.inl (some (ez_v (.inl 0))), g)) (kS : ∀ g, xy τ T F E Xs g → pz τ h g → qz_I g 723 8 = qz_I h 723 8 → vm T F h g → Q (.inl (some (ez_v (.inl 1))), g)) : ∀ (m : Nat) (st : Int) (pt : List Int) (g : cz_H), 20 * wz (wU g T) Xs + ps g F pt ≤ m → 0 ≤ st → st + (m : Int) ≤ 10000 → xz τ T F E Xs g none pt → pz τ h g → qz_I g 723 8 = qz_I h 723 8 → vm T F h g → ez_W (d + 4) cm_117 13 [(2, .inl (st)), (0, .inr (.inr (some (723)))), (1, .inr (.inr (some ((T w)))))] [] g Q := by
  intro m
  induction m with
  | zero =>
    intro st pt g hm s0 s1 hx hp h8 hv
    cases pt with
    | nil => exact rd_expand_0 hx s0 (by omega) hp h8 hv kS
    | cons x rest =>
      exfalso
      obtain ⟨ab1, ab2, ab3, ab4, cp, vs, hdec, ab6, ab7, ab8⟩ := hx.2.2.2.1.1
      have hps : 1 ≤ ps g F (x :: rest) := by show 1 ≤ ((rl F x : Int) - qz_I g 726 rest.length + 1).toNat + ps g F rest; have : (rl F x : Int) = (vs.length : Int) := by { unfold rl; rw [hdec] }; omega
      omega
  | succ m ih =>
    intro st pt g hm s0 s1 hx hp h8 hv
    cases pt with
    | nil => exact rd_expand_0 hx s0 (by omega) hp h8 hv kS
    | cons x rest =>
        have t723 : τ 723 = 55 := hx.1.2.1 723 (by decide)
        have hcl := hx.2.2.2.2.1
        have h5 : qz_I g 723 5 = (rest.length : Int) + 1 := by have := hx.2.1; simp only [List.length_cons] at this; omega
        have ei : ((qz_I g 723 5) - (1)).toNat = rest.length := by omega
        obtain ⟨ab1, ab2, ab3, ab4, cp, vs, hdec, ab6, ab7, ab8⟩ := hx.2.2.2.1.1
        have hnx : (F x).2 ≠ none := by rw [hdec]; exact fun e => by cases e
        obtain ⟨tT, -, -, f4⟩ := hx.1.2.2.2.2 x ab1.1 ab1.2
        obtain ⟨f40, f41, f42, f43, f44, f45⟩ := f4 cp vs hdec
        have hlv := ((hw x).2 cp vs hdec).2.1
        have hus := hx.2.2.2.2.2.2.2
        have hdl := hx.2.2.2.2.2.2.1
        simp only [List.length_cons] at hdl
        have hps : 1 ≤ ps g F (x :: rest) := by show 1 ≤ ((rl F x : Int) - qz_I g 726 rest.length + 1).toNat + ps g F rest; have : (rl F x : Int) = (vs.length : Int) := by { unfold rl; rw [hdec] }; omega
        refine ez_go (n := 1) (pc' := 14) (L' := [(2, .inl (st)), (0, .inr (.inr (some (723)))), (1, .inr (.inr (some ((T w)))))]) (st' := [.inl (st)]) rfl ?_
        refine ez_ldc (1000000) rfl rfl rfl ?_
        refine ez_icmp rfl rfl ⟨by first | omega | exact (sz_i32 _).1, by first | omega | exact (sz_i32 _).2⟩ ⟨by first | omega | exact (sz_i32 _).1, by first | omega | exact (sz_i32 _).2⟩ (fun (c1 : (1000000) ≤ (st)) => ?_) (fun (c1 : ¬((1000000) ≤ (st))) => ?_)
        · exfalso; omega
        · skip
          refine ez_go (n := 1) (pc' := 20) (L' := [(2, .inl (st)), (0, .inr (.inr (some (723)))), (1, .inr (.inr (some ((T w)))))]) (st' := [.inr (.inr (some (723)))]) rfl ?_
          refine ez_gI hx.1.1 t723 rfl rfl tq_55 rfl rfl (fun (b2 : 0 ≤ qz_I g 723 5) (b2' : qz_I g 723 5 ≤ 256) => ?_)
          refine ez_if rfl rfl ⟨by first | omega | exact (sz_i32 _).1, by first | omega | exact (sz_i32 _).2⟩ (fun (c3 : (qz_I g 723 5) ≤ (0)) => ?_) (fun (c3 : ¬((qz_I g 723 5) ≤ (0))) => ?_)
          · exfalso; omega
          · skip
            refine ez_go (n := 1) (pc' := 27) (L' := [(2, .inl (st)), (0, .inr (.inr (some (723)))), (1, .inr (.inr (some ((T w)))))]) (st' := [.inr (.inr (some (723)))]) rfl ?_
            refine ez_gC (p := 725) (tg := 57) hx.1.1 t723 rfl rfl tq_55 rfl rfl (fun (t725 : _ = 57) => ?_)
            refine ez_go (n := 1) (pc' := 31) (L' := [(2, .inl (st)), (0, .inr (.inr (some (723)))), (1, .inr (.inr (some ((T w)))))]) (st' := [.inr (.inr (some (723))), .inr (.inr (some (725)))]) rfl ?_
            refine ez_gI hx.1.1 t723 rfl rfl tq_55 rfl rfl (fun (b4 : 0 ≤ qz_I g 723 5) (b4' : qz_I g 723 5 ≤ 256) => ?_)
            refine ez_go (n := 2) (pc' := 36) (L' := [(2, .inl (st)), (0, .inr (.inr (some (723)))), (1, .inr (.inr (some ((T w)))))]) (st' := [.inl ((qz_I g 723 5) - (1)), .inr (.inr (some (725)))]) rfl ?_
            have n6 : 256 ≤ qz_N g 725 ∧ qz_N g 725 ≤ 256 := ez_len hx.1.1 t725 tq_57 rfl
            have y7 : 1 ≤ qz_I g 725 ((qz_I g 723 5) - (1)).toNat := (by rw [ei, ab3]; omega)
            have y8 : 0 ≤ qz_I g 725 ((qz_I g 723 5) - (1)).toNat ∧ qz_I g 725 ((qz_I g 723 5) - (1)).toNat ≤ 1000000 := ez_aB hx.1.1 t725 tq_57 rfl rfl (by decide) (by omega) (by omega)
            have y8' : ((qz_P g 725 ((qz_I g 723 5) - (1)).toNat : Nat) : Int) + 1 = qz_I g 725 ((qz_I g 723 5) - (1)).toNat := by unfold qz_P; omega
            refine ez_aR hx.1.1 t725 rfl tq_57 rfl rfl (by omega) (by omega) (by omega) (fun (t5 : _ = 3) => ?_)
            have eP : qz_P g 725 ((qz_I g 723 5) - (1)).toNat = T x := by unfold qz_P; rw [ei, ab3]; omega
            rw [eP]
            refine ez_go (n := 2) (pc' := 39) (L' := [(3, .inr (.inr (some ((T x))))), (2, .inl (st)), (0, .inr (.inr (some (723)))), (1, .inr (.inr (some ((T w)))))]) (st' := [.inr (.inr (some (723)))]) rfl ?_
            refine ez_gC (p := 726) (tg := 58) hx.1.1 t723 rfl rfl tq_55 rfl rfl (fun (t726 : _ = 58) => ?_)
            refine ez_go (n := 1) (pc' := 43) (L' := [(3, .inr (.inr (some ((T x))))), (2, .inl (st)), (0, .inr (.inr (some (723)))), (1, .inr (.inr (some ((T w)))))]) (st' := [.inr (.inr (some (723))), .inr (.inr (some (726)))]) rfl ?_
            refine ez_gI hx.1.1 t723 rfl rfl tq_55 rfl rfl (fun (b9 : 0 ≤ qz_I g 723 5) (b9' : qz_I g 723 5 ≤ 256) => ?_)
            refine ez_go (n := 2) (pc' := 48) (L' := [(3, .inr (.inr (some ((T x))))), (2, .inl (st)), (0, .inr (.inr (some (723)))), (1, .inr (.inr (some ((T w)))))]) (st' := [.inl ((qz_I g 723 5) - (1)), .inr (.inr (some (726)))]) rfl ?_
            have n11 : 256 ≤ qz_N g 726 ∧ qz_N g 726 ≤ 256 := ez_len hx.1.1 t726 tq_58 rfl
            refine ez_aI hx.1.1 t726 rfl tq_58 rfl rfl (by omega) (by omega) (fun (b10 : 0 ≤ qz_I g 726 ((qz_I g 723 5) - (1)).toNat) (b10' : qz_I g 726 ((qz_I g 723 5) - (1)).toNat ≤ 18) => ?_)
            rw [ei]
            have hcb : 0 ≤ qz_I g 726 rest.length ∧ qz_I g 726 rest.length ≤ 18 := by omega
            refine ez_go (n := 3) (pc' := 54) (L' := [(4, .inl (qz_I g 726 rest.length)), (3, .inr (.inr (some ((T x))))), (2, .inl (st)), (0, .inr (.inr (some (723)))), (1, .inr (.inr (some ((T w)))))]) (st' := [.inr (.inr (some ((T x)))), .inl (qz_I g 726 rest.length)]) rfl ?_
            refine ez_gN hx.1.1 tT rfl rfl tq_3 rfl rfl (fun (t12 : qz_I g ((T x)) 3 = 0) => ?_) (fun (t12 : _ = 5) (t12' : 1 ≤ qz_I g ((T x)) 3) => ?_)
            · exfalso; omega
            · skip
              refine ez_al hx.1.1 t12 rfl tq_5 rfl (fun (b13 : 0 ≤ qz_N g (qz_P g ((T x)) 3)) (b13' : qz_N g (qz_P g ((T x)) 3) ≤ 18) => ?_)
              refine ez_icmp rfl rfl ⟨by first | omega | exact (sz_i32 _).1, by first | omega | exact (sz_i32 _).2⟩ ⟨by first | omega | exact (sz_i32 _).1, by first | omega | exact (sz_i32 _).2⟩ (fun (c14 : (qz_I g 726 rest.length) ≠ (qz_N g (qz_P g ((T x)) 3))) => ?_) (fun (c14 : ¬((qz_I g 726 rest.length) ≠ (qz_N g (qz_P g ((T x)) 3)))) => ?_)
              · skip
                refine ez_go (n := 1) (pc' := 85) (L' := [(4, .inl (qz_I g 726 rest.length)), (3, .inr (.inr (some ((T x))))), (2, .inl (st)), (0, .inr (.inr (some (723)))), (1, .inr (.inr (some ((T w)))))]) (st' := [.inr (.inr (some (723)))]) rfl ?_
                refine ez_gC (p := 726) (tg := 58) hx.1.1 t723 rfl rfl tq_55 rfl rfl (fun (t726 : _ = 58) => ?_)
                refine ez_go (n := 1) (pc' := 89) (L' := [(4, .inl (qz_I g 726 rest.length)), (3, .inr (.inr (some ((T x))))), (2, .inl (st)), (0, .inr (.inr (some (723)))), (1, .inr (.inr (some ((T w)))))]) (st' := [.inr (.inr (some (723))), .inr (.inr (some (726)))]) rfl ?_
                refine ez_gI hx.1.1 t723 rfl rfl tq_55 rfl rfl (fun (b15 : 0 ≤ qz_I g 723 5) (b15' : qz_I g 723 5 ≤ 256) => ?_)
                refine ez_go (n := 3) (pc' := 95) (L' := [(4, .inl (qz_I g 726 rest.length)), (3, .inr (.inr (some ((T x))))), (2, .inl (st)), (0, .inr (.inr (some (723)))), (1, .inr (.inr (some ((T w)))))]) (st' := [.inl ((qz_I g 723 5) - (1)), .inr (.inr (some (726))), .inl ((qz_I g 723 5) - (1)), .inr (.inr (some (726)))]) rfl ?_
                have n17 : 256 ≤ qz_N g 726 ∧ qz_N g 726 ≤ 256 := ez_len hx.1.1 t726 tq_58 rfl
                refine ez_aI hx.1.1 t726 rfl tq_58 rfl rfl (by omega) (by omega) (fun (b16 : 0 ≤ qz_I g 726 ((qz_I g 723 5) - (1)).toNat) (b16' : qz_I g 726 ((qz_I g 723 5) - (1)).toNat ≤ 18) => ?_)
                have ec2 : qz_I g 726 ((qz_I g 723 5) - (1)).toNat = qz_I g 726 rest.length := by rw [ei]
                refine ez_go (n := 2) (pc' := 98) (L' := [(4, .inl (qz_I g 726 rest.length)), (3, .inr (.inr (some ((T x))))), (2, .inl (st)), (0, .inr (.inr (some (723)))), (1, .inr (.inr (some ((T w)))))]) (st' := [.inl ((qz_I g 726 ((qz_I g 723 5) - (1)).toNat) + (1)), .inl ((qz_I g 723 5) - (1)), .inr (.inr (some (726)))]) rfl ?_
                have n20 : 256 ≤ qz_N g 726 ∧ qz_N g 726 ≤ 256 := ez_len hx.1.1 t726 tq_58 rfl
                refine ez_as hx.1.1 t726 rfl tq_58 rfl rfl (by omega) (by omega) (ez_vdI rfl rfl (by omega) (by omega)) (fun hB18 w19 => ?_)
                have h726 : qz_I (dz_put g 726 ((qz_I g 723 5) - (1)).toNat (ez_v (.inl ((qz_I g 726 ((qz_I g 723 5) - (1)).toNat) + (1))))) 726 rest.length = qz_I g 726 rest.length + 1 := by
                  have q := w19
                  rw [rz_rd ⟨by omega, by omega⟩] at q; rw [ei] at q ⊢; exact q
                have nT : T x ≠ 726 := fun e => by rw [e, hx.1.2.1 726 (by decide)] at tT; cases tT
                have hr3 : qz_I (dz_put g 726 ((qz_I g 723 5) - (1)).toNat (ez_v (.inl ((qz_I g 726 ((qz_I g 723 5) - (1)).toNat) + (1))))) (T x) 3 = qz_I g (T x) 3 := ez_put_I (fun w => nT w.1)
                have hrP : qz_P (dz_put g 726 ((qz_I g 723 5) - (1)).toNat (ez_v (.inl ((qz_I g 726 ((qz_I g 723 5) - (1)).toNat) + (1))))) (T x) 3 = qz_P g (T x) 3 := ez_put_P (fun w => nT w.1)
                have hrN : qz_N (dz_put g 726 ((qz_I g 723 5) - (1)).toNat (ez_v (.inl ((qz_I g 726 ((qz_I g 723 5) - (1)).toNat) + (1))))) (qz_P (dz_put g 726 ((qz_I g 723 5) - (1)).toNat (ez_v (.inl ((qz_I g 726 ((qz_I g 723 5) - (1)).toNat) + (1))))) (T x) 3) = (vs.length : Int) := by rw [hrP, ez_put_N]; exact f44
                have h726o : ∀ i, i ≠ rest.length → qz_I (dz_put g 726 ((qz_I g 723 5) - (1)).toNat (ez_v (.inl ((qz_I g 726 ((qz_I g 723 5) - (1)).toNat) + (1))))) 726 i = qz_I g 726 i := fun i hi => ez_put_I (by omega)
                refine ez_go (n := 2) (pc' := 101) (L' := [(4, .inl (qz_I g 726 rest.length)), (3, .inr (.inr (some ((T x))))), (2, .inl (st)), (0, .inr (.inr (some (723)))), (1, .inr (.inr (some ((T w)))))]) (st' := [.inr (.inr (some ((T x)))), .inr (.inr (some (723)))]) rfl ?_
                refine ez_gN hB18 tT rfl rfl tq_3 rfl rfl (fun (t21 : qz_I (dz_put g 726 ((qz_I g 723 5) - (1)).toNat (ez_v (.inl ((qz_I g 726 ((qz_I g 723 5) - (1)).toNat) + (1))))) ((T x)) 3 = 0) => ?_) (fun (t21 : _ = 5) (t21' : 1 ≤ qz_I (dz_put g 726 ((qz_I g 723 5) - (1)).toNat (ez_v (.inl ((qz_I g 726 ((qz_I g 723 5) - (1)).toNat) + (1))))) ((T x)) 3) => ?_)
                · exfalso; omega
                · skip
                  refine ez_go (n := 1) (pc' := 106) (L' := [(4, .inl (qz_I g 726 rest.length)), (3, .inr (.inr (some ((T x))))), (2, .inl (st)), (0, .inr (.inr (some (723)))), (1, .inr (.inr (some ((T w)))))]) (st' := [.inl (qz_I g 726 rest.length), .inr (.inr (some (qz_P (dz_put g 726 ((qz_I g 723 5) - (1)).toNat (ez_v (.inl ((qz_I g 726 ((qz_I g 723 5) - (1)).toNat) + (1))))) ((T x)) 3))), .inr (.inr (some (723)))]) rfl ?_
                  have n23 : qz_N (dz_put g 726 ((qz_I g 723 5) - (1)).toNat (ez_v (.inl ((qz_I g 726 ((qz_I g 723 5) - (1)).toNat) + (1))))) (qz_P (dz_put g 726 ((qz_I g 723 5) - (1)).toNat (ez_v (.inl ((qz_I g 726 ((qz_I g 723 5) - (1)).toNat) + (1))))) ((T x)) 3) = qz_N g (qz_P (dz_put g 726 ((qz_I g 723 5) - (1)).toNat (ez_v (.inl ((qz_I g 726 ((qz_I g 723 5) - (1)).toNat) + (1))))) ((T x)) 3) := ez_put_N _
                  have n24 : 0 ≤ qz_N (dz_put g 726 ((qz_I g 723 5) - (1)).toNat (ez_v (.inl ((qz_I g 726 ((qz_I g 723 5) - (1)).toNat) + (1))))) (qz_P (dz_put g 726 ((qz_I g 723 5) - (1)).toNat (ez_v (.inl ((qz_I g 726 ((qz_I g 723 5) - (1)).toNat) + (1))))) ((T x)) 3) ∧ qz_N (dz_put g 726 ((qz_I g 723 5) - (1)).toNat (ez_v (.inl ((qz_I g 726 ((qz_I g 723 5) - (1)).toNat) + (1))))) (qz_P (dz_put g 726 ((qz_I g 723 5) - (1)).toNat (ez_v (.inl ((qz_I g 726 ((qz_I g 723 5) - (1)).toNat) + (1))))) ((T x)) 3) ≤ 18 := ez_len hB18 t21 tq_5 rfl
                  refine ez_aI hB18 t21 rfl tq_5 rfl rfl (by omega) (by omega) (fun (b22 : -2147483648 ≤ qz_I (dz_put g 726 ((qz_I g 723 5) - (1)).toNat (ez_v (.inl ((qz_I g 726 ((qz_I g 723 5) - (1)).toNat) + (1))))) (qz_P (dz_put g 726 ((qz_I g 723 5) - (1)).toNat (ez_v (.inl ((qz_I g 726 ((qz_I g 723 5) - (1)).toNat) + (1))))) ((T x)) 3) (qz_I g 726 rest.length).toNat) (b22' : qz_I (dz_put g 726 ((qz_I g 723 5) - (1)).toNat (ez_v (.inl ((qz_I g 726 ((qz_I g 723 5) - (1)).toNat) + (1))))) (qz_P (dz_put g 726 ((qz_I g 723 5) - (1)).toNat (ez_v (.inl ((qz_I g 726 ((qz_I g 723 5) - (1)).toNat) + (1))))) ((T x)) 3) (qz_I g 726 rest.length).toNat ≤ 2147483647) => ?_)
                  have hlt : (qz_I g 726 rest.length).toNat < vs.length := by omega
                  have hv2 := List.getElem?_eq_getElem hlt
                  have hvr : ∀ v ∈ vs, 0 ≤ v ∧ v ≤ 1114111 := ((hw x).2 cp vs hdec).2.2.1
                  have vr := hvr _ (List.getElem_mem hlt)
                  have hv3 : qz_I (dz_put g 726 ((qz_I g 723 5) - (1)).toNat (ez_v (.inl ((qz_I g 726 ((qz_I g 723 5) - (1)).toNat) + (1))))) (qz_P (dz_put g 726 ((qz_I g 723 5) - (1)).toNat (ez_v (.inl ((qz_I g 726 ((qz_I g 723 5) - (1)).toNat) + (1))))) ((T x)) 3) (qz_I g 726 rest.length).toNat = vs[(qz_I g 726 rest.length).toNat] := by
                    have q5 := f45 _ _ hv2
                    have n5 : qz_P g (T x) 3 ≠ 726 := fun e => by rw [e, hx.1.2.1 726 (by decide)] at f43; cases f43
                    have nT : T x ≠ 726 := fun e => by rw [e, hx.1.2.1 726 (by decide)] at tT; cases tT
                    rw [ez_put_P (fun w => nT w.1), ez_put_I (fun w => n5 w.1)]; exact q5
                  rw [hv3]
                  generalize vs[(qz_I g 726 rest.length).toNat] = v at *
                  obtain ⟨xP, psP, wP⟩ := xz_P (g2 := (dz_put g 726 ((qz_I g 723 5) - (1)).toNat (ez_v (.inl ((qz_I g 726 ((qz_I g 723 5) - (1)).toNat) + (1)))))) hw hXr hx hdec hv2 hB18 ((ez_fr.refl (ez_one 726) g).put (show Nat.beq 726 726 = true from rfl) _ _) h726 h726o
                  have pP : pz τ g (dz_put g 726 ((qz_I g 723 5) - (1)).toNat (ez_v (.inl ((qz_I g 726 ((qz_I g 723 5) - (1)).toNat) + (1))))) := pz_put (by omega) (by omega) (pz_X hx.1.2.1 (by omega) (by omega)).1
                  have vP : vm T F g (dz_put g 726 ((qz_I g 723 5) - (1)).toNat (ez_v (.inl ((qz_I g 726 ((qz_I g 723 5) - (1)).toNat) + (1))))) := vm_1 hx.1 (by omega) (by omega) ((ez_fr.refl (ez_one 726) g).put (show Nat.beq 726 726 = true from rfl) _ _)
                  have u8 : qz_I (dz_put g 726 ((qz_I g 723 5) - (1)).toNat (ez_v (.inl ((qz_I g 726 ((qz_I g 723 5) - (1)).toNat) + (1))))) 723 8 = qz_I g 723 8 := ez_put_I (by omega)
                  have u5 : qz_I (dz_put g 726 ((qz_I g 723 5) - (1)).toNat (ez_v (.inl ((qz_I g 726 ((qz_I g 723 5) - (1)).toNat) + (1))))) 723 5 = qz_I g 723 5 := ez_put_I (by omega)
                  generalize (dz_put g 726 ((qz_I g 723 5) - (1)).toNat (ez_v (.inl ((qz_I g 726 ((qz_I g 723 5) - (1)).toNat) + (1))))) = gp at *
                  have hU1 : ¬ hz v → (F v).2 ≠ none → qz_I gp (T v) 8 = 0 → qz_I gp 723 5 < 256 := fun _ hn h0 => by
                    have := wz_lt2 (W := wU gp T) (W' := fun _ => 0) (y := v) (k := 1) (xs := Xs) (fun _ _ => Nat.zero_le _) (hXs v hn) (by unfold wU; rw [h0, if_pos rfl]; omega)
                    have q7 := xP.2.2.2.2.2.2.1
                    have q2 := xP.2.1
                    omega
                  refine ez_cv xP.1.1 t723 rfl rfl rfl tq_55 rfl rfl rfl (rd_descend xP.1 vr.1 vr.2 hU1 (fun hdn => ez_K1 ?_) (fun e1 e2 e3 g2 hen => ez_K1 ?_) (fun e1 e2 e3 => ez_K1 ?_))
                  · skip
                    refine ez_if rfl rfl ⟨by decide, by decide⟩ (fun _ => ?_) (fun (c25 : ¬((1 : Int) ≠ (0))) => absurd c25 (by decide))
                    refine ez_go (n := 2) (pc' := 13) (L' := [(2, .inl (st + 1)), (4, .inl (qz_I g 726 rest.length)), (3, .inr (.inr (some ((T x))))), (0, .inr (.inr (some (723)))), (1, .inr (.inr (some ((T w)))))]) (st' := []) rfl ?_
                    refine ez_less [(2, .inl (st + 1)), (0, .inr (.inr (some (723)))), (1, .inr (.inr (some ((T w)))))] rfl ⟨rfl, rfl, rfl, trivial⟩ ?_
                    exact ih _ _ gp (by rw [wP]; omega) (by omega) (by omega) (xz_D xP hdn) (hp.trans pP) (u8.trans h8) (hv.trans vP)
                  · skip
                    refine ez_if rfl rfl ⟨by decide, by decide⟩ (fun _ => ?_) (fun (c26 : ¬((1 : Int) ≠ (0))) => absurd c26 (by decide))
                    refine ez_go (n := 2) (pc' := 13) (L' := [(2, .inl (st + 1)), (4, .inl (qz_I g 726 rest.length)), (3, .inr (.inr (some ((T x))))), (0, .inr (.inr (some (723)))), (1, .inr (.inr (some ((T w)))))]) (st' := []) rfl ?_
                    refine ez_less [(2, .inl (st + 1)), (0, .inr (.inr (some (723)))), (1, .inr (.inr (some ((T w)))))] rfl ⟨rfl, rfl, rfl, trivial⟩ ?_
                    have hen2 : en τ gp g2 (T v) (((x :: rest).length : Nat) : Int) := by rw [← xP.2.1]; exact hen
                    obtain ⟨xE, pE⟩ := xz_E hw hXr hXs xP vr.1 vr.2 e1 e2 e3 hen2
                    exact ih _ _ g2 (by rw [wP] at pE; omega) (by omega) (by omega) xE ((hp.trans pP).trans hen.2.1) ((hen.2.2.2.2.2.2.1 8 (by decide)).trans (u8.trans h8)) ((hv.trans vP).trans (vm_r xP.1 vr.1 vr.2 e2 (fun q q1 q2 j => by unfold qz_I; rw [hen.2.2.1 q q1 q2]) hen.2.2.2.1 (by decide) (fun w => by omega)))
                  · skip
                    refine ez_if rfl rfl ⟨by decide, by decide⟩ (fun (c27 : (0 : Int) ≠ (0)) => absurd c27 (by decide)) (fun _ => ?_)
                    refine ez_go (n := 1) (pc' := 114) (L' := [(4, .inl (qz_I g 726 rest.length)), (3, .inr (.inr (some ((T x))))), (2, .inl (st)), (0, .inr (.inr (some (723)))), (1, .inr (.inr (some ((T w)))))]) (st' := [.inl (0)]) rfl ?_
                    exact ez_retZ rfl rfl (by decide) (kF (fun hss => xz_cyc xP (xP.2.2.2.2.2.1 v vr.1 vr.2 e2 e3) (hss.1 v e2)) gp xP.1.1 (hp.trans pP))
              · skip
                refine ez_go (n := 2) (pc' := 63) (L' := [(4, .inl (qz_I g 726 rest.length)), (3, .inr (.inr (some ((T x))))), (2, .inl (st)), (0, .inr (.inr (some (723)))), (1, .inr (.inr (some ((T w)))))]) (st' := [.inr (.inr (some ((T x)))), .inr (.inr (some (723)))]) rfl ?_
                have hc : qz_I g 726 rest.length = (vs.length : Int) := by omega
                have hch : ∀ v ∈ vs, dd g T F v := fun v hv => by obtain ⟨j, hj⟩ := List.mem_iff_getElem?.mp hv; exact ab8 j v (by have := (List.getElem?_eq_some_iff.mp hj).1; omega) hj
                have hvr : ∀ v ∈ vs, 0 ≤ v ∧ v ≤ 1114111 := ((hw x).2 cp vs hdec).2.2.1
                obtain ⟨f1, hf1⟩ := dd_fun hcl hS hvr hch true
                obtain ⟨f2, hf2⟩ := dd_fun hcl hS hvr hch false
                have hcp := ((hw x).2 cp vs hdec).1
                obtain ⟨l2, hl2⟩ : ∃ l2, l2 = if cp = 1 then [x] else ct f2 vs := ⟨_, rfl⟩
                have u1 : uz_F F true x (ct f1 vs) := uz_row ab2 hdec (Or.inl rfl) (ct_FL (fun v hv => (hf1 v hv).2))
                have u2 : uz_F F false x l2 := by
                  rcases hcp with e | e
                  · rw [hl2, if_neg (by omega)]; exact uz_row ab2 hdec (Or.inr e) (ct_FL (fun v hv => (hf2 v hv).2))
                  · rw [hl2, if_pos e]; exact uz_keep ab2 hdec (by simp; omega)
                have haz : az_e F x := az_row hdec (fun v hv => by
                  by_cases e : hz v
                  · exact az_leaf (Or.inl e)
                  · by_cases e2 : (F v).2 = none
                    · exact az_leaf (Or.inr e2)
                    · exact (hcl v (hvr v hv).1 (hvr v hv).2 e2 ((hch v hv).resolve_left e |>.resolve_left e2)).1)
                have hN1 : 1 ≤ wz (wN g T) Xs := by
                  have := wz_lt2 (W := wN g T) (W' := fun _ => 0) (y := x) (k := 1) (xs := Xs) (fun _ _ => Nat.zero_le _) (hXs x hnx) (by unfold wN; rw [ab4, if_neg (by decide)]; omega)
                  omega
                refine ez_cv hx.1.1 t723 rfl rfl rfl tq_55 rfl rfl rfl (rd_close hx.1 ab1.1 ab1.2 hdec hvr hcp (by omega) (fun v hv => (hf1 v hv).1) (fun v hv => (hf2 v hv).1) (fun v hv e1 e2 e3 => ?_) hl2 (fun g2 hB2 fr2 h28 h2j hpl hu s1' s2' h2v n1 n2 => ez_K1 ?_) (fun hbig g2 hB2 hp2 => ez_K1 ?_))
                · have e4 := T_inj hx.1 ab1.1 ab1.2 (hvr v hv).1 (hvr v hv).2 hnx e3
                  rcases (hch v hv).resolve_left e1 with q | q
                  · exact e2 q
                  · rw [e3] at q; omega
                · skip
                  refine ez_if rfl rfl ⟨by decide, by decide⟩ (fun _ => ?_) (fun (c28 : ¬((1 : Int) ≠ (0))) => absurd c28 (by decide))
                  refine ez_go (n := 2) (pc' := 73) (L' := [(4, .inl (qz_I g 726 rest.length)), (3, .inr (.inr (some ((T x))))), (2, .inl (st)), (0, .inr (.inr (some (723)))), (1, .inr (.inr (some ((T w)))))]) (st' := [.inr (.inr (some (723))), .inr (.inr (some (723)))]) rfl ?_
                  refine ez_gI hB2 t723 rfl rfl tq_55 rfl rfl (fun (b29 : 0 ≤ qz_I g2 723 5) (b29' : qz_I g2 723 5 ≤ 256) => ?_)
                  have hd2 : qz_I g2 723 5 = qz_I g 723 5 := h2j 5 (by decide)
                  refine ez_go (n := 2) (pc' := 78) (L' := [(4, .inl (qz_I g 726 rest.length)), (3, .inr (.inr (some ((T x))))), (2, .inl (st)), (0, .inr (.inr (some (723)))), (1, .inr (.inr (some ((T w)))))]) (st' := [.inl ((qz_I g2 723 5) - (1)), .inr (.inr (some (723)))]) rfl ?_
                  refine ez_pf hB2 t723 rfl rfl tq_55 rfl rfl rfl rfl (ez_vdI rfl rfl (by omega) (by omega)) (fun hB30 w31 => ?_)
                  refine ez_go (n := 3) (pc' := 13) (L' := [(2, .inl (st + 1)), (4, .inl (qz_I g 726 rest.length)), (3, .inr (.inr (some ((T x))))), (0, .inr (.inr (some (723)))), (1, .inr (.inr (some ((T w)))))]) (st' := []) rfl ?_
                  refine ez_less [(2, .inl (st + 1)), (0, .inr (.inr (some (723)))), (1, .inr (.inr (some ((T w)))))] rfl ⟨rfl, rfl, rfl, trivial⟩ ?_
                  have fr3 : ez_fr (ez_one 723) g2 (dz_put g2 723 5 (ez_v (.inl ((qz_I g2 723 5) - (1))))) := (ez_fr.refl (ez_one 723) g2).put (show Nat.beq 723 723 = true from rfl) _ _
                  obtain ⟨xX, psX, wX⟩ := xz_X (g3 := (dz_put g2 723 5 (ez_v (.inl ((qz_I g2 723 5) - (1)))))) hw hXr hXs hx hdec hc haz u1 u2 hB2 fr2 h28 h2j hpl hu s1' s2' h2v n1 n2 hB30 fr3 (by rw [w31, rz_rd ⟨by omega, by omega⟩]) (fun j hj => ez_put_I (fun w => hj w.2))
                  have vX : vm T F g (dz_put g2 723 5 (ez_v (.inl ((qz_I g2 723 5) - (1))))) := (vm_r hx.1 ab1.1 ab1.2 hnx (fun q q1 q2 j => fr2.I (by unfold nz_PR nz_PP; rw [dz_beq_ne q2, dz_beq_ne (fun e => by rw [e] at q1; exact (pz_X hx.1.2.1 (by omega) (by omega)).1 q1), dz_beq_ne (fun e => by rw [e] at q1; exact (pz_X hx.1.2.1 (by omega) (by omega)).1 q1)]; rfl) j) h2v (by decide) (fun _ => rfl)).trans (vm_1 (hx.1.fr hB2 (nz_PR_pz hx.1.2.1 tT fr2 h28)) (by omega) (by omega) fr3)
                  have u8 : qz_I (dz_put g2 723 5 (ez_v (.inl ((qz_I g2 723 5) - (1))))) 723 8 = qz_I g 723 8 := (ez_put_I (by omega)).trans (h2j 8 (by decide))
                  exact ih _ _ _ (by rw [wX]; omega) (by omega) (by omega) xX ((hp.trans (nz_PR_pz hx.1.2.1 tT fr2 h28)).trans (pz_put (by omega) (by omega) (pz_X hx.1.2.1 (by omega) (by omega)).1)) (u8.trans h8) (hv.trans vX)
                · skip
                  refine ez_if rfl rfl ⟨by decide, by decide⟩ (fun (c32 : (0 : Int) ≠ (0)) => absurd c32 (by decide)) (fun _ => ?_)
                  refine ez_go (n := 1) (pc' := 70) (L' := [(4, .inl (qz_I g 726 rest.length)), (3, .inr (.inr (some ((T x))))), (2, .inl (st)), (0, .inr (.inr (some (723)))), (1, .inr (.inr (some ((T w)))))]) (st' := [.inl (0)]) rfl ?_
                  refine ez_retZ rfl rfl (by decide) (kF (fun hss => ?_) g2 hB2 (hp.trans hp2))
                  rcases hbig with q | q
                  · obtain ⟨l, l1, l2'⟩ := hss.2 x hnx true; rw [uz_uniq u1 l1] at q; omega
                  · obtain ⟨l, l1, l2'⟩ := hss.2 x hnx false; rw [uz_uniq u2 l1] at q; omega

end EzXf
/-! The class: expandFrom, checkShapes. (Written by wip/p2/py/pv33.py.) -/
section EzXg
variable {d : Nat} {h : cz_H} {τ : Nat → Nat} {Q : cz_F → Prop} {T : Int → Nat} {F : rz_W} {E : Int → Prop} {Xs : List Int}
theorem wz_one {W : Int → Nat} (h : ∀ x, W x ≤ 1) : ∀ xs : List Int, wz W xs ≤ xs.length
  | [] => Nat.le_refl _
  | x :: xs => by
    have := wz_one h xs
    have := h x
    unfold wz
    simp only [List.length_cons]
    omega
theorem wU_le (g : cz_H) (T : Int → Nat) (x : Int) : wU g T x ≤ 1 := by unfold wU; split <;> omega
theorem wN_le (g : cz_H) (T : Int → Nat) (x : Int) : wN g T x ≤ 1 := by unfold wN; split <;> omega
/-- span i begins with its first point -/
theorem sz_first {g : cz_H} (hs : sz_ok g) {i : Int} (i0 : 0 ≤ i) (i1 : i < qz_I g 202 1) : sz_at g (sz_f g i) i ∧ 0 ≤ sz_f g i ∧ sz_f g i ≤ 1114111 := by
  refine ⟨⟨i0, i1, Int.le_refl _, fun w => (hs.2 i (i + 1) i0 (by omega) w).1⟩, ?_⟩
  by_cases e : i = 0
  · subst e; rw [hs.1]; omega
  · have := hs.2 0 i (by omega) (by omega) i1
    rw [hs.1] at this
    omega
/-- a decomposed point is the first of its span -/
theorem sz_dec {g : cz_H} (hC : pz_C τ g T F E) {x : Int} (x0 : 0 ≤ x) (x1 : x ≤ 1114111) (hn : (F x).2 ≠ none) : ∃ k, 0 ≤ k ∧ k < qz_I g 202 1 ∧ sz_f g k = x := by
  have t202 : τ 202 = 48 := hC.2.1 202 (by decide)
  have bn := sz_R_n1 hC.1 t202
  obtain ⟨k, hk⟩ := sz_at_ex hC.2.2.1 bn.1 x0
  obtain ⟨h1, h2, h3⟩ := sz_first hC.2.2.1 hk.1 hk.2.1
  have e1 := (hC.2.2.2.1 x k x0 x1 hk).1
  have e2 := (hC.2.2.2.1 _ k h2 h3 h1).1
  exact ⟨k, hk.1, hk.2.1, T_inj hC x0 x1 h2 h3 hn (by omega)⟩
theorem rd_expandFrom {w : Int} (hw : uz_wf F) (hS : uz_S1 F) (hXr : ∀ x ∈ Xs, 0 ≤ x ∧ x ≤ 1114111) (hXs : ∀ x, (F x).2 ≠ none → x ∈ Xs) (hXl : Xs.length ≤ 256) (hx : xy τ T F E Xs h) (w0 : 0 ≤ w) (w1 : w ≤ 1114111) (hzw : ¬ hz w) (hnw : (F w).2 ≠ none) (h8 : qz_I h (T w) 8 = 0) (kF : ¬ (uz_S2 F ∧ uz_S3 F) → ∀ g, ez_B τ g → pz τ h g → Q (.inl (some (ez_v (.inl 0))), g)) (kS : ∀ g, xy τ T F E Xs g → pz τ h g → qz_I g 723 8 = qz_I h 723 8 → vm T F h g → qz_I g (T w) 8 = 2 → Q (.inl (some (ez_v (.inl 1))), g)) : ez_W (d + 4) cm_117 0 [(0, .inr (.inr (some (723)))), (1, .inr (.inr (some ((T w)))))] [] h Q := by
  have t723 : τ 723 = 55 := hx.1.2.1 723 (by decide)
  have tw : τ (T w) = 3 := (hx.1.2.2.2.2 w w0 w1).1
  have lT := dz_here_lt (hx.1.1.1 _ (by rw [tw]; decide)).1
  have rm : h.1 + 0 ≤ 600192 := by have : cz_room h 0 0 = true := hx.1.1.2.1; unfold cz_room at this; rw [Bool.and_eq_true] at this; exact Nat.ble_eq.mp this.1
  refine ez_go (n := 2) (pc' := 2) (L' := [(0, .inr (.inr (some (723)))), (1, .inr (.inr (some ((T w)))))]) (st' := [.inl (0), .inr (.inr (some (723)))]) rfl ?_
  refine ez_pf hx.1.1 t723 rfl rfl tq_55 rfl rfl rfl rfl (ez_vdI rfl rfl (by omega) (by omega)) (fun hB1 w2 => ?_)
  refine ez_go (n := 2) (pc' := 7) (L' := [(0, .inr (.inr (some (723)))), (1, .inr (.inr (some ((T w)))))]) (st' := [.inr (.inr (some ((T w)))), .inr (.inr (some (723)))]) rfl ?_
  have x1 : xy τ T F E Xs (dz_put h 723 5 (ez_v (.inl (0)))) := xy_tr hXr hx hB1 (pz_put (by omega) (by omega) (pz_X hx.1.2.1 (by omega) (by omega)).1) (fun q hq j _ => ez_put_I (fun w => by rw [w.1, t723] at hq; cases hq)) (ez_put_I (by omega)) (fun j => ez_put_I (by omega))
  have h50 : qz_I (dz_put h 723 5 (ez_v (.inl (0)))) 723 5 = 0 := by rw [w2]; rfl
  have x2 := xy_to x1 h50
  have p1 : pz τ h (dz_put h 723 5 (ez_v (.inl (0)))) := pz_put (by omega) (by omega) (pz_X hx.1.2.1 (by omega) (by omega)).1
  have v1 : vm T F h (dz_put h 723 5 (ez_v (.inl (0)))) := vm_1 hx.1 (by omega) (by omega) ((ez_fr.refl (ez_one 723) h).put (show Nat.beq 723 723 = true from rfl) _ _)
  have e8 : qz_I (dz_put h 723 5 (ez_v (.inl (0)))) 723 8 = qz_I h 723 8 := ez_put_I (by omega)
  have eT8 : qz_I (dz_put h 723 5 (ez_v (.inl (0)))) (T w) 8 = 0 := by rw [ez_put_I (fun w => by rw [w.1, t723] at tw; cases tw)]; exact h8
  generalize (dz_put h 723 5 (ez_v (.inl (0)))) = g at *
  refine ez_cv x1.1.1 t723 rfl rfl rfl tq_55 rfl rfl rfl (rd_enter x1.1.1 x1.1.2.1 tw (by omega) (by omega) (fun g2 hen => ez_K1 ?_))
  have x3 : xz τ T F E Xs g (some w) [] := ⟨x2.1, x2.2.1, x2.2.2.1, trivial, x2.2.2.2.2.1, x2.2.2.2.2.2⟩
  have hen2 : en τ g g2 (T w) ((([] : List Int).length : Nat) : Int) := by rw [← x2.2.1]; exact hen
  obtain ⟨x4, ps4⟩ := xz_E hw hXr hXs x3 w0 w1 hzw hnw eT8 hen2
  have v2 : vm T F g g2 := vm_r x1.1 w0 w1 hnw (fun q q1 q2 j => by unfold qz_I; rw [hen.2.2.1 q q1 q2]) hen.2.2.2.1 (by decide) (fun w => by omega)
  have hps0 : ps g F [] = 0 := rfl
  have hwU := wz_one (wU_le g T) Xs
  refine ez_go (n := 3) (pc' := 13) (L' := [(2, .inl (0)), (0, .inr (.inr (some (723)))), (1, .inr (.inr (some ((T w)))))]) (st' := []) rfl ?_
  refine ez_less [(2, .inl (0)), (0, .inr (.inr (some (723)))), (1, .inr (.inr (some ((T w)))))] rfl ⟨rfl, rfl, rfl, trivial⟩ ?_
  refine rd_expand_l (h := g2) hw hS hXr hXs hXl tw (fun hno g3 y1 y2 => kF hno g3 y1 ((p1.trans hen.2.1).trans y2)) (fun g3 y1 y2 y3 y4 => kS g3 y1 ((p1.trans hen.2.1).trans y2) (y3.trans ((hen.2.2.2.2.2.2.1 8 (by decide)).trans e8)) ((v1.trans v2).trans y4) ?_) 6000 0 _ g2 (by omega) (by omega) (by omega) x4 (pz.refl _ _) rfl (vm.refl _ _ _)
  have b8 : 0 ≤ qz_I g3 (T w) 8 ∧ qz_I g3 (T w) 8 ≤ 2 := ez_fB (cl := 3) y1.1.1 tw tq_3 rfl rfl (by decide)
  have n1 := y1.2.2.1 w w0 w1 hnw
  have n0 := (y4 w w0 w1 hnw).2 (by rw [hen.2.2.2.1]; decide)
  omega

theorem rd_checkShapes_l (hC0 : pz_C τ h T F E) (t723 : τ 723 = 55) (t202 : τ 202 = 48) (t203 : τ 203 = 49) (k1 : ∀ g, ez_B τ g → pz τ h g → (∀ q, τ q ≠ 3 → g.2.2 q = h.2.2 q) → (∀ q, τ q = 3 → ∀ j, j ≠ 8 → qz_I g q j = qz_I h q j) → (∀ k, 0 ≤ k → k < qz_I h 202 1 → qz_I g (T (sz_f h k)) 8 = 0 ∧ ∀ cp vs, (F (sz_f h k)).2 = some (cp, vs) → ¬ hz (sz_f h k) ∧ (cp = 0 → vs.length ≤ 2)) → Q (.inl (some (ez_v (.inl 1))), g)) (k0 : ¬ uz_S1 F → ∀ g, ez_B τ g → pz τ h g → Q (.inl (some (ez_v (.inl 0))), g)) : ∀ (m : Nat) (i : Int) (g : cz_H), m = (qz_I h 202 1 - i).toNat → 0 ≤ i → i ≤ qz_I h 202 1 → pz_C τ g T F E → pz τ h g → (∀ q, τ q ≠ 3 → g.2.2 q = h.2.2 q) → (∀ q, τ q = 3 → ∀ j, j ≠ 8 → qz_I g q j = qz_I h q j) → (∀ k, 0 ≤ k → k < i → qz_I g (T (sz_f h k)) 8 = 0 ∧ ∀ cp vs, (F (sz_f h k)).2 = some (cp, vs) → ¬ hz (sz_f h k) ∧ (cp = 0 → vs.length ≤ 2)) → ez_W (d + 1) cm_112 2 [(1, .inl (i)), (0, .inr (.inr (some (723))))] [] g Q := by
  intro m
  induction m with
  | zero =>
    intro i g hm i0 i1 hC hpz n3 n8 hsh
    have bn := sz_R_n1 hC0.1 t202
    have e202 : qz_I g 202 1 = qz_I h 202 1 := by unfold qz_I; rw [n3 202 (by rw [t202]; decide)]
    refine ez_go (n := 2) (pc' := 4) (L' := [(1, .inl (i)), (0, .inr (.inr (some (723))))]) (st' := [.inr (.inr (some (723))), .inl (i)]) rfl ?_
    refine ez_gC (p := 202) (tg := 48) hC.1 t723 rfl rfl tq_55 rfl rfl (fun (t202 : _ = 48) => ?_)
    refine ez_gI hC.1 t202 rfl rfl tq_48 rfl rfl (fun (b1 : 1 ≤ qz_I g 202 1) (b1' : qz_I g 202 1 ≤ 513) => ?_)
    refine ez_icmp rfl rfl ⟨by first | omega | exact (sz_i32 _).1, by first | omega | exact (sz_i32 _).2⟩ ⟨by first | omega | exact (sz_i32 _).1, by first | omega | exact (sz_i32 _).2⟩ (fun (c2 : (qz_I g 202 1) ≤ (i)) => ?_) (fun (c2 : ¬((qz_I g 202 1) ≤ (i))) => ?_)
    · skip
      refine ez_go (n := 1) (pc' := 90) (L' := [(1, .inl (i)), (0, .inr (.inr (some (723))))]) (st' := [.inl (1)]) rfl ?_
      exact ez_retZ rfl rfl (by decide) (k1 g hC.1 hpz n3 n8 (by rw [show qz_I h 202 1 = i by omega]; exact hsh))
    · exfalso; omega
  | succ m ih =>
    intro i g hm i0 i1 hC hpz n3 n8 hsh
    have bn := sz_R_n1 hC0.1 t202
    have e202 : qz_I g 202 1 = qz_I h 202 1 := by unfold qz_I; rw [n3 202 (by rw [t202]; decide)]
    refine ez_go (n := 2) (pc' := 4) (L' := [(1, .inl (i)), (0, .inr (.inr (some (723))))]) (st' := [.inr (.inr (some (723))), .inl (i)]) rfl ?_
    refine ez_gC (p := 202) (tg := 48) hC.1 t723 rfl rfl tq_55 rfl rfl (fun (t202 : _ = 48) => ?_)
    refine ez_gI hC.1 t202 rfl rfl tq_48 rfl rfl (fun (b1 : 1 ≤ qz_I g 202 1) (b1' : qz_I g 202 1 ≤ 513) => ?_)
    refine ez_icmp rfl rfl ⟨by first | omega | exact (sz_i32 _).1, by first | omega | exact (sz_i32 _).2⟩ ⟨by first | omega | exact (sz_i32 _).1, by first | omega | exact (sz_i32 _).2⟩ (fun (c2 : (qz_I g 202 1) ≤ (i)) => ?_) (fun (c2 : ¬((qz_I g 202 1) ≤ (i))) => ?_)
    · exfalso; omega
    · skip
      refine ez_go (n := 1) (pc' := 14) (L' := [(1, .inl (i)), (0, .inr (.inr (some (723))))]) (st' := [.inr (.inr (some (723)))]) rfl ?_
      refine ez_gC (p := 202) (tg := 48) hC.1 t723 rfl rfl tq_55 rfl rfl (fun (t202 : _ = 48) => ?_)
      refine ez_gC (p := 203) (tg := 49) hC.1 t202 rfl rfl tq_48 rfl rfl (fun (t203 : _ = 49) => ?_)
      refine ez_go (n := 1) (pc' := 21) (L' := [(1, .inl (i)), (0, .inr (.inr (some (723))))]) (st' := [.inl (i), .inr (.inr (some (203)))]) rfl ?_
      have n4 : 513 ≤ qz_N g 203 ∧ qz_N g 203 ≤ 513 := ez_len hC.1 t203 tq_49 rfl
      have y5 : 1 ≤ qz_I g 203 (i).toNat ∧ qz_I g 203 (i).toNat ≤ 1000000 := ez_aB hC.1 t203 tq_49 rfl rfl (by decide) (by omega) (by omega)
      have y5' : ((qz_P g 203 (i).toNat : Nat) : Int) + 1 = qz_I g 203 (i).toNat := by unfold qz_P; omega
      refine ez_aR hC.1 t203 rfl tq_49 rfl rfl (by omega) (by omega) (by omega) (fun (t3 : _ = 4) => ?_)
      refine ez_gR hC.1 t3 rfl rfl tq_4 rfl rfl (fun (t6 : _ = 3) (t6' : 1 ≤ qz_I g (qz_P g 203 (i).toNat) 1) => ?_)
      obtain ⟨at1, y0, y1⟩ := sz_first hC.2.2.1 i0 (show i < qz_I g 202 1 by omega)
      have ef : sz_f g i = sz_f h i := by unfold sz_f sz_p qz_P qz_I; rw [n3 203 (by rw [t203]; decide), n3 _ (by have := sz_tag hC0.1 t203 i0 (show i < 513 by omega); unfold sz_p qz_P qz_I at this; rw [this]; decide)]
      rw [ef] at at1 y0 y1
      have e1 := (hC.2.2.2.1 _ i y0 y1 at1).1
      obtain ⟨x, ex⟩ : ∃ x, x = sz_f h i := ⟨_, rfl⟩
      rw [← ex] at at1 y0 y1 e1
      have eT : qz_P g (qz_P g 203 (i).toNat) 1 = T x := by show qz_P g (sz_p g i) 1 = T x; unfold qz_P; omega
      rw [eT]
      obtain ⟨tT, -, f3, f4⟩ := hC.2.2.2.2 x y0 y1
      refine ez_go (n := 3) (pc' := 28) (L' := [(2, .inr (.inr (some ((T x))))), (1, .inl (i)), (0, .inr (.inr (some (723))))]) (st' := [.inl (0), .inr (.inr (some ((T x))))]) rfl ?_
      refine ez_pf hC.1 tT rfl rfl tq_3 rfl rfl rfl rfl (ez_vdI rfl rfl (by omega) (by omega)) (fun hB7 w8 => ?_)
      have pH : pz τ g (dz_put g ((T x)) 8 (ez_v (.inl (0)))) := pz_put3 tT (by omega)
      have hCH := hC.fr hB7 pH
      obtain ⟨-, -, f3, f4⟩ := hCH.2.2.2.2 x y0 y1
      have v8 : qz_I (dz_put g ((T x)) 8 (ez_v (.inl (0)))) (T x) 8 = 0 := by rw [w8]; rfl
      have m3 : ∀ q, τ q ≠ 3 → ((dz_put g ((T x)) 8 (ez_v (.inl (0))))).2.2 q = h.2.2 q := fun q hq => (qz_put_at _ _ _ _ (fun e => by rw [e] at hq; exact hq tT)).trans (n3 q hq)
      have m8 : ∀ q, τ q = 3 → ∀ j, j ≠ 8 → qz_I (dz_put g ((T x)) 8 (ez_v (.inl (0)))) q j = qz_I h q j := fun q hq j hj => (ez_put_I (fun w => hj w.2)).trans (n8 q hq j hj)
      have hsh2 : ∀ k, 0 ≤ k → k < i → qz_I (dz_put g ((T x)) 8 (ez_v (.inl (0)))) (T (sz_f h k)) 8 = 0 := fun k k0 k1 => by
        by_cases e : T (sz_f h k) = T x
        · rw [e]; exact v8
        · rw [ez_put_I (fun w => e w.1)]; exact (hsh k k0 k1).1
      generalize (dz_put g ((T x)) 8 (ez_v (.inl (0)))) = gg at *
      refine ez_go (n := 1) (pc' := 32) (L' := [(2, .inr (.inr (some ((T x))))), (1, .inl (i)), (0, .inr (.inr (some (723))))]) (st' := [.inr (.inr (some ((T x))))]) rfl ?_
      refine ez_gN hCH.1 tT rfl rfl tq_3 rfl rfl (fun (t9 : qz_I gg ((T x)) 3 = 0) => ?_) (fun (t9 : _ = 5) (t9' : 1 ≤ qz_I gg ((T x)) 3) => ?_)
      · skip
        refine ez_null0 rfl rfl ?_
        refine ez_go (n := 3) (pc' := 61) (L' := [(3, .inl (0)), (2, .inr (.inr (some ((T x))))), (1, .inl (i)), (0, .inr (.inr (some (723))))]) (st' := [.inl (0)]) rfl ?_
        refine ez_if rfl rfl ⟨by decide, by decide⟩ (fun (c10 : (0 : Int) ≠ (0)) => absurd c10 (by decide)) (fun _ => ?_)
        refine ez_go (n := 1) (pc' := 65) (L' := [(3, .inl (0)), (2, .inr (.inr (some ((T x))))), (1, .inl (i)), (0, .inr (.inr (some (723))))]) (st' := [.inr (.inr (some ((T x))))]) rfl ?_
        refine ez_gN hCH.1 tT rfl rfl tq_3 rfl rfl (fun (t11 : qz_I gg ((T x)) 3 = 0) => ?_) (fun (t11 : _ = 5) (t11' : 1 ≤ qz_I gg ((T x)) 3) => ?_)
        · skip
          refine ez_null0 rfl rfl ?_
          refine ez_go (n := 2) (pc' := 2) (L' := [(1, .inl (i + 1)), (3, .inl (0)), (2, .inr (.inr (some ((T x))))), (0, .inr (.inr (some (723))))]) (st' := []) rfl ?_
          refine ez_less [(1, .inl (i + 1)), (0, .inr (.inr (some (723))))] rfl ⟨rfl, rfl, trivial⟩ ?_
          refine ih (i + 1) gg (by omega) (by omega) (by omega) hCH (hpz.trans pH) m3 m8 (fun k k0 k1 => ?_)
          by_cases e9 : k = i
          · subst e9
            rw [← ex]
            refine ⟨v8, fun cp vs hq => ?_⟩
            obtain ⟨d0, d1, d2, d3, d4, -⟩ := f4 cp vs hq
            exact ⟨by first | exact e | (exfalso; omega), fun w => by omega⟩
          · exact ⟨hsh2 k k0 (by omega), (hsh k k0 (by omega)).2⟩
        · skip
          refine ez_null1 rfl ?_
          refine ez_go (n := 1) (pc' := 72) (L' := [(3, .inl (0)), (2, .inr (.inr (some ((T x))))), (1, .inl (i)), (0, .inr (.inr (some (723))))]) (st' := [.inr (.inr (some ((T x))))]) rfl ?_
          refine ez_gI hCH.1 tT rfl rfl tq_3 rfl rfl (fun (b12 : -2147483648 ≤ qz_I gg ((T x)) 0) (b12' : qz_I gg ((T x)) 0 ≤ 2147483647) => ?_)
          have fx : qz_I gg (T x) 0 = x := by
            cases hq : (F x).2 with
            | none => have := f3 hq; omega
            | some q => exact (f4 q.1 q.2 hq).1
          rw [fx]
          refine ez_cs hCH.1.2.1 rfl rfl rfl rfl rfl (rd_isSyl (by omega) (by omega) (fun e => ez_K1 ?_) (fun e => ez_K1 ?_))
          · skip
            refine ez_if rfl rfl ⟨by decide, by decide⟩ (fun (c13 : (1 : Int) = (0)) => absurd c13 (by decide)) (fun _ => ?_)
            refine ez_go (n := 1) (pc' := 82) (L' := [(3, .inl (0)), (2, .inr (.inr (some ((T x))))), (1, .inl (i)), (0, .inr (.inr (some (723))))]) (st' := [.inl (0)]) rfl ?_
            refine ez_retZ rfl rfl (by decide) (k0 (fun hS => ?_) gg hCH.1 (hpz.trans pH))
            cases hq : (F x).2 with
            | none => have := f3 hq; omega
            | some q =>
              obtain ⟨c1, c2⟩ := hS x q.1 q.2 hq
              obtain ⟨d0, d1, d2, d3, d4, -⟩ := f4 q.1 q.2 hq
              first | exact c1 e | (have := c2 (by omega); omega)
          · skip
            refine ez_if rfl rfl ⟨by decide, by decide⟩ (fun _ => ?_) (fun (c14 : ¬((0 : Int) = (0))) => absurd c14 (by decide))
            refine ez_go (n := 2) (pc' := 2) (L' := [(1, .inl (i + 1)), (3, .inl (0)), (2, .inr (.inr (some ((T x))))), (0, .inr (.inr (some (723))))]) (st' := []) rfl ?_
            refine ez_less [(1, .inl (i + 1)), (0, .inr (.inr (some (723))))] rfl ⟨rfl, rfl, trivial⟩ ?_
            refine ih (i + 1) gg (by omega) (by omega) (by omega) hCH (hpz.trans pH) m3 m8 (fun k k0 k1 => ?_)
            by_cases e9 : k = i
            · subst e9
              rw [← ex]
              refine ⟨v8, fun cp vs hq => ?_⟩
              obtain ⟨d0, d1, d2, d3, d4, -⟩ := f4 cp vs hq
              exact ⟨by first | exact e | (exfalso; omega), fun w => by omega⟩
            · exact ⟨hsh2 k k0 (by omega), (hsh k k0 (by omega)).2⟩
      · skip
        refine ez_null1 rfl ?_
        refine ez_go (n := 1) (pc' := 39) (L' := [(2, .inr (.inr (some ((T x))))), (1, .inl (i)), (0, .inr (.inr (some (723))))]) (st' := [.inr (.inr (some ((T x))))]) rfl ?_
        refine ez_gI hCH.1 tT rfl rfl tq_3 rfl rfl (fun (b15 : 0 ≤ qz_I gg ((T x)) 4) (b15' : qz_I gg ((T x)) 4 ≤ 1) => ?_)
        refine ez_if rfl rfl ⟨by first | omega | exact (sz_i32 _).1, by first | omega | exact (sz_i32 _).2⟩ (fun (c16 : (qz_I gg ((T x)) 4) ≠ (0)) => ?_) (fun (c16 : ¬((qz_I gg ((T x)) 4) ≠ (0))) => ?_)
        · skip
          refine ez_go (n := 3) (pc' := 61) (L' := [(3, .inl (0)), (2, .inr (.inr (some ((T x))))), (1, .inl (i)), (0, .inr (.inr (some (723))))]) (st' := [.inl (0)]) rfl ?_
          refine ez_if rfl rfl ⟨by decide, by decide⟩ (fun (c17 : (0 : Int) ≠ (0)) => absurd c17 (by decide)) (fun _ => ?_)
          refine ez_go (n := 1) (pc' := 65) (L' := [(3, .inl (0)), (2, .inr (.inr (some ((T x))))), (1, .inl (i)), (0, .inr (.inr (some (723))))]) (st' := [.inr (.inr (some ((T x))))]) rfl ?_
          refine ez_gN hCH.1 tT rfl rfl tq_3 rfl rfl (fun (t18 : qz_I gg ((T x)) 3 = 0) => ?_) (fun (t18 : _ = 5) (t18' : 1 ≤ qz_I gg ((T x)) 3) => ?_)
          · skip
            refine ez_null0 rfl rfl ?_
            refine ez_go (n := 2) (pc' := 2) (L' := [(1, .inl (i + 1)), (3, .inl (0)), (2, .inr (.inr (some ((T x))))), (0, .inr (.inr (some (723))))]) (st' := []) rfl ?_
            refine ez_less [(1, .inl (i + 1)), (0, .inr (.inr (some (723))))] rfl ⟨rfl, rfl, trivial⟩ ?_
            refine ih (i + 1) gg (by omega) (by omega) (by omega) hCH (hpz.trans pH) m3 m8 (fun k k0 k1 => ?_)
            by_cases e9 : k = i
            · subst e9
              rw [← ex]
              refine ⟨v8, fun cp vs hq => ?_⟩
              obtain ⟨d0, d1, d2, d3, d4, -⟩ := f4 cp vs hq
              exact ⟨by first | exact e | (exfalso; omega), fun w => by omega⟩
            · exact ⟨hsh2 k k0 (by omega), (hsh k k0 (by omega)).2⟩
          · skip
            refine ez_null1 rfl ?_
            refine ez_go (n := 1) (pc' := 72) (L' := [(3, .inl (0)), (2, .inr (.inr (some ((T x))))), (1, .inl (i)), (0, .inr (.inr (some (723))))]) (st' := [.inr (.inr (some ((T x))))]) rfl ?_
            refine ez_gI hCH.1 tT rfl rfl tq_3 rfl rfl (fun (b19 : -2147483648 ≤ qz_I gg ((T x)) 0) (b19' : qz_I gg ((T x)) 0 ≤ 2147483647) => ?_)
            have fx : qz_I gg (T x) 0 = x := by
              cases hq : (F x).2 with
              | none => have := f3 hq; omega
              | some q => exact (f4 q.1 q.2 hq).1
            rw [fx]
            refine ez_cs hCH.1.2.1 rfl rfl rfl rfl rfl (rd_isSyl (by omega) (by omega) (fun e => ez_K1 ?_) (fun e => ez_K1 ?_))
            · skip
              refine ez_if rfl rfl ⟨by decide, by decide⟩ (fun (c20 : (1 : Int) = (0)) => absurd c20 (by decide)) (fun _ => ?_)
              refine ez_go (n := 1) (pc' := 82) (L' := [(3, .inl (0)), (2, .inr (.inr (some ((T x))))), (1, .inl (i)), (0, .inr (.inr (some (723))))]) (st' := [.inl (0)]) rfl ?_
              refine ez_retZ rfl rfl (by decide) (k0 (fun hS => ?_) gg hCH.1 (hpz.trans pH))
              cases hq : (F x).2 with
              | none => have := f3 hq; omega
              | some q =>
                obtain ⟨c1, c2⟩ := hS x q.1 q.2 hq
                obtain ⟨d0, d1, d2, d3, d4, -⟩ := f4 q.1 q.2 hq
                first | exact c1 e | (have := c2 (by omega); omega)
            · skip
              refine ez_if rfl rfl ⟨by decide, by decide⟩ (fun _ => ?_) (fun (c21 : ¬((0 : Int) = (0))) => absurd c21 (by decide))
              refine ez_go (n := 2) (pc' := 2) (L' := [(1, .inl (i + 1)), (3, .inl (0)), (2, .inr (.inr (some ((T x))))), (0, .inr (.inr (some (723))))]) (st' := []) rfl ?_
              refine ez_less [(1, .inl (i + 1)), (0, .inr (.inr (some (723))))] rfl ⟨rfl, rfl, trivial⟩ ?_
              refine ih (i + 1) gg (by omega) (by omega) (by omega) hCH (hpz.trans pH) m3 m8 (fun k k0 k1 => ?_)
              by_cases e9 : k = i
              · subst e9
                rw [← ex]
                refine ⟨v8, fun cp vs hq => ?_⟩
                obtain ⟨d0, d1, d2, d3, d4, -⟩ := f4 cp vs hq
                exact ⟨by first | exact e | (exfalso; omega), fun w => by omega⟩
              · exact ⟨hsh2 k k0 (by omega), (hsh k k0 (by omega)).2⟩
        · skip
          refine ez_go (n := 1) (pc' := 46) (L' := [(2, .inr (.inr (some ((T x))))), (1, .inl (i)), (0, .inr (.inr (some (723))))]) (st' := [.inr (.inr (some ((T x))))]) rfl ?_
          refine ez_gN hCH.1 tT rfl rfl tq_3 rfl rfl (fun (t22 : qz_I gg ((T x)) 3 = 0) => ?_) (fun (t22 : _ = 5) (t22' : 1 ≤ qz_I gg ((T x)) 3) => ?_)
          · exfalso; omega
          · skip
            refine ez_al hCH.1 t22 rfl tq_5 rfl (fun (b23 : 0 ≤ qz_N gg (qz_P gg ((T x)) 3)) (b23' : qz_N gg (qz_P gg ((T x)) 3) ≤ 18) => ?_)
            refine ez_go (n := 1) (pc' := 51) (L' := [(2, .inr (.inr (some ((T x))))), (1, .inl (i)), (0, .inr (.inr (some (723))))]) (st' := [.inl (2), .inl (qz_N gg (qz_P gg ((T x)) 3))]) rfl ?_
            refine ez_icmp rfl rfl ⟨by first | omega | exact (sz_i32 _).1, by first | omega | exact (sz_i32 _).2⟩ ⟨by first | omega | exact (sz_i32 _).1, by first | omega | exact (sz_i32 _).2⟩ (fun (c24 : (qz_N gg (qz_P gg ((T x)) 3)) ≤ (2)) => ?_) (fun (c24 : ¬((qz_N gg (qz_P gg ((T x)) 3)) ≤ (2))) => ?_)
            · skip
              refine ez_go (n := 3) (pc' := 61) (L' := [(3, .inl (0)), (2, .inr (.inr (some ((T x))))), (1, .inl (i)), (0, .inr (.inr (some (723))))]) (st' := [.inl (0)]) rfl ?_
              refine ez_if rfl rfl ⟨by decide, by decide⟩ (fun (c25 : (0 : Int) ≠ (0)) => absurd c25 (by decide)) (fun _ => ?_)
              refine ez_go (n := 1) (pc' := 65) (L' := [(3, .inl (0)), (2, .inr (.inr (some ((T x))))), (1, .inl (i)), (0, .inr (.inr (some (723))))]) (st' := [.inr (.inr (some ((T x))))]) rfl ?_
              refine ez_gN hCH.1 tT rfl rfl tq_3 rfl rfl (fun (t26 : qz_I gg ((T x)) 3 = 0) => ?_) (fun (t26 : _ = 5) (t26' : 1 ≤ qz_I gg ((T x)) 3) => ?_)
              · skip
                refine ez_null0 rfl rfl ?_
                refine ez_go (n := 2) (pc' := 2) (L' := [(1, .inl (i + 1)), (3, .inl (0)), (2, .inr (.inr (some ((T x))))), (0, .inr (.inr (some (723))))]) (st' := []) rfl ?_
                refine ez_less [(1, .inl (i + 1)), (0, .inr (.inr (some (723))))] rfl ⟨rfl, rfl, trivial⟩ ?_
                refine ih (i + 1) gg (by omega) (by omega) (by omega) hCH (hpz.trans pH) m3 m8 (fun k k0 k1 => ?_)
                by_cases e9 : k = i
                · subst e9
                  rw [← ex]
                  refine ⟨v8, fun cp vs hq => ?_⟩
                  obtain ⟨d0, d1, d2, d3, d4, -⟩ := f4 cp vs hq
                  exact ⟨by first | exact e | (exfalso; omega), fun w => by omega⟩
                · exact ⟨hsh2 k k0 (by omega), (hsh k k0 (by omega)).2⟩
              · skip
                refine ez_null1 rfl ?_
                refine ez_go (n := 1) (pc' := 72) (L' := [(3, .inl (0)), (2, .inr (.inr (some ((T x))))), (1, .inl (i)), (0, .inr (.inr (some (723))))]) (st' := [.inr (.inr (some ((T x))))]) rfl ?_
                refine ez_gI hCH.1 tT rfl rfl tq_3 rfl rfl (fun (b27 : -2147483648 ≤ qz_I gg ((T x)) 0) (b27' : qz_I gg ((T x)) 0 ≤ 2147483647) => ?_)
                have fx : qz_I gg (T x) 0 = x := by
                  cases hq : (F x).2 with
                  | none => have := f3 hq; omega
                  | some q => exact (f4 q.1 q.2 hq).1
                rw [fx]
                refine ez_cs hCH.1.2.1 rfl rfl rfl rfl rfl (rd_isSyl (by omega) (by omega) (fun e => ez_K1 ?_) (fun e => ez_K1 ?_))
                · skip
                  refine ez_if rfl rfl ⟨by decide, by decide⟩ (fun (c28 : (1 : Int) = (0)) => absurd c28 (by decide)) (fun _ => ?_)
                  refine ez_go (n := 1) (pc' := 82) (L' := [(3, .inl (0)), (2, .inr (.inr (some ((T x))))), (1, .inl (i)), (0, .inr (.inr (some (723))))]) (st' := [.inl (0)]) rfl ?_
                  refine ez_retZ rfl rfl (by decide) (k0 (fun hS => ?_) gg hCH.1 (hpz.trans pH))
                  cases hq : (F x).2 with
                  | none => have := f3 hq; omega
                  | some q =>
                    obtain ⟨c1, c2⟩ := hS x q.1 q.2 hq
                    obtain ⟨d0, d1, d2, d3, d4, -⟩ := f4 q.1 q.2 hq
                    first | exact c1 e | (have := c2 (by omega); omega)
                · skip
                  refine ez_if rfl rfl ⟨by decide, by decide⟩ (fun _ => ?_) (fun (c29 : ¬((0 : Int) = (0))) => absurd c29 (by decide))
                  refine ez_go (n := 2) (pc' := 2) (L' := [(1, .inl (i + 1)), (3, .inl (0)), (2, .inr (.inr (some ((T x))))), (0, .inr (.inr (some (723))))]) (st' := []) rfl ?_
                  refine ez_less [(1, .inl (i + 1)), (0, .inr (.inr (some (723))))] rfl ⟨rfl, rfl, trivial⟩ ?_
                  refine ih (i + 1) gg (by omega) (by omega) (by omega) hCH (hpz.trans pH) m3 m8 (fun k k0 k1 => ?_)
                  by_cases e9 : k = i
                  · subst e9
                    rw [← ex]
                    refine ⟨v8, fun cp vs hq => ?_⟩
                    obtain ⟨d0, d1, d2, d3, d4, -⟩ := f4 cp vs hq
                    exact ⟨by first | exact e | (exfalso; omega), fun w => by omega⟩
                  · exact ⟨hsh2 k k0 (by omega), (hsh k k0 (by omega)).2⟩
            · skip
              refine ez_go (n := 4) (pc' := 61) (L' := [(3, .inl (1)), (2, .inr (.inr (some ((T x))))), (1, .inl (i)), (0, .inr (.inr (some (723))))]) (st' := [.inl (1)]) rfl ?_
              refine ez_if rfl rfl ⟨by decide, by decide⟩ (fun _ => ?_) (fun (c30 : ¬((1 : Int) ≠ (0))) => absurd c30 (by decide))
              refine ez_go (n := 1) (pc' := 82) (L' := [(3, .inl (1)), (2, .inr (.inr (some ((T x))))), (1, .inl (i)), (0, .inr (.inr (some (723))))]) (st' := [.inl (0)]) rfl ?_
              refine ez_retZ rfl rfl (by decide) (k0 (fun hS => ?_) gg hCH.1 (hpz.trans pH))
              cases hq : (F x).2 with
              | none => have := f3 hq; omega
              | some q =>
                obtain ⟨c1, c2⟩ := hS x q.1 q.2 hq
                obtain ⟨d0, d1, d2, d3, d4, -⟩ := f4 q.1 q.2 hq
                first | exact c1 e | (have := c2 (by omega); omega)
end EzXg
/-! Pairs in one number. -/
theorem pp_bv {a b : Nat} (ha : a < 2097152) (hb : b < 2097152) : (((BitVec.ofNat 64 a) <<< 21) ||| (BitVec.ofNat 64 b)).toNat = a * 2097152 + b := by
  rw [BitVec.toNat_or, BitVec.toNat_shiftLeft, BitVec.toNat_ofNat, BitVec.toNat_ofNat, Nat.mod_eq_of_lt (a := a) (by omega), Nat.mod_eq_of_lt (a := b) (by omega)]
  have e : a <<< 21 = a * 2097152 := by rw [Nat.shiftLeft_eq]
  rw [Nat.mod_eq_of_lt (by rw [e]; omega), ← Nat.shiftLeft_add_eq_or_of_lt (by omega : b < 2 ^ 21), e]
theorem pp_int {a b : Int} (a0 : 0 ≤ a) (a1 : a ≤ 1114111) (b0 : 0 ≤ b) (b1 : b ≤ 1114111) : ((Int32.ofInt a).toInt64 <<< ((Int32.ofInt 21).toInt64 &&& 63) ||| (Int32.ofInt b).toInt64).toInt = a * 2097152 + b := by
  have e0 : (Int32.ofInt 21).toInt64 &&& 63 = 21 := by decide
  have cv : ∀ {z : Int}, 0 ≤ z → z ≤ 1114111 → (Int32.ofInt z).toInt64.toBitVec = BitVec.ofNat 64 z.toNat := fun {z} z0 z1 => by
    have h1 : (Int32.ofInt z).toInt64 = Int64.ofInt z := by
      apply Int64.toInt_inj.mp
      rw [Int32.toInt_toInt64, dz_toInt_i (by omega) (by omega), Int64.toInt_ofInt_of_le (by omega) (by omega)]
    rw [h1]
    show BitVec.ofInt 64 z = _
    rw [show z = ((z.toNat : Nat) : Int) by omega, BitVec.ofInt_natCast]
    congr 1
  rw [e0]
  have h2 : ((Int32.ofInt a).toInt64 <<< 21 ||| (Int32.ofInt b).toInt64).toBitVec = (((BitVec.ofNat 64 a.toNat) <<< 21) ||| (BitVec.ofNat 64 b.toNat)) := by
    rw [Int64.toBitVec_or, Int64.toBitVec_shiftLeft, cv a0 a1, cv b0 b1]
    rfl
  show (((Int32.ofInt a).toInt64 <<< 21 ||| (Int32.ofInt b).toInt64).toBitVec).toInt = _
  rw [h2, BitVec.toInt_eq_toNat_of_lt (by rw [pp_bv (by omega) (by omega)]; omega), pp_bv (by omega) (by omega)]
  omega
/-! The class: exclusion, pairs. (Written by wip/p2/py/pv34.py.) -/
section EzPr
variable {d : Nat} {h : cz_H} {τ : Nat → Nat} {Q : cz_F → Prop} {T : Int → Nat} {F : rz_W} {E : Int → Prop}
/-- a long of an array of longs -/
theorem ez_lrg {r t : Nat} {ti : dz_I} {i lo hi : Int} {tg md : Nat} (hB : ez_B τ h) (hτ : τ r = t) (hti : tz_T t = some ti) (hD : dz_nth ti.2.2.2.2 0 = some (2, lo, hi, tg, md)) (hb : (Nat.beq ti.1 1 && Nat.blt ti.2.1 11) = true) (h0 : 0 ≤ i) (h1 : i < qz_N h r) : (Int64.ofInt (qz_I h r i.toNat)).toInt = qz_I h r i.toNat := by
  obtain ⟨n, f, o1, o2, o3, o4, -, o6⟩ := ez_arr hB hτ hti hb hD
  rw [o3] at h1
  obtain ⟨g1, g2⟩ := o6 _ (show i.toNat < n by omega)
  have hx : ∃ x : Int64, f i.toNat = .inr (.inl x) := by
    have := g2.1
    revert this
    generalize f i.toNat = v
    intro this
    match v with
    | .inl _ => cases this
    | .inr (.inl x) => exact ⟨x, rfl⟩
    | .inr (.inr _) => cases this
  obtain ⟨x, hx⟩ := hx
  rw [qz_I_of g1, hx]
  show (Int64.ofInt x.toInt).toInt = x.toInt
  rw [Int64.ofInt_toInt]
theorem rd_hasTrait {z : Nat} (hB : ez_B τ h) (tz : τ z = 4) (k1 : sz_t0 (qz_I h z 2) → Q (.inl (some (ez_v (.inl 1))), h)) (k0 : ¬ sz_t0 (qz_I h z 2) → Q (.inl (some (ez_v (.inl 0))), h)) : ez_W d cm_184 0 [(0, .inr (.inr (some (z)))), (1, .inl (1))] [] h Q := by
  refine ez_go (n := 1) (pc' := 1) (L' := [(0, .inr (.inr (some (z)))), (1, .inl (1))]) (st' := [.inr (.inr (some (z)))]) rfl ?_
  refine ez_gI hB tz rfl rfl tq_4 rfl rfl (fun (b1 : -2147483648 ≤ qz_I h z 2) (b1' : qz_I h z 2 ≤ 2147483647) => ?_)
  refine ez_go (n := 2) (pc' := 6) (L' := [(0, .inr (.inr (some (z)))), (1, .inl (1))]) (st' := [.inl ((Int32.ofInt (qz_I h z 2) &&& Int32.ofInt (1)).toInt)]) rfl ?_
  refine ez_if rfl rfl ⟨by first | omega | exact (sz_i32 _).1, by first | omega | exact (sz_i32 _).2⟩ (fun (c2 : ((Int32.ofInt (qz_I h z 2) &&& Int32.ofInt (1)).toInt) = (0)) => ?_) (fun (c2 : ¬(((Int32.ofInt (qz_I h z 2) &&& Int32.ofInt (1)).toInt) = (0))) => ?_)
  · skip
    refine ez_go (n := 1) (pc' := 14) (L' := [(0, .inr (.inr (some (z)))), (1, .inl (1))]) (st' := [.inl (0)]) rfl ?_
    exact ez_retZ rfl rfl (by decide) (k0 (fun w => w (by assumption)))
  · skip
    refine ez_go (n := 2) (pc' := 14) (L' := [(0, .inr (.inr (some (z)))), (1, .inl (1))]) (st' := [.inl (1)]) rfl ?_
    exact ez_retZ rfl rfl (by decide) (k1 (by unfold sz_t0; assumption))

theorem rd_classOf {x : Int} (hC : pz_C τ h T F E) (x0 : 0 ≤ x) (x1 : x ≤ 1114111) (k : Q (.inl (some (ez_v (.inl (F x).1))), h)) : ez_W (d + 1) cm_95 0 [(0, .inr (.inr (some (202)))), (1, .inl (x))] [] h Q := by
  have t202 : τ 202 = 48 := hC.2.1 202 (by decide)
  have t203 : τ 203 = 49 := hC.2.1 203 (by decide)
  refine ez_go (n := 1) (pc' := 1) (L' := [(0, .inr (.inr (some (202)))), (1, .inl (x))]) (st' := [.inr (.inr (some (202)))]) rfl ?_
  refine ez_gC (p := 203) (tg := 49) hC.1 t202 rfl rfl tq_48 rfl rfl (fun (t203 : _ = 49) => ?_)
  refine ez_go (n := 2) (pc' := 6) (L' := [(0, .inr (.inr (some (202)))), (1, .inl (x))]) (st' := [.inl (x), .inr (.inr (some (202))), .inr (.inr (some (203)))]) rfl ?_
  have bn := sz_R_n1 hC.1 t202
  refine ez_cv hC.1 t202 rfl rfl rfl tq_48 rfl rfl rfl (rd_spanIndex hC.1 t202 hC.2.2.1 x0 (by omega) (fun i i0 i1 i2 i3 => ez_K1 ?_))
  have n2 : 513 ≤ qz_N h 203 ∧ qz_N h 203 ≤ 513 := ez_len hC.1 t203 tq_49 rfl
  have y3 : 1 ≤ qz_I h 203 (i).toNat ∧ qz_I h 203 (i).toNat ≤ 1000000 := ez_aB hC.1 t203 tq_49 rfl rfl (by decide) (by omega) (by omega)
  have y3' : ((qz_P h 203 (i).toNat : Nat) : Int) + 1 = qz_I h 203 (i).toNat := by unfold qz_P; omega
  refine ez_aR hC.1 t203 rfl tq_49 rfl rfl (by omega) (by omega) (by omega) (fun (t1 : _ = 4) => ?_)
  refine ez_gR hC.1 t1 rfl rfl tq_4 rfl rfl (fun (t4 : _ = 3) (t4' : 1 ≤ qz_I h (qz_P h 203 (i).toNat) 1) => ?_)
  obtain ⟨w1, w2⟩ := hC.2.2.2.1 x i x0 x1 ⟨i0, i1, i2, i3⟩
  have eT : qz_P h (qz_P h 203 (i).toNat) 1 = T x := by show qz_P h (sz_p h i) 1 = T x; unfold qz_P; omega
  rw [eT]
  obtain ⟨tT, f2, -⟩ := hC.2.2.2.2 x x0 x1
  refine ez_gI hC.1 tT rfl rfl tq_3 rfl rfl (fun (b5 : -2147483648 ≤ qz_I h ((T x)) 2) (b5' : qz_I h ((T x)) 2 ≤ 2147483647) => ?_)
  rw [f2]
  exact ez_retI rfl rfl k

theorem rd_headOfTwo {x : Int} (hC : pz_C τ h T F E) (x0 : 0 ≤ x) (x1 : x ≤ 1114111) (hx : ¬ hz x) (k : ∀ v, ((∃ a b, (F x).2 = some (0, [a, b]) ∧ v = a) ∨ (v = -1 ∧ ¬ ∃ a b, (F x).2 = some (0, [a, b]))) → Q (.inl (some (ez_v (.inl v))), h)) : ez_W (d + 1) cm_120 0 [(0, .inl (x)), (1, .inr (.inr (some ((T x)))))] [] h Q := by
  obtain ⟨tT, -, f3, f4⟩ := hC.2.2.2.2 x x0 x1
  refine ez_go (n := 1) (pc' := 1) (L' := [(0, .inl (x)), (1, .inr (.inr (some ((T x)))))]) (st' := [.inl (x)]) rfl ?_
  refine ez_cs hC.1.2.1 rfl rfl rfl rfl rfl (rd_isSyl (by omega) (by omega) (fun e => absurd e hx) (fun e => ez_K1 ?_))
  refine ez_if rfl rfl ⟨by decide, by decide⟩ (fun _ => ?_) (fun (c1 : ¬((0 : Int) = (0))) => absurd c1 (by decide))
  refine ez_go (n := 1) (pc' := 26) (L' := [(0, .inl (x)), (1, .inr (.inr (some ((T x)))))]) (st' := [.inr (.inr (some ((T x))))]) rfl ?_
  refine ez_gN hC.1 tT rfl rfl tq_3 rfl rfl (fun (t2 : qz_I h ((T x)) 3 = 0) => ?_) (fun (t2 : _ = 5) (t2' : 1 ≤ qz_I h ((T x)) 3) => ?_)
  · skip
    refine ez_null0 rfl rfl ?_
    refine ez_go (n := 1) (pc' := 58) (L' := [(0, .inl (x)), (1, .inr (.inr (some ((T x)))))]) (st' := [.inl (-1)]) rfl ?_
    refine ez_retI rfl rfl (k _ (Or.inr ⟨rfl, fun ⟨a, b, w⟩ => ?_⟩))
    obtain ⟨d0, d1, d2, d3, d4, -⟩ := f4 _ _ w
    simp only [List.length_cons, List.length_nil] at d4
    omega
  · skip
    refine ez_null1 rfl ?_
    refine ez_go (n := 1) (pc' := 33) (L' := [(0, .inl (x)), (1, .inr (.inr (some ((T x)))))]) (st' := [.inr (.inr (some ((T x))))]) rfl ?_
    refine ez_gI hC.1 tT rfl rfl tq_3 rfl rfl (fun (b3 : 0 ≤ qz_I h ((T x)) 4) (b3' : qz_I h ((T x)) 4 ≤ 1) => ?_)
    refine ez_if rfl rfl ⟨by first | omega | exact (sz_i32 _).1, by first | omega | exact (sz_i32 _).2⟩ (fun (c4 : (qz_I h ((T x)) 4) ≠ (0)) => ?_) (fun (c4 : ¬((qz_I h ((T x)) 4) ≠ (0))) => ?_)
    · skip
      refine ez_go (n := 1) (pc' := 58) (L' := [(0, .inl (x)), (1, .inr (.inr (some ((T x)))))]) (st' := [.inl (-1)]) rfl ?_
      refine ez_retI rfl rfl (k _ (Or.inr ⟨rfl, fun ⟨a, b, w⟩ => ?_⟩))
      obtain ⟨d0, d1, d2, d3, d4, -⟩ := f4 _ _ w
      simp only [List.length_cons, List.length_nil] at d4
      omega
    · skip
      refine ez_go (n := 1) (pc' := 40) (L' := [(0, .inl (x)), (1, .inr (.inr (some ((T x)))))]) (st' := [.inr (.inr (some ((T x))))]) rfl ?_
      refine ez_gN hC.1 tT rfl rfl tq_3 rfl rfl (fun (t5 : qz_I h ((T x)) 3 = 0) => ?_) (fun (t5 : _ = 5) (t5' : 1 ≤ qz_I h ((T x)) 3) => ?_)
      · exfalso; omega
      · skip
        refine ez_al hC.1 t5 rfl tq_5 rfl (fun (b6 : 0 ≤ qz_N h (qz_P h ((T x)) 3)) (b6' : qz_N h (qz_P h ((T x)) 3) ≤ 18) => ?_)
        refine ez_go (n := 1) (pc' := 45) (L' := [(0, .inl (x)), (1, .inr (.inr (some ((T x)))))]) (st' := [.inl (2), .inl (qz_N h (qz_P h ((T x)) 3))]) rfl ?_
        refine ez_icmp rfl rfl ⟨by first | omega | exact (sz_i32 _).1, by first | omega | exact (sz_i32 _).2⟩ ⟨by first | omega | exact (sz_i32 _).1, by first | omega | exact (sz_i32 _).2⟩ (fun (c7 : (qz_N h (qz_P h ((T x)) 3)) ≠ (2)) => ?_) (fun (c7 : ¬((qz_N h (qz_P h ((T x)) 3)) ≠ (2))) => ?_)
        · skip
          refine ez_go (n := 1) (pc' := 58) (L' := [(0, .inl (x)), (1, .inr (.inr (some ((T x)))))]) (st' := [.inl (-1)]) rfl ?_
          refine ez_retI rfl rfl (k _ (Or.inr ⟨rfl, fun ⟨a, b, w⟩ => ?_⟩))
          obtain ⟨d0, d1, d2, d3, d4, -⟩ := f4 _ _ w
          simp only [List.length_cons, List.length_nil] at d4
          omega
        · skip
          refine ez_go (n := 1) (pc' := 49) (L' := [(0, .inl (x)), (1, .inr (.inr (some ((T x)))))]) (st' := [.inr (.inr (some ((T x))))]) rfl ?_
          refine ez_gN hC.1 tT rfl rfl tq_3 rfl rfl (fun (t8 : qz_I h ((T x)) 3 = 0) => ?_) (fun (t8 : _ = 5) (t8' : 1 ≤ qz_I h ((T x)) 3) => ?_)
          · exfalso; omega
          · skip
            refine ez_go (n := 1) (pc' := 53) (L' := [(0, .inl (x)), (1, .inr (.inr (some ((T x)))))]) (st' := [.inl (0), .inr (.inr (some (qz_P h ((T x)) 3)))]) rfl ?_
            have n10 : 0 ≤ qz_N h (qz_P h ((T x)) 3) ∧ qz_N h (qz_P h ((T x)) 3) ≤ 18 := ez_len hC.1 t8 tq_5 rfl
            refine ez_aI hC.1 t8 rfl tq_5 rfl rfl (by omega) (by omega) (fun (b9 : -2147483648 ≤ qz_I h (qz_P h ((T x)) 3) (0 : Int).toNat) (b9' : qz_I h (qz_P h ((T x)) 3) (0 : Int).toNat ≤ 2147483647) => ?_)
            refine ez_go (n := 1) (pc' := 58) (L' := [(0, .inl (x)), (1, .inr (.inr (some ((T x)))))]) (st' := [.inl (qz_I h (qz_P h ((T x)) 3) (0 : Int).toNat)]) rfl ?_
            cases hq : (F x).2 with
            | none => have := f3 hq; omega
            | some q =>
              obtain ⟨d0, d1, d2, d3, d4, d5⟩ := f4 q.1 q.2 hq
              have hl : q.2.length = 2 := by omega
              obtain ⟨cp, vs⟩ := q
              have hc : cp = 0 := by have d1 : qz_I h (T x) 4 = cp := d1; omega
              subst hc
              match vs, hl, hq, d5 with
              | [a, b], _, hq, d5 =>
                have e0 := d5 0 a rfl
                rw [show (0 : Int).toNat = 0 from rfl, e0]
                exact ez_retI rfl rfl (k a (Or.inl ⟨a, b, hq, rfl⟩))

theorem rd_isExcluded {x : Int} (hw : uz_wf F) (hC : pz_C τ h T F E) (x0 : 0 ≤ x) (x1 : x ≤ 1114111) (hx : ¬ hz x) (k1 : ez_x F E x → Q (.inl (some (ez_v (.inl 1))), h)) (k0 : ¬ ez_x F E x → Q (.inl (some (ez_v (.inl 0))), h)) : ez_W (d + 2) cm_122 0 [(0, .inr (.inr (some (723)))), (1, .inl (x))] [] h Q := by
  have t723 : τ 723 = 55 := hC.2.1 723 (by decide)
  obtain ⟨tT, f2, f3, f4⟩ := hC.2.2.2.2 x x0 x1
  refine ez_go (n := 1) (pc' := 1) (L' := [(0, .inr (.inr (some (723)))), (1, .inl (x))]) (st' := [.inr (.inr (some (723)))]) rfl ?_
  refine ez_gC (p := 202) (tg := 48) hC.1 t723 rfl rfl tq_55 rfl rfl (fun (t202 : _ = 48) => ?_)
  refine ez_go (n := 1) (pc' := 5) (L' := [(0, .inr (.inr (some (723)))), (1, .inl (x))]) (st' := [.inl (x), .inr (.inr (some (202)))]) rfl ?_
  refine ez_cv hC.1 t202 rfl rfl rfl tq_48 rfl rfl rfl (rd_spanOf hC x0 x1 (fun z tz z1 z2 => ez_KA ?_))
  refine ez_go (n := 3) (pc' := 11) (L' := [(2, .inr (.inr (some (z)))), (0, .inr (.inr (some (723)))), (1, .inl (x))]) (st' := [.inl (1), .inr (.inr (some (z)))]) rfl ?_
  refine ez_cv hC.1 tz rfl rfl rfl tq_4 rfl rfl rfl (rd_hasTrait hC.1 tz (fun e => ez_K1 ?_) (fun e => ez_K1 ?_))
  · skip
    refine ez_if rfl rfl ⟨by decide, by decide⟩ (fun _ => ?_) (fun (c1 : ¬((1 : Int) ≠ (0))) => absurd c1 (by decide))
    refine ez_go (n := 1) (pc' := 28) (L' := [(2, .inr (.inr (some (z)))), (0, .inr (.inr (some (723)))), (1, .inl (x))]) (st' := [.inl (1)]) rfl ?_
    exact ez_retZ rfl rfl (by decide) (k1 (Or.inl (Or.inl (z2.mp e))))
  · skip
    refine ez_if rfl rfl ⟨by decide, by decide⟩ (fun (c2 : (0 : Int) ≠ (0)) => absurd c2 (by decide)) (fun _ => ?_)
    refine ez_go (n := 1) (pc' := 18) (L' := [(2, .inr (.inr (some (z)))), (0, .inr (.inr (some (723)))), (1, .inl (x))]) (st' := [.inr (.inr (some (z)))]) rfl ?_
    refine ez_gR hC.1 tz rfl rfl tq_4 rfl rfl (fun (t3 : _ = 3) (t3' : 1 ≤ qz_I h z 1) => ?_)
    have eT4 : qz_P h z 1 = T x := by unfold qz_P; omega
    rw [eT4]
    refine ez_gI hC.1 tT rfl rfl tq_3 rfl rfl (fun (b5 : -2147483648 ≤ qz_I h ((T x)) 2) (b5' : qz_I h ((T x)) 2 ≤ 2147483647) => ?_)
    rw [f2]
    refine ez_if rfl rfl ⟨by first | omega | exact (sz_i32 _).1, by first | omega | exact (sz_i32 _).2⟩ (fun (c6 : ((F x).1) ≤ (0)) => ?_) (fun (c6 : ¬(((F x).1) ≤ (0))) => ?_)
    · skip
      refine ez_go (n := 2) (pc' := 31) (L' := [(2, .inr (.inr (some (z)))), (0, .inr (.inr (some (723)))), (1, .inl (x))]) (st' := [.inr (.inr (some (z))), .inl (x)]) rfl ?_
      refine ez_gR hC.1 tz rfl rfl tq_4 rfl rfl (fun (t7 : _ = 3) (t7' : 1 ≤ qz_I h z 1) => ?_)
      have eT8 : qz_P h z 1 = T x := by unfold qz_P; omega
      rw [eT8]
      refine ez_cs hC.1.2.1 rfl rfl rfl rfl rfl (rd_headOfTwo hC x0 x1 hx (fun v hv => ez_K1 ?_))
      have vb : -1 ≤ v ∧ v ≤ 1114111 := by
        rcases hv with ⟨a, b, w, e2⟩ | ⟨e2, _⟩
        · have := ((hw x).2 _ _ w).2.2.1 a (by simp); omega
        · omega
      refine ez_go (n := 3) (pc' := 40) (L' := [(3, .inl (v)), (2, .inr (.inr (some (z)))), (0, .inr (.inr (some (723)))), (1, .inl (x))]) (st' := [.inl (-1), .inl (v)]) rfl ?_
      refine ez_icmp rfl rfl ⟨by first | omega | exact (sz_i32 _).1, by first | omega | exact (sz_i32 _).2⟩ ⟨by first | omega | exact (sz_i32 _).1, by first | omega | exact (sz_i32 _).2⟩ (fun (c9 : (v) = (-1)) => ?_) (fun (c9 : ¬((v) = (-1))) => ?_)
      · skip
        refine ez_go (n := 1) (pc' := 59) (L' := [(3, .inl (v)), (2, .inr (.inr (some (z)))), (0, .inr (.inr (some (723)))), (1, .inl (x))]) (st' := [.inl (0)]) rfl ?_
        refine ez_retZ rfl rfl (by decide) (k0 (fun w => ?_))
        rcases w with (w | w) | ⟨a, b, w, w2⟩
        · exact e (z2.mpr w)
        · omega
        · rcases hv with ⟨a2, b2, w3, e2⟩ | ⟨e2, w3⟩
          · rw [w] at w3; cases w3; subst e2; first | omega | (have := ((hw x).2 _ _ w).2.2.1 v (by simp); omega)
          · exact w3 ⟨a, b, w⟩
      · skip
        refine ez_go (n := 1) (pc' := 44) (L' := [(3, .inl (v)), (2, .inr (.inr (some (z)))), (0, .inr (.inr (some (723)))), (1, .inl (x))]) (st' := [.inr (.inr (some (723)))]) rfl ?_
        refine ez_gC (p := 202) (tg := 48) hC.1 t723 rfl rfl tq_55 rfl rfl (fun (t202 : _ = 48) => ?_)
        refine ez_go (n := 1) (pc' := 48) (L' := [(3, .inl (v)), (2, .inr (.inr (some (z)))), (0, .inr (.inr (some (723)))), (1, .inl (x))]) (st' := [.inl (v), .inr (.inr (some (202)))]) rfl ?_
        have fb : -2147483648 ≤ (F v).1 ∧ (F v).1 ≤ 2147483647 := by have := hC.2.2.2.2 v (by omega) (by omega); have b2 : -2147483648 ≤ qz_I h (T v) 2 ∧ qz_I h (T v) 2 ≤ 2147483647 := ez_fB (cl := 3) hC.1 this.1 tq_3 rfl rfl (by decide); rw [this.2.1] at b2; exact b2
        refine ez_cv hC.1 t202 rfl rfl rfl tq_48 rfl rfl rfl (rd_classOf hC (by omega) (by omega) (ez_K1 ?_))
        refine ez_if rfl rfl ⟨by first | omega | exact (sz_i32 _).1, by first | omega | exact (sz_i32 _).2⟩ (fun (c10 : ((F v).1) ≤ (0)) => ?_) (fun (c10 : ¬(((F v).1) ≤ (0))) => ?_)
        · skip
          refine ez_go (n := 1) (pc' := 59) (L' := [(3, .inl (v)), (2, .inr (.inr (some (z)))), (0, .inr (.inr (some (723)))), (1, .inl (x))]) (st' := [.inl (0)]) rfl ?_
          refine ez_retZ rfl rfl (by decide) (k0 (fun w => ?_))
          rcases w with (w | w) | ⟨a, b, w, w2⟩
          · exact e (z2.mpr w)
          · omega
          · rcases hv with ⟨a2, b2, w3, e2⟩ | ⟨e2, w3⟩
            · rw [w] at w3; cases w3; subst e2; first | omega | (have := ((hw x).2 _ _ w).2.2.1 v (by simp); omega)
            · exact w3 ⟨a, b, w⟩
        · skip
          refine ez_go (n := 2) (pc' := 59) (L' := [(3, .inl (v)), (2, .inr (.inr (some (z)))), (0, .inr (.inr (some (723)))), (1, .inl (x))]) (st' := [.inl (1)]) rfl ?_
          rcases hv with ⟨a, b, w, e2⟩ | ⟨e2, _⟩
          · subst e2; exact ez_retZ rfl rfl (by decide) (k1 (Or.inr ⟨v, b, w, by omega⟩))
          · exfalso; omega
    · skip
      refine ez_go (n := 1) (pc' := 28) (L' := [(2, .inr (.inr (some (z)))), (0, .inr (.inr (some (723)))), (1, .inl (x))]) (st' := [.inl (1)]) rfl ?_
      exact ez_retZ rfl rfl (by decide) (k1 (Or.inl (Or.inr (by omega))))

theorem rd_syllableOf {a b : Int} (a0 : 0 ≤ a) (a1 : a ≤ 1114111) (b0 : 0 ≤ b) (b1 : b ≤ 1114111) (k1 : ∀ v, 0 ≤ v → v ≤ 2147483647 → hz_pair a b → Q (.inl (some (ez_v (.inl v))), h)) (k0 : ¬ hz_pair a b → Q (.inl (some (ez_v (.inl (-1)))), h)) : ez_W d cm_131 0 [(0, .inl (a)), (1, .inl (b))] [] h Q := by
  refine ez_go (n := 2) (pc' := 4) (L' := [(0, .inl (a)), (1, .inl (b))]) (st' := [.inl (4352), .inl (a)]) rfl ?_
  refine ez_icmp rfl rfl ⟨by first | omega | exact (sz_i32 _).1, by first | omega | exact (sz_i32 _).2⟩ ⟨by first | omega | exact (sz_i32 _).1, by first | omega | exact (sz_i32 _).2⟩ (fun (c1 : (a) < (4352)) => ?_) (fun (c1 : ¬((a) < (4352))) => ?_)
  · skip
    refine ez_go (n := 1) (pc' := 51) (L' := [(0, .inl (a)), (1, .inl (b))]) (st' := [.inl (a)]) rfl ?_
    refine ez_ldc (44032) rfl rfl rfl ?_
    refine ez_go (n := 3) (pc' := 56) (L' := [(2, .inl ((a) - (44032))), (0, .inl (a)), (1, .inl (b))]) (st' := [.inl ((a) - (44032))]) rfl ?_
    refine ez_if rfl rfl ⟨by first | omega | exact (sz_i32 _).1, by first | omega | exact (sz_i32 _).2⟩ (fun (c2 : ((a) - (44032)) < (0)) => ?_) (fun (c2 : ¬(((a) - (44032)) < (0))) => ?_)
    · skip
      refine ez_go (n := 3) (pc' := 79) (L' := [(3, .inl (0)), (2, .inl ((a) - (44032))), (0, .inl (a)), (1, .inl (b))]) (st' := [.inl (0)]) rfl ?_
      refine ez_if rfl rfl ⟨by decide, by decide⟩ (fun _ => ?_) (fun (c3 : ¬((0 : Int) = (0))) => absurd c3 (by decide))
      refine ez_go (n := 1) (pc' := 107) (L' := [(3, .inl (0)), (2, .inl ((a) - (44032))), (0, .inl (a)), (1, .inl (b))]) (st' := [.inl (-1)]) rfl ?_
      exact ez_retI rfl rfl (k0 (fun w => by rcases w with w | ⟨⟨w1, w2⟩, w3, w4⟩ <;> omega))
    · skip
      refine ez_go (n := 1) (pc' := 60) (L' := [(2, .inl ((a) - (44032))), (0, .inl (a)), (1, .inl (b))]) (st' := [.inl (a)]) rfl ?_
      refine ez_ldc (55203) rfl rfl rfl ?_
      refine ez_icmp rfl rfl ⟨by first | omega | exact (sz_i32 _).1, by first | omega | exact (sz_i32 _).2⟩ ⟨by first | omega | exact (sz_i32 _).1, by first | omega | exact (sz_i32 _).2⟩ (fun (c4 : (55203) < (a)) => ?_) (fun (c4 : ¬((55203) < (a))) => ?_)
      · skip
        refine ez_go (n := 3) (pc' := 79) (L' := [(3, .inl (0)), (2, .inl ((a) - (44032))), (0, .inl (a)), (1, .inl (b))]) (st' := [.inl (0)]) rfl ?_
        refine ez_if rfl rfl ⟨by decide, by decide⟩ (fun _ => ?_) (fun (c5 : ¬((0 : Int) = (0))) => absurd c5 (by decide))
        refine ez_go (n := 1) (pc' := 107) (L' := [(3, .inl (0)), (2, .inl ((a) - (44032))), (0, .inl (a)), (1, .inl (b))]) (st' := [.inl (-1)]) rfl ?_
        exact ez_retI rfl rfl (k0 (fun w => by rcases w with w | ⟨⟨w1, w2⟩, w3, w4⟩ <;> omega))
      · skip
        refine ez_go (n := 2) (pc' := 68) (L' := [(2, .inl ((a) - (44032))), (0, .inl (a)), (1, .inl (b))]) (st' := [.inl (28), .inl ((a) - (44032))]) rfl ?_
        refine ez_rem rfl (by omega) (by omega) (by omega) (by omega) ?_
        refine ez_if rfl rfl ⟨by first | omega | exact (sz_i32 _).1, by first | omega | exact (sz_i32 _).2⟩ (fun (c6 : (((a) - (44032)) % (28)) ≠ (0)) => ?_) (fun (c6 : ¬((((a) - (44032)) % (28)) ≠ (0))) => ?_)
        · skip
          refine ez_go (n := 3) (pc' := 79) (L' := [(3, .inl (0)), (2, .inl ((a) - (44032))), (0, .inl (a)), (1, .inl (b))]) (st' := [.inl (0)]) rfl ?_
          refine ez_if rfl rfl ⟨by decide, by decide⟩ (fun _ => ?_) (fun (c7 : ¬((0 : Int) = (0))) => absurd c7 (by decide))
          refine ez_go (n := 1) (pc' := 107) (L' := [(3, .inl (0)), (2, .inl ((a) - (44032))), (0, .inl (a)), (1, .inl (b))]) (st' := [.inl (-1)]) rfl ?_
          exact ez_retI rfl rfl (k0 (fun w => by rcases w with w | ⟨⟨w1, w2⟩, w3, w4⟩ <;> omega))
        · skip
          refine ez_go (n := 4) (pc' := 79) (L' := [(3, .inl (1)), (2, .inl ((a) - (44032))), (0, .inl (a)), (1, .inl (b))]) (st' := [.inl (1)]) rfl ?_
          refine ez_if rfl rfl ⟨by decide, by decide⟩ (fun (c8 : (1 : Int) = (0)) => absurd c8 (by decide)) (fun _ => ?_)
          refine ez_go (n := 2) (pc' := 86) (L' := [(3, .inl (1)), (2, .inl ((a) - (44032))), (0, .inl (a)), (1, .inl (b))]) (st' := [.inl (4520), .inl (b)]) rfl ?_
          refine ez_icmp rfl rfl ⟨by first | omega | exact (sz_i32 _).1, by first | omega | exact (sz_i32 _).2⟩ ⟨by first | omega | exact (sz_i32 _).1, by first | omega | exact (sz_i32 _).2⟩ (fun (c9 : (b) < (4520)) => ?_) (fun (c9 : ¬((b) < (4520))) => ?_)
          · skip
            refine ez_go (n := 1) (pc' := 107) (L' := [(3, .inl (1)), (2, .inl ((a) - (44032))), (0, .inl (a)), (1, .inl (b))]) (st' := [.inl (-1)]) rfl ?_
            exact ez_retI rfl rfl (k0 (fun w => by rcases w with w | ⟨⟨w1, w2⟩, w3, w4⟩ <;> omega))
          · skip
            refine ez_go (n := 2) (pc' := 93) (L' := [(3, .inl (1)), (2, .inl ((a) - (44032))), (0, .inl (a)), (1, .inl (b))]) (st' := [.inl (4546), .inl (b)]) rfl ?_
            refine ez_icmp rfl rfl ⟨by first | omega | exact (sz_i32 _).1, by first | omega | exact (sz_i32 _).2⟩ ⟨by first | omega | exact (sz_i32 _).1, by first | omega | exact (sz_i32 _).2⟩ (fun (c10 : (4546) < (b)) => ?_) (fun (c10 : ¬((4546) < (b))) => ?_)
            · skip
              refine ez_go (n := 1) (pc' := 107) (L' := [(3, .inl (1)), (2, .inl ((a) - (44032))), (0, .inl (a)), (1, .inl (b))]) (st' := [.inl (-1)]) rfl ?_
              exact ez_retI rfl rfl (k0 (fun w => by rcases w with w | ⟨⟨w1, w2⟩, w3, w4⟩ <;> omega))
            · skip
              refine ez_go (n := 6) (pc' := 107) (L' := [(3, .inl (1)), (2, .inl ((a) - (44032))), (0, .inl (a)), (1, .inl (b))]) (st' := [.inl (((a) + (b)) - (4519))]) rfl ?_
              exact ez_retI rfl rfl (k1 _ (by omega) (by omega) (by first | (exact Or.inl ⟨⟨by omega, by omega⟩, by omega, by omega⟩) | (exact Or.inr ⟨⟨by omega, by omega⟩, by omega, by omega, by omega⟩)))
  · skip
    refine ez_go (n := 2) (pc' := 11) (L' := [(0, .inl (a)), (1, .inl (b))]) (st' := [.inl (4370), .inl (a)]) rfl ?_
    refine ez_icmp rfl rfl ⟨by first | omega | exact (sz_i32 _).1, by first | omega | exact (sz_i32 _).2⟩ ⟨by first | omega | exact (sz_i32 _).1, by first | omega | exact (sz_i32 _).2⟩ (fun (c11 : (4370) < (a)) => ?_) (fun (c11 : ¬((4370) < (a))) => ?_)
    · skip
      refine ez_go (n := 1) (pc' := 51) (L' := [(0, .inl (a)), (1, .inl (b))]) (st' := [.inl (a)]) rfl ?_
      refine ez_ldc (44032) rfl rfl rfl ?_
      refine ez_go (n := 3) (pc' := 56) (L' := [(2, .inl ((a) - (44032))), (0, .inl (a)), (1, .inl (b))]) (st' := [.inl ((a) - (44032))]) rfl ?_
      refine ez_if rfl rfl ⟨by first | omega | exact (sz_i32 _).1, by first | omega | exact (sz_i32 _).2⟩ (fun (c12 : ((a) - (44032)) < (0)) => ?_) (fun (c12 : ¬(((a) - (44032)) < (0))) => ?_)
      · skip
        refine ez_go (n := 3) (pc' := 79) (L' := [(3, .inl (0)), (2, .inl ((a) - (44032))), (0, .inl (a)), (1, .inl (b))]) (st' := [.inl (0)]) rfl ?_
        refine ez_if rfl rfl ⟨by decide, by decide⟩ (fun _ => ?_) (fun (c13 : ¬((0 : Int) = (0))) => absurd c13 (by decide))
        refine ez_go (n := 1) (pc' := 107) (L' := [(3, .inl (0)), (2, .inl ((a) - (44032))), (0, .inl (a)), (1, .inl (b))]) (st' := [.inl (-1)]) rfl ?_
        exact ez_retI rfl rfl (k0 (fun w => by rcases w with w | ⟨⟨w1, w2⟩, w3, w4⟩ <;> omega))
      · skip
        refine ez_go (n := 1) (pc' := 60) (L' := [(2, .inl ((a) - (44032))), (0, .inl (a)), (1, .inl (b))]) (st' := [.inl (a)]) rfl ?_
        refine ez_ldc (55203) rfl rfl rfl ?_
        refine ez_icmp rfl rfl ⟨by first | omega | exact (sz_i32 _).1, by first | omega | exact (sz_i32 _).2⟩ ⟨by first | omega | exact (sz_i32 _).1, by first | omega | exact (sz_i32 _).2⟩ (fun (c14 : (55203) < (a)) => ?_) (fun (c14 : ¬((55203) < (a))) => ?_)
        · skip
          refine ez_go (n := 3) (pc' := 79) (L' := [(3, .inl (0)), (2, .inl ((a) - (44032))), (0, .inl (a)), (1, .inl (b))]) (st' := [.inl (0)]) rfl ?_
          refine ez_if rfl rfl ⟨by decide, by decide⟩ (fun _ => ?_) (fun (c15 : ¬((0 : Int) = (0))) => absurd c15 (by decide))
          refine ez_go (n := 1) (pc' := 107) (L' := [(3, .inl (0)), (2, .inl ((a) - (44032))), (0, .inl (a)), (1, .inl (b))]) (st' := [.inl (-1)]) rfl ?_
          exact ez_retI rfl rfl (k0 (fun w => by rcases w with w | ⟨⟨w1, w2⟩, w3, w4⟩ <;> omega))
        · skip
          refine ez_go (n := 2) (pc' := 68) (L' := [(2, .inl ((a) - (44032))), (0, .inl (a)), (1, .inl (b))]) (st' := [.inl (28), .inl ((a) - (44032))]) rfl ?_
          refine ez_rem rfl (by omega) (by omega) (by omega) (by omega) ?_
          refine ez_if rfl rfl ⟨by first | omega | exact (sz_i32 _).1, by first | omega | exact (sz_i32 _).2⟩ (fun (c16 : (((a) - (44032)) % (28)) ≠ (0)) => ?_) (fun (c16 : ¬((((a) - (44032)) % (28)) ≠ (0))) => ?_)
          · skip
            refine ez_go (n := 3) (pc' := 79) (L' := [(3, .inl (0)), (2, .inl ((a) - (44032))), (0, .inl (a)), (1, .inl (b))]) (st' := [.inl (0)]) rfl ?_
            refine ez_if rfl rfl ⟨by decide, by decide⟩ (fun _ => ?_) (fun (c17 : ¬((0 : Int) = (0))) => absurd c17 (by decide))
            refine ez_go (n := 1) (pc' := 107) (L' := [(3, .inl (0)), (2, .inl ((a) - (44032))), (0, .inl (a)), (1, .inl (b))]) (st' := [.inl (-1)]) rfl ?_
            exact ez_retI rfl rfl (k0 (fun w => by rcases w with w | ⟨⟨w1, w2⟩, w3, w4⟩ <;> omega))
          · skip
            refine ez_go (n := 4) (pc' := 79) (L' := [(3, .inl (1)), (2, .inl ((a) - (44032))), (0, .inl (a)), (1, .inl (b))]) (st' := [.inl (1)]) rfl ?_
            refine ez_if rfl rfl ⟨by decide, by decide⟩ (fun (c18 : (1 : Int) = (0)) => absurd c18 (by decide)) (fun _ => ?_)
            refine ez_go (n := 2) (pc' := 86) (L' := [(3, .inl (1)), (2, .inl ((a) - (44032))), (0, .inl (a)), (1, .inl (b))]) (st' := [.inl (4520), .inl (b)]) rfl ?_
            refine ez_icmp rfl rfl ⟨by first | omega | exact (sz_i32 _).1, by first | omega | exact (sz_i32 _).2⟩ ⟨by first | omega | exact (sz_i32 _).1, by first | omega | exact (sz_i32 _).2⟩ (fun (c19 : (b) < (4520)) => ?_) (fun (c19 : ¬((b) < (4520))) => ?_)
            · skip
              refine ez_go (n := 1) (pc' := 107) (L' := [(3, .inl (1)), (2, .inl ((a) - (44032))), (0, .inl (a)), (1, .inl (b))]) (st' := [.inl (-1)]) rfl ?_
              exact ez_retI rfl rfl (k0 (fun w => by rcases w with w | ⟨⟨w1, w2⟩, w3, w4⟩ <;> omega))
            · skip
              refine ez_go (n := 2) (pc' := 93) (L' := [(3, .inl (1)), (2, .inl ((a) - (44032))), (0, .inl (a)), (1, .inl (b))]) (st' := [.inl (4546), .inl (b)]) rfl ?_
              refine ez_icmp rfl rfl ⟨by first | omega | exact (sz_i32 _).1, by first | omega | exact (sz_i32 _).2⟩ ⟨by first | omega | exact (sz_i32 _).1, by first | omega | exact (sz_i32 _).2⟩ (fun (c20 : (4546) < (b)) => ?_) (fun (c20 : ¬((4546) < (b))) => ?_)
              · skip
                refine ez_go (n := 1) (pc' := 107) (L' := [(3, .inl (1)), (2, .inl ((a) - (44032))), (0, .inl (a)), (1, .inl (b))]) (st' := [.inl (-1)]) rfl ?_
                exact ez_retI rfl rfl (k0 (fun w => by rcases w with w | ⟨⟨w1, w2⟩, w3, w4⟩ <;> omega))
              · skip
                refine ez_go (n := 6) (pc' := 107) (L' := [(3, .inl (1)), (2, .inl ((a) - (44032))), (0, .inl (a)), (1, .inl (b))]) (st' := [.inl (((a) + (b)) - (4519))]) rfl ?_
                exact ez_retI rfl rfl (k1 _ (by omega) (by omega) (by first | (exact Or.inl ⟨⟨by omega, by omega⟩, by omega, by omega⟩) | (exact Or.inr ⟨⟨by omega, by omega⟩, by omega, by omega, by omega⟩)))
    · skip
      refine ez_go (n := 2) (pc' := 18) (L' := [(0, .inl (a)), (1, .inl (b))]) (st' := [.inl (4449), .inl (b)]) rfl ?_
      refine ez_icmp rfl rfl ⟨by first | omega | exact (sz_i32 _).1, by first | omega | exact (sz_i32 _).2⟩ ⟨by first | omega | exact (sz_i32 _).1, by first | omega | exact (sz_i32 _).2⟩ (fun (c21 : (b) < (4449)) => ?_) (fun (c21 : ¬((b) < (4449))) => ?_)
      · skip
        refine ez_go (n := 1) (pc' := 51) (L' := [(0, .inl (a)), (1, .inl (b))]) (st' := [.inl (a)]) rfl ?_
        refine ez_ldc (44032) rfl rfl rfl ?_
        refine ez_go (n := 3) (pc' := 56) (L' := [(2, .inl ((a) - (44032))), (0, .inl (a)), (1, .inl (b))]) (st' := [.inl ((a) - (44032))]) rfl ?_
        refine ez_if rfl rfl ⟨by first | omega | exact (sz_i32 _).1, by first | omega | exact (sz_i32 _).2⟩ (fun (c22 : ((a) - (44032)) < (0)) => ?_) (fun (c22 : ¬(((a) - (44032)) < (0))) => ?_)
        · skip
          refine ez_go (n := 3) (pc' := 79) (L' := [(3, .inl (0)), (2, .inl ((a) - (44032))), (0, .inl (a)), (1, .inl (b))]) (st' := [.inl (0)]) rfl ?_
          refine ez_if rfl rfl ⟨by decide, by decide⟩ (fun _ => ?_) (fun (c23 : ¬((0 : Int) = (0))) => absurd c23 (by decide))
          refine ez_go (n := 1) (pc' := 107) (L' := [(3, .inl (0)), (2, .inl ((a) - (44032))), (0, .inl (a)), (1, .inl (b))]) (st' := [.inl (-1)]) rfl ?_
          exact ez_retI rfl rfl (k0 (fun w => by rcases w with w | ⟨⟨w1, w2⟩, w3, w4⟩ <;> omega))
        · skip
          refine ez_go (n := 1) (pc' := 60) (L' := [(2, .inl ((a) - (44032))), (0, .inl (a)), (1, .inl (b))]) (st' := [.inl (a)]) rfl ?_
          refine ez_ldc (55203) rfl rfl rfl ?_
          refine ez_icmp rfl rfl ⟨by first | omega | exact (sz_i32 _).1, by first | omega | exact (sz_i32 _).2⟩ ⟨by first | omega | exact (sz_i32 _).1, by first | omega | exact (sz_i32 _).2⟩ (fun (c24 : (55203) < (a)) => ?_) (fun (c24 : ¬((55203) < (a))) => ?_)
          · skip
            refine ez_go (n := 3) (pc' := 79) (L' := [(3, .inl (0)), (2, .inl ((a) - (44032))), (0, .inl (a)), (1, .inl (b))]) (st' := [.inl (0)]) rfl ?_
            refine ez_if rfl rfl ⟨by decide, by decide⟩ (fun _ => ?_) (fun (c25 : ¬((0 : Int) = (0))) => absurd c25 (by decide))
            refine ez_go (n := 1) (pc' := 107) (L' := [(3, .inl (0)), (2, .inl ((a) - (44032))), (0, .inl (a)), (1, .inl (b))]) (st' := [.inl (-1)]) rfl ?_
            exact ez_retI rfl rfl (k0 (fun w => by rcases w with w | ⟨⟨w1, w2⟩, w3, w4⟩ <;> omega))
          · skip
            refine ez_go (n := 2) (pc' := 68) (L' := [(2, .inl ((a) - (44032))), (0, .inl (a)), (1, .inl (b))]) (st' := [.inl (28), .inl ((a) - (44032))]) rfl ?_
            refine ez_rem rfl (by omega) (by omega) (by omega) (by omega) ?_
            refine ez_if rfl rfl ⟨by first | omega | exact (sz_i32 _).1, by first | omega | exact (sz_i32 _).2⟩ (fun (c26 : (((a) - (44032)) % (28)) ≠ (0)) => ?_) (fun (c26 : ¬((((a) - (44032)) % (28)) ≠ (0))) => ?_)
            · skip
              refine ez_go (n := 3) (pc' := 79) (L' := [(3, .inl (0)), (2, .inl ((a) - (44032))), (0, .inl (a)), (1, .inl (b))]) (st' := [.inl (0)]) rfl ?_
              refine ez_if rfl rfl ⟨by decide, by decide⟩ (fun _ => ?_) (fun (c27 : ¬((0 : Int) = (0))) => absurd c27 (by decide))
              refine ez_go (n := 1) (pc' := 107) (L' := [(3, .inl (0)), (2, .inl ((a) - (44032))), (0, .inl (a)), (1, .inl (b))]) (st' := [.inl (-1)]) rfl ?_
              exact ez_retI rfl rfl (k0 (fun w => by rcases w with w | ⟨⟨w1, w2⟩, w3, w4⟩ <;> omega))
            · skip
              refine ez_go (n := 4) (pc' := 79) (L' := [(3, .inl (1)), (2, .inl ((a) - (44032))), (0, .inl (a)), (1, .inl (b))]) (st' := [.inl (1)]) rfl ?_
              refine ez_if rfl rfl ⟨by decide, by decide⟩ (fun (c28 : (1 : Int) = (0)) => absurd c28 (by decide)) (fun _ => ?_)
              refine ez_go (n := 2) (pc' := 86) (L' := [(3, .inl (1)), (2, .inl ((a) - (44032))), (0, .inl (a)), (1, .inl (b))]) (st' := [.inl (4520), .inl (b)]) rfl ?_
              refine ez_icmp rfl rfl ⟨by first | omega | exact (sz_i32 _).1, by first | omega | exact (sz_i32 _).2⟩ ⟨by first | omega | exact (sz_i32 _).1, by first | omega | exact (sz_i32 _).2⟩ (fun (c29 : (b) < (4520)) => ?_) (fun (c29 : ¬((b) < (4520))) => ?_)
              · skip
                refine ez_go (n := 1) (pc' := 107) (L' := [(3, .inl (1)), (2, .inl ((a) - (44032))), (0, .inl (a)), (1, .inl (b))]) (st' := [.inl (-1)]) rfl ?_
                exact ez_retI rfl rfl (k0 (fun w => by rcases w with w | ⟨⟨w1, w2⟩, w3, w4⟩ <;> omega))
              · skip
                refine ez_go (n := 2) (pc' := 93) (L' := [(3, .inl (1)), (2, .inl ((a) - (44032))), (0, .inl (a)), (1, .inl (b))]) (st' := [.inl (4546), .inl (b)]) rfl ?_
                refine ez_icmp rfl rfl ⟨by first | omega | exact (sz_i32 _).1, by first | omega | exact (sz_i32 _).2⟩ ⟨by first | omega | exact (sz_i32 _).1, by first | omega | exact (sz_i32 _).2⟩ (fun (c30 : (4546) < (b)) => ?_) (fun (c30 : ¬((4546) < (b))) => ?_)
                · skip
                  refine ez_go (n := 1) (pc' := 107) (L' := [(3, .inl (1)), (2, .inl ((a) - (44032))), (0, .inl (a)), (1, .inl (b))]) (st' := [.inl (-1)]) rfl ?_
                  exact ez_retI rfl rfl (k0 (fun w => by rcases w with w | ⟨⟨w1, w2⟩, w3, w4⟩ <;> omega))
                · skip
                  refine ez_go (n := 6) (pc' := 107) (L' := [(3, .inl (1)), (2, .inl ((a) - (44032))), (0, .inl (a)), (1, .inl (b))]) (st' := [.inl (((a) + (b)) - (4519))]) rfl ?_
                  exact ez_retI rfl rfl (k1 _ (by omega) (by omega) (by first | (exact Or.inl ⟨⟨by omega, by omega⟩, by omega, by omega⟩) | (exact Or.inr ⟨⟨by omega, by omega⟩, by omega, by omega, by omega⟩)))
      · skip
        refine ez_go (n := 2) (pc' := 25) (L' := [(0, .inl (a)), (1, .inl (b))]) (st' := [.inl (4469), .inl (b)]) rfl ?_
        refine ez_icmp rfl rfl ⟨by first | omega | exact (sz_i32 _).1, by first | omega | exact (sz_i32 _).2⟩ ⟨by first | omega | exact (sz_i32 _).1, by first | omega | exact (sz_i32 _).2⟩ (fun (c31 : (4469) < (b)) => ?_) (fun (c31 : ¬((4469) < (b))) => ?_)
        · skip
          refine ez_go (n := 1) (pc' := 51) (L' := [(0, .inl (a)), (1, .inl (b))]) (st' := [.inl (a)]) rfl ?_
          refine ez_ldc (44032) rfl rfl rfl ?_
          refine ez_go (n := 3) (pc' := 56) (L' := [(2, .inl ((a) - (44032))), (0, .inl (a)), (1, .inl (b))]) (st' := [.inl ((a) - (44032))]) rfl ?_
          refine ez_if rfl rfl ⟨by first | omega | exact (sz_i32 _).1, by first | omega | exact (sz_i32 _).2⟩ (fun (c32 : ((a) - (44032)) < (0)) => ?_) (fun (c32 : ¬(((a) - (44032)) < (0))) => ?_)
          · skip
            refine ez_go (n := 3) (pc' := 79) (L' := [(3, .inl (0)), (2, .inl ((a) - (44032))), (0, .inl (a)), (1, .inl (b))]) (st' := [.inl (0)]) rfl ?_
            refine ez_if rfl rfl ⟨by decide, by decide⟩ (fun _ => ?_) (fun (c33 : ¬((0 : Int) = (0))) => absurd c33 (by decide))
            refine ez_go (n := 1) (pc' := 107) (L' := [(3, .inl (0)), (2, .inl ((a) - (44032))), (0, .inl (a)), (1, .inl (b))]) (st' := [.inl (-1)]) rfl ?_
            exact ez_retI rfl rfl (k0 (fun w => by rcases w with w | ⟨⟨w1, w2⟩, w3, w4⟩ <;> omega))
          · skip
            refine ez_go (n := 1) (pc' := 60) (L' := [(2, .inl ((a) - (44032))), (0, .inl (a)), (1, .inl (b))]) (st' := [.inl (a)]) rfl ?_
            refine ez_ldc (55203) rfl rfl rfl ?_
            refine ez_icmp rfl rfl ⟨by first | omega | exact (sz_i32 _).1, by first | omega | exact (sz_i32 _).2⟩ ⟨by first | omega | exact (sz_i32 _).1, by first | omega | exact (sz_i32 _).2⟩ (fun (c34 : (55203) < (a)) => ?_) (fun (c34 : ¬((55203) < (a))) => ?_)
            · skip
              refine ez_go (n := 3) (pc' := 79) (L' := [(3, .inl (0)), (2, .inl ((a) - (44032))), (0, .inl (a)), (1, .inl (b))]) (st' := [.inl (0)]) rfl ?_
              refine ez_if rfl rfl ⟨by decide, by decide⟩ (fun _ => ?_) (fun (c35 : ¬((0 : Int) = (0))) => absurd c35 (by decide))
              refine ez_go (n := 1) (pc' := 107) (L' := [(3, .inl (0)), (2, .inl ((a) - (44032))), (0, .inl (a)), (1, .inl (b))]) (st' := [.inl (-1)]) rfl ?_
              exact ez_retI rfl rfl (k0 (fun w => by rcases w with w | ⟨⟨w1, w2⟩, w3, w4⟩ <;> omega))
            · skip
              refine ez_go (n := 2) (pc' := 68) (L' := [(2, .inl ((a) - (44032))), (0, .inl (a)), (1, .inl (b))]) (st' := [.inl (28), .inl ((a) - (44032))]) rfl ?_
              refine ez_rem rfl (by omega) (by omega) (by omega) (by omega) ?_
              refine ez_if rfl rfl ⟨by first | omega | exact (sz_i32 _).1, by first | omega | exact (sz_i32 _).2⟩ (fun (c36 : (((a) - (44032)) % (28)) ≠ (0)) => ?_) (fun (c36 : ¬((((a) - (44032)) % (28)) ≠ (0))) => ?_)
              · skip
                refine ez_go (n := 3) (pc' := 79) (L' := [(3, .inl (0)), (2, .inl ((a) - (44032))), (0, .inl (a)), (1, .inl (b))]) (st' := [.inl (0)]) rfl ?_
                refine ez_if rfl rfl ⟨by decide, by decide⟩ (fun _ => ?_) (fun (c37 : ¬((0 : Int) = (0))) => absurd c37 (by decide))
                refine ez_go (n := 1) (pc' := 107) (L' := [(3, .inl (0)), (2, .inl ((a) - (44032))), (0, .inl (a)), (1, .inl (b))]) (st' := [.inl (-1)]) rfl ?_
                exact ez_retI rfl rfl (k0 (fun w => by rcases w with w | ⟨⟨w1, w2⟩, w3, w4⟩ <;> omega))
              · skip
                refine ez_go (n := 4) (pc' := 79) (L' := [(3, .inl (1)), (2, .inl ((a) - (44032))), (0, .inl (a)), (1, .inl (b))]) (st' := [.inl (1)]) rfl ?_
                refine ez_if rfl rfl ⟨by decide, by decide⟩ (fun (c38 : (1 : Int) = (0)) => absurd c38 (by decide)) (fun _ => ?_)
                refine ez_go (n := 2) (pc' := 86) (L' := [(3, .inl (1)), (2, .inl ((a) - (44032))), (0, .inl (a)), (1, .inl (b))]) (st' := [.inl (4520), .inl (b)]) rfl ?_
                refine ez_icmp rfl rfl ⟨by first | omega | exact (sz_i32 _).1, by first | omega | exact (sz_i32 _).2⟩ ⟨by first | omega | exact (sz_i32 _).1, by first | omega | exact (sz_i32 _).2⟩ (fun (c39 : (b) < (4520)) => ?_) (fun (c39 : ¬((b) < (4520))) => ?_)
                · skip
                  refine ez_go (n := 1) (pc' := 107) (L' := [(3, .inl (1)), (2, .inl ((a) - (44032))), (0, .inl (a)), (1, .inl (b))]) (st' := [.inl (-1)]) rfl ?_
                  exact ez_retI rfl rfl (k0 (fun w => by rcases w with w | ⟨⟨w1, w2⟩, w3, w4⟩ <;> omega))
                · skip
                  refine ez_go (n := 2) (pc' := 93) (L' := [(3, .inl (1)), (2, .inl ((a) - (44032))), (0, .inl (a)), (1, .inl (b))]) (st' := [.inl (4546), .inl (b)]) rfl ?_
                  refine ez_icmp rfl rfl ⟨by first | omega | exact (sz_i32 _).1, by first | omega | exact (sz_i32 _).2⟩ ⟨by first | omega | exact (sz_i32 _).1, by first | omega | exact (sz_i32 _).2⟩ (fun (c40 : (4546) < (b)) => ?_) (fun (c40 : ¬((4546) < (b))) => ?_)
                  · skip
                    refine ez_go (n := 1) (pc' := 107) (L' := [(3, .inl (1)), (2, .inl ((a) - (44032))), (0, .inl (a)), (1, .inl (b))]) (st' := [.inl (-1)]) rfl ?_
                    exact ez_retI rfl rfl (k0 (fun w => by rcases w with w | ⟨⟨w1, w2⟩, w3, w4⟩ <;> omega))
                  · skip
                    refine ez_go (n := 6) (pc' := 107) (L' := [(3, .inl (1)), (2, .inl ((a) - (44032))), (0, .inl (a)), (1, .inl (b))]) (st' := [.inl (((a) + (b)) - (4519))]) rfl ?_
                    exact ez_retI rfl rfl (k1 _ (by omega) (by omega) (by first | (exact Or.inl ⟨⟨by omega, by omega⟩, by omega, by omega⟩) | (exact Or.inr ⟨⟨by omega, by omega⟩, by omega, by omega, by omega⟩)))
        · skip
          refine ez_ldc (44032) rfl rfl rfl ?_
          refine ez_go (n := 12) (pc' := 49) (L' := [(0, .inl (a)), (1, .inl (b))]) (st' := [.inl (((44032) + (((a) - (4352)) * (588))) + (((b) - (4449)) * (28)))]) rfl ?_
          exact ez_retI rfl rfl (k1 _ (by omega) (by omega) (by first | (exact Or.inl ⟨⟨by omega, by omega⟩, by omega, by omega⟩) | (exact Or.inr ⟨⟨by omega, by omega⟩, by omega, by omega, by omega⟩)))

theorem rd_packPair {a b : Int} (a0 : 0 ≤ a) (a1 : a ≤ 1114111) (b0 : 0 ≤ b) (b1 : b ≤ 1114111) (k : ∀ y : Int64, y.toInt = a * 2097152 + b → Q (.inl (some (.inr (.inl y))), h)) : ez_W d cm_124 0 [(0, .inl (a)), (1, .inl (b))] [] h Q := by
  refine ez_go (n := 7) (pc' := 8) (L' := [(0, .inl (a)), (1, .inl (b))]) (st' := [.inr (.inl ((((Int32.ofInt (a)).toInt64) <<< ((Int32.ofInt (21)).toInt64 &&& 63)) ||| ((Int32.ofInt (b)).toInt64)))]) rfl ?_
  exact ez_retL rfl rfl (k _ (pp_int a0 a1 b0 b1))

end EzPr
/-! The class: insertPair, gatherPairs. (Written by wip/p2/py/pv35.py.) -/
/-- n numbers that rise -/
def ri (P : Int → Int) (n : Int) : Prop := ∀ i j, 0 ≤ i → i < j → j < n → P i < P j
theorem ri_ins {P P2 : Int → Int} {n pl v : Int} (hr : ri P n) (p0 : 0 ≤ pl) (p1 : pl ≤ n) (h1 : pl = 0 ∨ P (pl - 1) < v) (h2 : pl = n ∨ v < P pl) (h3 : ∀ k, 0 ≤ k → k ≤ n → P2 k = if k = pl then v else if pl < k then P (k - 1) else P k) : ri P2 (n + 1) ∧ ∀ y, (∃ j, 0 ≤ j ∧ j < n + 1 ∧ P2 j = y) ↔ (y = v ∨ ∃ j, 0 ≤ j ∧ j < n ∧ P j = y) := by
  have lo : ∀ k, 0 ≤ k → k < pl → P k < v := fun k k0 k1 => by
    rcases h1 with e | e
    · omega
    · by_cases e2 : k = pl - 1
      · rw [e2]; exact e
      · have := hr k (pl - 1) k0 (by omega) (by omega); omega
  have hi : ∀ k, pl ≤ k → k < n → v < P k := fun k k0 k1 => by
    rcases h2 with e | e
    · omega
    · by_cases e2 : k = pl
      · rw [e2]; exact e
      · have := hr pl k p0 (by omega) k1; omega
  refine ⟨fun i j i0 ij jn => ?_, fun y => ⟨fun ⟨j, j0, j1, e⟩ => ?_, fun w => ?_⟩⟩
  · rw [h3 i i0 (by omega), h3 j (by omega) (by omega)]
    by_cases a : i = pl
    · rw [if_pos a, if_neg (by omega), if_pos (by omega)]
      exact hi _ (by omega) (by omega)
    · rw [if_neg a]
      by_cases b : j = pl
      · rw [if_pos b, if_neg (by omega)]; exact lo i i0 (by omega)
      · rw [if_neg b]
        by_cases c : pl < i
        · rw [if_pos c, if_pos (by omega)]; exact hr _ _ (by omega) (by omega) (by omega)
        · rw [if_neg c]
          by_cases c2 : pl < j
          · rw [if_pos c2]
            by_cases c3 : i < j - 1
            · exact hr _ _ i0 c3 (by omega)
            · omega
          · rw [if_neg c2]; exact hr _ _ i0 ij (by omega)
  · rw [h3 j j0 (by omega)] at e
    by_cases a : j = pl
    · rw [if_pos a] at e; exact Or.inl e.symm
    · rw [if_neg a] at e
      by_cases b : pl < j
      · rw [if_pos b] at e; exact Or.inr ⟨j - 1, by omega, by omega, e⟩
      · rw [if_neg b] at e; exact Or.inr ⟨j, j0, by omega, e⟩
  · rcases w with w | ⟨j, j0, j1, e⟩
    · exact ⟨pl, p0, by omega, by rw [h3 pl p0 p1, if_pos rfl]; exact w.symm⟩
    · by_cases a : j < pl
      · exact ⟨j, j0, by omega, by rw [h3 j j0 (by omega), if_neg (by omega), if_neg (by omega)]; exact e⟩
      · exact ⟨j + 1, by omega, by omega, by rw [h3 (j + 1) (by omega) (by omega), if_neg (by omega), if_pos (by omega), show j + 1 - 1 = j by omega]; exact e⟩
/-- the numbers of the pairs -/
def pp (g : cz_H) (k : Int) : Int := qz_I g 727 k.toNat
def nz_PG (q : Nat) : Bool := Nat.beq q 723 || (Nat.beq q 727 || Nat.beq q 728)
section EzIp
variable {d : Nat} {h : cz_H} {τ : Nat → Nat} {Q : cz_F → Prop} {T : Int → Nat} {F : rz_W} {E : Int → Prop}
theorem rd_ins_e {a b x n pl : Int} {y : Int64} {g : cz_H} (t723 : τ 723 = 55) (t727 : τ 727 = 59) (t728 : τ 728 = 60) (n1 : n < 256) (p0 : 0 ≤ pl) (p1 : pl ≤ n) (x0 : 0 ≤ x) (x1 : x ≤ 1114111) (kk : ∀ g, ez_B τ g → ez_fr nz_PG h g → (∀ j, j ≠ 8 → qz_I g 723 j = qz_I h 723 j) → qz_I g 723 8 = n + 1 → (∀ k, 0 ≤ k → k ≤ n → pp g k = if k = pl then y.toInt else if pl < k then pp h (k - 1) else pp h k) → Q (.inl (some (ez_v (.inl 1))), g)) (hB : ez_B τ g) (hf : ez_fr nz_PG h g) (hj0 : ∀ j, j ≠ 8 → qz_I g 723 j = qz_I h 723 j) (hc : qz_I g 723 8 = n) (hv : ∀ k, 0 ≤ k → k ≤ n → qz_I g 727 k.toNat = if pl < k then pp h (k - 1) else pp h k) : ez_W d cm_121 128 [(8, .inl (pl)), (7, .inl (0)), (6, .inl (pl)), (4, .inr (.inl (y))), (0, .inr (.inr (some (723)))), (1, .inl (a)), (2, .inl (b)), (3, .inl (x))] [] g Q := by
  refine ez_go (n := 1) (pc' := 129) (L' := [(8, .inl (pl)), (7, .inl (0)), (6, .inl (pl)), (4, .inr (.inl (y))), (0, .inr (.inr (some (723)))), (1, .inl (a)), (2, .inl (b)), (3, .inl (x))]) (st' := [.inr (.inr (some (723)))]) rfl ?_
  refine ez_gC (p := 727) (tg := 59) hB t723 rfl rfl tq_55 rfl rfl (fun (t727 : _ = 59) => ?_)
  refine ez_go (n := 2) (pc' := 136) (L' := [(8, .inl (pl)), (7, .inl (0)), (6, .inl (pl)), (4, .inr (.inl (y))), (0, .inr (.inr (some (723)))), (1, .inl (a)), (2, .inl (b)), (3, .inl (x))]) (st' := [.inr (.inl (y)), .inl (pl), .inr (.inr (some (727)))]) rfl ?_
  have n3 : 256 ≤ qz_N g 727 ∧ qz_N g 727 ≤ 256 := ez_len hB t727 tq_59 rfl
  refine ez_as hB t727 rfl tq_59 rfl rfl (by omega) (by omega) ez_vdJ (fun hB1 w2 => ?_)
  refine ez_go (n := 1) (pc' := 138) (L' := [(8, .inl (pl)), (7, .inl (0)), (6, .inl (pl)), (4, .inr (.inl (y))), (0, .inr (.inr (some (723)))), (1, .inl (a)), (2, .inl (b)), (3, .inl (x))]) (st' := [.inr (.inr (some (723)))]) rfl ?_
  refine ez_gC (p := 728) (tg := 60) hB1 t723 rfl rfl tq_55 rfl rfl (fun (t728 : _ = 60) => ?_)
  refine ez_go (n := 2) (pc' := 144) (L' := [(8, .inl (pl)), (7, .inl (0)), (6, .inl (pl)), (4, .inr (.inl (y))), (0, .inr (.inr (some (723)))), (1, .inl (a)), (2, .inl (b)), (3, .inl (x))]) (st' := [.inl (x), .inl (pl), .inr (.inr (some (728)))]) rfl ?_
  have n6 : 256 ≤ qz_N (dz_put g 727 (pl).toNat (ez_v (.inr (.inl (y))))) 728 ∧ qz_N (dz_put g 727 (pl).toNat (ez_v (.inr (.inl (y))))) 728 ≤ 256 := ez_len hB1 t728 tq_60 rfl
  refine ez_as hB1 t728 rfl tq_60 rfl rfl (by omega) (by omega) (ez_vdI rfl rfl (by omega) (by omega)) (fun hB4 w5 => ?_)
  refine ez_go (n := 2) (pc' := 147) (L' := [(8, .inl (pl)), (7, .inl (0)), (6, .inl (pl)), (4, .inr (.inl (y))), (0, .inr (.inr (some (723)))), (1, .inl (a)), (2, .inl (b)), (3, .inl (x))]) (st' := [.inr (.inr (some (723))), .inr (.inr (some (723)))]) rfl ?_
  refine ez_gI hB4 t723 rfl rfl tq_55 rfl rfl (fun (b7 : 0 ≤ qz_I (dz_put (dz_put g 727 (pl).toNat (ez_v (.inr (.inl (y))))) 728 (pl).toNat (ez_v (.inl (x)))) 723 8) (b7' : qz_I (dz_put (dz_put g 727 (pl).toNat (ez_v (.inr (.inl (y))))) 728 (pl).toNat (ez_v (.inl (x)))) 723 8 ≤ 256) => ?_)
  have hcn : qz_I (dz_put (dz_put g 727 (pl).toNat (ez_v (.inr (.inl (y))))) 728 (pl).toNat (ez_v (.inl (x)))) 723 8 = n := by rw [ez_put_I (by omega), ez_put_I (by omega)]; exact hc
  refine ez_go (n := 2) (pc' := 152) (L' := [(8, .inl (pl)), (7, .inl (0)), (6, .inl (pl)), (4, .inr (.inl (y))), (0, .inr (.inr (some (723)))), (1, .inl (a)), (2, .inl (b)), (3, .inl (x))]) (st' := [.inl ((qz_I (dz_put (dz_put g 727 (pl).toNat (ez_v (.inr (.inl (y))))) 728 (pl).toNat (ez_v (.inl (x)))) 723 8) + (1)), .inr (.inr (some (723)))]) rfl ?_
  refine ez_pf hB4 t723 rfl rfl tq_55 rfl rfl rfl rfl (ez_vdI rfl rfl (by omega) (by omega)) (fun hB8 w9 => ?_)
  refine ez_go (n := 1) (pc' := 156) (L' := [(8, .inl (pl)), (7, .inl (0)), (6, .inl (pl)), (4, .inr (.inl (y))), (0, .inr (.inr (some (723)))), (1, .inl (a)), (2, .inl (b)), (3, .inl (x))]) (st' := [.inl (1)]) rfl ?_
  refine ez_retZ rfl rfl (by decide) (kk _ hB8 (((hf.put (show nz_PG 727 = true from rfl) _ _).put (show nz_PG 728 = true from rfl) _ _).put (show nz_PG 723 = true from rfl) _ _) (fun j hj => by rw [ez_put_I (fun w => hj w.2), ez_put_I (by omega), ez_put_I (by omega)]; exact hj0 j hj) (by rw [w9, rz_rd ⟨by omega, by omega⟩, hcn]) (fun k k0 k1 => ?_))
  unfold pp
  rw [ez_put_I (by omega), ez_put_I (by omega)]
  by_cases e : k = pl
  · rw [if_pos e, e, w2]; rfl
  · rw [if_neg e, ez_put_I (by omega)]; exact hv k k0 k1

theorem rd_ins_l {a b x n pl : Int} {y : Int64} (t723 : τ 723 = 55) (t727 : τ 727 = 59) (t728 : τ 728 = 60) (n1 : n < 256) (p0 : 0 ≤ pl) (p1 : pl ≤ n) (x0 : 0 ≤ x) (x1 : x ≤ 1114111) (kk : ∀ g, ez_B τ g → ez_fr nz_PG h g → (∀ j, j ≠ 8 → qz_I g 723 j = qz_I h 723 j) → qz_I g 723 8 = n + 1 → (∀ k, 0 ≤ k → k ≤ n → pp g k = if k = pl then y.toInt else if pl < k then pp h (k - 1) else pp h k) → Q (.inl (some (ez_v (.inl 1))), g)) : ∀ (m : Nat) (i : Int) (g : cz_H), m = (i - pl).toNat → pl ≤ i → i ≤ n → ez_B τ g → ez_fr nz_PG h g → (∀ j, j ≠ 8 → qz_I g 723 j = qz_I h 723 j) → qz_I g 723 8 = n → (∀ k, 0 ≤ k → k ≤ n → qz_I g 727 k.toNat = if i < k then pp h (k - 1) else pp h k) → ez_W d cm_121 83 [(8, .inl (i)), (7, .inl (0)), (6, .inl (pl)), (4, .inr (.inl (y))), (0, .inr (.inr (some (723)))), (1, .inl (a)), (2, .inl (b)), (3, .inl (x))] [] g Q := by
  intro m
  induction m with
  | zero =>
    intro i g hm a1 a2 hB hf hj0 hc hv
    refine ez_go (n := 2) (pc' := 87) (L' := [(8, .inl (i)), (7, .inl (0)), (6, .inl (pl)), (4, .inr (.inl (y))), (0, .inr (.inr (some (723)))), (1, .inl (a)), (2, .inl (b)), (3, .inl (x))]) (st' := [.inl (pl), .inl (i)]) rfl ?_
    refine ez_icmp rfl rfl ⟨by first | omega | exact (sz_i32 _).1, by first | omega | exact (sz_i32 _).2⟩ ⟨by first | omega | exact (sz_i32 _).1, by first | omega | exact (sz_i32 _).2⟩ (fun (c1 : (i) ≤ (pl)) => ?_) (fun (c1 : ¬((i) ≤ (pl))) => ?_)
    · skip
      have e9 : i = pl := by omega
      subst e9
      exact rd_ins_e t723 t727 t728 n1 p0 p1 x0 x1 kk hB hf hj0 hc hv
    · exfalso; omega
  | succ m ih =>
    intro i g hm a1 a2 hB hf hj0 hc hv
    refine ez_go (n := 2) (pc' := 87) (L' := [(8, .inl (i)), (7, .inl (0)), (6, .inl (pl)), (4, .inr (.inl (y))), (0, .inr (.inr (some (723)))), (1, .inl (a)), (2, .inl (b)), (3, .inl (x))]) (st' := [.inl (pl), .inl (i)]) rfl ?_
    refine ez_icmp rfl rfl ⟨by first | omega | exact (sz_i32 _).1, by first | omega | exact (sz_i32 _).2⟩ ⟨by first | omega | exact (sz_i32 _).1, by first | omega | exact (sz_i32 _).2⟩ (fun (c1 : (i) ≤ (pl)) => ?_) (fun (c1 : ¬((i) ≤ (pl))) => ?_)
    · exfalso; omega
    · skip
      refine ez_go (n := 1) (pc' := 91) (L' := [(8, .inl (i)), (7, .inl (0)), (6, .inl (pl)), (4, .inr (.inl (y))), (0, .inr (.inr (some (723)))), (1, .inl (a)), (2, .inl (b)), (3, .inl (x))]) (st' := [.inr (.inr (some (723)))]) rfl ?_
      refine ez_gC (p := 727) (tg := 59) hB t723 rfl rfl tq_55 rfl rfl (fun (t727 : _ = 59) => ?_)
      refine ez_go (n := 2) (pc' := 97) (L' := [(8, .inl (i)), (7, .inl (0)), (6, .inl (pl)), (4, .inr (.inl (y))), (0, .inr (.inr (some (723)))), (1, .inl (a)), (2, .inl (b)), (3, .inl (x))]) (st' := [.inr (.inr (some (723))), .inl (i), .inr (.inr (some (727)))]) rfl ?_
      refine ez_gC (p := 727) (tg := 59) hB t723 rfl rfl tq_55 rfl rfl (fun (t727 : _ = 59) => ?_)
      refine ez_go (n := 3) (pc' := 104) (L' := [(8, .inl (i)), (7, .inl (0)), (6, .inl (pl)), (4, .inr (.inl (y))), (0, .inr (.inr (some (723)))), (1, .inl (a)), (2, .inl (b)), (3, .inl (x))]) (st' := [.inl ((i) - (1)), .inr (.inr (some (727))), .inl (i), .inr (.inr (some (727)))]) rfl ?_
      have n2 : 256 ≤ qz_N g 727 ∧ qz_N g 727 ≤ 256 := ez_len hB t727 tq_59 rfl
      refine ez_aL hB t727 rfl tq_59 rfl rfl (by omega) (by omega) ?_
      have n5 : 256 ≤ qz_N g 727 ∧ qz_N g 727 ≤ 256 := ez_len hB t727 tq_59 rfl
      refine ez_as hB t727 rfl tq_59 rfl rfl (by omega) (by omega) ez_vdJ (fun hB3 w4 => ?_)
      refine ez_go (n := 1) (pc' := 107) (L' := [(8, .inl (i)), (7, .inl (0)), (6, .inl (pl)), (4, .inr (.inl (y))), (0, .inr (.inr (some (723)))), (1, .inl (a)), (2, .inl (b)), (3, .inl (x))]) (st' := [.inr (.inr (some (723)))]) rfl ?_
      refine ez_gC (p := 728) (tg := 60) hB3 t723 rfl rfl tq_55 rfl rfl (fun (t728 : _ = 60) => ?_)
      refine ez_go (n := 2) (pc' := 113) (L' := [(8, .inl (i)), (7, .inl (0)), (6, .inl (pl)), (4, .inr (.inl (y))), (0, .inr (.inr (some (723)))), (1, .inl (a)), (2, .inl (b)), (3, .inl (x))]) (st' := [.inr (.inr (some (723))), .inl (i), .inr (.inr (some (728)))]) rfl ?_
      refine ez_gC (p := 728) (tg := 60) hB3 t723 rfl rfl tq_55 rfl rfl (fun (t728 : _ = 60) => ?_)
      refine ez_go (n := 3) (pc' := 120) (L' := [(8, .inl (i)), (7, .inl (0)), (6, .inl (pl)), (4, .inr (.inl (y))), (0, .inr (.inr (some (723)))), (1, .inl (a)), (2, .inl (b)), (3, .inl (x))]) (st' := [.inl ((i) - (1)), .inr (.inr (some (728))), .inl (i), .inr (.inr (some (728)))]) rfl ?_
      have n7 : 256 ≤ qz_N (dz_put g 727 (i).toNat (ez_v (.inr (.inl (Int64.ofInt (qz_I g 727 ((i) - (1)).toNat)))))) 728 ∧ qz_N (dz_put g 727 (i).toNat (ez_v (.inr (.inl (Int64.ofInt (qz_I g 727 ((i) - (1)).toNat)))))) 728 ≤ 256 := ez_len hB3 t728 tq_60 rfl
      refine ez_aI hB3 t728 rfl tq_60 rfl rfl (by omega) (by omega) (fun (b6 : -2147483648 ≤ qz_I (dz_put g 727 (i).toNat (ez_v (.inr (.inl (Int64.ofInt (qz_I g 727 ((i) - (1)).toNat)))))) 728 ((i) - (1)).toNat) (b6' : qz_I (dz_put g 727 (i).toNat (ez_v (.inr (.inl (Int64.ofInt (qz_I g 727 ((i) - (1)).toNat)))))) 728 ((i) - (1)).toNat ≤ 2147483647) => ?_)
      have n10 : 256 ≤ qz_N (dz_put g 727 (i).toNat (ez_v (.inr (.inl (Int64.ofInt (qz_I g 727 ((i) - (1)).toNat)))))) 728 ∧ qz_N (dz_put g 727 (i).toNat (ez_v (.inr (.inl (Int64.ofInt (qz_I g 727 ((i) - (1)).toNat)))))) 728 ≤ 256 := ez_len hB3 t728 tq_60 rfl
      refine ez_as hB3 t728 rfl tq_60 rfl rfl (by omega) (by omega) (ez_vdI rfl rfl (by omega) (by omega)) (fun hB8 w9 => ?_)
      refine ez_go (n := 2) (pc' := 83) (L' := [(8, .inl (i + (-1))), (7, .inl (0)), (6, .inl (pl)), (4, .inr (.inl (y))), (0, .inr (.inr (some (723)))), (1, .inl (a)), (2, .inl (b)), (3, .inl (x))]) (st' := []) rfl ?_
      refine ez_less [(8, .inl (i + (-1))), (7, .inl (0)), (6, .inl (pl)), (4, .inr (.inl (y))), (0, .inr (.inr (some (723)))), (1, .inl (a)), (2, .inl (b)), (3, .inl (x))] rfl ⟨rfl, rfl, rfl, rfl, rfl, rfl, rfl, rfl, trivial⟩ ?_
      have rd := ez_lrg (i := i - 1) hB t727 tq_59 rfl rfl (by omega) (by omega)
      refine ih _ _ (by omega) (by omega) (by omega) hB8 ((hf.put (show nz_PG 727 = true from rfl) _ _).put (show nz_PG 728 = true from rfl) _ _) (fun j hj => by rw [ez_put_I (by omega), ez_put_I (by omega)]; exact hj0 j hj) (by rw [ez_put_I (by omega), ez_put_I (by omega)]; exact hc) (fun k k0 k1 => ?_)
      rw [ez_put_I (by omega)]
      by_cases e : k = i
      · rw [e, if_pos (by omega), w4]; show (Int64.ofInt (qz_I g 727 (i - 1).toNat)).toInt = _; rw [rd, hv (i - 1) (by omega) (by omega), if_neg (by omega)]
      · rw [ez_put_I (by omega), hv k k0 k1]
        by_cases e2 : i < k
        · rw [if_pos e2, if_pos (by omega)]
        · rw [if_neg e2, if_neg (by omega)]
theorem rd_insertPair {a b x : Int} (hB : ez_B τ h) (hX : jz_X τ) (ha0 : 0 ≤ a) (ha1 : a ≤ 1114111) (hb0 : 0 ≤ b) (hb1 : b ≤ 1114111) (x0 : 0 ≤ x) (x1 : x ≤ 1114111) (hn : qz_I h 723 8 < 256) (hr : ri (pp h) (qz_I h 723 8)) (k0 : (∃ j, 0 ≤ j ∧ j < qz_I h 723 8 ∧ pp h j = a * 2097152 + b) ∨ hz_pair a b → Q (.inl (some (ez_v (.inl 0))), h)) (k1 : (¬ ∃ j, 0 ≤ j ∧ j < qz_I h 723 8 ∧ pp h j = a * 2097152 + b) → ¬ hz_pair a b → ∀ g, ez_B τ g → ez_fr nz_PG h g → (∀ j, j ≠ 8 → qz_I g 723 j = qz_I h 723 j) → qz_I g 723 8 = qz_I h 723 8 + 1 → ri (pp g) (qz_I h 723 8 + 1) → (∀ z, (∃ j, 0 ≤ j ∧ j < qz_I h 723 8 + 1 ∧ pp g j = z) ↔ (z = a * 2097152 + b ∨ ∃ j, 0 ≤ j ∧ j < qz_I h 723 8 ∧ pp h j = z)) → Q (.inl (some (ez_v (.inl 1))), g)) : ez_W (d + 1) cm_121 0 [(0, .inr (.inr (some (723)))), (1, .inl (a)), (2, .inl (b)), (3, .inl (x))] [] h Q := by
  have t723 : τ 723 = 55 := hX 723 (by decide)
  have t727 : τ 727 = 59 := hX 727 (by decide)
  have t728 : τ 728 = 60 := hX 728 (by decide)
  refine ez_go (n := 2) (pc' := 2) (L' := [(0, .inr (.inr (some (723)))), (1, .inl (a)), (2, .inl (b)), (3, .inl (x))]) (st' := [.inl (b), .inl (a)]) rfl ?_
  refine ez_cs hB.2.1 rfl rfl rfl rfl rfl (rd_packPair ha0 ha1 hb0 hb1 (fun y hy => ez_KL ?_))
  refine ez_go (n := 3) (pc' := 10) (L' := [(4, .inr (.inl (y))), (0, .inr (.inr (some (723)))), (1, .inl (a)), (2, .inl (b)), (3, .inl (x))]) (st' := [.inr (.inr (some (723))), .inr (.inl (y))]) rfl ?_
  refine ez_gC (p := 727) (tg := 59) hB t723 rfl rfl tq_55 rfl rfl (fun (t727 : _ = 59) => ?_)
  refine ez_go (n := 1) (pc' := 14) (L' := [(4, .inr (.inl (y))), (0, .inr (.inr (some (723)))), (1, .inl (a)), (2, .inl (b)), (3, .inl (x))]) (st' := [.inr (.inr (some (723))), .inr (.inr (some (727))), .inr (.inl (y))]) rfl ?_
  refine ez_gI hB t723 rfl rfl tq_55 rfl rfl (fun (b1 : 0 ≤ qz_I h 723 8) (b1' : qz_I h 723 8 ≤ 256) => ?_)
  refine ez_cs hB.2.1 rfl rfl rfl rfl rfl (rd_placeOfP hB t727 (by omega) (by omega) (fun pl p0 p1 q1 q2 => ez_K1 ?_))
  have lr : ∀ k, 0 ≤ k → k < 256 → (Int64.ofInt (qz_I h 727 k.toNat)).toInt = pp h k := fun k k0 k1 => ez_lrg hB t727 tq_59 rfl rfl k0 (by have := ez_len hB t727 tq_59 rfl; have : (256 : Int) ≤ qz_N h 727 := this.1; omega)
  have q1 : pl = 0 ∨ pp h (pl - 1) < y.toInt := by
    by_cases e : pl = 0
    · exact Or.inl e
    · refine Or.inr ?_; have := Int64.lt_iff_toInt_lt.mp (q1.resolve_left e); rw [lr _ (by omega) (by omega)] at this; exact this
  have q2 : pl = qz_I h 723 8 ∨ y.toInt ≤ pp h pl := by
    by_cases e : pl = qz_I h 723 8
    · exact Or.inl e
    · refine Or.inr ?_
      by_cases e3 : y.toInt ≤ pp h pl
      · exact e3
      · exact absurd (Int64.lt_iff_toInt_lt.mpr (by rw [lr _ (by omega) (by omega)]; omega)) (q2.resolve_left e)
  refine ez_go (n := 3) (pc' := 25) (L' := [(6, .inl (pl)), (4, .inr (.inl (y))), (0, .inr (.inr (some (723)))), (1, .inl (a)), (2, .inl (b)), (3, .inl (x))]) (st' := [.inr (.inr (some (723))), .inl (pl)]) rfl ?_
  refine ez_gI hB t723 rfl rfl tq_55 rfl rfl (fun (b2 : 0 ≤ qz_I h 723 8) (b2' : qz_I h 723 8 ≤ 256) => ?_)
  refine ez_icmp rfl rfl ⟨by first | omega | exact (sz_i32 _).1, by first | omega | exact (sz_i32 _).2⟩ ⟨by first | omega | exact (sz_i32 _).1, by first | omega | exact (sz_i32 _).2⟩ (fun (c3 : (qz_I h 723 8) ≤ (pl)) => ?_) (fun (c3 : ¬((qz_I h 723 8) ≤ (pl))) => ?_)
  · skip
    refine ez_go (n := 3) (pc' := 53) (L' := [(7, .inl (0)), (6, .inl (pl)), (4, .inr (.inl (y))), (0, .inr (.inr (some (723)))), (1, .inl (a)), (2, .inl (b)), (3, .inl (x))]) (st' := [.inl (0)]) rfl ?_
    refine ez_if rfl rfl ⟨by decide, by decide⟩ (fun (c4 : (0 : Int) ≠ (0)) => absurd c4 (by decide)) (fun _ => ?_)
    refine ez_go (n := 2) (pc' := 58) (L' := [(7, .inl (0)), (6, .inl (pl)), (4, .inr (.inl (y))), (0, .inr (.inr (some (723)))), (1, .inl (a)), (2, .inl (b)), (3, .inl (x))]) (st' := [.inl (b), .inl (a)]) rfl ?_
    refine ez_cs hB.2.1 rfl rfl rfl rfl rfl (rd_syllableOf ha0 ha1 hb0 hb1 (fun v v0 v1 hpr => ez_K1 ?_) (fun hpr => ez_K1 ?_))
    · skip
      refine ez_go (n := 1) (pc' := 62) (L' := [(7, .inl (0)), (6, .inl (pl)), (4, .inr (.inl (y))), (0, .inr (.inr (some (723)))), (1, .inl (a)), (2, .inl (b)), (3, .inl (x))]) (st' := [.inl (-1), .inl (v)]) rfl ?_
      refine ez_icmp rfl rfl ⟨by first | omega | exact (sz_i32 _).1, by first | omega | exact (sz_i32 _).2⟩ ⟨by first | omega | exact (sz_i32 _).1, by first | omega | exact (sz_i32 _).2⟩ (fun (c5 : (v) ≠ (-1)) => ?_) (fun (c5 : ¬((v) ≠ (-1))) => ?_)
      · skip
        refine ez_go (n := 1) (pc' := 76) (L' := [(7, .inl (0)), (6, .inl (pl)), (4, .inr (.inl (y))), (0, .inr (.inr (some (723)))), (1, .inl (a)), (2, .inl (b)), (3, .inl (x))]) (st' := [.inl (0)]) rfl ?_
        exact ez_retZ rfl rfl (by decide) (k0 (Or.inr hpr))
      · skip
        refine ez_go (n := 1) (pc' := 66) (L' := [(7, .inl (0)), (6, .inl (pl)), (4, .inr (.inl (y))), (0, .inr (.inr (some (723)))), (1, .inl (a)), (2, .inl (b)), (3, .inl (x))]) (st' := [.inr (.inr (some (723)))]) rfl ?_
        refine ez_gI hB t723 rfl rfl tq_55 rfl rfl (fun (b6 : 0 ≤ qz_I h 723 8) (b6' : qz_I h 723 8 ≤ 256) => ?_)
        refine ez_go (n := 1) (pc' := 72) (L' := [(7, .inl (0)), (6, .inl (pl)), (4, .inr (.inl (y))), (0, .inr (.inr (some (723)))), (1, .inl (a)), (2, .inl (b)), (3, .inl (x))]) (st' := [.inl (256), .inl (qz_I h 723 8)]) rfl ?_
        refine ez_icmp rfl rfl ⟨by first | omega | exact (sz_i32 _).1, by first | omega | exact (sz_i32 _).2⟩ ⟨by first | omega | exact (sz_i32 _).1, by first | omega | exact (sz_i32 _).2⟩ (fun (c7 : (qz_I h 723 8) < (256)) => ?_) (fun (c7 : ¬((qz_I h 723 8) < (256))) => ?_)
        · skip
          refine ez_go (n := 1) (pc' := 78) (L' := [(7, .inl (0)), (6, .inl (pl)), (4, .inr (.inl (y))), (0, .inr (.inr (some (723)))), (1, .inl (a)), (2, .inl (b)), (3, .inl (x))]) (st' := [.inr (.inr (some (723)))]) rfl ?_
          refine ez_gI hB t723 rfl rfl tq_55 rfl rfl (fun (b8 : 0 ≤ qz_I h 723 8) (b8' : qz_I h 723 8 ≤ 256) => ?_)
          refine ez_go (n := 1) (pc' := 83) (L' := [(8, .inl (qz_I h 723 8)), (7, .inl (0)), (6, .inl (pl)), (4, .inr (.inl (y))), (0, .inr (.inr (some (723)))), (1, .inl (a)), (2, .inl (b)), (3, .inl (x))]) (st' := []) rfl ?_
          exfalso; omega
        · skip
          refine ez_go (n := 1) (pc' := 76) (L' := [(7, .inl (0)), (6, .inl (pl)), (4, .inr (.inl (y))), (0, .inr (.inr (some (723)))), (1, .inl (a)), (2, .inl (b)), (3, .inl (x))]) (st' := [.inl (0)]) rfl ?_
          exact ez_retZ rfl rfl (by decide) (k0 (Or.inr hpr))
    · skip
      refine ez_go (n := 1) (pc' := 62) (L' := [(7, .inl (0)), (6, .inl (pl)), (4, .inr (.inl (y))), (0, .inr (.inr (some (723)))), (1, .inl (a)), (2, .inl (b)), (3, .inl (x))]) (st' := [.inl (-1), .inl (-1)]) rfl ?_
      refine ez_icmp rfl rfl ⟨by decide, by decide⟩ ⟨by decide, by decide⟩ (fun (c9 : (-1 : Int) ≠ (-1)) => absurd c9 (by decide)) (fun _ => ?_)
      refine ez_go (n := 1) (pc' := 66) (L' := [(7, .inl (0)), (6, .inl (pl)), (4, .inr (.inl (y))), (0, .inr (.inr (some (723)))), (1, .inl (a)), (2, .inl (b)), (3, .inl (x))]) (st' := [.inr (.inr (some (723)))]) rfl ?_
      refine ez_gI hB t723 rfl rfl tq_55 rfl rfl (fun (b10 : 0 ≤ qz_I h 723 8) (b10' : qz_I h 723 8 ≤ 256) => ?_)
      refine ez_go (n := 1) (pc' := 72) (L' := [(7, .inl (0)), (6, .inl (pl)), (4, .inr (.inl (y))), (0, .inr (.inr (some (723)))), (1, .inl (a)), (2, .inl (b)), (3, .inl (x))]) (st' := [.inl (256), .inl (qz_I h 723 8)]) rfl ?_
      refine ez_icmp rfl rfl ⟨by first | omega | exact (sz_i32 _).1, by first | omega | exact (sz_i32 _).2⟩ ⟨by first | omega | exact (sz_i32 _).1, by first | omega | exact (sz_i32 _).2⟩ (fun (c11 : (qz_I h 723 8) < (256)) => ?_) (fun (c11 : ¬((qz_I h 723 8) < (256))) => ?_)
      · skip
        refine ez_go (n := 1) (pc' := 78) (L' := [(7, .inl (0)), (6, .inl (pl)), (4, .inr (.inl (y))), (0, .inr (.inr (some (723)))), (1, .inl (a)), (2, .inl (b)), (3, .inl (x))]) (st' := [.inr (.inr (some (723)))]) rfl ?_
        refine ez_gI hB t723 rfl rfl tq_55 rfl rfl (fun (b12 : 0 ≤ qz_I h 723 8) (b12' : qz_I h 723 8 ≤ 256) => ?_)
        refine ez_go (n := 1) (pc' := 83) (L' := [(8, .inl (qz_I h 723 8)), (7, .inl (0)), (6, .inl (pl)), (4, .inr (.inl (y))), (0, .inr (.inr (some (723)))), (1, .inl (a)), (2, .inl (b)), (3, .inl (x))]) (st' := []) rfl ?_
        refine ez_less [(8, .inl (qz_I h 723 8)), (7, .inl (0)), (6, .inl (pl)), (4, .inr (.inl (y))), (0, .inr (.inr (some (723)))), (1, .inl (a)), (2, .inl (b)), (3, .inl (x))] rfl ⟨rfl, rfl, rfl, rfl, rfl, rfl, rfl, rfl, trivial⟩ ?_
        have q3 : pl = qz_I h 723 8 ∨ y.toInt < pp h pl := by
          by_cases e : pl = qz_I h 723 8
          · exact Or.inl e
          · refine Or.inr ?_
            have e4 := q2.resolve_left e
            have e5 : y.toInt ≠ pp h pl := fun e6 => by
              have e7 : Int64.ofInt (qz_I h 727 pl.toNat) = y := Int64.toInt_inj.mp (by rw [lr pl p0 (by omega)]; exact e6.symm)
              have e8 := (nz_cmp_eq _ _).mpr e7
              first | (exact absurd e8 (by assumption)) | omega
            omega
        refine rd_ins_l t723 t727 t728 (n := qz_I h 723 8) hn p0 p1 x0 x1 (fun g hB2 f2 j2 c2 v2 => ?_) _ _ h rfl (by omega) (by omega) hB (ez_fr.refl _ _) (fun _ _ => rfl) rfl (fun k k0 k1 => by rw [if_neg (by omega)]; rfl)
        obtain ⟨r1, r2⟩ := ri_ins (P := pp h) (P2 := pp g) hr p0 p1 q1 q3 v2
        refine k1 (fun ⟨j, j0, j1, e⟩ => ?_) hpr g hB2 f2 j2 c2 r1 (fun z => by rw [← hy]; exact r2 z)
        rw [← hy] at e
        by_cases e2 : j < pl
        · rcases q1 with w | w
          · omega
          · by_cases e3 : j = pl - 1
            · rw [e3] at e; omega
            · have := hr j (pl - 1) j0 (by omega) (by omega); omega
        · rcases q3 with w | w
          · omega
          · by_cases e3 : j = pl
            · rw [e3] at e; omega
            · have := hr pl j p0 (by omega) j1; omega
      · skip
        refine ez_go (n := 1) (pc' := 76) (L' := [(7, .inl (0)), (6, .inl (pl)), (4, .inr (.inl (y))), (0, .inr (.inr (some (723)))), (1, .inl (a)), (2, .inl (b)), (3, .inl (x))]) (st' := [.inl (0)]) rfl ?_
        exfalso; omega
  · skip
    refine ez_go (n := 1) (pc' := 32) (L' := [(6, .inl (pl)), (4, .inr (.inl (y))), (0, .inr (.inr (some (723)))), (1, .inl (a)), (2, .inl (b)), (3, .inl (x))]) (st' := [.inr (.inr (some (723)))]) rfl ?_
    refine ez_gC (p := 727) (tg := 59) hB t723 rfl rfl tq_55 rfl rfl (fun (t727 : _ = 59) => ?_)
    refine ez_go (n := 1) (pc' := 37) (L' := [(6, .inl (pl)), (4, .inr (.inl (y))), (0, .inr (.inr (some (723)))), (1, .inl (a)), (2, .inl (b)), (3, .inl (x))]) (st' := [.inl (pl), .inr (.inr (some (727)))]) rfl ?_
    have n13 : 256 ≤ qz_N h 727 ∧ qz_N h 727 ≤ 256 := ez_len hB t727 tq_59 rfl
    refine ez_aL hB t727 rfl tq_59 rfl rfl (by omega) (by omega) ?_
    refine ez_go (n := 2) (pc' := 41) (L' := [(6, .inl (pl)), (4, .inr (.inl (y))), (0, .inr (.inr (some (723)))), (1, .inl (a)), (2, .inl (b)), (3, .inl (x))]) (st' := [.inl ((lg_cmp (Int64.ofInt (qz_I h 727 (pl).toNat)) (y)).toInt)]) rfl ?_
    refine ez_if rfl rfl ⟨by first | omega | exact (sz_i32 _).1, by first | omega | exact (sz_i32 _).2⟩ (fun (c14 : ((lg_cmp (Int64.ofInt (qz_I h 727 (pl).toNat)) (y)).toInt) ≠ (0)) => ?_) (fun (c14 : ¬(((lg_cmp (Int64.ofInt (qz_I h 727 (pl).toNat)) (y)).toInt) ≠ (0))) => ?_)
    · skip
      refine ez_go (n := 3) (pc' := 53) (L' := [(7, .inl (0)), (6, .inl (pl)), (4, .inr (.inl (y))), (0, .inr (.inr (some (723)))), (1, .inl (a)), (2, .inl (b)), (3, .inl (x))]) (st' := [.inl (0)]) rfl ?_
      refine ez_if rfl rfl ⟨by decide, by decide⟩ (fun (c15 : (0 : Int) ≠ (0)) => absurd c15 (by decide)) (fun _ => ?_)
      refine ez_go (n := 2) (pc' := 58) (L' := [(7, .inl (0)), (6, .inl (pl)), (4, .inr (.inl (y))), (0, .inr (.inr (some (723)))), (1, .inl (a)), (2, .inl (b)), (3, .inl (x))]) (st' := [.inl (b), .inl (a)]) rfl ?_
      refine ez_cs hB.2.1 rfl rfl rfl rfl rfl (rd_syllableOf ha0 ha1 hb0 hb1 (fun v v0 v1 hpr => ez_K1 ?_) (fun hpr => ez_K1 ?_))
      · skip
        refine ez_go (n := 1) (pc' := 62) (L' := [(7, .inl (0)), (6, .inl (pl)), (4, .inr (.inl (y))), (0, .inr (.inr (some (723)))), (1, .inl (a)), (2, .inl (b)), (3, .inl (x))]) (st' := [.inl (-1), .inl (v)]) rfl ?_
        refine ez_icmp rfl rfl ⟨by first | omega | exact (sz_i32 _).1, by first | omega | exact (sz_i32 _).2⟩ ⟨by first | omega | exact (sz_i32 _).1, by first | omega | exact (sz_i32 _).2⟩ (fun (c16 : (v) ≠ (-1)) => ?_) (fun (c16 : ¬((v) ≠ (-1))) => ?_)
        · skip
          refine ez_go (n := 1) (pc' := 76) (L' := [(7, .inl (0)), (6, .inl (pl)), (4, .inr (.inl (y))), (0, .inr (.inr (some (723)))), (1, .inl (a)), (2, .inl (b)), (3, .inl (x))]) (st' := [.inl (0)]) rfl ?_
          exact ez_retZ rfl rfl (by decide) (k0 (Or.inr hpr))
        · skip
          refine ez_go (n := 1) (pc' := 66) (L' := [(7, .inl (0)), (6, .inl (pl)), (4, .inr (.inl (y))), (0, .inr (.inr (some (723)))), (1, .inl (a)), (2, .inl (b)), (3, .inl (x))]) (st' := [.inr (.inr (some (723)))]) rfl ?_
          refine ez_gI hB t723 rfl rfl tq_55 rfl rfl (fun (b17 : 0 ≤ qz_I h 723 8) (b17' : qz_I h 723 8 ≤ 256) => ?_)
          refine ez_go (n := 1) (pc' := 72) (L' := [(7, .inl (0)), (6, .inl (pl)), (4, .inr (.inl (y))), (0, .inr (.inr (some (723)))), (1, .inl (a)), (2, .inl (b)), (3, .inl (x))]) (st' := [.inl (256), .inl (qz_I h 723 8)]) rfl ?_
          refine ez_icmp rfl rfl ⟨by first | omega | exact (sz_i32 _).1, by first | omega | exact (sz_i32 _).2⟩ ⟨by first | omega | exact (sz_i32 _).1, by first | omega | exact (sz_i32 _).2⟩ (fun (c18 : (qz_I h 723 8) < (256)) => ?_) (fun (c18 : ¬((qz_I h 723 8) < (256))) => ?_)
          · skip
            refine ez_go (n := 1) (pc' := 78) (L' := [(7, .inl (0)), (6, .inl (pl)), (4, .inr (.inl (y))), (0, .inr (.inr (some (723)))), (1, .inl (a)), (2, .inl (b)), (3, .inl (x))]) (st' := [.inr (.inr (some (723)))]) rfl ?_
            refine ez_gI hB t723 rfl rfl tq_55 rfl rfl (fun (b19 : 0 ≤ qz_I h 723 8) (b19' : qz_I h 723 8 ≤ 256) => ?_)
            refine ez_go (n := 1) (pc' := 83) (L' := [(8, .inl (qz_I h 723 8)), (7, .inl (0)), (6, .inl (pl)), (4, .inr (.inl (y))), (0, .inr (.inr (some (723)))), (1, .inl (a)), (2, .inl (b)), (3, .inl (x))]) (st' := []) rfl ?_
            exfalso; omega
          · skip
            refine ez_go (n := 1) (pc' := 76) (L' := [(7, .inl (0)), (6, .inl (pl)), (4, .inr (.inl (y))), (0, .inr (.inr (some (723)))), (1, .inl (a)), (2, .inl (b)), (3, .inl (x))]) (st' := [.inl (0)]) rfl ?_
            exact ez_retZ rfl rfl (by decide) (k0 (Or.inr hpr))
      · skip
        refine ez_go (n := 1) (pc' := 62) (L' := [(7, .inl (0)), (6, .inl (pl)), (4, .inr (.inl (y))), (0, .inr (.inr (some (723)))), (1, .inl (a)), (2, .inl (b)), (3, .inl (x))]) (st' := [.inl (-1), .inl (-1)]) rfl ?_
        refine ez_icmp rfl rfl ⟨by decide, by decide⟩ ⟨by decide, by decide⟩ (fun (c20 : (-1 : Int) ≠ (-1)) => absurd c20 (by decide)) (fun _ => ?_)
        refine ez_go (n := 1) (pc' := 66) (L' := [(7, .inl (0)), (6, .inl (pl)), (4, .inr (.inl (y))), (0, .inr (.inr (some (723)))), (1, .inl (a)), (2, .inl (b)), (3, .inl (x))]) (st' := [.inr (.inr (some (723)))]) rfl ?_
        refine ez_gI hB t723 rfl rfl tq_55 rfl rfl (fun (b21 : 0 ≤ qz_I h 723 8) (b21' : qz_I h 723 8 ≤ 256) => ?_)
        refine ez_go (n := 1) (pc' := 72) (L' := [(7, .inl (0)), (6, .inl (pl)), (4, .inr (.inl (y))), (0, .inr (.inr (some (723)))), (1, .inl (a)), (2, .inl (b)), (3, .inl (x))]) (st' := [.inl (256), .inl (qz_I h 723 8)]) rfl ?_
        refine ez_icmp rfl rfl ⟨by first | omega | exact (sz_i32 _).1, by first | omega | exact (sz_i32 _).2⟩ ⟨by first | omega | exact (sz_i32 _).1, by first | omega | exact (sz_i32 _).2⟩ (fun (c22 : (qz_I h 723 8) < (256)) => ?_) (fun (c22 : ¬((qz_I h 723 8) < (256))) => ?_)
        · skip
          refine ez_go (n := 1) (pc' := 78) (L' := [(7, .inl (0)), (6, .inl (pl)), (4, .inr (.inl (y))), (0, .inr (.inr (some (723)))), (1, .inl (a)), (2, .inl (b)), (3, .inl (x))]) (st' := [.inr (.inr (some (723)))]) rfl ?_
          refine ez_gI hB t723 rfl rfl tq_55 rfl rfl (fun (b23 : 0 ≤ qz_I h 723 8) (b23' : qz_I h 723 8 ≤ 256) => ?_)
          refine ez_go (n := 1) (pc' := 83) (L' := [(8, .inl (qz_I h 723 8)), (7, .inl (0)), (6, .inl (pl)), (4, .inr (.inl (y))), (0, .inr (.inr (some (723)))), (1, .inl (a)), (2, .inl (b)), (3, .inl (x))]) (st' := []) rfl ?_
          refine ez_less [(8, .inl (qz_I h 723 8)), (7, .inl (0)), (6, .inl (pl)), (4, .inr (.inl (y))), (0, .inr (.inr (some (723)))), (1, .inl (a)), (2, .inl (b)), (3, .inl (x))] rfl ⟨rfl, rfl, rfl, rfl, rfl, rfl, rfl, rfl, trivial⟩ ?_
          have q3 : pl = qz_I h 723 8 ∨ y.toInt < pp h pl := by
            by_cases e : pl = qz_I h 723 8
            · exact Or.inl e
            · refine Or.inr ?_
              have e4 := q2.resolve_left e
              have e5 : y.toInt ≠ pp h pl := fun e6 => by
                have e7 : Int64.ofInt (qz_I h 727 pl.toNat) = y := Int64.toInt_inj.mp (by rw [lr pl p0 (by omega)]; exact e6.symm)
                have e8 := (nz_cmp_eq _ _).mpr e7
                first | (exact absurd e8 (by assumption)) | omega
              omega
          refine rd_ins_l t723 t727 t728 (n := qz_I h 723 8) hn p0 p1 x0 x1 (fun g hB2 f2 j2 c2 v2 => ?_) _ _ h rfl (by omega) (by omega) hB (ez_fr.refl _ _) (fun _ _ => rfl) rfl (fun k k0 k1 => by rw [if_neg (by omega)]; rfl)
          obtain ⟨r1, r2⟩ := ri_ins (P := pp h) (P2 := pp g) hr p0 p1 q1 q3 v2
          refine k1 (fun ⟨j, j0, j1, e⟩ => ?_) hpr g hB2 f2 j2 c2 r1 (fun z => by rw [← hy]; exact r2 z)
          rw [← hy] at e
          by_cases e2 : j < pl
          · rcases q1 with w | w
            · omega
            · by_cases e3 : j = pl - 1
              · rw [e3] at e; omega
              · have := hr j (pl - 1) j0 (by omega) (by omega); omega
          · rcases q3 with w | w
            · omega
            · by_cases e3 : j = pl
              · rw [e3] at e; omega
              · have := hr pl j p0 (by omega) j1; omega
        · skip
          refine ez_go (n := 1) (pc' := 76) (L' := [(7, .inl (0)), (6, .inl (pl)), (4, .inr (.inl (y))), (0, .inr (.inr (some (723)))), (1, .inl (a)), (2, .inl (b)), (3, .inl (x))]) (st' := [.inl (0)]) rfl ?_
          exfalso; omega
    · skip
      refine ez_go (n := 4) (pc' := 53) (L' := [(7, .inl (1)), (6, .inl (pl)), (4, .inr (.inl (y))), (0, .inr (.inr (some (723)))), (1, .inl (a)), (2, .inl (b)), (3, .inl (x))]) (st' := [.inl (1)]) rfl ?_
      refine ez_if rfl rfl ⟨by decide, by decide⟩ (fun _ => ?_) (fun (c24 : ¬((1 : Int) ≠ (0))) => absurd c24 (by decide))
      refine ez_go (n := 1) (pc' := 76) (L' := [(7, .inl (1)), (6, .inl (pl)), (4, .inr (.inl (y))), (0, .inr (.inr (some (723)))), (1, .inl (a)), (2, .inl (b)), (3, .inl (x))]) (st' := [.inl (0)]) rfl ?_
      exact ez_retZ rfl rfl (by decide) (k0 (Or.inl ⟨pl, p0, by omega, by have := (nz_cmp_eq (Int64.ofInt (qz_I h 727 (pl).toNat)) y).mp (by omega); rw [← lr pl p0 (by omega), this, hy]⟩))

end EzIp
/-! The class: gatherPairs. (Written by wip/p2/py/pv36.py.) -/
def lim (h : cz_H) (i : Int) : Int := if i < qz_I h 202 1 then sz_f h i else 1114112
def wL (h : cz_H) (i x : Int) : Nat := if lim h i ≤ x then 1 else 0
theorem lim_lt {h : cz_H} (hs : sz_ok h) {i : Int} (i0 : 0 ≤ i) (i1 : i < qz_I h 202 1) : sz_f h i < lim h (i + 1) := by
  unfold lim
  split
  · exact (hs.2 i (i + 1) i0 (by omega) (by assumption)).1
  · have := (sz_first hs i0 i1).2.2; omega
theorem lim_eq {h : cz_H} {i : Int} (i1 : i < qz_I h 202 1) : lim h i = sz_f h i := by unfold lim; rw [if_pos i1]
/-- the pairs of the spans before i -/
def gp (h : cz_H) (F : rz_W) (E : Int → Prop) (Xs : List Int) (g : cz_H) (i : Int) : Prop := ri (pp g) (qz_I g 723 8) ∧ (∀ z, (∃ j, 0 ≤ j ∧ j < qz_I g 723 8 ∧ pp g j = z) ↔ ∃ k, (0 ≤ k ∧ k < i) ∧ ∃ a b, ez_p F E (sz_f h k) a b ∧ z = a * 2097152 + b) ∧ ((∀ k, 0 ≤ k → k < i → ∀ a b, ez_p F E (sz_f h k) a b → ¬ hz_pair a b) ∧ ∀ k k2, 0 ≤ k → k < i → 0 ≤ k2 → k2 < i → ∀ a b, ez_p F E (sz_f h k) a b → ez_p F E (sz_f h k2) a b → k = k2) ∧ qz_I g 723 8 + (wz (wL h i) Xs : Int) ≤ (Xs.length : Int)
theorem gp_skip {h : cz_H} {F : rz_W} {E : Int → Prop} {Xs : List Int} {g : cz_H} {i : Int} (hs : sz_ok h) (i0 : 0 ≤ i) (i1 : i < qz_I h 202 1) (hg : gp h F E Xs g i) (hno : ∀ a b, ¬ ez_p F E (sz_f h i) a b) : gp h F E Xs g (i + 1) := by
  obtain ⟨a1, a2, ⟨a3, a4⟩, a5⟩ := hg
  have hk : ∀ k, k < i + 1 → k ≠ i → k < i := fun k h1 h2 => by omega
  refine ⟨a1, fun z => (a2 z).trans ⟨fun ⟨k, k0, w⟩ => ⟨k, ⟨k0.1, by omega⟩, w⟩, fun ⟨k, k0, a, b, w⟩ => ?_⟩, ⟨fun k k0 k1 a b w => ?_, fun k k2 k0 k1 k20 k21 a b w w2 => ?_⟩, ?_⟩
  · by_cases e : k = i
    · subst e; exact absurd w.1 (hno a b)
    · exact ⟨k, ⟨k0.1, by omega⟩, a, b, w⟩
  · by_cases e : k = i
    · subst e; exact absurd w (hno a b)
    · exact a3 k k0 (by omega) a b w
  · by_cases e : k = i
    · subst e; exact absurd w (hno a b)
    · by_cases e2 : k2 = i
      · subst e2; exact absurd w2 (hno a b)
      · exact a4 k k2 k0 (by omega) k20 (by omega) a b w w2
  · have : wz (wL h (i + 1)) Xs ≤ wz (wL h i) Xs := wz_le (fun x => by
      have := lim_lt hs i0 i1
      have e := lim_eq i1
      unfold wL
      split
      · rw [if_pos (by omega)]; exact Nat.le_refl _
      · omega)
    omega
theorem gp_ins {h : cz_H} {F : rz_W} {E : Int → Prop} {Xs : List Int} {g g2 : cz_H} {i a b : Int} (hw : uz_wf F) (hXs : ∀ x, (F x).2 ≠ none → x ∈ Xs) (hs : sz_ok h) (i0 : 0 ≤ i) (i1 : i < qz_I h 202 1) (hg : gp h F E Xs g i) (hp : ez_p F E (sz_f h i) a b) (hno : ¬ ∃ j, 0 ≤ j ∧ j < qz_I g 723 8 ∧ pp g j = a * 2097152 + b) (hz' : ¬ hz_pair a b) (h8 : qz_I g2 723 8 = qz_I g 723 8 + 1) (hr : ri (pp g2) (qz_I g 723 8 + 1)) (hm : ∀ z, (∃ j, 0 ≤ j ∧ j < qz_I g 723 8 + 1 ∧ pp g2 j = z) ↔ (z = a * 2097152 + b ∨ ∃ j, 0 ≤ j ∧ j < qz_I g 723 8 ∧ pp g j = z)) : gp h F E Xs g2 (i + 1) := by
  obtain ⟨a1, a2, ⟨a3, a4⟩, a5⟩ := hg
  have pin : ∀ {a2 b2}, ez_p F E (sz_f h i) a2 b2 → a2 = a ∧ b2 = b := fun {a2 b2} w => by
    have e := w.1
    rw [hp.1] at e
    cases e
    exact ⟨rfl, rfl⟩
  refine ⟨by rw [h8]; exact hr, fun z => ?_, ⟨fun k k0 k1 c d w => ?_, fun k k2 k0 k1 k20 k21 c d w w2 => ?_⟩, ?_⟩
  · rw [h8, hm z, a2 z]
    constructor
    · rintro (w | ⟨k, k0, w⟩)
      · exact ⟨i, ⟨i0, by omega⟩, a, b, hp, w⟩
      · exact ⟨k, ⟨k0.1, by omega⟩, w⟩
    · rintro ⟨k, k0, c, d, w, e⟩
      by_cases ek : k = i
      · subst ek
        obtain ⟨rfl, rfl⟩ := pin w
        exact Or.inl e
      · exact Or.inr ⟨k, ⟨k0.1, by omega⟩, c, d, w, e⟩
  · by_cases e : k = i
    · subst e
      obtain ⟨rfl, rfl⟩ := pin w
      exact hz'
    · exact a3 k k0 (by omega) c d w
  · by_cases e : k = i
    · by_cases e2 : k2 = i
      · omega
      · subst e
        obtain ⟨rfl, rfl⟩ := pin w
        exact absurd ((a2 _).mpr ⟨k2, ⟨k20, by omega⟩, c, d, w2, rfl⟩) hno
    · by_cases e2 : k2 = i
      · subst e2
        obtain ⟨rfl, rfl⟩ := pin w2
        exact absurd ((a2 _).mpr ⟨k, ⟨k0, by omega⟩, c, d, w, rfl⟩) hno
      · exact a4 k k2 k0 (by omega) k20 (by omega) c d w w2
  · have : wz (wL h (i + 1)) Xs + 1 ≤ wz (wL h i) Xs := wz_lt (y := sz_f h i) (fun x => by
      have := lim_lt hs i0 i1
      have e := lim_eq i1
      unfold wL
      split
      · rw [if_pos (by omega)]; exact Nat.le_refl _
      · omega) (hXs _ (by rw [hp.1]; exact fun e => by cases e)) (by
        have := lim_lt hs i0 i1
        have e := lim_eq i1
        unfold wL
        rw [if_neg (by omega), if_pos (by omega)]
        omega)
    omega
section EzGp
variable {d : Nat} {h : cz_H} {τ : Nat → Nat} {Q : cz_F → Prop} {T : Int → Nat} {F : rz_W} {E : Int → Prop} {Xs : List Int}
theorem pz_PG {g : cz_H} (hX : jz_X τ) (hf : ez_fr nz_PG h g) : pz τ h g := pz_fr hf (fun q hq => by
  unfold nz_PG at hq
  have : q = 723 ∨ q = 727 ∨ q = 728 := by
    rw [Bool.or_eq_true, Bool.or_eq_true] at hq
    exact hq.imp Nat.eq_of_beq_eq_true (fun w => w.imp Nat.eq_of_beq_eq_true Nat.eq_of_beq_eq_true)
  exact ⟨by omega, by omega, (pz_X hX (by omega) (by omega)).1⟩)
theorem gp_S4 {g : cz_H} (hw : uz_wf F) (hC : pz_C τ h T F E) (hg : gp h F E Xs g (qz_I h 202 1)) : uz_S4 F E := by
  have hd : ∀ {x a b}, ez_p F E x a b → ∃ k, 0 ≤ k ∧ k < qz_I h 202 1 ∧ sz_f h k = x := fun {x a b} w => by
    have := ((hw x).2 _ _ w.1).2.2.2
    exact sz_dec hC this.1 this.2 (by rw [w.1]; exact fun e => by cases e)
  refine ⟨fun x a b w => ?_, fun x y a b w w2 => ?_⟩
  · obtain ⟨k, k0, k1, e⟩ := hd w
    exact hg.2.2.1.1 k k0 k1 a b (by rw [e]; exact w)
  · obtain ⟨k, k0, k1, e⟩ := hd w
    obtain ⟨k2, k20, k21, e2⟩ := hd w2
    have := hg.2.2.1.2 k k2 k0 k1 k20 k21 a b (by rw [e]; exact w) (by rw [e2]; exact w2)
    rw [← e, ← e2, this]
theorem rd_gather_l (hw : uz_wf F) (hS : uz_S1 F) (hXs : ∀ x, (F x).2 ≠ none → x ∈ Xs) (hXl : Xs.length ≤ 256) (hC0 : pz_C τ h T F E) (t723 : τ 723 = 55) (t202 : τ 202 = 48) (t203 : τ 203 = 49) (t727 : τ 727 = 59) (t728 : τ 728 = 60) (k1 : uz_S4 F E → ∀ g, ez_B τ g → ez_fr nz_PG h g → (∀ j, j ≠ 8 → qz_I g 723 j = qz_I h 723 j) → Q (.inl (some (ez_v (.inl 1))), g)) (k0 : ¬ uz_S4 F E → ∀ g, ez_B τ g → pz τ h g → Q (.inl (some (ez_v (.inl 0))), g)) : ∀ (m : Nat) (i : Int) (g : cz_H), m = (qz_I h 202 1 - i).toNat → 0 ≤ i → i ≤ qz_I h 202 1 → pz_C τ g T F E → ez_fr nz_PG h g → (∀ j, j ≠ 8 → qz_I g 723 j = qz_I h 723 j) → gp h F E Xs g i → ez_W (d + 3) cm_119 2 [(1, .inl (i)), (0, .inr (.inr (some (723))))] [] g Q := by
  intro m
  induction m with
  | zero =>
    intro i g hm i0 i1 hC hf hj0 hgp
    have bn := sz_R_n1 hC0.1 t202
    have e202 : qz_I g 202 1 = qz_I h 202 1 := hf.I rfl 1
    have hpz := pz_PG hC0.2.1 hf
    refine ez_go (n := 2) (pc' := 4) (L' := [(1, .inl (i)), (0, .inr (.inr (some (723))))]) (st' := [.inr (.inr (some (723))), .inl (i)]) rfl ?_
    refine ez_gC (p := 202) (tg := 48) hC.1 t723 rfl rfl tq_55 rfl rfl (fun (t202 : _ = 48) => ?_)
    refine ez_gI hC.1 t202 rfl rfl tq_48 rfl rfl (fun (b1 : 1 ≤ qz_I g 202 1) (b1' : qz_I g 202 1 ≤ 513) => ?_)
    refine ez_icmp rfl rfl ⟨by first | omega | exact (sz_i32 _).1, by first | omega | exact (sz_i32 _).2⟩ ⟨by first | omega | exact (sz_i32 _).1, by first | omega | exact (sz_i32 _).2⟩ (fun (c2 : (qz_I g 202 1) ≤ (i)) => ?_) (fun (c2 : ¬((qz_I g 202 1) ≤ (i))) => ?_)
    · skip
      refine ez_go (n := 1) (pc' := 92) (L' := [(1, .inl (i)), (0, .inr (.inr (some (723))))]) (st' := [.inl (1)]) rfl ?_
      rw [show i = qz_I h 202 1 by omega] at hgp
      exact ez_retZ rfl rfl (by decide) (k1 (gp_S4 hw hC0 hgp) g hC.1 hf hj0)
    · exfalso; omega
  | succ m ih =>
    intro i g hm i0 i1 hC hf hj0 hgp
    have bn := sz_R_n1 hC0.1 t202
    have e202 : qz_I g 202 1 = qz_I h 202 1 := hf.I rfl 1
    have hpz := pz_PG hC0.2.1 hf
    refine ez_go (n := 2) (pc' := 4) (L' := [(1, .inl (i)), (0, .inr (.inr (some (723))))]) (st' := [.inr (.inr (some (723))), .inl (i)]) rfl ?_
    refine ez_gC (p := 202) (tg := 48) hC.1 t723 rfl rfl tq_55 rfl rfl (fun (t202 : _ = 48) => ?_)
    refine ez_gI hC.1 t202 rfl rfl tq_48 rfl rfl (fun (b1 : 1 ≤ qz_I g 202 1) (b1' : qz_I g 202 1 ≤ 513) => ?_)
    refine ez_icmp rfl rfl ⟨by first | omega | exact (sz_i32 _).1, by first | omega | exact (sz_i32 _).2⟩ ⟨by first | omega | exact (sz_i32 _).1, by first | omega | exact (sz_i32 _).2⟩ (fun (c2 : (qz_I g 202 1) ≤ (i)) => ?_) (fun (c2 : ¬((qz_I g 202 1) ≤ (i))) => ?_)
    · exfalso; omega
    · skip
      refine ez_go (n := 1) (pc' := 14) (L' := [(1, .inl (i)), (0, .inr (.inr (some (723))))]) (st' := [.inr (.inr (some (723)))]) rfl ?_
      refine ez_gC (p := 202) (tg := 48) hC.1 t723 rfl rfl tq_55 rfl rfl (fun (t202 : _ = 48) => ?_)
      refine ez_gC (p := 203) (tg := 49) hC.1 t202 rfl rfl tq_48 rfl rfl (fun (t203 : _ = 49) => ?_)
      refine ez_go (n := 1) (pc' := 21) (L' := [(1, .inl (i)), (0, .inr (.inr (some (723))))]) (st' := [.inl (i), .inr (.inr (some (203)))]) rfl ?_
      have n4 : 513 ≤ qz_N g 203 ∧ qz_N g 203 ≤ 513 := ez_len hC.1 t203 tq_49 rfl
      have y5 : 1 ≤ qz_I g 203 (i).toNat ∧ qz_I g 203 (i).toNat ≤ 1000000 := ez_aB hC.1 t203 tq_49 rfl rfl (by decide) (by omega) (by omega)
      have y5' : ((qz_P g 203 (i).toNat : Nat) : Int) + 1 = qz_I g 203 (i).toNat := by unfold qz_P; omega
      refine ez_aR hC.1 t203 rfl tq_49 rfl rfl (by omega) (by omega) (by omega) (fun (t3 : _ = 4) => ?_)
      refine ez_gR hC.1 t3 rfl rfl tq_4 rfl rfl (fun (t6 : _ = 3) (t6' : 1 ≤ qz_I g (qz_P g 203 (i).toNat) 1) => ?_)
      obtain ⟨at1, y0, y1⟩ := sz_first hC.2.2.1 i0 (show i < qz_I g 202 1 by omega)
      have ef : sz_f g i = sz_f h i := by unfold sz_f sz_p qz_P qz_I; rw [hf.2.2 203 rfl, hf.2.2 _ (by have tz := sz_tag hC0.1 t203 i0 (show i < 513 by omega); unfold sz_p qz_P qz_I at tz; unfold nz_PG; rw [dz_beq_ne (fun e => by rw [e, t723] at tz; cases tz), dz_beq_ne (fun e => by rw [e, t727] at tz; cases tz), dz_beq_ne (fun e => by rw [e, t728] at tz; cases tz)]; rfl)]
      rw [ef] at at1 y0 y1
      have e1 := (hC.2.2.2.1 _ i y0 y1 at1).1
      obtain ⟨x, ex⟩ : ∃ x, x = sz_f h i := ⟨_, rfl⟩
      rw [← ex] at at1 y0 y1 e1
      have eT : qz_P g (qz_P g 203 (i).toNat) 1 = T x := by show qz_P g (sz_p g i) 1 = T x; unfold qz_P; omega
      rw [eT]
      obtain ⟨tT, -, f3, f4⟩ := hC.2.2.2.2 x y0 y1
      refine ez_go (n := 2) (pc' := 27) (L' := [(2, .inr (.inr (some ((T x))))), (1, .inl (i)), (0, .inr (.inr (some (723))))]) (st' := [.inr (.inr (some ((T x))))]) rfl ?_
      refine ez_gN hC.1 tT rfl rfl tq_3 rfl rfl (fun (t7 : qz_I g ((T x)) 3 = 0) => ?_) (fun (t7 : _ = 5) (t7' : 1 ≤ qz_I g ((T x)) 3) => ?_)
      · skip
        refine ez_null0 rfl rfl ?_
        refine ez_go (n := 2) (pc' := 2) (L' := [(1, .inl (i + 1)), (2, .inr (.inr (some ((T x))))), (0, .inr (.inr (some (723))))]) (st' := []) rfl ?_
        refine ez_less [(1, .inl (i + 1)), (0, .inr (.inr (some (723))))] rfl ⟨rfl, rfl, trivial⟩ ?_
        refine ih (i + 1) g (by omega) (by omega) (by omega) hC hf hj0 (gp_skip hC0.2.2.1 i0 (by omega) hgp (fun a b w => ?_))
        rw [← ex] at w
        obtain ⟨d0', d1', d2', d3', d4', d5'⟩ := f4 _ _ w.1
        simp only [List.length_cons, List.length_nil] at d4'
        first | omega | exact w.2 hex
      · skip
        refine ez_null1 rfl ?_
        refine ez_go (n := 1) (pc' := 34) (L' := [(2, .inr (.inr (some ((T x))))), (1, .inl (i)), (0, .inr (.inr (some (723))))]) (st' := [.inr (.inr (some ((T x))))]) rfl ?_
        refine ez_gI hC.1 tT rfl rfl tq_3 rfl rfl (fun (b8 : 0 ≤ qz_I g ((T x)) 4) (b8' : qz_I g ((T x)) 4 ≤ 1) => ?_)
        refine ez_if rfl rfl ⟨by first | omega | exact (sz_i32 _).1, by first | omega | exact (sz_i32 _).2⟩ (fun (c9 : (qz_I g ((T x)) 4) ≠ (0)) => ?_) (fun (c9 : ¬((qz_I g ((T x)) 4) ≠ (0))) => ?_)
        · skip
          refine ez_go (n := 2) (pc' := 2) (L' := [(1, .inl (i + 1)), (2, .inr (.inr (some ((T x))))), (0, .inr (.inr (some (723))))]) (st' := []) rfl ?_
          refine ez_less [(1, .inl (i + 1)), (0, .inr (.inr (some (723))))] rfl ⟨rfl, rfl, trivial⟩ ?_
          refine ih (i + 1) g (by omega) (by omega) (by omega) hC hf hj0 (gp_skip hC0.2.2.1 i0 (by omega) hgp (fun a b w => ?_))
          rw [← ex] at w
          obtain ⟨d0', d1', d2', d3', d4', d5'⟩ := f4 _ _ w.1
          simp only [List.length_cons, List.length_nil] at d4'
          first | omega | exact w.2 hex
        · skip
          refine ez_go (n := 1) (pc' := 41) (L' := [(2, .inr (.inr (some ((T x))))), (1, .inl (i)), (0, .inr (.inr (some (723))))]) (st' := [.inr (.inr (some ((T x))))]) rfl ?_
          refine ez_gN hC.1 tT rfl rfl tq_3 rfl rfl (fun (t10 : qz_I g ((T x)) 3 = 0) => ?_) (fun (t10 : _ = 5) (t10' : 1 ≤ qz_I g ((T x)) 3) => ?_)
          · exfalso; omega
          · skip
            refine ez_al hC.1 t10 rfl tq_5 rfl (fun (b11 : 0 ≤ qz_N g (qz_P g ((T x)) 3)) (b11' : qz_N g (qz_P g ((T x)) 3) ≤ 18) => ?_)
            refine ez_go (n := 1) (pc' := 46) (L' := [(2, .inr (.inr (some ((T x))))), (1, .inl (i)), (0, .inr (.inr (some (723))))]) (st' := [.inl (2), .inl (qz_N g (qz_P g ((T x)) 3))]) rfl ?_
            refine ez_icmp rfl rfl ⟨by first | omega | exact (sz_i32 _).1, by first | omega | exact (sz_i32 _).2⟩ ⟨by first | omega | exact (sz_i32 _).1, by first | omega | exact (sz_i32 _).2⟩ (fun (c12 : (qz_N g (qz_P g ((T x)) 3)) ≠ (2)) => ?_) (fun (c12 : ¬((qz_N g (qz_P g ((T x)) 3)) ≠ (2))) => ?_)
            · skip
              refine ez_go (n := 2) (pc' := 2) (L' := [(1, .inl (i + 1)), (2, .inr (.inr (some ((T x))))), (0, .inr (.inr (some (723))))]) (st' := []) rfl ?_
              refine ez_less [(1, .inl (i + 1)), (0, .inr (.inr (some (723))))] rfl ⟨rfl, rfl, trivial⟩ ?_
              refine ih (i + 1) g (by omega) (by omega) (by omega) hC hf hj0 (gp_skip hC0.2.2.1 i0 (by omega) hgp (fun a b w => ?_))
              rw [← ex] at w
              obtain ⟨d0', d1', d2', d3', d4', d5'⟩ := f4 _ _ w.1
              simp only [List.length_cons, List.length_nil] at d4'
              first | omega | exact w.2 hex
            · skip
              refine ez_go (n := 2) (pc' := 51) (L' := [(2, .inr (.inr (some ((T x))))), (1, .inl (i)), (0, .inr (.inr (some (723))))]) (st' := [.inr (.inr (some ((T x)))), .inr (.inr (some (723)))]) rfl ?_
              refine ez_gI hC.1 tT rfl rfl tq_3 rfl rfl (fun (b13 : -2147483648 ≤ qz_I g ((T x)) 0) (b13' : qz_I g ((T x)) 0 ≤ 2147483647) => ?_)
              obtain ⟨cp, vs, hq⟩ : ∃ cp vs, (F x).2 = some (cp, vs) := by
                cases hq : (F x).2 with
                | none => have := f3 hq; omega
                | some q => exact ⟨q.1, q.2, rfl⟩
              obtain ⟨d0, d1, d2, d3, d4, d5⟩ := f4 cp vs hq
              rw [d0]
              refine ez_cv hC.1 t723 rfl rfl rfl tq_55 rfl rfl rfl (rd_isExcluded hw hC y0 y1 (hS x cp vs hq).1 (fun hex => ez_K1 ?_) (fun hex => ez_K1 ?_))
              · skip
                refine ez_if rfl rfl ⟨by decide, by decide⟩ (fun _ => ?_) (fun (c14 : ¬((1 : Int) ≠ (0))) => absurd c14 (by decide))
                refine ez_go (n := 2) (pc' := 2) (L' := [(1, .inl (i + 1)), (2, .inr (.inr (some ((T x))))), (0, .inr (.inr (some (723))))]) (st' := []) rfl ?_
                refine ez_less [(1, .inl (i + 1)), (0, .inr (.inr (some (723))))] rfl ⟨rfl, rfl, trivial⟩ ?_
                refine ih (i + 1) g (by omega) (by omega) (by omega) hC hf hj0 (gp_skip hC0.2.2.1 i0 (by omega) hgp (fun a b w => ?_))
                rw [← ex] at w
                obtain ⟨d0', d1', d2', d3', d4', d5'⟩ := f4 _ _ w.1
                simp only [List.length_cons, List.length_nil] at d4'
                first | omega | exact w.2 hex
              · skip
                have hl2 : vs.length = 2 := by omega
                have hc0 : cp = 0 := by omega
                subst hc0
                obtain ⟨a, b, rfl⟩ : ∃ a b, vs = [a, b] := by
                  match vs, hl2 with
                  | [a, b], _ => exact ⟨a, b, rfl⟩
                have da := d5 0 a rfl
                have db := d5 1 b rfl
                have hwa := ((hw x).2 _ _ hq).2.2.1 a (by simp)
                have hwb := ((hw x).2 _ _ hq).2.2.1 b (by simp)
                have hp : ez_p F E x a b := ⟨hq, hex⟩
                refine ez_if rfl rfl ⟨by decide, by decide⟩ (fun (c15 : (0 : Int) ≠ (0)) => absurd c15 (by decide)) (fun _ => ?_)
                refine ez_go (n := 2) (pc' := 62) (L' := [(2, .inr (.inr (some ((T x))))), (1, .inl (i)), (0, .inr (.inr (some (723))))]) (st' := [.inr (.inr (some ((T x)))), .inr (.inr (some (723)))]) rfl ?_
                refine ez_gN hC.1 tT rfl rfl tq_3 rfl rfl (fun (t16 : qz_I g ((T x)) 3 = 0) => ?_) (fun (t16 : _ = 5) (t16' : 1 ≤ qz_I g ((T x)) 3) => ?_)
                · exfalso; omega
                · skip
                  refine ez_go (n := 1) (pc' := 66) (L' := [(2, .inr (.inr (some ((T x))))), (1, .inl (i)), (0, .inr (.inr (some (723))))]) (st' := [.inl (0), .inr (.inr (some (qz_P g ((T x)) 3))), .inr (.inr (some (723)))]) rfl ?_
                  have n18 : 0 ≤ qz_N g (qz_P g ((T x)) 3) ∧ qz_N g (qz_P g ((T x)) 3) ≤ 18 := ez_len hC.1 t16 tq_5 rfl
                  refine ez_aI hC.1 t16 rfl tq_5 rfl rfl (by omega) (by omega) (fun (b17 : -2147483648 ≤ qz_I g (qz_P g ((T x)) 3) (0 : Int).toNat) (b17' : qz_I g (qz_P g ((T x)) 3) (0 : Int).toNat ≤ 2147483647) => ?_)
                  refine ez_go (n := 1) (pc' := 68) (L' := [(2, .inr (.inr (some ((T x))))), (1, .inl (i)), (0, .inr (.inr (some (723))))]) (st' := [.inr (.inr (some ((T x)))), .inl (qz_I g (qz_P g ((T x)) 3) (0 : Int).toNat), .inr (.inr (some (723)))]) rfl ?_
                  refine ez_gN hC.1 tT rfl rfl tq_3 rfl rfl (fun (t19 : qz_I g ((T x)) 3 = 0) => ?_) (fun (t19 : _ = 5) (t19' : 1 ≤ qz_I g ((T x)) 3) => ?_)
                  · exfalso; omega
                  · skip
                    refine ez_go (n := 1) (pc' := 72) (L' := [(2, .inr (.inr (some ((T x))))), (1, .inl (i)), (0, .inr (.inr (some (723))))]) (st' := [.inl (1), .inr (.inr (some (qz_P g ((T x)) 3))), .inl (qz_I g (qz_P g ((T x)) 3) (0 : Int).toNat), .inr (.inr (some (723)))]) rfl ?_
                    have n21 : 0 ≤ qz_N g (qz_P g ((T x)) 3) ∧ qz_N g (qz_P g ((T x)) 3) ≤ 18 := ez_len hC.1 t19 tq_5 rfl
                    refine ez_aI hC.1 t19 rfl tq_5 rfl rfl (by omega) (by omega) (fun (b20 : -2147483648 ≤ qz_I g (qz_P g ((T x)) 3) (1 : Int).toNat) (b20' : qz_I g (qz_P g ((T x)) 3) (1 : Int).toNat ≤ 2147483647) => ?_)
                    refine ez_go (n := 1) (pc' := 74) (L' := [(2, .inr (.inr (some ((T x))))), (1, .inl (i)), (0, .inr (.inr (some (723))))]) (st' := [.inr (.inr (some ((T x)))), .inl (qz_I g (qz_P g ((T x)) 3) (1 : Int).toNat), .inl (qz_I g (qz_P g ((T x)) 3) (0 : Int).toNat), .inr (.inr (some (723)))]) rfl ?_
                    refine ez_gI hC.1 tT rfl rfl tq_3 rfl rfl (fun (b22 : -2147483648 ≤ qz_I g ((T x)) 0) (b22' : qz_I g ((T x)) 0 ≤ 2147483647) => ?_)
                    have hn8 : qz_I g 723 8 < 256 := by
                      have q5 := hgp.2.2.2
                      have := wz_lt2 (W := wL h i) (W' := fun _ => 0) (y := x) (k := 1) (xs := Xs) (fun _ _ => Nat.zero_le _) (hXs x (by rw [hq]; exact fun e => by cases e)) (by unfold wL; rw [lim_eq (by omega), ← ex, if_pos (Int.le_refl _)]; omega)
                      omega
                    rw [show (0 : Int).toNat = 0 from rfl, show (1 : Int).toNat = 1 from rfl, da, db, d0]
                    refine ez_cv hC.1 t723 rfl rfl rfl tq_55 rfl rfl rfl (rd_insertPair hC.1 hC.2.1 hwa.1 hwa.2 hwb.1 hwb.2 y0 y1 hn8 hgp.1 (fun hbad => ez_K1 ?_) (fun h1 h2 g2 hB2 f2 j2 c2 r2 m2 => ez_K1 ?_))
                    · skip
                      refine ez_if rfl rfl ⟨by decide, by decide⟩ (fun (c23 : (0 : Int) ≠ (0)) => absurd c23 (by decide)) (fun _ => ?_)
                      refine ez_go (n := 1) (pc' := 84) (L' := [(2, .inr (.inr (some ((T x))))), (1, .inl (i)), (0, .inr (.inr (some (723))))]) (st' := [.inl (0)]) rfl ?_
                      refine ez_retZ rfl rfl (by decide) (k0 (fun h4 => ?_) g hC.1 hpz)
                      rcases hbad with hbad | hbad
                      · obtain ⟨k, k0', a2, b2, w, e⟩ := (hgp.2.1 _).mp hbad
                        have wr := ((hw _).2 _ _ w.1).2.2.1
                        have wa := wr a2 (by simp)
                        have wb := wr b2 (by simp)
                        have ea : a2 = a := by omega
                        have eb : b2 = b := by omega
                        subst ea; subst eb
                        have e3 := h4.2 _ _ _ _ w hp
                        rw [ex] at e3
                        have := hC0.2.2.1.2 k i k0'.1 k0'.2 (by omega)
                        omega
                      · exact h4.1 x a b hp hbad
                    · skip
                      refine ez_if rfl rfl ⟨by decide, by decide⟩ (fun _ => ?_) (fun (c24 : ¬((1 : Int) ≠ (0))) => absurd c24 (by decide))
                      refine ez_go (n := 2) (pc' := 2) (L' := [(1, .inl (i + 1)), (2, .inr (.inr (some ((T x))))), (0, .inr (.inr (some (723))))]) (st' := []) rfl ?_
                      refine ez_less [(1, .inl (i + 1)), (0, .inr (.inr (some (723))))] rfl ⟨rfl, rfl, trivial⟩ ?_
                      have hfr := hf.trans f2
                      refine ih (i + 1) g2 (by omega) (by omega) (by omega) (hC0.fr hB2 (pz_PG hC0.2.1 hfr)) hfr (fun j hj => (j2 j hj).trans (hj0 j hj)) ?_
                      exact gp_ins hw hXs hC0.2.2.1 i0 (by omega) hgp (by rw [← ex]; exact hp) h1 h2 c2 r2 m2
theorem rd_gatherPairs (hw : uz_wf F) (hS : uz_S1 F) (hXs : ∀ x, (F x).2 ≠ none → x ∈ Xs) (hXl : Xs.length ≤ 256) (hC0 : pz_C τ h T F E) (h8 : qz_I h 723 8 = 0) (k1 : uz_S4 F E → ∀ g, ez_B τ g → ez_fr nz_PG h g → (∀ j, j ≠ 8 → qz_I g 723 j = qz_I h 723 j) → Q (.inl (some (ez_v (.inl 1))), g)) (k0 : ¬ uz_S4 F E → ∀ g, ez_B τ g → pz τ h g → Q (.inl (some (ez_v (.inl 0))), g)) : ez_W (d + 3) cm_119 0 [(0, .inr (.inr (some (723))))] [] h Q := by
  have t723 : τ 723 = 55 := hC0.2.1 723 (by decide)
  have t202 : τ 202 = 48 := hC0.2.1 202 (by decide)
  have t203 : τ 203 = 49 := hC0.2.1 203 (by decide)
  have t727 : τ 727 = 59 := hC0.2.1 727 (by decide)
  have t728 : τ 728 = 60 := hC0.2.1 728 (by decide)
  have bn := sz_R_n1 hC0.1 t202
  refine ez_go (n := 2) (pc' := 2) (L' := [(1, .inl (0)), (0, .inr (.inr (some (723))))]) (st' := []) rfl ?_
  refine ez_less [(1, .inl (0)), (0, .inr (.inr (some (723))))] rfl ⟨rfl, rfl, trivial⟩ ?_
  refine rd_gather_l hw hS hXs hXl hC0 t723 t202 t203 t727 t728 k1 k0 _ 0 h rfl (by omega) (by omega) hC0 (ez_fr.refl _ _) (fun _ _ => rfl) ⟨fun i j i0 ij jn => by omega, fun z => ⟨fun ⟨j, j0, j1, _⟩ => by omega, fun ⟨k, k0, _⟩ => by omega⟩, ⟨fun k k0 k1 => by omega, fun k k2 k0 k1 => by omega⟩, ?_⟩
  have := wz_one (W := wL h 0) (fun x => by unfold wL; split <;> omega) Xs
  omega

end EzGp
/-! The class: prepare. (Written by wip/p2/py/pv37.py.) -/
section EzPp
variable {d : Nat} {h : cz_H} {τ : Nat → Nat} {Q : cz_F → Prop} {T : Int → Nat} {F : rz_W} {E : Int → Prop} {Xs : List Int}
theorem rd_checkShapes (hw : uz_wf F) (hC : pz_C τ h T F E) (k1 : uz_S1 F → ∀ g, ez_B τ g → pz τ h g → (∀ q, τ q ≠ 3 → g.2.2 q = h.2.2 q) → (∀ q, τ q = 3 → ∀ j, j ≠ 8 → qz_I g q j = qz_I h q j) → (∀ x, (F x).2 ≠ none → qz_I g (T x) 8 = 0) → Q (.inl (some (ez_v (.inl 1))), g)) (k0 : ¬ uz_S1 F → ∀ g, ez_B τ g → pz τ h g → Q (.inl (some (ez_v (.inl 0))), g)) : ez_W (d + 1) cm_112 0 [(0, .inr (.inr (some (723))))] [] h Q := by
  have t723 : τ 723 = 55 := hC.2.1 723 (by decide)
  have t202 : τ 202 = 48 := hC.2.1 202 (by decide)
  have t203 : τ 203 = 49 := hC.2.1 203 (by decide)
  refine ez_go (n := 2) (pc' := 2) (L' := [(1, .inl (0)), (0, .inr (.inr (some (723))))]) (st' := []) rfl ?_
  refine ez_less [(1, .inl (0)), (0, .inr (.inr (some (723))))] rfl ⟨rfl, rfl, trivial⟩ ?_
  have bn := sz_R_n1 hC.1 t202
  refine rd_checkShapes_l hC t723 t202 t203 (fun g hB hp9 n3 n8 hsh => ?_) k0 _ 0 h rfl (by omega) (by omega) hC (pz.refl _ _) (fun _ _ => rfl) (fun _ _ _ _ => rfl) (fun k k0 k1 => by omega)
  have hd : ∀ x, (F x).2 ≠ none → ∃ k, 0 ≤ k ∧ k < qz_I h 202 1 ∧ sz_f h k = x := fun x hx => by
    obtain ⟨q, hq⟩ : ∃ q, (F x).2 = some q := by cases hq : (F x).2 with | none => exact absurd hq hx | some q => exact ⟨q, rfl⟩
    have := ((hw x).2 q.1 q.2 hq).2.2.2
    exact sz_dec hC this.1 this.2 hx
  refine k1 (fun x cp vs hq => ?_) g hB hp9 n3 n8 (fun x hx => ?_)
  · obtain ⟨k, k0', k1', e⟩ := hd x (by rw [hq]; exact fun e => by cases e)
    have := (hsh k k0' k1').2 cp vs (by rw [e]; exact hq)
    rw [e] at this; exact this
  · obtain ⟨k, k0', k1', e⟩ := hd x hx
    have := (hsh k k0' k1').1
    rw [e] at this; exact this

theorem pz_f {g : cz_H} (hC : pz_C τ h T F E) (x : pz τ h g) {i : Int} (i0 : 0 ≤ i) (i1 : i < 513) : sz_f g i = sz_f h i := by
  have t202 : τ 202 = 48 := hC.2.1 202 (by decide)
  have t203 : τ 203 = 49 := hC.2.1 203 (by decide)
  have out : ∀ q, τ q = 4 → q < 723 ∨ 728 < q := fun q hq => by
    by_cases e : 723 ≤ q ∧ q ≤ 728
    · have := pz_X hC.2.1 e.1 e.2; omega
    · omega
  exact (sz_same hC.1 t203 t202 (x.2.1 202 (by rw [t202]; decide) (by omega)) (x.2.1 203 (by rw [t203]; decide) (by omega)) (fun q hq => x.2.1 q (by rw [hq]; decide) (out q hq))).2.1 i i0 i1 0
theorem pz_n {g : cz_H} (hX : jz_X τ) (x : pz τ h g) : ∀ j, qz_I g 202 j = qz_I h 202 j := fun j => by unfold qz_I; rw [x.2.1 202 (by rw [hX 202 (by decide)]; decide) (by omega)]
theorem rd_prepare_l (hw : uz_wf F) (hS : uz_S1 F) (hXr : ∀ x ∈ Xs, 0 ≤ x ∧ x ≤ 1114111) (hXs : ∀ x, (F x).2 ≠ none → x ∈ Xs) (hXl : Xs.length ≤ 256) (hC0 : pz_C τ h T F E) (k1 : uz_S F E → ∀ g, xy τ T F E Xs g → pz τ h g → (∀ x, (F x).2 ≠ none → qz_I g (T x) 8 = 2) → Q (.inl (some (ez_v (.inl 1))), g)) (k0 : ¬ uz_S F E → ∀ g, ez_B τ g → pz τ h g → Q (.inl (some (ez_v (.inl 0))), g)) : ∀ (m : Nat) (i : Int) (g : cz_H), m = (qz_I h 202 1 - i).toNat → 0 ≤ i → i ≤ qz_I h 202 1 → xy τ T F E Xs g → pz τ h g → qz_I g 723 8 = 0 → (∀ k, 0 ≤ k → k < i → (F (sz_f h k)).2 ≠ none → qz_I g (T (sz_f h k)) 8 = 2) → ez_W (d + 5) cm_129 21 [(1, .inl (i)), (0, .inr (.inr (some (723))))] [] g Q := by
  intro m
  induction m with
  | zero =>
    intro i g hm i0 i1 hx hpz h8 hcl
    have t202 : τ 202 = 48 := hC0.2.1 202 (by decide)
    have t723 : τ 723 = 55 := hC0.2.1 723 (by decide)
    have bn := sz_R_n1 hC0.1 t202
    have e202 : qz_I g 202 1 = qz_I h 202 1 := pz_n hC0.2.1 hpz 1
    refine ez_go (n := 2) (pc' := 23) (L' := [(1, .inl (i)), (0, .inr (.inr (some (723))))]) (st' := [.inr (.inr (some (723))), .inl (i)]) rfl ?_
    refine ez_gC (p := 202) (tg := 48) hx.1.1 t723 rfl rfl tq_55 rfl rfl (fun (t202 : _ = 48) => ?_)
    refine ez_gI hx.1.1 t202 rfl rfl tq_48 rfl rfl (fun (b1 : 1 ≤ qz_I g 202 1) (b1' : qz_I g 202 1 ≤ 513) => ?_)
    refine ez_icmp rfl rfl ⟨by first | omega | exact (sz_i32 _).1, by first | omega | exact (sz_i32 _).2⟩ ⟨by first | omega | exact (sz_i32 _).1, by first | omega | exact (sz_i32 _).2⟩ (fun (c2 : (qz_I g 202 1) ≤ (i)) => ?_) (fun (c2 : ¬((qz_I g 202 1) ≤ (i))) => ?_)
    · skip
      refine ez_go (n := 1) (pc' := 76) (L' := [(1, .inl (i)), (0, .inr (.inr (some (723))))]) (st' := [.inr (.inr (some (723)))]) rfl ?_
      have hall : ∀ x, (F x).2 ≠ none → qz_I g (T x) 8 = 2 := fun x hxn => by
        obtain ⟨q, hq⟩ : ∃ q, (F x).2 = some q := by cases hq : (F x).2 with | none => exact absurd hq hxn | some q => exact ⟨q, rfl⟩
        have hr := ((hw x).2 q.1 q.2 hq).2.2.2
        obtain ⟨k, k0, k1, e⟩ := sz_dec hC0 hr.1 hr.2 hxn
        have := hcl k k0 (by omega) (by rw [e]; exact hxn)
        rw [e] at this; exact this
      have hrng : ∀ x, (F x).2 ≠ none → 0 ≤ x ∧ x ≤ 1114111 := fun x hxn => by
        obtain ⟨q, hq⟩ : ∃ q, (F x).2 = some q := by cases hq : (F x).2 with | none => exact absurd hq hxn | some q => exact ⟨q, rfl⟩
        exact ((hw x).2 q.1 q.2 hq).2.2.2
      have hS2 : uz_S2 F := fun x hxn => (hx.2.1 x (hrng x hxn).1 (hrng x hxn).2 hxn (hall x hxn)).1
      have hS3 : uz_S3 F := fun x hxn c => by obtain ⟨l, l1, l2, l3⟩ := (hx.2.1 x (hrng x hxn).1 (hrng x hxn).2 hxn (hall x hxn)).2 c; exact ⟨l, l1, l3⟩
      refine ez_cv hx.1.1 t723 rfl rfl rfl tq_55 rfl rfl rfl (rd_gatherPairs hw hS hXs hXl hx.1 h8 (fun h4 g2 hB2 f2 j2 => ez_K1 ?_) (fun h4 g2 hB2 p2 => ez_K1 ?_))
      · have p2 := pz_PG hC0.2.1 f2
        have t3n : ∀ q, τ q = 3 → nz_PG q = false := fun q hq => by unfold nz_PG; rw [dz_beq_ne (fun e => by rw [e] at hq; exact (pz_X hC0.2.1 (by omega) (by omega)).1 hq), dz_beq_ne (fun e => by rw [e] at hq; exact (pz_X hC0.2.1 (by omega) (by omega)).1 hq), dz_beq_ne (fun e => by rw [e] at hq; exact (pz_X hC0.2.1 (by omega) (by omega)).1 hq)]; rfl
        refine ez_retZ rfl rfl (by decide) (k1 ⟨hS, hS2, hS3, h4⟩ g2 (xy_tr hXr hx hB2 p2 (fun q hq j _ => f2.I (t3n q hq) j) (j2 2 (by decide)) (fun j => f2.I rfl j)) (hpz.trans p2) (fun x hxn => ?_))
        rw [f2.I (t3n _ (hx.1.2.2.2.2 x (hrng x hxn).1 (hrng x hxn).2).1)]; exact hall x hxn
      · exact ez_retZ rfl rfl (by decide) (k0 (fun h => h4 h.2.2.2) g2 hB2 (hpz.trans p2))
    · exfalso; omega
  | succ m ih =>
    intro i g hm i0 i1 hx hpz h8 hcl
    have t202 : τ 202 = 48 := hC0.2.1 202 (by decide)
    have t723 : τ 723 = 55 := hC0.2.1 723 (by decide)
    have bn := sz_R_n1 hC0.1 t202
    have e202 : qz_I g 202 1 = qz_I h 202 1 := pz_n hC0.2.1 hpz 1
    refine ez_go (n := 2) (pc' := 23) (L' := [(1, .inl (i)), (0, .inr (.inr (some (723))))]) (st' := [.inr (.inr (some (723))), .inl (i)]) rfl ?_
    refine ez_gC (p := 202) (tg := 48) hx.1.1 t723 rfl rfl tq_55 rfl rfl (fun (t202 : _ = 48) => ?_)
    refine ez_gI hx.1.1 t202 rfl rfl tq_48 rfl rfl (fun (b1 : 1 ≤ qz_I g 202 1) (b1' : qz_I g 202 1 ≤ 513) => ?_)
    refine ez_icmp rfl rfl ⟨by first | omega | exact (sz_i32 _).1, by first | omega | exact (sz_i32 _).2⟩ ⟨by first | omega | exact (sz_i32 _).1, by first | omega | exact (sz_i32 _).2⟩ (fun (c2 : (qz_I g 202 1) ≤ (i)) => ?_) (fun (c2 : ¬((qz_I g 202 1) ≤ (i))) => ?_)
    · exfalso; omega
    · skip
      refine ez_go (n := 1) (pc' := 33) (L' := [(1, .inl (i)), (0, .inr (.inr (some (723))))]) (st' := [.inr (.inr (some (723)))]) rfl ?_
      refine ez_gC (p := 202) (tg := 48) hx.1.1 t723 rfl rfl tq_55 rfl rfl (fun (t202 : _ = 48) => ?_)
      refine ez_gC (p := 203) (tg := 49) hx.1.1 t202 rfl rfl tq_48 rfl rfl (fun (t203 : _ = 49) => ?_)
      refine ez_go (n := 1) (pc' := 40) (L' := [(1, .inl (i)), (0, .inr (.inr (some (723))))]) (st' := [.inl (i), .inr (.inr (some (203)))]) rfl ?_
      have n4 : 513 ≤ qz_N g 203 ∧ qz_N g 203 ≤ 513 := ez_len hx.1.1 t203 tq_49 rfl
      have y5 : 1 ≤ qz_I g 203 (i).toNat ∧ qz_I g 203 (i).toNat ≤ 1000000 := ez_aB hx.1.1 t203 tq_49 rfl rfl (by decide) (by omega) (by omega)
      have y5' : ((qz_P g 203 (i).toNat : Nat) : Int) + 1 = qz_I g 203 (i).toNat := by unfold qz_P; omega
      refine ez_aR hx.1.1 t203 rfl tq_49 rfl rfl (by omega) (by omega) (by omega) (fun (t3 : _ = 4) => ?_)
      refine ez_gR hx.1.1 t3 rfl rfl tq_4 rfl rfl (fun (t6 : _ = 3) (t6' : 1 ≤ qz_I g (qz_P g 203 (i).toNat) 1) => ?_)
      obtain ⟨at1, y0, y1⟩ := sz_first hx.1.2.2.1 i0 (show i < qz_I g 202 1 by omega)
      have ef : sz_f g i = sz_f h i := pz_f hC0 hpz i0 (by omega)
      rw [ef] at at1 y0 y1
      have e1 := (hx.1.2.2.2.1 _ i y0 y1 at1).1
      obtain ⟨x, ex⟩ : ∃ x, x = sz_f h i := ⟨_, rfl⟩
      rw [← ex] at at1 y0 y1 e1
      have eT : qz_P g (qz_P g 203 (i).toNat) 1 = T x := by show qz_P g (sz_p g i) 1 = T x; unfold qz_P; omega
      rw [eT]
      obtain ⟨tT, -, f3, f4⟩ := hx.1.2.2.2.2 x y0 y1
      refine ez_go (n := 2) (pc' := 46) (L' := [(2, .inr (.inr (some ((T x))))), (1, .inl (i)), (0, .inr (.inr (some (723))))]) (st' := [.inr (.inr (some ((T x))))]) rfl ?_
      refine ez_gN hx.1.1 tT rfl rfl tq_3 rfl rfl (fun (t7 : qz_I g ((T x)) 3 = 0) => ?_) (fun (t7 : _ = 5) (t7' : 1 ≤ qz_I g ((T x)) 3) => ?_)
      · skip
        refine ez_null0 rfl rfl ?_
        refine ez_go (n := 2) (pc' := 21) (L' := [(1, .inl (i + 1)), (2, .inr (.inr (some ((T x))))), (0, .inr (.inr (some (723))))]) (st' := []) rfl ?_
        refine ez_less [(1, .inl (i + 1)), (0, .inr (.inr (some (723))))] rfl ⟨rfl, rfl, trivial⟩ ?_
        refine ih (i + 1) g (by omega) (by omega) (by omega) hx hpz h8 (fun k k0 k1 hk => ?_)
        by_cases e : k = i
        · subst e
          rw [← ex] at hk ⊢
          have n1 := hx.2.2.1 x y0 y1 hk
          have b8 : 0 ≤ qz_I g (T x) 8 ∧ qz_I g (T x) 8 ≤ 2 := ez_fB (cl := 3) hx.1.1 tT tq_3 rfl rfl (by decide)
          obtain ⟨q, hq⟩ : ∃ q, (F x).2 = some q := by cases hq : (F x).2 with | none => exact absurd hq hk | some q => exact ⟨q, rfl⟩
          have f5 := (f4 q.1 q.2 hq).2.2.1
          omega
        · exact hcl k k0 (by omega) hk
      · skip
        refine ez_null1 rfl ?_
        refine ez_go (n := 1) (pc' := 53) (L' := [(2, .inr (.inr (some ((T x))))), (1, .inl (i)), (0, .inr (.inr (some (723))))]) (st' := [.inr (.inr (some ((T x))))]) rfl ?_
        refine ez_gI hx.1.1 tT rfl rfl tq_3 rfl rfl (fun (b8 : 0 ≤ qz_I g ((T x)) 8) (b8' : qz_I g ((T x)) 8 ≤ 2) => ?_)
        refine ez_if rfl rfl ⟨by first | omega | exact (sz_i32 _).1, by first | omega | exact (sz_i32 _).2⟩ (fun (c9 : (qz_I g ((T x)) 8) ≠ (0)) => ?_) (fun (c9 : ¬((qz_I g ((T x)) 8) ≠ (0))) => ?_)
        · skip
          refine ez_go (n := 2) (pc' := 21) (L' := [(1, .inl (i + 1)), (2, .inr (.inr (some ((T x))))), (0, .inr (.inr (some (723))))]) (st' := []) rfl ?_
          refine ez_less [(1, .inl (i + 1)), (0, .inr (.inr (some (723))))] rfl ⟨rfl, rfl, trivial⟩ ?_
          refine ih (i + 1) g (by omega) (by omega) (by omega) hx hpz h8 (fun k k0 k1 hk => ?_)
          by_cases e : k = i
          · subst e
            rw [← ex] at hk ⊢
            have n1 := hx.2.2.1 x y0 y1 hk
            have b8 : 0 ≤ qz_I g (T x) 8 ∧ qz_I g (T x) 8 ≤ 2 := ez_fB (cl := 3) hx.1.1 tT tq_3 rfl rfl (by decide)
            obtain ⟨q, hq⟩ : ∃ q, (F x).2 = some q := by cases hq : (F x).2 with | none => exact absurd hq hk | some q => exact ⟨q, rfl⟩
            have f5 := (f4 q.1 q.2 hq).2.2.1
            omega
          · exact hcl k k0 (by omega) hk
        · skip
          refine ez_go (n := 2) (pc' := 61) (L' := [(2, .inr (.inr (some ((T x))))), (1, .inl (i)), (0, .inr (.inr (some (723))))]) (st' := [.inr (.inr (some ((T x)))), .inr (.inr (some (723)))]) rfl ?_
          have hnx : (F x).2 ≠ none := fun w => by have := f3 w; omega
          obtain ⟨q, hq⟩ : ∃ q, (F x).2 = some q := by cases hq : (F x).2 with | none => exact absurd hq hnx | some q => exact ⟨q, rfl⟩
          refine ez_cv hx.1.1 t723 rfl rfl rfl tq_55 rfl rfl rfl (rd_expandFrom hw hS hXr hXs hXl hx y0 y1 (hS x q.1 q.2 hq).1 hnx (by omega) (fun hno g2 hB2 p2 => ez_K1 ?_) (fun g2 x2 p2 e2 v2 w2 => ez_K1 ?_))
          · skip
            refine ez_if rfl rfl ⟨by decide, by decide⟩ (fun (c10 : (0 : Int) ≠ (0)) => absurd c10 (by decide)) (fun _ => ?_)
            refine ez_go (n := 1) (pc' := 68) (L' := [(2, .inr (.inr (some ((T x))))), (1, .inl (i)), (0, .inr (.inr (some (723))))]) (st' := [.inl (0)]) rfl ?_
            exact ez_retZ rfl rfl (by decide) (k0 (fun h => hno ⟨h.2.1, h.2.2.1⟩) g2 hB2 (hpz.trans p2))
          · skip
            refine ez_if rfl rfl ⟨by decide, by decide⟩ (fun _ => ?_) (fun (c11 : ¬((1 : Int) ≠ (0))) => absurd c11 (by decide))
            refine ez_go (n := 2) (pc' := 21) (L' := [(1, .inl (i + 1)), (2, .inr (.inr (some ((T x))))), (0, .inr (.inr (some (723))))]) (st' := []) rfl ?_
            refine ez_less [(1, .inl (i + 1)), (0, .inr (.inr (some (723))))] rfl ⟨rfl, rfl, trivial⟩ ?_
            refine ih (i + 1) g2 (by omega) (by omega) (by omega) x2 (hpz.trans p2) (e2.trans h8) (fun k k0 k1 hk => ?_)
            by_cases e : k = i
            · subst e; rw [← ex]; exact w2
            · obtain ⟨-, z0, z1⟩ := sz_first hC0.2.2.1 k0 (by omega)
              exact (v2 _ z0 z1 hk).1 (hcl k k0 (by omega) hk)
theorem rd_prepare (hw : uz_wf F) (hXr : ∀ x ∈ Xs, 0 ≤ x ∧ x ≤ 1114111) (hXs : ∀ x, (F x).2 ≠ none → x ∈ Xs) (hXl : Xs.length ≤ 256) (hC0 : pz_C τ h T F E) (k1 : uz_S F E → ∀ g, xy τ T F E Xs g → pz τ h g → (∀ x, (F x).2 ≠ none → qz_I g (T x) 8 = 2) → Q (.inl (some (ez_v (.inl 1))), g)) (k0 : ¬ uz_S F E → ∀ g, ez_B τ g → pz τ h g → Q (.inl (some (ez_v (.inl 0))), g)) : ez_W (d + 5) cm_129 0 [(0, .inr (.inr (some (723))))] [] h Q := by
  have t202 : τ 202 = 48 := hC0.2.1 202 (by decide)
  have t723 : τ 723 = 55 := hC0.2.1 723 (by decide)
  refine ez_go (n := 2) (pc' := 2) (L' := [(0, .inr (.inr (some (723))))]) (st' := [.inl (0), .inr (.inr (some (723)))]) rfl ?_
  refine ez_pf hC0.1 t723 rfl rfl tq_55 rfl rfl rfl rfl (ez_vdI rfl rfl (by omega) (by omega)) (fun hB1 w2 => ?_)
  refine ez_go (n := 2) (pc' := 7) (L' := [(0, .inr (.inr (some (723))))]) (st' := [.inl (0), .inr (.inr (some (723)))]) rfl ?_
  refine ez_pf hB1 t723 rfl rfl tq_55 rfl rfl rfl rfl (ez_vdI rfl rfl (by omega) (by omega)) (fun hB3 w4 => ?_)
  refine ez_go (n := 1) (pc' := 11) (L' := [(0, .inr (.inr (some (723))))]) (st' := [.inr (.inr (some (723)))]) rfl ?_
  have X3 := (pz_X hC0.2.1 (show 723 ≤ 723 by omega) (by omega)).1
  have p1 : pz τ h (dz_put (dz_put h 723 2 (ez_v (.inl (0)))) 723 8 (ez_v (.inl (0)))) := (pz_put (by omega) (by omega) X3).trans (pz_put (by omega) (by omega) X3)
  have hC1 := hC0.fr hB3 p1
  have u2 : qz_I (dz_put (dz_put h 723 2 (ez_v (.inl (0)))) 723 8 (ez_v (.inl (0)))) 723 2 = 0 := by rw [ez_put_I (by omega), w2]; rfl
  have u8 : qz_I (dz_put (dz_put h 723 2 (ez_v (.inl (0)))) 723 8 (ez_v (.inl (0)))) 723 8 = 0 := by rw [w4]; rfl
  generalize (dz_put (dz_put h 723 2 (ez_v (.inl (0)))) 723 8 (ez_v (.inl (0)))) = g1 at *
  refine ez_cv hC1.1 t723 rfl rfl rfl tq_55 rfl rfl rfl (rd_checkShapes hw hC1 (fun hS g2 hB2 p2 n3 n8 hv => ez_K1 ?_) (fun hS g2 hB2 p2 => ez_K1 ?_))
  · skip
    refine ez_if rfl rfl ⟨by decide, by decide⟩ (fun _ => ?_) (fun (c5 : ¬((1 : Int) ≠ (0))) => absurd c5 (by decide))
    refine ez_go (n := 2) (pc' := 21) (L' := [(1, .inl (0)), (0, .inr (.inr (some (723))))]) (st' := []) rfl ?_
    refine ez_less [(1, .inl (0)), (0, .inr (.inr (some (723))))] rfl ⟨rfl, rfl, trivial⟩ ?_
    have hC2 := hC1.fr hB2 p2
    have i723 : ∀ j, qz_I g2 723 j = qz_I g1 723 j := fun j => by unfold qz_I; rw [n3 723 X3]
    have hx : xy τ T F E Xs g2 := ⟨hC2, fun x x0 x1 hx h2 => (by rw [hv x hx] at h2; cases h2), fun x x0 x1 hx h2 => (by rw [hv x hx] at h2; cases h2), wz_one (wU_le g2 T) Xs, by rw [i723, u2]; have := wz_one (wN_le g2 T) Xs; omega⟩
    have bn := sz_R_n1 hC2.1 t202
    exact rd_prepare_l (h := g2) hw hS hXr hXs hXl hC2 (fun hSS g y1 y2 y3 => k1 hSS g y1 ((p1.trans p2).trans y2) y3) (fun hn g y1 y2 => k0 hn g y1 ((p1.trans p2).trans y2)) _ 0 g2 rfl (by omega) (by omega) hx (pz.refl _ _) (by rw [i723]; exact u8) (fun k k0 k1 => by omega)
  · skip
    refine ez_if rfl rfl ⟨by decide, by decide⟩ (fun (c6 : (0 : Int) ≠ (0)) => absurd c6 (by decide)) (fun _ => ?_)
    refine ez_go (n := 1) (pc' := 18) (L' := [(0, .inr (.inr (some (723))))]) (st' := [.inl (0)]) rfl ?_
    exact ez_retZ rfl rfl (by decide) (k0 (fun h => hS h.1) g2 hB2 (p1.trans p2))

end EzPp
