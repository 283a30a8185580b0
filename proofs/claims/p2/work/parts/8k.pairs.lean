/-! The class: expandFrom, checkShapes. (Written by wip/p2/py/pv33.py.) -/
section EzXg
variable {d : Nat} {h : cz_H} {τ : Nat → Nat} {Q : cz_F → Prop} {T : Int → Nat} {F : rz_W} {E : Int → Prop} {Xs : List Int}
theorem wz_one {W : Int → Nat} (h : ∀ x, W x ≤ 1) : ∀ xs : List Int, wz W xs ≤ xs.length
  | [] => Nat.le_refl _
  | x :: xs => by
    have := wz_one h xs
    have := h x
    unfold wz
    simp only [List.length_cons]
    omega
theorem wU_le (g : cz_H) (T : Int → Nat) (x : Int) : wU g T x ≤ 1 := by unfold wU; split <;> omega
theorem wN_le (g : cz_H) (T : Int → Nat) (x : Int) : wN g T x ≤ 1 := by unfold wN; split <;> omega
/-- span i begins with its first point -/
theorem sz_first {g : cz_H} (hs : sz_ok g) {i : Int} (i0 : 0 ≤ i) (i1 : i < qz_I g 202 1) : sz_at g (sz_f g i) i ∧ 0 ≤ sz_f g i ∧ sz_f g i ≤ 1114111 := by
  refine ⟨⟨i0, i1, Int.le_refl _, fun w => (hs.2 i (i + 1) i0 (by omega) w).1⟩, ?_⟩
  by_cases e : i = 0
  · subst e; rw [hs.1]; omega
  · have := hs.2 0 i (by omega) (by omega) i1
    rw [hs.1] at this
    omega
/-- a decomposed point is the first of its span -/
theorem sz_dec {g : cz_H} (hC : pz_C τ g T F E) {x : Int} (x0 : 0 ≤ x) (x1 : x ≤ 1114111) (hn : (F x).2 ≠ none) : ∃ k, 0 ≤ k ∧ k < qz_I g 202 1 ∧ sz_f g k = x := by
  have t202 : τ 202 = 48 := hC.2.1 202 (by decide)
  have bn := sz_R_n1 hC.1 t202
  obtain ⟨k, hk⟩ := sz_at_ex hC.2.2.1 bn.1 x0
  obtain ⟨h1, h2, h3⟩ := sz_first hC.2.2.1 hk.1 hk.2.1
  have e1 := (hC.2.2.2.1 x k x0 x1 hk).1
  have e2 := (hC.2.2.2.1 _ k h2 h3 h1).1
  exact ⟨k, hk.1, hk.2.1, T_inj hC x0 x1 h2 h3 hn (by omega)⟩
theorem rd_expandFrom {w : Int} (hw : uz_wf F) (hS : uz_S1 F) (hXr : ∀ x ∈ Xs, 0 ≤ x ∧ x ≤ 1114111) (hXs : ∀ x, (F x).2 ≠ none → x ∈ Xs) (hXl : Xs.length ≤ 256) (hx : xy τ T F E Xs h) (w0 : 0 ≤ w) (w1 : w ≤ 1114111) (hzw : ¬ hz w) (hnw : (F w).2 ≠ none) (h8 : qz_I h (T w) 8 = 0) (kF : ¬ (uz_S2 F ∧ uz_S3 F) → ∀ g, ez_B τ g → pz τ h g → Q (.inl (some (ez_v (.inl 0))), g)) (kS : ∀ g, xy τ T F E Xs g → pz τ h g → qz_I g 723 8 = qz_I h 723 8 → vm T F h g → qz_I g (T w) 8 = 2 → Q (.inl (some (ez_v (.inl 1))), g)) : ez_W (d + 4) cm_117 0 [(0, .inr (.inr (some (723)))), (1, .inr (.inr (some ((T w)))))] [] h Q := by
  have t723 : τ 723 = 55 := hx.1.2.1 723 (by decide)
  have tw : τ (T w) = 3 := (hx.1.2.2.2.2 w w0 w1).1
  have lT := dz_here_lt (hx.1.1.1 _ (by rw [tw]; decide)).1
  have rm : h.1 + 0 ≤ 600192 := by have : cz_room h 0 0 = true := hx.1.1.2.1; unfold cz_room at this; rw [Bool.and_eq_true] at this; exact Nat.ble_eq.mp this.1
  refine ez_go (n := 2) (pc' := 2) (L' := [(0, .inr (.inr (some (723)))), (1, .inr (.inr (some ((T w)))))]) (st' := [.inl (0), .inr (.inr (some (723)))]) rfl ?_
  refine ez_pf hx.1.1 t723 rfl rfl tq_55 rfl rfl rfl rfl (ez_vdI rfl rfl (by omega) (by omega)) (fun hB1 w2 => ?_)
  refine ez_go (n := 2) (pc' := 7) (L' := [(0, .inr (.inr (some (723)))), (1, .inr (.inr (some ((T w)))))]) (st' := [.inr (.inr (some ((T w)))), .inr (.inr (some (723)))]) rfl ?_
  have x1 : xy τ T F E Xs (dz_put h 723 5 (ez_v (.inl (0)))) := xy_tr hXr hx hB1 (pz_put (by omega) (by omega) (pz_X hx.1.2.1 (by omega) (by omega)).1) (fun q hq j _ => ez_put_I (fun w => by rw [w.1, t723] at hq; cases hq)) (ez_put_I (by omega)) (fun j => ez_put_I (by omega))
  have h50 : qz_I (dz_put h 723 5 (ez_v (.inl (0)))) 723 5 = 0 := by rw [w2]; rfl
  have x2 := xy_to x1 h50
  have p1 : pz τ h (dz_put h 723 5 (ez_v (.inl (0)))) := pz_put (by omega) (by omega) (pz_X hx.1.2.1 (by omega) (by omega)).1
  have v1 : vm T F h (dz_put h 723 5 (ez_v (.inl (0)))) := vm_1 hx.1 (by omega) (by omega) ((ez_fr.refl (ez_one 723) h).put (show Nat.beq 723 723 = true from rfl) _ _)
  have e8 : qz_I (dz_put h 723 5 (ez_v (.inl (0)))) 723 8 = qz_I h 723 8 := ez_put_I (by omega)
  have eT8 : qz_I (dz_put h 723 5 (ez_v (.inl (0)))) (T w) 8 = 0 := by rw [ez_put_I (fun w => by rw [w.1, t723] at tw; cases tw)]; exact h8
  generalize (dz_put h 723 5 (ez_v (.inl (0)))) = g at *
  refine ez_cv x1.1.1 t723 rfl rfl rfl tq_55 rfl rfl rfl (rd_enter x1.1.1 x1.1.2.1 tw (by omega) (by omega) (fun g2 hen => ez_K1 ?_))
  have x3 : xz τ T F E Xs g (some w) [] := ⟨x2.1, x2.2.1, x2.2.2.1, trivial, x2.2.2.2.2.1, x2.2.2.2.2.2⟩
  have hen2 : en τ g g2 (T w) ((([] : List Int).length : Nat) : Int) := by rw [← x2.2.1]; exact hen
  obtain ⟨x4, ps4⟩ := xz_E hw hXr hXs x3 w0 w1 hzw hnw eT8 hen2
  have v2 : vm T F g g2 := vm_r x1.1 w0 w1 hnw (fun q q1 q2 j => by unfold qz_I; rw [hen.2.2.1 q q1 q2]) hen.2.2.2.1 (by decide) (fun w => by omega)
  have hps0 : ps g F [] = 0 := rfl
  have hwU := wz_one (wU_le g T) Xs
  refine ez_go (n := 3) (pc' := 13) (L' := [(2, .inl (0)), (0, .inr (.inr (some (723)))), (1, .inr (.inr (some ((T w)))))]) (st' := []) rfl ?_
  refine ez_less [(2, .inl (0)), (0, .inr (.inr (some (723)))), (1, .inr (.inr (some ((T w)))))] rfl ⟨rfl, rfl, rfl, trivial⟩ ?_
  refine rd_expand_l (h := g2) hw hS hXr hXs hXl tw (fun hno g3 y1 y2 => kF hno g3 y1 ((p1.trans hen.2.1).trans y2)) (fun g3 y1 y2 y3 y4 => kS g3 y1 ((p1.trans hen.2.1).trans y2) (y3.trans ((hen.2.2.2.2.2.2.1 8 (by decide)).trans e8)) ((v1.trans v2).trans y4) ?_) 6000 0 _ g2 (by omega) (by omega) (by omega) x4 (pz.refl _ _) rfl (vm.refl _ _ _)
  have b8 : 0 ≤ qz_I g3 (T w) 8 ∧ qz_I g3 (T w) 8 ≤ 2 := ez_fB (cl := 3) y1.1.1 tw tq_3 rfl rfl (by decide)
  have n1 := y1.2.2.1 w w0 w1 hnw
  have n0 := (y4 w w0 w1 hnw).2 (by rw [hen.2.2.2.1]; decide)
  omega

theorem rd_checkShapes_l (hC0 : pz_C τ h T F E) (t723 : τ 723 = 55) (t202 : τ 202 = 48) (t203 : τ 203 = 49) (k1 : ∀ g, ez_B τ g → (∀ q, τ q ≠ 3 → g.2.2 q = h.2.2 q) → (∀ q, τ q = 3 → ∀ j, j ≠ 8 → qz_I g q j = qz_I h q j) → (∀ k, 0 ≤ k → k < qz_I h 202 1 → qz_I g (T (sz_f h k)) 8 = 0 ∧ ∀ cp vs, (F (sz_f h k)).2 = some (cp, vs) → ¬ hz (sz_f h k) ∧ (cp = 0 → vs.length ≤ 2)) → Q (.inl (some (ez_v (.inl 1))), g)) (k0 : ¬ uz_S1 F → ∀ g, ez_B τ g → pz τ h g → Q (.inl (some (ez_v (.inl 0))), g)) : ∀ (m : Nat) (i : Int) (g : cz_H), m = (qz_I h 202 1 - i).toNat → 0 ≤ i → i ≤ qz_I h 202 1 → pz_C τ g T F E → pz τ h g → (∀ q, τ q ≠ 3 → g.2.2 q = h.2.2 q) → (∀ q, τ q = 3 → ∀ j, j ≠ 8 → qz_I g q j = qz_I h q j) → (∀ k, 0 ≤ k → k < i → qz_I g (T (sz_f h k)) 8 = 0 ∧ ∀ cp vs, (F (sz_f h k)).2 = some (cp, vs) → ¬ hz (sz_f h k) ∧ (cp = 0 → vs.length ≤ 2)) → ez_W (d + 1) cm_112 2 [(1, .inl (i)), (0, .inr (.inr (some (723))))] [] g Q := by
  intro m
  induction m with
  | zero =>
    intro i g hm i0 i1 hC hpz n3 n8 hsh
    have bn := sz_R_n1 hC0.1 t202
    have e202 : qz_I g 202 1 = qz_I h 202 1 := by unfold qz_I; rw [n3 202 (by rw [t202]; decide)]
    refine ez_go (n := 2) (pc' := 4) (L' := [(1, .inl (i)), (0, .inr (.inr (some (723))))]) (st' := [.inr (.inr (some (723))), .inl (i)]) rfl ?_
    refine ez_gC (p := 202) (tg := 48) hC.1 t723 rfl rfl tq_55 rfl rfl (fun (t202 : _ = 48) => ?_)
    refine ez_gI hC.1 t202 rfl rfl tq_48 rfl rfl (fun (b1 : 1 ≤ qz_I g 202 1) (b1' : qz_I g 202 1 ≤ 513) => ?_)
    refine ez_icmp rfl rfl ⟨by first | omega | exact (sz_i32 _).1, by first | omega | exact (sz_i32 _).2⟩ ⟨by first | omega | exact (sz_i32 _).1, by first | omega | exact (sz_i32 _).2⟩ (fun (c2 : (qz_I g 202 1) ≤ (i)) => ?_) (fun (c2 : ¬((qz_I g 202 1) ≤ (i))) => ?_)
    · skip
      refine ez_go (n := 1) (pc' := 90) (L' := [(1, .inl (i)), (0, .inr (.inr (some (723))))]) (st' := [.inl (1)]) rfl ?_
      exact ez_retZ rfl rfl (by decide) (k1 g hC.1 n3 n8 (by rw [show qz_I h 202 1 = i by omega]; exact hsh))
    · exfalso; omega
  | succ m ih =>
    intro i g hm i0 i1 hC hpz n3 n8 hsh
    have bn := sz_R_n1 hC0.1 t202
    have e202 : qz_I g 202 1 = qz_I h 202 1 := by unfold qz_I; rw [n3 202 (by rw [t202]; decide)]
    refine ez_go (n := 2) (pc' := 4) (L' := [(1, .inl (i)), (0, .inr (.inr (some (723))))]) (st' := [.inr (.inr (some (723))), .inl (i)]) rfl ?_
    refine ez_gC (p := 202) (tg := 48) hC.1 t723 rfl rfl tq_55 rfl rfl (fun (t202 : _ = 48) => ?_)
    refine ez_gI hC.1 t202 rfl rfl tq_48 rfl rfl (fun (b1 : 1 ≤ qz_I g 202 1) (b1' : qz_I g 202 1 ≤ 513) => ?_)
    refine ez_icmp rfl rfl ⟨by first | omega | exact (sz_i32 _).1, by first | omega | exact (sz_i32 _).2⟩ ⟨by first | omega | exact (sz_i32 _).1, by first | omega | exact (sz_i32 _).2⟩ (fun (c2 : (qz_I g 202 1) ≤ (i)) => ?_) (fun (c2 : ¬((qz_I g 202 1) ≤ (i))) => ?_)
    · exfalso; omega
    · skip
      refine ez_go (n := 1) (pc' := 14) (L' := [(1, .inl (i)), (0, .inr (.inr (some (723))))]) (st' := [.inr (.inr (some (723)))]) rfl ?_
      refine ez_gC (p := 202) (tg := 48) hC.1 t723 rfl rfl tq_55 rfl rfl (fun (t202 : _ = 48) => ?_)
      refine ez_gC (p := 203) (tg := 49) hC.1 t202 rfl rfl tq_48 rfl rfl (fun (t203 : _ = 49) => ?_)
      refine ez_go (n := 1) (pc' := 21) (L' := [(1, .inl (i)), (0, .inr (.inr (some (723))))]) (st' := [.inl (i), .inr (.inr (some (203)))]) rfl ?_
      have n4 : 513 ≤ qz_N g 203 ∧ qz_N g 203 ≤ 513 := ez_len hC.1 t203 tq_49 rfl
      have y5 : 1 ≤ qz_I g 203 (i).toNat ∧ qz_I g 203 (i).toNat ≤ 1000000 := ez_aB hC.1 t203 tq_49 rfl rfl (by decide) (by omega) (by omega)
      have y5' : ((qz_P g 203 (i).toNat : Nat) : Int) + 1 = qz_I g 203 (i).toNat := by unfold qz_P; omega
      refine ez_aR hC.1 t203 rfl tq_49 rfl rfl (by omega) (by omega) (by omega) (fun (t3 : _ = 4) => ?_)
      refine ez_gR hC.1 t3 rfl rfl tq_4 rfl rfl (fun (t6 : _ = 3) (t6' : 1 ≤ qz_I g (qz_P g 203 (i).toNat) 1) => ?_)
      obtain ⟨at1, y0, y1⟩ := sz_first hC.2.2.1 i0 (show i < qz_I g 202 1 by omega)
      have ef : sz_f g i = sz_f h i := by unfold sz_f sz_p qz_P qz_I; rw [n3 203 (by rw [t203]; decide), n3 _ (by have := sz_tag hC0.1 t203 i0 (show i < 513 by omega); unfold sz_p qz_P qz_I at this; rw [this]; decide)]
      rw [ef] at at1 y0 y1
      have e1 := (hC.2.2.2.1 _ i y0 y1 at1).1
      obtain ⟨x, ex⟩ : ∃ x, x = sz_f h i := ⟨_, rfl⟩
      rw [← ex] at at1 y0 y1 e1
      have eT : qz_P g (qz_P g 203 (i).toNat) 1 = T x := by show qz_P g (sz_p g i) 1 = T x; unfold qz_P; omega
      rw [eT]
      obtain ⟨tT, -, f3, f4⟩ := hC.2.2.2.2 x y0 y1
      refine ez_go (n := 3) (pc' := 28) (L' := [(2, .inr (.inr (some ((T x))))), (1, .inl (i)), (0, .inr (.inr (some (723))))]) (st' := [.inl (0), .inr (.inr (some ((T x))))]) rfl ?_
      refine ez_pf hC.1 tT rfl rfl tq_3 rfl rfl rfl rfl (ez_vdI rfl rfl (by omega) (by omega)) (fun hB7 w8 => ?_)
      have pH : pz τ g (dz_put g ((T x)) 8 (ez_v (.inl (0)))) := pz_put3 tT (by omega)
      have hCH := hC.fr hB7 pH
      obtain ⟨-, -, f3, f4⟩ := hCH.2.2.2.2 x y0 y1
      have v8 : qz_I (dz_put g ((T x)) 8 (ez_v (.inl (0)))) (T x) 8 = 0 := by rw [w8]; rfl
      have m3 : ∀ q, τ q ≠ 3 → ((dz_put g ((T x)) 8 (ez_v (.inl (0))))).2.2 q = h.2.2 q := fun q hq => (qz_put_at _ _ _ _ (fun e => by rw [e] at hq; exact hq tT)).trans (n3 q hq)
      have m8 : ∀ q, τ q = 3 → ∀ j, j ≠ 8 → qz_I (dz_put g ((T x)) 8 (ez_v (.inl (0)))) q j = qz_I h q j := fun q hq j hj => (ez_put_I (fun w => hj w.2)).trans (n8 q hq j hj)
      have hsh2 : ∀ k, 0 ≤ k → k < i → qz_I (dz_put g ((T x)) 8 (ez_v (.inl (0)))) (T (sz_f h k)) 8 = 0 := fun k k0 k1 => by
        by_cases e : T (sz_f h k) = T x
        · rw [e]; exact v8
        · rw [ez_put_I (fun w => e w.1)]; exact (hsh k k0 k1).1
      generalize (dz_put g ((T x)) 8 (ez_v (.inl (0)))) = gg at *
      refine ez_go (n := 1) (pc' := 32) (L' := [(2, .inr (.inr (some ((T x))))), (1, .inl (i)), (0, .inr (.inr (some (723))))]) (st' := [.inr (.inr (some ((T x))))]) rfl ?_
      refine ez_gN hCH.1 tT rfl rfl tq_3 rfl rfl (fun (t9 : qz_I gg ((T x)) 3 = 0) => ?_) (fun (t9 : _ = 5) (t9' : 1 ≤ qz_I gg ((T x)) 3) => ?_)
      · skip
        refine ez_null0 rfl rfl ?_
        refine ez_go (n := 3) (pc' := 61) (L' := [(3, .inl (0)), (2, .inr (.inr (some ((T x))))), (1, .inl (i)), (0, .inr (.inr (some (723))))]) (st' := [.inl (0)]) rfl ?_
        refine ez_if rfl rfl ⟨by decide, by decide⟩ (fun (c10 : (0 : Int) ≠ (0)) => absurd c10 (by decide)) (fun _ => ?_)
        refine ez_go (n := 1) (pc' := 65) (L' := [(3, .inl (0)), (2, .inr (.inr (some ((T x))))), (1, .inl (i)), (0, .inr (.inr (some (723))))]) (st' := [.inr (.inr (some ((T x))))]) rfl ?_
        refine ez_gN hCH.1 tT rfl rfl tq_3 rfl rfl (fun (t11 : qz_I gg ((T x)) 3 = 0) => ?_) (fun (t11 : _ = 5) (t11' : 1 ≤ qz_I gg ((T x)) 3) => ?_)
        · skip
          refine ez_null0 rfl rfl ?_
          refine ez_go (n := 2) (pc' := 2) (L' := [(1, .inl (i + 1)), (3, .inl (0)), (2, .inr (.inr (some ((T x))))), (0, .inr (.inr (some (723))))]) (st' := []) rfl ?_
          refine ez_less [(1, .inl (i + 1)), (0, .inr (.inr (some (723))))] rfl ⟨rfl, rfl, trivial⟩ ?_
          refine ih (i + 1) gg (by omega) (by omega) (by omega) hCH (hpz.trans pH) m3 m8 (fun k k0 k1 => ?_)
          by_cases e9 : k = i
          · subst e9
            rw [← ex]
            refine ⟨v8, fun cp vs hq => ?_⟩
            obtain ⟨d0, d1, d2, d3, d4, -⟩ := f4 cp vs hq
            exact ⟨by first | exact e | (exfalso; omega), fun w => by omega⟩
          · exact ⟨hsh2 k k0 (by omega), (hsh k k0 (by omega)).2⟩
        · skip
          refine ez_null1 rfl ?_
          refine ez_go (n := 1) (pc' := 72) (L' := [(3, .inl (0)), (2, .inr (.inr (some ((T x))))), (1, .inl (i)), (0, .inr (.inr (some (723))))]) (st' := [.inr (.inr (some ((T x))))]) rfl ?_
          refine ez_gI hCH.1 tT rfl rfl tq_3 rfl rfl (fun (b12 : -2147483648 ≤ qz_I gg ((T x)) 0) (b12' : qz_I gg ((T x)) 0 ≤ 2147483647) => ?_)
          have fx : qz_I gg (T x) 0 = x := by
            cases hq : (F x).2 with
            | none => have := f3 hq; omega
            | some q => exact (f4 q.1 q.2 hq).1
          rw [fx]
          refine ez_cs hCH.1.2.1 rfl rfl rfl rfl rfl (rd_isSyl (by omega) (by omega) (fun e => ez_K1 ?_) (fun e => ez_K1 ?_))
          · skip
            refine ez_if rfl rfl ⟨by decide, by decide⟩ (fun (c13 : (1 : Int) = (0)) => absurd c13 (by decide)) (fun _ => ?_)
            refine ez_go (n := 1) (pc' := 82) (L' := [(3, .inl (0)), (2, .inr (.inr (some ((T x))))), (1, .inl (i)), (0, .inr (.inr (some (723))))]) (st' := [.inl (0)]) rfl ?_
            refine ez_retZ rfl rfl (by decide) (k0 (fun hS => ?_) gg hCH.1 (hpz.trans pH))
            cases hq : (F x).2 with
            | none => have := f3 hq; omega
            | some q =>
              obtain ⟨c1, c2⟩ := hS x q.1 q.2 hq
              obtain ⟨d0, d1, d2, d3, d4, -⟩ := f4 q.1 q.2 hq
              first | exact c1 e | (have := c2 (by omega); omega)
          · skip
            refine ez_if rfl rfl ⟨by decide, by decide⟩ (fun _ => ?_) (fun (c14 : ¬((0 : Int) = (0))) => absurd c14 (by decide))
            refine ez_go (n := 2) (pc' := 2) (L' := [(1, .inl (i + 1)), (3, .inl (0)), (2, .inr (.inr (some ((T x))))), (0, .inr (.inr (some (723))))]) (st' := []) rfl ?_
            refine ez_less [(1, .inl (i + 1)), (0, .inr (.inr (some (723))))] rfl ⟨rfl, rfl, trivial⟩ ?_
            refine ih (i + 1) gg (by omega) (by omega) (by omega) hCH (hpz.trans pH) m3 m8 (fun k k0 k1 => ?_)
            by_cases e9 : k = i
            · subst e9
              rw [← ex]
              refine ⟨v8, fun cp vs hq => ?_⟩
              obtain ⟨d0, d1, d2, d3, d4, -⟩ := f4 cp vs hq
              exact ⟨by first | exact e | (exfalso; omega), fun w => by omega⟩
            · exact ⟨hsh2 k k0 (by omega), (hsh k k0 (by omega)).2⟩
      · skip
        refine ez_null1 rfl ?_
        refine ez_go (n := 1) (pc' := 39) (L' := [(2, .inr (.inr (some ((T x))))), (1, .inl (i)), (0, .inr (.inr (some (723))))]) (st' := [.inr (.inr (some ((T x))))]) rfl ?_
        refine ez_gI hCH.1 tT rfl rfl tq_3 rfl rfl (fun (b15 : 0 ≤ qz_I gg ((T x)) 4) (b15' : qz_I gg ((T x)) 4 ≤ 1) => ?_)
        refine ez_if rfl rfl ⟨by first | omega | exact (sz_i32 _).1, by first | omega | exact (sz_i32 _).2⟩ (fun (c16 : (qz_I gg ((T x)) 4) ≠ (0)) => ?_) (fun (c16 : ¬((qz_I gg ((T x)) 4) ≠ (0))) => ?_)
        · skip
          refine ez_go (n := 3) (pc' := 61) (L' := [(3, .inl (0)), (2, .inr (.inr (some ((T x))))), (1, .inl (i)), (0, .inr (.inr (some (723))))]) (st' := [.inl (0)]) rfl ?_
          refine ez_if rfl rfl ⟨by decide, by decide⟩ (fun (c17 : (0 : Int) ≠ (0)) => absurd c17 (by decide)) (fun _ => ?_)
          refine ez_go (n := 1) (pc' := 65) (L' := [(3, .inl (0)), (2, .inr (.inr (some ((T x))))), (1, .inl (i)), (0, .inr (.inr (some (723))))]) (st' := [.inr (.inr (some ((T x))))]) rfl ?_
          refine ez_gN hCH.1 tT rfl rfl tq_3 rfl rfl (fun (t18 : qz_I gg ((T x)) 3 = 0) => ?_) (fun (t18 : _ = 5) (t18' : 1 ≤ qz_I gg ((T x)) 3) => ?_)
          · skip
            refine ez_null0 rfl rfl ?_
            refine ez_go (n := 2) (pc' := 2) (L' := [(1, .inl (i + 1)), (3, .inl (0)), (2, .inr (.inr (some ((T x))))), (0, .inr (.inr (some (723))))]) (st' := []) rfl ?_
            refine ez_less [(1, .inl (i + 1)), (0, .inr (.inr (some (723))))] rfl ⟨rfl, rfl, trivial⟩ ?_
            refine ih (i + 1) gg (by omega) (by omega) (by omega) hCH (hpz.trans pH) m3 m8 (fun k k0 k1 => ?_)
            by_cases e9 : k = i
            · subst e9
              rw [← ex]
              refine ⟨v8, fun cp vs hq => ?_⟩
              obtain ⟨d0, d1, d2, d3, d4, -⟩ := f4 cp vs hq
              exact ⟨by first | exact e | (exfalso; omega), fun w => by omega⟩
            · exact ⟨hsh2 k k0 (by omega), (hsh k k0 (by omega)).2⟩
          · skip
            refine ez_null1 rfl ?_
            refine ez_go (n := 1) (pc' := 72) (L' := [(3, .inl (0)), (2, .inr (.inr (some ((T x))))), (1, .inl (i)), (0, .inr (.inr (some (723))))]) (st' := [.inr (.inr (some ((T x))))]) rfl ?_
            refine ez_gI hCH.1 tT rfl rfl tq_3 rfl rfl (fun (b19 : -2147483648 ≤ qz_I gg ((T x)) 0) (b19' : qz_I gg ((T x)) 0 ≤ 2147483647) => ?_)
            have fx : qz_I gg (T x) 0 = x := by
              cases hq : (F x).2 with
              | none => have := f3 hq; omega
              | some q => exact (f4 q.1 q.2 hq).1
            rw [fx]
            refine ez_cs hCH.1.2.1 rfl rfl rfl rfl rfl (rd_isSyl (by omega) (by omega) (fun e => ez_K1 ?_) (fun e => ez_K1 ?_))
            · skip
              refine ez_if rfl rfl ⟨by decide, by decide⟩ (fun (c20 : (1 : Int) = (0)) => absurd c20 (by decide)) (fun _ => ?_)
              refine ez_go (n := 1) (pc' := 82) (L' := [(3, .inl (0)), (2, .inr (.inr (some ((T x))))), (1, .inl (i)), (0, .inr (.inr (some (723))))]) (st' := [.inl (0)]) rfl ?_
              refine ez_retZ rfl rfl (by decide) (k0 (fun hS => ?_) gg hCH.1 (hpz.trans pH))
              cases hq : (F x).2 with
              | none => have := f3 hq; omega
              | some q =>
                obtain ⟨c1, c2⟩ := hS x q.1 q.2 hq
                obtain ⟨d0, d1, d2, d3, d4, -⟩ := f4 q.1 q.2 hq
                first | exact c1 e | (have := c2 (by omega); omega)
            · skip
              refine ez_if rfl rfl ⟨by decide, by decide⟩ (fun _ => ?_) (fun (c21 : ¬((0 : Int) = (0))) => absurd c21 (by decide))
              refine ez_go (n := 2) (pc' := 2) (L' := [(1, .inl (i + 1)), (3, .inl (0)), (2, .inr (.inr (some ((T x))))), (0, .inr (.inr (some (723))))]) (st' := []) rfl ?_
              refine ez_less [(1, .inl (i + 1)), (0, .inr (.inr (some (723))))] rfl ⟨rfl, rfl, trivial⟩ ?_
              refine ih (i + 1) gg (by omega) (by omega) (by omega) hCH (hpz.trans pH) m3 m8 (fun k k0 k1 => ?_)
              by_cases e9 : k = i
              · subst e9
                rw [← ex]
                refine ⟨v8, fun cp vs hq => ?_⟩
                obtain ⟨d0, d1, d2, d3, d4, -⟩ := f4 cp vs hq
                exact ⟨by first | exact e | (exfalso; omega), fun w => by omega⟩
              · exact ⟨hsh2 k k0 (by omega), (hsh k k0 (by omega)).2⟩
        · skip
          refine ez_go (n := 1) (pc' := 46) (L' := [(2, .inr (.inr (some ((T x))))), (1, .inl (i)), (0, .inr (.inr (some (723))))]) (st' := [.inr (.inr (some ((T x))))]) rfl ?_
          refine ez_gN hCH.1 tT rfl rfl tq_3 rfl rfl (fun (t22 : qz_I gg ((T x)) 3 = 0) => ?_) (fun (t22 : _ = 5) (t22' : 1 ≤ qz_I gg ((T x)) 3) => ?_)
          · exfalso; omega
          · skip
            refine ez_al hCH.1 t22 rfl tq_5 rfl (fun (b23 : 0 ≤ qz_N gg (qz_P gg ((T x)) 3)) (b23' : qz_N gg (qz_P gg ((T x)) 3) ≤ 18) => ?_)
            refine ez_go (n := 1) (pc' := 51) (L' := [(2, .inr (.inr (some ((T x))))), (1, .inl (i)), (0, .inr (.inr (some (723))))]) (st' := [.inl (2), .inl (qz_N gg (qz_P gg ((T x)) 3))]) rfl ?_
            refine ez_icmp rfl rfl ⟨by first | omega | exact (sz_i32 _).1, by first | omega | exact (sz_i32 _).2⟩ ⟨by first | omega | exact (sz_i32 _).1, by first | omega | exact (sz_i32 _).2⟩ (fun (c24 : (qz_N gg (qz_P gg ((T x)) 3)) ≤ (2)) => ?_) (fun (c24 : ¬((qz_N gg (qz_P gg ((T x)) 3)) ≤ (2))) => ?_)
            · skip
              refine ez_go (n := 3) (pc' := 61) (L' := [(3, .inl (0)), (2, .inr (.inr (some ((T x))))), (1, .inl (i)), (0, .inr (.inr (some (723))))]) (st' := [.inl (0)]) rfl ?_
              refine ez_if rfl rfl ⟨by decide, by decide⟩ (fun (c25 : (0 : Int) ≠ (0)) => absurd c25 (by decide)) (fun _ => ?_)
              refine ez_go (n := 1) (pc' := 65) (L' := [(3, .inl (0)), (2, .inr (.inr (some ((T x))))), (1, .inl (i)), (0, .inr (.inr (some (723))))]) (st' := [.inr (.inr (some ((T x))))]) rfl ?_
              refine ez_gN hCH.1 tT rfl rfl tq_3 rfl rfl (fun (t26 : qz_I gg ((T x)) 3 = 0) => ?_) (fun (t26 : _ = 5) (t26' : 1 ≤ qz_I gg ((T x)) 3) => ?_)
              · skip
                refine ez_null0 rfl rfl ?_
                refine ez_go (n := 2) (pc' := 2) (L' := [(1, .inl (i + 1)), (3, .inl (0)), (2, .inr (.inr (some ((T x))))), (0, .inr (.inr (some (723))))]) (st' := []) rfl ?_
                refine ez_less [(1, .inl (i + 1)), (0, .inr (.inr (some (723))))] rfl ⟨rfl, rfl, trivial⟩ ?_
                refine ih (i + 1) gg (by omega) (by omega) (by omega) hCH (hpz.trans pH) m3 m8 (fun k k0 k1 => ?_)
                by_cases e9 : k = i
                · subst e9
                  rw [← ex]
                  refine ⟨v8, fun cp vs hq => ?_⟩
                  obtain ⟨d0, d1, d2, d3, d4, -⟩ := f4 cp vs hq
                  exact ⟨by first | exact e | (exfalso; omega), fun w => by omega⟩
                · exact ⟨hsh2 k k0 (by omega), (hsh k k0 (by omega)).2⟩
              · skip
                refine ez_null1 rfl ?_
                refine ez_go (n := 1) (pc' := 72) (L' := [(3, .inl (0)), (2, .inr (.inr (some ((T x))))), (1, .inl (i)), (0, .inr (.inr (some (723))))]) (st' := [.inr (.inr (some ((T x))))]) rfl ?_
                refine ez_gI hCH.1 tT rfl rfl tq_3 rfl rfl (fun (b27 : -2147483648 ≤ qz_I gg ((T x)) 0) (b27' : qz_I gg ((T x)) 0 ≤ 2147483647) => ?_)
                have fx : qz_I gg (T x) 0 = x := by
                  cases hq : (F x).2 with
                  | none => have := f3 hq; omega
                  | some q => exact (f4 q.1 q.2 hq).1
                rw [fx]
                refine ez_cs hCH.1.2.1 rfl rfl rfl rfl rfl (rd_isSyl (by omega) (by omega) (fun e => ez_K1 ?_) (fun e => ez_K1 ?_))
                · skip
                  refine ez_if rfl rfl ⟨by decide, by decide⟩ (fun (c28 : (1 : Int) = (0)) => absurd c28 (by decide)) (fun _ => ?_)
                  refine ez_go (n := 1) (pc' := 82) (L' := [(3, .inl (0)), (2, .inr (.inr (some ((T x))))), (1, .inl (i)), (0, .inr (.inr (some (723))))]) (st' := [.inl (0)]) rfl ?_
                  refine ez_retZ rfl rfl (by decide) (k0 (fun hS => ?_) gg hCH.1 (hpz.trans pH))
                  cases hq : (F x).2 with
                  | none => have := f3 hq; omega
                  | some q =>
                    obtain ⟨c1, c2⟩ := hS x q.1 q.2 hq
                    obtain ⟨d0, d1, d2, d3, d4, -⟩ := f4 q.1 q.2 hq
                    first | exact c1 e | (have := c2 (by omega); omega)
                · skip
                  refine ez_if rfl rfl ⟨by decide, by decide⟩ (fun _ => ?_) (fun (c29 : ¬((0 : Int) = (0))) => absurd c29 (by decide))
                  refine ez_go (n := 2) (pc' := 2) (L' := [(1, .inl (i + 1)), (3, .inl (0)), (2, .inr (.inr (some ((T x))))), (0, .inr (.inr (some (723))))]) (st' := []) rfl ?_
                  refine ez_less [(1, .inl (i + 1)), (0, .inr (.inr (some (723))))] rfl ⟨rfl, rfl, trivial⟩ ?_
                  refine ih (i + 1) gg (by omega) (by omega) (by omega) hCH (hpz.trans pH) m3 m8 (fun k k0 k1 => ?_)
                  by_cases e9 : k = i
                  · subst e9
                    rw [← ex]
                    refine ⟨v8, fun cp vs hq => ?_⟩
                    obtain ⟨d0, d1, d2, d3, d4, -⟩ := f4 cp vs hq
                    exact ⟨by first | exact e | (exfalso; omega), fun w => by omega⟩
                  · exact ⟨hsh2 k k0 (by omega), (hsh k k0 (by omega)).2⟩
            · skip
              refine ez_go (n := 4) (pc' := 61) (L' := [(3, .inl (1)), (2, .inr (.inr (some ((T x))))), (1, .inl (i)), (0, .inr (.inr (some (723))))]) (st' := [.inl (1)]) rfl ?_
              refine ez_if rfl rfl ⟨by decide, by decide⟩ (fun _ => ?_) (fun (c30 : ¬((1 : Int) ≠ (0))) => absurd c30 (by decide))
              refine ez_go (n := 1) (pc' := 82) (L' := [(3, .inl (1)), (2, .inr (.inr (some ((T x))))), (1, .inl (i)), (0, .inr (.inr (some (723))))]) (st' := [.inl (0)]) rfl ?_
              refine ez_retZ rfl rfl (by decide) (k0 (fun hS => ?_) gg hCH.1 (hpz.trans pH))
              cases hq : (F x).2 with
              | none => have := f3 hq; omega
              | some q =>
                obtain ⟨c1, c2⟩ := hS x q.1 q.2 hq
                obtain ⟨d0, d1, d2, d3, d4, -⟩ := f4 q.1 q.2 hq
                first | exact c1 e | (have := c2 (by omega); omega)
end EzXg
/-! Pairs in one number. -/
theorem pp_bv {a b : Nat} (ha : a < 2097152) (hb : b < 2097152) : (((BitVec.ofNat 64 a) <<< 21) ||| (BitVec.ofNat 64 b)).toNat = a * 2097152 + b := by
  rw [BitVec.toNat_or, BitVec.toNat_shiftLeft, BitVec.toNat_ofNat, BitVec.toNat_ofNat, Nat.mod_eq_of_lt (a := a) (by omega), Nat.mod_eq_of_lt (a := b) (by omega)]
  have e : a <<< 21 = a * 2097152 := by rw [Nat.shiftLeft_eq]
  rw [Nat.mod_eq_of_lt (by rw [e]; omega), ← Nat.shiftLeft_add_eq_or_of_lt (by omega : b < 2 ^ 21), e]
theorem pp_int {a b : Int} (a0 : 0 ≤ a) (a1 : a ≤ 1114111) (b0 : 0 ≤ b) (b1 : b ≤ 1114111) : ((Int32.ofInt a).toInt64 <<< ((Int32.ofInt 21).toInt64 &&& 63) ||| (Int32.ofInt b).toInt64).toInt = a * 2097152 + b := by
  have e0 : (Int32.ofInt 21).toInt64 &&& 63 = 21 := by decide
  have cv : ∀ {z : Int}, 0 ≤ z → z ≤ 1114111 → (Int32.ofInt z).toInt64.toBitVec = BitVec.ofNat 64 z.toNat := fun {z} z0 z1 => by
    have h1 : (Int32.ofInt z).toInt64 = Int64.ofInt z := by
      apply Int64.toInt_inj.mp
      rw [Int32.toInt_toInt64, dz_toInt_i (by omega) (by omega), Int64.toInt_ofInt_of_le (by omega) (by omega)]
    rw [h1]
    show BitVec.ofInt 64 z = _
    rw [show z = ((z.toNat : Nat) : Int) by omega, BitVec.ofInt_natCast]
    congr 1
  rw [e0]
  have h2 : ((Int32.ofInt a).toInt64 <<< 21 ||| (Int32.ofInt b).toInt64).toBitVec = (((BitVec.ofNat 64 a.toNat) <<< 21) ||| (BitVec.ofNat 64 b.toNat)) := by
    rw [Int64.toBitVec_or, Int64.toBitVec_shiftLeft, cv a0 a1, cv b0 b1]
    rfl
  show (((Int32.ofInt a).toInt64 <<< 21 ||| (Int32.ofInt b).toInt64).toBitVec).toInt = _
  rw [h2, BitVec.toInt_eq_toNat_of_lt (by rw [pp_bv (by omega) (by omega)]; omega), pp_bv (by omega) (by omega)]
  omega
/-! The class: exclusion, pairs. (Written by wip/p2/py/pv34.py.) -/
section EzPr
variable {d : Nat} {h : cz_H} {τ : Nat → Nat} {Q : cz_F → Prop} {T : Int → Nat} {F : rz_W} {E : Int → Prop}
/-- a long of an array of longs -/
theorem ez_lrg {r t : Nat} {ti : dz_I} {i lo hi : Int} {tg md : Nat} (hB : ez_B τ h) (hτ : τ r = t) (hti : tz_T t = some ti) (hD : dz_nth ti.2.2.2.2 0 = some (2, lo, hi, tg, md)) (hb : (Nat.beq ti.1 1 && Nat.blt ti.2.1 11) = true) (h0 : 0 ≤ i) (h1 : i < qz_N h r) : (Int64.ofInt (qz_I h r i.toNat)).toInt = qz_I h r i.toNat := by
  obtain ⟨n, f, o1, o2, o3, o4, -, o6⟩ := ez_arr hB hτ hti hb hD
  rw [o3] at h1
  obtain ⟨g1, g2⟩ := o6 _ (show i.toNat < n by omega)
  have hx : ∃ x : Int64, f i.toNat = .inr (.inl x) := by
    have := g2.1
    revert this
    generalize f i.toNat = v
    intro this
    match v with
    | .inl _ => cases this
    | .inr (.inl x) => exact ⟨x, rfl⟩
    | .inr (.inr _) => cases this
  obtain ⟨x, hx⟩ := hx
  rw [qz_I_of g1, hx]
  show (Int64.ofInt x.toInt).toInt = x.toInt
  rw [Int64.ofInt_toInt]
theorem rd_hasTrait {z : Nat} (hB : ez_B τ h) (tz : τ z = 4) (k1 : sz_t0 (qz_I h z 2) → Q (.inl (some (ez_v (.inl 1))), h)) (k0 : ¬ sz_t0 (qz_I h z 2) → Q (.inl (some (ez_v (.inl 0))), h)) : ez_W d cm_184 0 [(0, .inr (.inr (some (z)))), (1, .inl (1))] [] h Q := by
  refine ez_go (n := 1) (pc' := 1) (L' := [(0, .inr (.inr (some (z)))), (1, .inl (1))]) (st' := [.inr (.inr (some (z)))]) rfl ?_
  refine ez_gI hB tz rfl rfl tq_4 rfl rfl (fun (b1 : -2147483648 ≤ qz_I h z 2) (b1' : qz_I h z 2 ≤ 2147483647) => ?_)
  refine ez_go (n := 2) (pc' := 6) (L' := [(0, .inr (.inr (some (z)))), (1, .inl (1))]) (st' := [.inl ((Int32.ofInt (qz_I h z 2) &&& Int32.ofInt (1)).toInt)]) rfl ?_
  refine ez_if rfl rfl ⟨by first | omega | exact (sz_i32 _).1, by first | omega | exact (sz_i32 _).2⟩ (fun (c2 : ((Int32.ofInt (qz_I h z 2) &&& Int32.ofInt (1)).toInt) = (0)) => ?_) (fun (c2 : ¬(((Int32.ofInt (qz_I h z 2) &&& Int32.ofInt (1)).toInt) = (0))) => ?_)
  · skip
    refine ez_go (n := 1) (pc' := 14) (L' := [(0, .inr (.inr (some (z)))), (1, .inl (1))]) (st' := [.inl (0)]) rfl ?_
    exact ez_retZ rfl rfl (by decide) (k0 (fun w => w (by assumption)))
  · skip
    refine ez_go (n := 2) (pc' := 14) (L' := [(0, .inr (.inr (some (z)))), (1, .inl (1))]) (st' := [.inl (1)]) rfl ?_
    exact ez_retZ rfl rfl (by decide) (k1 (by unfold sz_t0; assumption))

theorem rd_classOf {x : Int} (hC : pz_C τ h T F E) (x0 : 0 ≤ x) (x1 : x ≤ 1114111) (k : Q (.inl (some (ez_v (.inl (F x).1))), h)) : ez_W (d + 1) cm_95 0 [(0, .inr (.inr (some (202)))), (1, .inl (x))] [] h Q := by
  have t202 : τ 202 = 48 := hC.2.1 202 (by decide)
  have t203 : τ 203 = 49 := hC.2.1 203 (by decide)
  refine ez_go (n := 1) (pc' := 1) (L' := [(0, .inr (.inr (some (202)))), (1, .inl (x))]) (st' := [.inr (.inr (some (202)))]) rfl ?_
  refine ez_gC (p := 203) (tg := 49) hC.1 t202 rfl rfl tq_48 rfl rfl (fun (t203 : _ = 49) => ?_)
  refine ez_go (n := 2) (pc' := 6) (L' := [(0, .inr (.inr (some (202)))), (1, .inl (x))]) (st' := [.inl (x), .inr (.inr (some (202))), .inr (.inr (some (203)))]) rfl ?_
  have bn := sz_R_n1 hC.1 t202
  refine ez_cv hC.1 t202 rfl rfl rfl tq_48 rfl rfl rfl (rd_spanIndex hC.1 t202 hC.2.2.1 x0 (by omega) (fun i i0 i1 i2 i3 => ez_K1 ?_))
  have n2 : 513 ≤ qz_N h 203 ∧ qz_N h 203 ≤ 513 := ez_len hC.1 t203 tq_49 rfl
  have y3 : 1 ≤ qz_I h 203 (i).toNat ∧ qz_I h 203 (i).toNat ≤ 1000000 := ez_aB hC.1 t203 tq_49 rfl rfl (by decide) (by omega) (by omega)
  have y3' : ((qz_P h 203 (i).toNat : Nat) : Int) + 1 = qz_I h 203 (i).toNat := by unfold qz_P; omega
  refine ez_aR hC.1 t203 rfl tq_49 rfl rfl (by omega) (by omega) (by omega) (fun (t1 : _ = 4) => ?_)
  refine ez_gR hC.1 t1 rfl rfl tq_4 rfl rfl (fun (t4 : _ = 3) (t4' : 1 ≤ qz_I h (qz_P h 203 (i).toNat) 1) => ?_)
  obtain ⟨w1, w2⟩ := hC.2.2.2.1 x i x0 x1 ⟨i0, i1, i2, i3⟩
  have eT : qz_P h (qz_P h 203 (i).toNat) 1 = T x := by show qz_P h (sz_p h i) 1 = T x; unfold qz_P; omega
  rw [eT]
  obtain ⟨tT, f2, -⟩ := hC.2.2.2.2 x x0 x1
  refine ez_gI hC.1 tT rfl rfl tq_3 rfl rfl (fun (b5 : -2147483648 ≤ qz_I h ((T x)) 2) (b5' : qz_I h ((T x)) 2 ≤ 2147483647) => ?_)
  rw [f2]
  exact ez_retI rfl rfl k

theorem rd_headOfTwo {x : Int} (hC : pz_C τ h T F E) (x0 : 0 ≤ x) (x1 : x ≤ 1114111) (hx : ¬ hz x) (k : ∀ v, ((∃ a b, (F x).2 = some (0, [a, b]) ∧ v = a) ∨ (v = -1 ∧ ¬ ∃ a b, (F x).2 = some (0, [a, b]))) → Q (.inl (some (ez_v (.inl v))), h)) : ez_W (d + 1) cm_120 0 [(0, .inl (x)), (1, .inr (.inr (some ((T x)))))] [] h Q := by
  obtain ⟨tT, -, f3, f4⟩ := hC.2.2.2.2 x x0 x1
  refine ez_go (n := 1) (pc' := 1) (L' := [(0, .inl (x)), (1, .inr (.inr (some ((T x)))))]) (st' := [.inl (x)]) rfl ?_
  refine ez_cs hC.1.2.1 rfl rfl rfl rfl rfl (rd_isSyl (by omega) (by omega) (fun e => absurd e hx) (fun e => ez_K1 ?_))
  refine ez_if rfl rfl ⟨by decide, by decide⟩ (fun _ => ?_) (fun (c1 : ¬((0 : Int) = (0))) => absurd c1 (by decide))
  refine ez_go (n := 1) (pc' := 26) (L' := [(0, .inl (x)), (1, .inr (.inr (some ((T x)))))]) (st' := [.inr (.inr (some ((T x))))]) rfl ?_
  refine ez_gN hC.1 tT rfl rfl tq_3 rfl rfl (fun (t2 : qz_I h ((T x)) 3 = 0) => ?_) (fun (t2 : _ = 5) (t2' : 1 ≤ qz_I h ((T x)) 3) => ?_)
  · skip
    refine ez_null0 rfl rfl ?_
    refine ez_go (n := 1) (pc' := 58) (L' := [(0, .inl (x)), (1, .inr (.inr (some ((T x)))))]) (st' := [.inl (-1)]) rfl ?_
    refine ez_retI rfl rfl (k _ (Or.inr ⟨rfl, fun ⟨a, b, w⟩ => ?_⟩))
    obtain ⟨d0, d1, d2, d3, d4, -⟩ := f4 _ _ w
    simp only [List.length_cons, List.length_nil] at d4
    omega
  · skip
    refine ez_null1 rfl ?_
    refine ez_go (n := 1) (pc' := 33) (L' := [(0, .inl (x)), (1, .inr (.inr (some ((T x)))))]) (st' := [.inr (.inr (some ((T x))))]) rfl ?_
    refine ez_gI hC.1 tT rfl rfl tq_3 rfl rfl (fun (b3 : 0 ≤ qz_I h ((T x)) 4) (b3' : qz_I h ((T x)) 4 ≤ 1) => ?_)
    refine ez_if rfl rfl ⟨by first | omega | exact (sz_i32 _).1, by first | omega | exact (sz_i32 _).2⟩ (fun (c4 : (qz_I h ((T x)) 4) ≠ (0)) => ?_) (fun (c4 : ¬((qz_I h ((T x)) 4) ≠ (0))) => ?_)
    · skip
      refine ez_go (n := 1) (pc' := 58) (L' := [(0, .inl (x)), (1, .inr (.inr (some ((T x)))))]) (st' := [.inl (-1)]) rfl ?_
      refine ez_retI rfl rfl (k _ (Or.inr ⟨rfl, fun ⟨a, b, w⟩ => ?_⟩))
      obtain ⟨d0, d1, d2, d3, d4, -⟩ := f4 _ _ w
      simp only [List.length_cons, List.length_nil] at d4
      omega
    · skip
      refine ez_go (n := 1) (pc' := 40) (L' := [(0, .inl (x)), (1, .inr (.inr (some ((T x)))))]) (st' := [.inr (.inr (some ((T x))))]) rfl ?_
      refine ez_gN hC.1 tT rfl rfl tq_3 rfl rfl (fun (t5 : qz_I h ((T x)) 3 = 0) => ?_) (fun (t5 : _ = 5) (t5' : 1 ≤ qz_I h ((T x)) 3) => ?_)
      · exfalso; omega
      · skip
        refine ez_al hC.1 t5 rfl tq_5 rfl (fun (b6 : 0 ≤ qz_N h (qz_P h ((T x)) 3)) (b6' : qz_N h (qz_P h ((T x)) 3) ≤ 18) => ?_)
        refine ez_go (n := 1) (pc' := 45) (L' := [(0, .inl (x)), (1, .inr (.inr (some ((T x)))))]) (st' := [.inl (2), .inl (qz_N h (qz_P h ((T x)) 3))]) rfl ?_
        refine ez_icmp rfl rfl ⟨by first | omega | exact (sz_i32 _).1, by first | omega | exact (sz_i32 _).2⟩ ⟨by first | omega | exact (sz_i32 _).1, by first | omega | exact (sz_i32 _).2⟩ (fun (c7 : (qz_N h (qz_P h ((T x)) 3)) ≠ (2)) => ?_) (fun (c7 : ¬((qz_N h (qz_P h ((T x)) 3)) ≠ (2))) => ?_)
        · skip
          refine ez_go (n := 1) (pc' := 58) (L' := [(0, .inl (x)), (1, .inr (.inr (some ((T x)))))]) (st' := [.inl (-1)]) rfl ?_
          refine ez_retI rfl rfl (k _ (Or.inr ⟨rfl, fun ⟨a, b, w⟩ => ?_⟩))
          obtain ⟨d0, d1, d2, d3, d4, -⟩ := f4 _ _ w
          simp only [List.length_cons, List.length_nil] at d4
          omega
        · skip
          refine ez_go (n := 1) (pc' := 49) (L' := [(0, .inl (x)), (1, .inr (.inr (some ((T x)))))]) (st' := [.inr (.inr (some ((T x))))]) rfl ?_
          refine ez_gN hC.1 tT rfl rfl tq_3 rfl rfl (fun (t8 : qz_I h ((T x)) 3 = 0) => ?_) (fun (t8 : _ = 5) (t8' : 1 ≤ qz_I h ((T x)) 3) => ?_)
          · exfalso; omega
          · skip
            refine ez_go (n := 1) (pc' := 53) (L' := [(0, .inl (x)), (1, .inr (.inr (some ((T x)))))]) (st' := [.inl (0), .inr (.inr (some (qz_P h ((T x)) 3)))]) rfl ?_
            have n10 : 0 ≤ qz_N h (qz_P h ((T x)) 3) ∧ qz_N h (qz_P h ((T x)) 3) ≤ 18 := ez_len hC.1 t8 tq_5 rfl
            refine ez_aI hC.1 t8 rfl tq_5 rfl rfl (by omega) (by omega) (fun (b9 : -2147483648 ≤ qz_I h (qz_P h ((T x)) 3) (0 : Int).toNat) (b9' : qz_I h (qz_P h ((T x)) 3) (0 : Int).toNat ≤ 2147483647) => ?_)
            refine ez_go (n := 1) (pc' := 58) (L' := [(0, .inl (x)), (1, .inr (.inr (some ((T x)))))]) (st' := [.inl (qz_I h (qz_P h ((T x)) 3) (0 : Int).toNat)]) rfl ?_
            cases hq : (F x).2 with
            | none => have := f3 hq; omega
            | some q =>
              obtain ⟨d0, d1, d2, d3, d4, d5⟩ := f4 q.1 q.2 hq
              have hl : q.2.length = 2 := by omega
              obtain ⟨cp, vs⟩ := q
              have hc : cp = 0 := by have d1 : qz_I h (T x) 4 = cp := d1; omega
              subst hc
              match vs, hl, hq, d5 with
              | [a, b], _, hq, d5 =>
                have e0 := d5 0 a rfl
                rw [show (0 : Int).toNat = 0 from rfl, e0]
                exact ez_retI rfl rfl (k a (Or.inl ⟨a, b, hq, rfl⟩))

theorem rd_isExcluded {x : Int} (hw : uz_wf F) (hC : pz_C τ h T F E) (x0 : 0 ≤ x) (x1 : x ≤ 1114111) (hx : ¬ hz x) (k1 : ez_x F E x → Q (.inl (some (ez_v (.inl 1))), h)) (k0 : ¬ ez_x F E x → Q (.inl (some (ez_v (.inl 0))), h)) : ez_W (d + 2) cm_122 0 [(0, .inr (.inr (some (723)))), (1, .inl (x))] [] h Q := by
  have t723 : τ 723 = 55 := hC.2.1 723 (by decide)
  obtain ⟨tT, f2, f3, f4⟩ := hC.2.2.2.2 x x0 x1
  refine ez_go (n := 1) (pc' := 1) (L' := [(0, .inr (.inr (some (723)))), (1, .inl (x))]) (st' := [.inr (.inr (some (723)))]) rfl ?_
  refine ez_gC (p := 202) (tg := 48) hC.1 t723 rfl rfl tq_55 rfl rfl (fun (t202 : _ = 48) => ?_)
  refine ez_go (n := 1) (pc' := 5) (L' := [(0, .inr (.inr (some (723)))), (1, .inl (x))]) (st' := [.inl (x), .inr (.inr (some (202)))]) rfl ?_
  refine ez_cv hC.1 t202 rfl rfl rfl tq_48 rfl rfl rfl (rd_spanOf hC x0 x1 (fun z tz z1 z2 => ez_KA ?_))
  refine ez_go (n := 3) (pc' := 11) (L' := [(2, .inr (.inr (some (z)))), (0, .inr (.inr (some (723)))), (1, .inl (x))]) (st' := [.inl (1), .inr (.inr (some (z)))]) rfl ?_
  refine ez_cv hC.1 tz rfl rfl rfl tq_4 rfl rfl rfl (rd_hasTrait hC.1 tz (fun e => ez_K1 ?_) (fun e => ez_K1 ?_))
  · skip
    refine ez_if rfl rfl ⟨by decide, by decide⟩ (fun _ => ?_) (fun (c1 : ¬((1 : Int) ≠ (0))) => absurd c1 (by decide))
    refine ez_go (n := 1) (pc' := 28) (L' := [(2, .inr (.inr (some (z)))), (0, .inr (.inr (some (723)))), (1, .inl (x))]) (st' := [.inl (1)]) rfl ?_
    exact ez_retZ rfl rfl (by decide) (k1 (Or.inl (Or.inl (z2.mp e))))
  · skip
    refine ez_if rfl rfl ⟨by decide, by decide⟩ (fun (c2 : (0 : Int) ≠ (0)) => absurd c2 (by decide)) (fun _ => ?_)
    refine ez_go (n := 1) (pc' := 18) (L' := [(2, .inr (.inr (some (z)))), (0, .inr (.inr (some (723)))), (1, .inl (x))]) (st' := [.inr (.inr (some (z)))]) rfl ?_
    refine ez_gR hC.1 tz rfl rfl tq_4 rfl rfl (fun (t3 : _ = 3) (t3' : 1 ≤ qz_I h z 1) => ?_)
    have eT4 : qz_P h z 1 = T x := by unfold qz_P; omega
    rw [eT4]
    refine ez_gI hC.1 tT rfl rfl tq_3 rfl rfl (fun (b5 : -2147483648 ≤ qz_I h ((T x)) 2) (b5' : qz_I h ((T x)) 2 ≤ 2147483647) => ?_)
    rw [f2]
    refine ez_if rfl rfl ⟨by first | omega | exact (sz_i32 _).1, by first | omega | exact (sz_i32 _).2⟩ (fun (c6 : ((F x).1) ≤ (0)) => ?_) (fun (c6 : ¬(((F x).1) ≤ (0))) => ?_)
    · skip
      refine ez_go (n := 2) (pc' := 31) (L' := [(2, .inr (.inr (some (z)))), (0, .inr (.inr (some (723)))), (1, .inl (x))]) (st' := [.inr (.inr (some (z))), .inl (x)]) rfl ?_
      refine ez_gR hC.1 tz rfl rfl tq_4 rfl rfl (fun (t7 : _ = 3) (t7' : 1 ≤ qz_I h z 1) => ?_)
      have eT8 : qz_P h z 1 = T x := by unfold qz_P; omega
      rw [eT8]
      refine ez_cs hC.1.2.1 rfl rfl rfl rfl rfl (rd_headOfTwo hC x0 x1 hx (fun v hv => ez_K1 ?_))
      have vb : -1 ≤ v ∧ v ≤ 1114111 := by
        rcases hv with ⟨a, b, w, e2⟩ | ⟨e2, _⟩
        · have := ((hw x).2 _ _ w).2.2.1 a (by simp); omega
        · omega
      refine ez_go (n := 3) (pc' := 40) (L' := [(3, .inl (v)), (2, .inr (.inr (some (z)))), (0, .inr (.inr (some (723)))), (1, .inl (x))]) (st' := [.inl (-1), .inl (v)]) rfl ?_
      refine ez_icmp rfl rfl ⟨by first | omega | exact (sz_i32 _).1, by first | omega | exact (sz_i32 _).2⟩ ⟨by first | omega | exact (sz_i32 _).1, by first | omega | exact (sz_i32 _).2⟩ (fun (c9 : (v) = (-1)) => ?_) (fun (c9 : ¬((v) = (-1))) => ?_)
      · skip
        refine ez_go (n := 1) (pc' := 59) (L' := [(3, .inl (v)), (2, .inr (.inr (some (z)))), (0, .inr (.inr (some (723)))), (1, .inl (x))]) (st' := [.inl (0)]) rfl ?_
        refine ez_retZ rfl rfl (by decide) (k0 (fun w => ?_))
        rcases w with (w | w) | ⟨a, b, w, w2⟩
        · exact e (z2.mpr w)
        · omega
        · rcases hv with ⟨a2, b2, w3, e2⟩ | ⟨e2, w3⟩
          · rw [w] at w3; cases w3; subst e2; first | omega | (have := ((hw x).2 _ _ w).2.2.1 v (by simp); omega)
          · exact w3 ⟨a, b, w⟩
      · skip
        refine ez_go (n := 1) (pc' := 44) (L' := [(3, .inl (v)), (2, .inr (.inr (some (z)))), (0, .inr (.inr (some (723)))), (1, .inl (x))]) (st' := [.inr (.inr (some (723)))]) rfl ?_
        refine ez_gC (p := 202) (tg := 48) hC.1 t723 rfl rfl tq_55 rfl rfl (fun (t202 : _ = 48) => ?_)
        refine ez_go (n := 1) (pc' := 48) (L' := [(3, .inl (v)), (2, .inr (.inr (some (z)))), (0, .inr (.inr (some (723)))), (1, .inl (x))]) (st' := [.inl (v), .inr (.inr (some (202)))]) rfl ?_
        have fb : -2147483648 ≤ (F v).1 ∧ (F v).1 ≤ 2147483647 := by have := hC.2.2.2.2 v (by omega) (by omega); have b2 : -2147483648 ≤ qz_I h (T v) 2 ∧ qz_I h (T v) 2 ≤ 2147483647 := ez_fB (cl := 3) hC.1 this.1 tq_3 rfl rfl (by decide); rw [this.2.1] at b2; exact b2
        refine ez_cv hC.1 t202 rfl rfl rfl tq_48 rfl rfl rfl (rd_classOf hC (by omega) (by omega) (ez_K1 ?_))
        refine ez_if rfl rfl ⟨by first | omega | exact (sz_i32 _).1, by first | omega | exact (sz_i32 _).2⟩ (fun (c10 : ((F v).1) ≤ (0)) => ?_) (fun (c10 : ¬(((F v).1) ≤ (0))) => ?_)
        · skip
          refine ez_go (n := 1) (pc' := 59) (L' := [(3, .inl (v)), (2, .inr (.inr (some (z)))), (0, .inr (.inr (some (723)))), (1, .inl (x))]) (st' := [.inl (0)]) rfl ?_
          refine ez_retZ rfl rfl (by decide) (k0 (fun w => ?_))
          rcases w with (w | w) | ⟨a, b, w, w2⟩
          · exact e (z2.mpr w)
          · omega
          · rcases hv with ⟨a2, b2, w3, e2⟩ | ⟨e2, w3⟩
            · rw [w] at w3; cases w3; subst e2; first | omega | (have := ((hw x).2 _ _ w).2.2.1 v (by simp); omega)
            · exact w3 ⟨a, b, w⟩
        · skip
          refine ez_go (n := 2) (pc' := 59) (L' := [(3, .inl (v)), (2, .inr (.inr (some (z)))), (0, .inr (.inr (some (723)))), (1, .inl (x))]) (st' := [.inl (1)]) rfl ?_
          rcases hv with ⟨a, b, w, e2⟩ | ⟨e2, _⟩
          · subst e2; exact ez_retZ rfl rfl (by decide) (k1 (Or.inr ⟨v, b, w, by omega⟩))
          · exfalso; omega
    · skip
      refine ez_go (n := 1) (pc' := 28) (L' := [(2, .inr (.inr (some (z)))), (0, .inr (.inr (some (723)))), (1, .inl (x))]) (st' := [.inl (1)]) rfl ?_
      exact ez_retZ rfl rfl (by decide) (k1 (Or.inl (Or.inr (by omega))))

theorem rd_syllableOf {a b : Int} (a0 : 0 ≤ a) (a1 : a ≤ 1114111) (b0 : 0 ≤ b) (b1 : b ≤ 1114111) (k1 : ∀ v, 0 ≤ v → v ≤ 2147483647 → hz_pair a b → Q (.inl (some (ez_v (.inl v))), h)) (k0 : ¬ hz_pair a b → Q (.inl (some (ez_v (.inl (-1)))), h)) : ez_W d cm_131 0 [(0, .inl (a)), (1, .inl (b))] [] h Q := by
  refine ez_go (n := 2) (pc' := 4) (L' := [(0, .inl (a)), (1, .inl (b))]) (st' := [.inl (4352), .inl (a)]) rfl ?_
  refine ez_icmp rfl rfl ⟨by first | omega | exact (sz_i32 _).1, by first | omega | exact (sz_i32 _).2⟩ ⟨by first | omega | exact (sz_i32 _).1, by first | omega | exact (sz_i32 _).2⟩ (fun (c1 : (a) < (4352)) => ?_) (fun (c1 : ¬((a) < (4352))) => ?_)
  · skip
    refine ez_go (n := 1) (pc' := 51) (L' := [(0, .inl (a)), (1, .inl (b))]) (st' := [.inl (a)]) rfl ?_
    refine ez_ldc (44032) rfl rfl rfl ?_
    refine ez_go (n := 3) (pc' := 56) (L' := [(2, .inl ((a) - (44032))), (0, .inl (a)), (1, .inl (b))]) (st' := [.inl ((a) - (44032))]) rfl ?_
    refine ez_if rfl rfl ⟨by first | omega | exact (sz_i32 _).1, by first | omega | exact (sz_i32 _).2⟩ (fun (c2 : ((a) - (44032)) < (0)) => ?_) (fun (c2 : ¬(((a) - (44032)) < (0))) => ?_)
    · skip
      refine ez_go (n := 3) (pc' := 79) (L' := [(3, .inl (0)), (2, .inl ((a) - (44032))), (0, .inl (a)), (1, .inl (b))]) (st' := [.inl (0)]) rfl ?_
      refine ez_if rfl rfl ⟨by decide, by decide⟩ (fun _ => ?_) (fun (c3 : ¬((0 : Int) = (0))) => absurd c3 (by decide))
      refine ez_go (n := 1) (pc' := 107) (L' := [(3, .inl (0)), (2, .inl ((a) - (44032))), (0, .inl (a)), (1, .inl (b))]) (st' := [.inl (-1)]) rfl ?_
      exact ez_retI rfl rfl (k0 (fun w => by rcases w with w | ⟨⟨w1, w2⟩, w3, w4⟩ <;> omega))
    · skip
      refine ez_go (n := 1) (pc' := 60) (L' := [(2, .inl ((a) - (44032))), (0, .inl (a)), (1, .inl (b))]) (st' := [.inl (a)]) rfl ?_
      refine ez_ldc (55203) rfl rfl rfl ?_
      refine ez_icmp rfl rfl ⟨by first | omega | exact (sz_i32 _).1, by first | omega | exact (sz_i32 _).2⟩ ⟨by first | omega | exact (sz_i32 _).1, by first | omega | exact (sz_i32 _).2⟩ (fun (c4 : (55203) < (a)) => ?_) (fun (c4 : ¬((55203) < (a))) => ?_)
      · skip
        refine ez_go (n := 3) (pc' := 79) (L' := [(3, .inl (0)), (2, .inl ((a) - (44032))), (0, .inl (a)), (1, .inl (b))]) (st' := [.inl (0)]) rfl ?_
        refine ez_if rfl rfl ⟨by decide, by decide⟩ (fun _ => ?_) (fun (c5 : ¬((0 : Int) = (0))) => absurd c5 (by decide))
        refine ez_go (n := 1) (pc' := 107) (L' := [(3, .inl (0)), (2, .inl ((a) - (44032))), (0, .inl (a)), (1, .inl (b))]) (st' := [.inl (-1)]) rfl ?_
        exact ez_retI rfl rfl (k0 (fun w => by rcases w with w | ⟨⟨w1, w2⟩, w3, w4⟩ <;> omega))
      · skip
        refine ez_go (n := 2) (pc' := 68) (L' := [(2, .inl ((a) - (44032))), (0, .inl (a)), (1, .inl (b))]) (st' := [.inl (28), .inl ((a) - (44032))]) rfl ?_
        refine ez_rem rfl (by omega) (by omega) (by omega) (by omega) ?_
        refine ez_if rfl rfl ⟨by first | omega | exact (sz_i32 _).1, by first | omega | exact (sz_i32 _).2⟩ (fun (c6 : (((a) - (44032)) % (28)) ≠ (0)) => ?_) (fun (c6 : ¬((((a) - (44032)) % (28)) ≠ (0))) => ?_)
        · skip
          refine ez_go (n := 3) (pc' := 79) (L' := [(3, .inl (0)), (2, .inl ((a) - (44032))), (0, .inl (a)), (1, .inl (b))]) (st' := [.inl (0)]) rfl ?_
          refine ez_if rfl rfl ⟨by decide, by decide⟩ (fun _ => ?_) (fun (c7 : ¬((0 : Int) = (0))) => absurd c7 (by decide))
          refine ez_go (n := 1) (pc' := 107) (L' := [(3, .inl (0)), (2, .inl ((a) - (44032))), (0, .inl (a)), (1, .inl (b))]) (st' := [.inl (-1)]) rfl ?_
          exact ez_retI rfl rfl (k0 (fun w => by rcases w with w | ⟨⟨w1, w2⟩, w3, w4⟩ <;> omega))
        · skip
          refine ez_go (n := 4) (pc' := 79) (L' := [(3, .inl (1)), (2, .inl ((a) - (44032))), (0, .inl (a)), (1, .inl (b))]) (st' := [.inl (1)]) rfl ?_
          refine ez_if rfl rfl ⟨by decide, by decide⟩ (fun (c8 : (1 : Int) = (0)) => absurd c8 (by decide)) (fun _ => ?_)
          refine ez_go (n := 2) (pc' := 86) (L' := [(3, .inl (1)), (2, .inl ((a) - (44032))), (0, .inl (a)), (1, .inl (b))]) (st' := [.inl (4520), .inl (b)]) rfl ?_
          refine ez_icmp rfl rfl ⟨by first | omega | exact (sz_i32 _).1, by first | omega | exact (sz_i32 _).2⟩ ⟨by first | omega | exact (sz_i32 _).1, by first | omega | exact (sz_i32 _).2⟩ (fun (c9 : (b) < (4520)) => ?_) (fun (c9 : ¬((b) < (4520))) => ?_)
          · skip
            refine ez_go (n := 1) (pc' := 107) (L' := [(3, .inl (1)), (2, .inl ((a) - (44032))), (0, .inl (a)), (1, .inl (b))]) (st' := [.inl (-1)]) rfl ?_
            exact ez_retI rfl rfl (k0 (fun w => by rcases w with w | ⟨⟨w1, w2⟩, w3, w4⟩ <;> omega))
          · skip
            refine ez_go (n := 2) (pc' := 93) (L' := [(3, .inl (1)), (2, .inl ((a) - (44032))), (0, .inl (a)), (1, .inl (b))]) (st' := [.inl (4546), .inl (b)]) rfl ?_
            refine ez_icmp rfl rfl ⟨by first | omega | exact (sz_i32 _).1, by first | omega | exact (sz_i32 _).2⟩ ⟨by first | omega | exact (sz_i32 _).1, by first | omega | exact (sz_i32 _).2⟩ (fun (c10 : (4546) < (b)) => ?_) (fun (c10 : ¬((4546) < (b))) => ?_)
            · skip
              refine ez_go (n := 1) (pc' := 107) (L' := [(3, .inl (1)), (2, .inl ((a) - (44032))), (0, .inl (a)), (1, .inl (b))]) (st' := [.inl (-1)]) rfl ?_
              exact ez_retI rfl rfl (k0 (fun w => by rcases w with w | ⟨⟨w1, w2⟩, w3, w4⟩ <;> omega))
            · skip
              refine ez_go (n := 6) (pc' := 107) (L' := [(3, .inl (1)), (2, .inl ((a) - (44032))), (0, .inl (a)), (1, .inl (b))]) (st' := [.inl (((a) + (b)) - (4519))]) rfl ?_
              exact ez_retI rfl rfl (k1 _ (by omega) (by omega) (by first | (exact Or.inl ⟨⟨by omega, by omega⟩, by omega, by omega⟩) | (exact Or.inr ⟨⟨by omega, by omega⟩, by omega, by omega, by omega⟩)))
  · skip
    refine ez_go (n := 2) (pc' := 11) (L' := [(0, .inl (a)), (1, .inl (b))]) (st' := [.inl (4370), .inl (a)]) rfl ?_
    refine ez_icmp rfl rfl ⟨by first | omega | exact (sz_i32 _).1, by first | omega | exact (sz_i32 _).2⟩ ⟨by first | omega | exact (sz_i32 _).1, by first | omega | exact (sz_i32 _).2⟩ (fun (c11 : (4370) < (a)) => ?_) (fun (c11 : ¬((4370) < (a))) => ?_)
    · skip
      refine ez_go (n := 1) (pc' := 51) (L' := [(0, .inl (a)), (1, .inl (b))]) (st' := [.inl (a)]) rfl ?_
      refine ez_ldc (44032) rfl rfl rfl ?_
      refine ez_go (n := 3) (pc' := 56) (L' := [(2, .inl ((a) - (44032))), (0, .inl (a)), (1, .inl (b))]) (st' := [.inl ((a) - (44032))]) rfl ?_
      refine ez_if rfl rfl ⟨by first | omega | exact (sz_i32 _).1, by first | omega | exact (sz_i32 _).2⟩ (fun (c12 : ((a) - (44032)) < (0)) => ?_) (fun (c12 : ¬(((a) - (44032)) < (0))) => ?_)
      · skip
        refine ez_go (n := 3) (pc' := 79) (L' := [(3, .inl (0)), (2, .inl ((a) - (44032))), (0, .inl (a)), (1, .inl (b))]) (st' := [.inl (0)]) rfl ?_
        refine ez_if rfl rfl ⟨by decide, by decide⟩ (fun _ => ?_) (fun (c13 : ¬((0 : Int) = (0))) => absurd c13 (by decide))
        refine ez_go (n := 1) (pc' := 107) (L' := [(3, .inl (0)), (2, .inl ((a) - (44032))), (0, .inl (a)), (1, .inl (b))]) (st' := [.inl (-1)]) rfl ?_
        exact ez_retI rfl rfl (k0 (fun w => by rcases w with w | ⟨⟨w1, w2⟩, w3, w4⟩ <;> omega))
      · skip
        refine ez_go (n := 1) (pc' := 60) (L' := [(2, .inl ((a) - (44032))), (0, .inl (a)), (1, .inl (b))]) (st' := [.inl (a)]) rfl ?_
        refine ez_ldc (55203) rfl rfl rfl ?_
        refine ez_icmp rfl rfl ⟨by first | omega | exact (sz_i32 _).1, by first | omega | exact (sz_i32 _).2⟩ ⟨by first | omega | exact (sz_i32 _).1, by first | omega | exact (sz_i32 _).2⟩ (fun (c14 : (55203) < (a)) => ?_) (fun (c14 : ¬((55203) < (a))) => ?_)
        · skip
          refine ez_go (n := 3) (pc' := 79) (L' := [(3, .inl (0)), (2, .inl ((a) - (44032))), (0, .inl (a)), (1, .inl (b))]) (st' := [.inl (0)]) rfl ?_
          refine ez_if rfl rfl ⟨by decide, by decide⟩ (fun _ => ?_) (fun (c15 : ¬((0 : Int) = (0))) => absurd c15 (by decide))
          refine ez_go (n := 1) (pc' := 107) (L' := [(3, .inl (0)), (2, .inl ((a) - (44032))), (0, .inl (a)), (1, .inl (b))]) (st' := [.inl (-1)]) rfl ?_
          exact ez_retI rfl rfl (k0 (fun w => by rcases w with w | ⟨⟨w1, w2⟩, w3, w4⟩ <;> omega))
        · skip
          refine ez_go (n := 2) (pc' := 68) (L' := [(2, .inl ((a) - (44032))), (0, .inl (a)), (1, .inl (b))]) (st' := [.inl (28), .inl ((a) - (44032))]) rfl ?_
          refine ez_rem rfl (by omega) (by omega) (by omega) (by omega) ?_
          refine ez_if rfl rfl ⟨by first | omega | exact (sz_i32 _).1, by first | omega | exact (sz_i32 _).2⟩ (fun (c16 : (((a) - (44032)) % (28)) ≠ (0)) => ?_) (fun (c16 : ¬((((a) - (44032)) % (28)) ≠ (0))) => ?_)
          · skip
            refine ez_go (n := 3) (pc' := 79) (L' := [(3, .inl (0)), (2, .inl ((a) - (44032))), (0, .inl (a)), (1, .inl (b))]) (st' := [.inl (0)]) rfl ?_
            refine ez_if rfl rfl ⟨by decide, by decide⟩ (fun _ => ?_) (fun (c17 : ¬((0 : Int) = (0))) => absurd c17 (by decide))
            refine ez_go (n := 1) (pc' := 107) (L' := [(3, .inl (0)), (2, .inl ((a) - (44032))), (0, .inl (a)), (1, .inl (b))]) (st' := [.inl (-1)]) rfl ?_
            exact ez_retI rfl rfl (k0 (fun w => by rcases w with w | ⟨⟨w1, w2⟩, w3, w4⟩ <;> omega))
          · skip
            refine ez_go (n := 4) (pc' := 79) (L' := [(3, .inl (1)), (2, .inl ((a) - (44032))), (0, .inl (a)), (1, .inl (b))]) (st' := [.inl (1)]) rfl ?_
            refine ez_if rfl rfl ⟨by decide, by decide⟩ (fun (c18 : (1 : Int) = (0)) => absurd c18 (by decide)) (fun _ => ?_)
            refine ez_go (n := 2) (pc' := 86) (L' := [(3, .inl (1)), (2, .inl ((a) - (44032))), (0, .inl (a)), (1, .inl (b))]) (st' := [.inl (4520), .inl (b)]) rfl ?_
            refine ez_icmp rfl rfl ⟨by first | omega | exact (sz_i32 _).1, by first | omega | exact (sz_i32 _).2⟩ ⟨by first | omega | exact (sz_i32 _).1, by first | omega | exact (sz_i32 _).2⟩ (fun (c19 : (b) < (4520)) => ?_) (fun (c19 : ¬((b) < (4520))) => ?_)
            · skip
              refine ez_go (n := 1) (pc' := 107) (L' := [(3, .inl (1)), (2, .inl ((a) - (44032))), (0, .inl (a)), (1, .inl (b))]) (st' := [.inl (-1)]) rfl ?_
              exact ez_retI rfl rfl (k0 (fun w => by rcases w with w | ⟨⟨w1, w2⟩, w3, w4⟩ <;> omega))
            · skip
              refine ez_go (n := 2) (pc' := 93) (L' := [(3, .inl (1)), (2, .inl ((a) - (44032))), (0, .inl (a)), (1, .inl (b))]) (st' := [.inl (4546), .inl (b)]) rfl ?_
              refine ez_icmp rfl rfl ⟨by first | omega | exact (sz_i32 _).1, by first | omega | exact (sz_i32 _).2⟩ ⟨by first | omega | exact (sz_i32 _).1, by first | omega | exact (sz_i32 _).2⟩ (fun (c20 : (4546) < (b)) => ?_) (fun (c20 : ¬((4546) < (b))) => ?_)
              · skip
                refine ez_go (n := 1) (pc' := 107) (L' := [(3, .inl (1)), (2, .inl ((a) - (44032))), (0, .inl (a)), (1, .inl (b))]) (st' := [.inl (-1)]) rfl ?_
                exact ez_retI rfl rfl (k0 (fun w => by rcases w with w | ⟨⟨w1, w2⟩, w3, w4⟩ <;> omega))
              · skip
                refine ez_go (n := 6) (pc' := 107) (L' := [(3, .inl (1)), (2, .inl ((a) - (44032))), (0, .inl (a)), (1, .inl (b))]) (st' := [.inl (((a) + (b)) - (4519))]) rfl ?_
                exact ez_retI rfl rfl (k1 _ (by omega) (by omega) (by first | (exact Or.inl ⟨⟨by omega, by omega⟩, by omega, by omega⟩) | (exact Or.inr ⟨⟨by omega, by omega⟩, by omega, by omega, by omega⟩)))
    · skip
      refine ez_go (n := 2) (pc' := 18) (L' := [(0, .inl (a)), (1, .inl (b))]) (st' := [.inl (4449), .inl (b)]) rfl ?_
      refine ez_icmp rfl rfl ⟨by first | omega | exact (sz_i32 _).1, by first | omega | exact (sz_i32 _).2⟩ ⟨by first | omega | exact (sz_i32 _).1, by first | omega | exact (sz_i32 _).2⟩ (fun (c21 : (b) < (4449)) => ?_) (fun (c21 : ¬((b) < (4449))) => ?_)
      · skip
        refine ez_go (n := 1) (pc' := 51) (L' := [(0, .inl (a)), (1, .inl (b))]) (st' := [.inl (a)]) rfl ?_
        refine ez_ldc (44032) rfl rfl rfl ?_
        refine ez_go (n := 3) (pc' := 56) (L' := [(2, .inl ((a) - (44032))), (0, .inl (a)), (1, .inl (b))]) (st' := [.inl ((a) - (44032))]) rfl ?_
        refine ez_if rfl rfl ⟨by first | omega | exact (sz_i32 _).1, by first | omega | exact (sz_i32 _).2⟩ (fun (c22 : ((a) - (44032)) < (0)) => ?_) (fun (c22 : ¬(((a) - (44032)) < (0))) => ?_)
        · skip
          refine ez_go (n := 3) (pc' := 79) (L' := [(3, .inl (0)), (2, .inl ((a) - (44032))), (0, .inl (a)), (1, .inl (b))]) (st' := [.inl (0)]) rfl ?_
          refine ez_if rfl rfl ⟨by decide, by decide⟩ (fun _ => ?_) (fun (c23 : ¬((0 : Int) = (0))) => absurd c23 (by decide))
          refine ez_go (n := 1) (pc' := 107) (L' := [(3, .inl (0)), (2, .inl ((a) - (44032))), (0, .inl (a)), (1, .inl (b))]) (st' := [.inl (-1)]) rfl ?_
          exact ez_retI rfl rfl (k0 (fun w => by rcases w with w | ⟨⟨w1, w2⟩, w3, w4⟩ <;> omega))
        · skip
          refine ez_go (n := 1) (pc' := 60) (L' := [(2, .inl ((a) - (44032))), (0, .inl (a)), (1, .inl (b))]) (st' := [.inl (a)]) rfl ?_
          refine ez_ldc (55203) rfl rfl rfl ?_
          refine ez_icmp rfl rfl ⟨by first | omega | exact (sz_i32 _).1, by first | omega | exact (sz_i32 _).2⟩ ⟨by first | omega | exact (sz_i32 _).1, by first | omega | exact (sz_i32 _).2⟩ (fun (c24 : (55203) < (a)) => ?_) (fun (c24 : ¬((55203) < (a))) => ?_)
          · skip
            refine ez_go (n := 3) (pc' := 79) (L' := [(3, .inl (0)), (2, .inl ((a) - (44032))), (0, .inl (a)), (1, .inl (b))]) (st' := [.inl (0)]) rfl ?_
            refine ez_if rfl rfl ⟨by decide, by decide⟩ (fun _ => ?_) (fun (c25 : ¬((0 : Int) = (0))) => absurd c25 (by decide))
            refine ez_go (n := 1) (pc' := 107) (L' := [(3, .inl (0)), (2, .inl ((a) - (44032))), (0, .inl (a)), (1, .inl (b))]) (st' := [.inl (-1)]) rfl ?_
            exact ez_retI rfl rfl (k0 (fun w => by rcases w with w | ⟨⟨w1, w2⟩, w3, w4⟩ <;> omega))
          · skip
            refine ez_go (n := 2) (pc' := 68) (L' := [(2, .inl ((a) - (44032))), (0, .inl (a)), (1, .inl (b))]) (st' := [.inl (28), .inl ((a) - (44032))]) rfl ?_
            refine ez_rem rfl (by omega) (by omega) (by omega) (by omega) ?_
            refine ez_if rfl rfl ⟨by first | omega | exact (sz_i32 _).1, by first | omega | exact (sz_i32 _).2⟩ (fun (c26 : (((a) - (44032)) % (28)) ≠ (0)) => ?_) (fun (c26 : ¬((((a) - (44032)) % (28)) ≠ (0))) => ?_)
            · skip
              refine ez_go (n := 3) (pc' := 79) (L' := [(3, .inl (0)), (2, .inl ((a) - (44032))), (0, .inl (a)), (1, .inl (b))]) (st' := [.inl (0)]) rfl ?_
              refine ez_if rfl rfl ⟨by decide, by decide⟩ (fun _ => ?_) (fun (c27 : ¬((0 : Int) = (0))) => absurd c27 (by decide))
              refine ez_go (n := 1) (pc' := 107) (L' := [(3, .inl (0)), (2, .inl ((a) - (44032))), (0, .inl (a)), (1, .inl (b))]) (st' := [.inl (-1)]) rfl ?_
              exact ez_retI rfl rfl (k0 (fun w => by rcases w with w | ⟨⟨w1, w2⟩, w3, w4⟩ <;> omega))
            · skip
              refine ez_go (n := 4) (pc' := 79) (L' := [(3, .inl (1)), (2, .inl ((a) - (44032))), (0, .inl (a)), (1, .inl (b))]) (st' := [.inl (1)]) rfl ?_
              refine ez_if rfl rfl ⟨by decide, by decide⟩ (fun (c28 : (1 : Int) = (0)) => absurd c28 (by decide)) (fun _ => ?_)
              refine ez_go (n := 2) (pc' := 86) (L' := [(3, .inl (1)), (2, .inl ((a) - (44032))), (0, .inl (a)), (1, .inl (b))]) (st' := [.inl (4520), .inl (b)]) rfl ?_
              refine ez_icmp rfl rfl ⟨by first | omega | exact (sz_i32 _).1, by first | omega | exact (sz_i32 _).2⟩ ⟨by first | omega | exact (sz_i32 _).1, by first | omega | exact (sz_i32 _).2⟩ (fun (c29 : (b) < (4520)) => ?_) (fun (c29 : ¬((b) < (4520))) => ?_)
              · skip
                refine ez_go (n := 1) (pc' := 107) (L' := [(3, .inl (1)), (2, .inl ((a) - (44032))), (0, .inl (a)), (1, .inl (b))]) (st' := [.inl (-1)]) rfl ?_
                exact ez_retI rfl rfl (k0 (fun w => by rcases w with w | ⟨⟨w1, w2⟩, w3, w4⟩ <;> omega))
              · skip
                refine ez_go (n := 2) (pc' := 93) (L' := [(3, .inl (1)), (2, .inl ((a) - (44032))), (0, .inl (a)), (1, .inl (b))]) (st' := [.inl (4546), .inl (b)]) rfl ?_
                refine ez_icmp rfl rfl ⟨by first | omega | exact (sz_i32 _).1, by first | omega | exact (sz_i32 _).2⟩ ⟨by first | omega | exact (sz_i32 _).1, by first | omega | exact (sz_i32 _).2⟩ (fun (c30 : (4546) < (b)) => ?_) (fun (c30 : ¬((4546) < (b))) => ?_)
                · skip
                  refine ez_go (n := 1) (pc' := 107) (L' := [(3, .inl (1)), (2, .inl ((a) - (44032))), (0, .inl (a)), (1, .inl (b))]) (st' := [.inl (-1)]) rfl ?_
                  exact ez_retI rfl rfl (k0 (fun w => by rcases w with w | ⟨⟨w1, w2⟩, w3, w4⟩ <;> omega))
                · skip
                  refine ez_go (n := 6) (pc' := 107) (L' := [(3, .inl (1)), (2, .inl ((a) - (44032))), (0, .inl (a)), (1, .inl (b))]) (st' := [.inl (((a) + (b)) - (4519))]) rfl ?_
                  exact ez_retI rfl rfl (k1 _ (by omega) (by omega) (by first | (exact Or.inl ⟨⟨by omega, by omega⟩, by omega, by omega⟩) | (exact Or.inr ⟨⟨by omega, by omega⟩, by omega, by omega, by omega⟩)))
      · skip
        refine ez_go (n := 2) (pc' := 25) (L' := [(0, .inl (a)), (1, .inl (b))]) (st' := [.inl (4469), .inl (b)]) rfl ?_
        refine ez_icmp rfl rfl ⟨by first | omega | exact (sz_i32 _).1, by first | omega | exact (sz_i32 _).2⟩ ⟨by first | omega | exact (sz_i32 _).1, by first | omega | exact (sz_i32 _).2⟩ (fun (c31 : (4469) < (b)) => ?_) (fun (c31 : ¬((4469) < (b))) => ?_)
        · skip
          refine ez_go (n := 1) (pc' := 51) (L' := [(0, .inl (a)), (1, .inl (b))]) (st' := [.inl (a)]) rfl ?_
          refine ez_ldc (44032) rfl rfl rfl ?_
          refine ez_go (n := 3) (pc' := 56) (L' := [(2, .inl ((a) - (44032))), (0, .inl (a)), (1, .inl (b))]) (st' := [.inl ((a) - (44032))]) rfl ?_
          refine ez_if rfl rfl ⟨by first | omega | exact (sz_i32 _).1, by first | omega | exact (sz_i32 _).2⟩ (fun (c32 : ((a) - (44032)) < (0)) => ?_) (fun (c32 : ¬(((a) - (44032)) < (0))) => ?_)
          · skip
            refine ez_go (n := 3) (pc' := 79) (L' := [(3, .inl (0)), (2, .inl ((a) - (44032))), (0, .inl (a)), (1, .inl (b))]) (st' := [.inl (0)]) rfl ?_
            refine ez_if rfl rfl ⟨by decide, by decide⟩ (fun _ => ?_) (fun (c33 : ¬((0 : Int) = (0))) => absurd c33 (by decide))
            refine ez_go (n := 1) (pc' := 107) (L' := [(3, .inl (0)), (2, .inl ((a) - (44032))), (0, .inl (a)), (1, .inl (b))]) (st' := [.inl (-1)]) rfl ?_
            exact ez_retI rfl rfl (k0 (fun w => by rcases w with w | ⟨⟨w1, w2⟩, w3, w4⟩ <;> omega))
          · skip
            refine ez_go (n := 1) (pc' := 60) (L' := [(2, .inl ((a) - (44032))), (0, .inl (a)), (1, .inl (b))]) (st' := [.inl (a)]) rfl ?_
            refine ez_ldc (55203) rfl rfl rfl ?_
            refine ez_icmp rfl rfl ⟨by first | omega | exact (sz_i32 _).1, by first | omega | exact (sz_i32 _).2⟩ ⟨by first | omega | exact (sz_i32 _).1, by first | omega | exact (sz_i32 _).2⟩ (fun (c34 : (55203) < (a)) => ?_) (fun (c34 : ¬((55203) < (a))) => ?_)
            · skip
              refine ez_go (n := 3) (pc' := 79) (L' := [(3, .inl (0)), (2, .inl ((a) - (44032))), (0, .inl (a)), (1, .inl (b))]) (st' := [.inl (0)]) rfl ?_
              refine ez_if rfl rfl ⟨by decide, by decide⟩ (fun _ => ?_) (fun (c35 : ¬((0 : Int) = (0))) => absurd c35 (by decide))
              refine ez_go (n := 1) (pc' := 107) (L' := [(3, .inl (0)), (2, .inl ((a) - (44032))), (0, .inl (a)), (1, .inl (b))]) (st' := [.inl (-1)]) rfl ?_
              exact ez_retI rfl rfl (k0 (fun w => by rcases w with w | ⟨⟨w1, w2⟩, w3, w4⟩ <;> omega))
            · skip
              refine ez_go (n := 2) (pc' := 68) (L' := [(2, .inl ((a) - (44032))), (0, .inl (a)), (1, .inl (b))]) (st' := [.inl (28), .inl ((a) - (44032))]) rfl ?_
              refine ez_rem rfl (by omega) (by omega) (by omega) (by omega) ?_
              refine ez_if rfl rfl ⟨by first | omega | exact (sz_i32 _).1, by first | omega | exact (sz_i32 _).2⟩ (fun (c36 : (((a) - (44032)) % (28)) ≠ (0)) => ?_) (fun (c36 : ¬((((a) - (44032)) % (28)) ≠ (0))) => ?_)
              · skip
                refine ez_go (n := 3) (pc' := 79) (L' := [(3, .inl (0)), (2, .inl ((a) - (44032))), (0, .inl (a)), (1, .inl (b))]) (st' := [.inl (0)]) rfl ?_
                refine ez_if rfl rfl ⟨by decide, by decide⟩ (fun _ => ?_) (fun (c37 : ¬((0 : Int) = (0))) => absurd c37 (by decide))
                refine ez_go (n := 1) (pc' := 107) (L' := [(3, .inl (0)), (2, .inl ((a) - (44032))), (0, .inl (a)), (1, .inl (b))]) (st' := [.inl (-1)]) rfl ?_
                exact ez_retI rfl rfl (k0 (fun w => by rcases w with w | ⟨⟨w1, w2⟩, w3, w4⟩ <;> omega))
              · skip
                refine ez_go (n := 4) (pc' := 79) (L' := [(3, .inl (1)), (2, .inl ((a) - (44032))), (0, .inl (a)), (1, .inl (b))]) (st' := [.inl (1)]) rfl ?_
                refine ez_if rfl rfl ⟨by decide, by decide⟩ (fun (c38 : (1 : Int) = (0)) => absurd c38 (by decide)) (fun _ => ?_)
                refine ez_go (n := 2) (pc' := 86) (L' := [(3, .inl (1)), (2, .inl ((a) - (44032))), (0, .inl (a)), (1, .inl (b))]) (st' := [.inl (4520), .inl (b)]) rfl ?_
                refine ez_icmp rfl rfl ⟨by first | omega | exact (sz_i32 _).1, by first | omega | exact (sz_i32 _).2⟩ ⟨by first | omega | exact (sz_i32 _).1, by first | omega | exact (sz_i32 _).2⟩ (fun (c39 : (b) < (4520)) => ?_) (fun (c39 : ¬((b) < (4520))) => ?_)
                · skip
                  refine ez_go (n := 1) (pc' := 107) (L' := [(3, .inl (1)), (2, .inl ((a) - (44032))), (0, .inl (a)), (1, .inl (b))]) (st' := [.inl (-1)]) rfl ?_
                  exact ez_retI rfl rfl (k0 (fun w => by rcases w with w | ⟨⟨w1, w2⟩, w3, w4⟩ <;> omega))
                · skip
                  refine ez_go (n := 2) (pc' := 93) (L' := [(3, .inl (1)), (2, .inl ((a) - (44032))), (0, .inl (a)), (1, .inl (b))]) (st' := [.inl (4546), .inl (b)]) rfl ?_
                  refine ez_icmp rfl rfl ⟨by first | omega | exact (sz_i32 _).1, by first | omega | exact (sz_i32 _).2⟩ ⟨by first | omega | exact (sz_i32 _).1, by first | omega | exact (sz_i32 _).2⟩ (fun (c40 : (4546) < (b)) => ?_) (fun (c40 : ¬((4546) < (b))) => ?_)
                  · skip
                    refine ez_go (n := 1) (pc' := 107) (L' := [(3, .inl (1)), (2, .inl ((a) - (44032))), (0, .inl (a)), (1, .inl (b))]) (st' := [.inl (-1)]) rfl ?_
                    exact ez_retI rfl rfl (k0 (fun w => by rcases w with w | ⟨⟨w1, w2⟩, w3, w4⟩ <;> omega))
                  · skip
                    refine ez_go (n := 6) (pc' := 107) (L' := [(3, .inl (1)), (2, .inl ((a) - (44032))), (0, .inl (a)), (1, .inl (b))]) (st' := [.inl (((a) + (b)) - (4519))]) rfl ?_
                    exact ez_retI rfl rfl (k1 _ (by omega) (by omega) (by first | (exact Or.inl ⟨⟨by omega, by omega⟩, by omega, by omega⟩) | (exact Or.inr ⟨⟨by omega, by omega⟩, by omega, by omega, by omega⟩)))
        · skip
          refine ez_ldc (44032) rfl rfl rfl ?_
          refine ez_go (n := 12) (pc' := 49) (L' := [(0, .inl (a)), (1, .inl (b))]) (st' := [.inl (((44032) + (((a) - (4352)) * (588))) + (((b) - (4449)) * (28)))]) rfl ?_
          exact ez_retI rfl rfl (k1 _ (by omega) (by omega) (by first | (exact Or.inl ⟨⟨by omega, by omega⟩, by omega, by omega⟩) | (exact Or.inr ⟨⟨by omega, by omega⟩, by omega, by omega, by omega⟩)))

theorem rd_packPair {a b : Int} (a0 : 0 ≤ a) (a1 : a ≤ 1114111) (b0 : 0 ≤ b) (b1 : b ≤ 1114111) (k : ∀ y : Int64, y.toInt = a * 2097152 + b → Q (.inl (some (.inr (.inl y))), h)) : ez_W d cm_124 0 [(0, .inl (a)), (1, .inl (b))] [] h Q := by
  refine ez_go (n := 7) (pc' := 8) (L' := [(0, .inl (a)), (1, .inl (b))]) (st' := [.inr (.inl ((((Int32.ofInt (a)).toInt64) <<< ((Int32.ofInt (21)).toInt64 &&& 63)) ||| ((Int32.ofInt (b)).toInt64)))]) rfl ?_
  exact ez_retL rfl rfl (k _ (pp_int a0 a1 b0 b1))

end EzPr
/-! The class: insertPair, gatherPairs. (Written by wip/p2/py/pv35.py.) -/
/-- n numbers that rise -/
def ri (P : Int → Int) (n : Int) : Prop := ∀ i j, 0 ≤ i → i < j → j < n → P i < P j
theorem ri_ins {P P2 : Int → Int} {n pl v : Int} (hr : ri P n) (p0 : 0 ≤ pl) (p1 : pl ≤ n) (h1 : pl = 0 ∨ P (pl - 1) < v) (h2 : pl = n ∨ v < P pl) (h3 : ∀ k, 0 ≤ k → k ≤ n → P2 k = if k = pl then v else if pl < k then P (k - 1) else P k) : ri P2 (n + 1) ∧ ∀ y, (∃ j, 0 ≤ j ∧ j < n + 1 ∧ P2 j = y) ↔ (y = v ∨ ∃ j, 0 ≤ j ∧ j < n ∧ P j = y) := by
  have lo : ∀ k, 0 ≤ k → k < pl → P k < v := fun k k0 k1 => by
    rcases h1 with e | e
    · omega
    · by_cases e2 : k = pl - 1
      · rw [e2]; exact e
      · have := hr k (pl - 1) k0 (by omega) (by omega); omega
  have hi : ∀ k, pl ≤ k → k < n → v < P k := fun k k0 k1 => by
    rcases h2 with e | e
    · omega
    · by_cases e2 : k = pl
      · rw [e2]; exact e
      · have := hr pl k p0 (by omega) k1; omega
  refine ⟨fun i j i0 ij jn => ?_, fun y => ⟨fun ⟨j, j0, j1, e⟩ => ?_, fun w => ?_⟩⟩
  · rw [h3 i i0 (by omega), h3 j (by omega) (by omega)]
    by_cases a : i = pl
    · rw [if_pos a, if_neg (by omega), if_pos (by omega)]
      exact hi _ (by omega) (by omega)
    · rw [if_neg a]
      by_cases b : j = pl
      · rw [if_pos b, if_neg (by omega)]; exact lo i i0 (by omega)
      · rw [if_neg b]
        by_cases c : pl < i
        · rw [if_pos c, if_pos (by omega)]; exact hr _ _ (by omega) (by omega) (by omega)
        · rw [if_neg c]
          by_cases c2 : pl < j
          · rw [if_pos c2]
            by_cases c3 : i < j - 1
            · exact hr _ _ i0 c3 (by omega)
            · omega
          · rw [if_neg c2]; exact hr _ _ i0 ij (by omega)
  · rw [h3 j j0 (by omega)] at e
    by_cases a : j = pl
    · rw [if_pos a] at e; exact Or.inl e.symm
    · rw [if_neg a] at e
      by_cases b : pl < j
      · rw [if_pos b] at e; exact Or.inr ⟨j - 1, by omega, by omega, e⟩
      · rw [if_neg b] at e; exact Or.inr ⟨j, j0, by omega, e⟩
  · rcases w with w | ⟨j, j0, j1, e⟩
    · exact ⟨pl, p0, by omega, by rw [h3 pl p0 p1, if_pos rfl]; exact w.symm⟩
    · by_cases a : j < pl
      · exact ⟨j, j0, by omega, by rw [h3 j j0 (by omega), if_neg (by omega), if_neg (by omega)]; exact e⟩
      · exact ⟨j + 1, by omega, by omega, by rw [h3 (j + 1) (by omega) (by omega), if_neg (by omega), if_pos (by omega), show j + 1 - 1 = j by omega]; exact e⟩
/-- the numbers of the pairs -/
def pp (g : cz_H) (k : Int) : Int := qz_I g 727 k.toNat
def nz_PG (q : Nat) : Bool := Nat.beq q 723 || (Nat.beq q 727 || Nat.beq q 728)
section EzIp
variable {d : Nat} {h : cz_H} {τ : Nat → Nat} {Q : cz_F → Prop} {T : Int → Nat} {F : rz_W} {E : Int → Prop}
theorem rd_ins_e {a b x n pl : Int} {y : Int64} {g : cz_H} (t723 : τ 723 = 55) (t727 : τ 727 = 59) (t728 : τ 728 = 60) (n1 : n < 256) (p0 : 0 ≤ pl) (p1 : pl ≤ n) (x0 : 0 ≤ x) (x1 : x ≤ 1114111) (kk : ∀ g, ez_B τ g → ez_fr nz_PG h g → (∀ j, j ≠ 8 → qz_I g 723 j = qz_I h 723 j) → qz_I g 723 8 = n + 1 → (∀ k, 0 ≤ k → k ≤ n → pp g k = if k = pl then y.toInt else if pl < k then pp h (k - 1) else pp h k) → Q (.inl (some (ez_v (.inl 1))), g)) (hB : ez_B τ g) (hf : ez_fr nz_PG h g) (hj0 : ∀ j, j ≠ 8 → qz_I g 723 j = qz_I h 723 j) (hc : qz_I g 723 8 = n) (hv : ∀ k, 0 ≤ k → k ≤ n → qz_I g 727 k.toNat = if pl < k then pp h (k - 1) else pp h k) : ez_W d cm_121 128 [(8, .inl (pl)), (7, .inl (0)), (6, .inl (pl)), (4, .inr (.inl (y))), (0, .inr (.inr (some (723)))), (1, .inl (a)), (2, .inl (b)), (3, .inl (x))] [] g Q := by
  refine ez_go (n := 1) (pc' := 129) (L' := [(8, .inl (pl)), (7, .inl (0)), (6, .inl (pl)), (4, .inr (.inl (y))), (0, .inr (.inr (some (723)))), (1, .inl (a)), (2, .inl (b)), (3, .inl (x))]) (st' := [.inr (.inr (some (723)))]) rfl ?_
  refine ez_gC (p := 727) (tg := 59) hB t723 rfl rfl tq_55 rfl rfl (fun (t727 : _ = 59) => ?_)
  refine ez_go (n := 2) (pc' := 136) (L' := [(8, .inl (pl)), (7, .inl (0)), (6, .inl (pl)), (4, .inr (.inl (y))), (0, .inr (.inr (some (723)))), (1, .inl (a)), (2, .inl (b)), (3, .inl (x))]) (st' := [.inr (.inl (y)), .inl (pl), .inr (.inr (some (727)))]) rfl ?_
  have n3 : 256 ≤ qz_N g 727 ∧ qz_N g 727 ≤ 256 := ez_len hB t727 tq_59 rfl
  refine ez_as hB t727 rfl tq_59 rfl rfl (by omega) (by omega) ez_vdJ (fun hB1 w2 => ?_)
  refine ez_go (n := 1) (pc' := 138) (L' := [(8, .inl (pl)), (7, .inl (0)), (6, .inl (pl)), (4, .inr (.inl (y))), (0, .inr (.inr (some (723)))), (1, .inl (a)), (2, .inl (b)), (3, .inl (x))]) (st' := [.inr (.inr (some (723)))]) rfl ?_
  refine ez_gC (p := 728) (tg := 60) hB1 t723 rfl rfl tq_55 rfl rfl (fun (t728 : _ = 60) => ?_)
  refine ez_go (n := 2) (pc' := 144) (L' := [(8, .inl (pl)), (7, .inl (0)), (6, .inl (pl)), (4, .inr (.inl (y))), (0, .inr (.inr (some (723)))), (1, .inl (a)), (2, .inl (b)), (3, .inl (x))]) (st' := [.inl (x), .inl (pl), .inr (.inr (some (728)))]) rfl ?_
  have n6 : 256 ≤ qz_N (dz_put g 727 (pl).toNat (ez_v (.inr (.inl (y))))) 728 ∧ qz_N (dz_put g 727 (pl).toNat (ez_v (.inr (.inl (y))))) 728 ≤ 256 := ez_len hB1 t728 tq_60 rfl
  refine ez_as hB1 t728 rfl tq_60 rfl rfl (by omega) (by omega) (ez_vdI rfl rfl (by omega) (by omega)) (fun hB4 w5 => ?_)
  refine ez_go (n := 2) (pc' := 147) (L' := [(8, .inl (pl)), (7, .inl (0)), (6, .inl (pl)), (4, .inr (.inl (y))), (0, .inr (.inr (some (723)))), (1, .inl (a)), (2, .inl (b)), (3, .inl (x))]) (st' := [.inr (.inr (some (723))), .inr (.inr (some (723)))]) rfl ?_
  refine ez_gI hB4 t723 rfl rfl tq_55 rfl rfl (fun (b7 : 0 ≤ qz_I (dz_put (dz_put g 727 (pl).toNat (ez_v (.inr (.inl (y))))) 728 (pl).toNat (ez_v (.inl (x)))) 723 8) (b7' : qz_I (dz_put (dz_put g 727 (pl).toNat (ez_v (.inr (.inl (y))))) 728 (pl).toNat (ez_v (.inl (x)))) 723 8 ≤ 256) => ?_)
  have hcn : qz_I (dz_put (dz_put g 727 (pl).toNat (ez_v (.inr (.inl (y))))) 728 (pl).toNat (ez_v (.inl (x)))) 723 8 = n := by rw [ez_put_I (by omega), ez_put_I (by omega)]; exact hc
  refine ez_go (n := 2) (pc' := 152) (L' := [(8, .inl (pl)), (7, .inl (0)), (6, .inl (pl)), (4, .inr (.inl (y))), (0, .inr (.inr (some (723)))), (1, .inl (a)), (2, .inl (b)), (3, .inl (x))]) (st' := [.inl ((qz_I (dz_put (dz_put g 727 (pl).toNat (ez_v (.inr (.inl (y))))) 728 (pl).toNat (ez_v (.inl (x)))) 723 8) + (1)), .inr (.inr (some (723)))]) rfl ?_
  refine ez_pf hB4 t723 rfl rfl tq_55 rfl rfl rfl rfl (ez_vdI rfl rfl (by omega) (by omega)) (fun hB8 w9 => ?_)
  refine ez_go (n := 1) (pc' := 156) (L' := [(8, .inl (pl)), (7, .inl (0)), (6, .inl (pl)), (4, .inr (.inl (y))), (0, .inr (.inr (some (723)))), (1, .inl (a)), (2, .inl (b)), (3, .inl (x))]) (st' := [.inl (1)]) rfl ?_
  refine ez_retZ rfl rfl (by decide) (kk _ hB8 (((hf.put (show nz_PG 727 = true from rfl) _ _).put (show nz_PG 728 = true from rfl) _ _).put (show nz_PG 723 = true from rfl) _ _) (fun j hj => by rw [ez_put_I (fun w => hj w.2), ez_put_I (by omega), ez_put_I (by omega)]; exact hj0 j hj) (by rw [w9, rz_rd ⟨by omega, by omega⟩, hcn]) (fun k k0 k1 => ?_))
  unfold pp
  rw [ez_put_I (by omega), ez_put_I (by omega)]
  by_cases e : k = pl
  · rw [if_pos e, e, w2]; rfl
  · rw [if_neg e, ez_put_I (by omega)]; exact hv k k0 k1

theorem rd_ins_l {a b x n pl : Int} {y : Int64} (t723 : τ 723 = 55) (t727 : τ 727 = 59) (t728 : τ 728 = 60) (n1 : n < 256) (p0 : 0 ≤ pl) (p1 : pl ≤ n) (x0 : 0 ≤ x) (x1 : x ≤ 1114111) (kk : ∀ g, ez_B τ g → ez_fr nz_PG h g → (∀ j, j ≠ 8 → qz_I g 723 j = qz_I h 723 j) → qz_I g 723 8 = n + 1 → (∀ k, 0 ≤ k → k ≤ n → pp g k = if k = pl then y.toInt else if pl < k then pp h (k - 1) else pp h k) → Q (.inl (some (ez_v (.inl 1))), g)) : ∀ (m : Nat) (i : Int) (g : cz_H), m = (i - pl).toNat → pl ≤ i → i ≤ n → ez_B τ g → ez_fr nz_PG h g → (∀ j, j ≠ 8 → qz_I g 723 j = qz_I h 723 j) → qz_I g 723 8 = n → (∀ k, 0 ≤ k → k ≤ n → qz_I g 727 k.toNat = if i < k then pp h (k - 1) else pp h k) → ez_W d cm_121 83 [(8, .inl (i)), (7, .inl (0)), (6, .inl (pl)), (4, .inr (.inl (y))), (0, .inr (.inr (some (723)))), (1, .inl (a)), (2, .inl (b)), (3, .inl (x))] [] g Q := by
  intro m
  induction m with
  | zero =>
    intro i g hm a1 a2 hB hf hj0 hc hv
    refine ez_go (n := 2) (pc' := 87) (L' := [(8, .inl (i)), (7, .inl (0)), (6, .inl (pl)), (4, .inr (.inl (y))), (0, .inr (.inr (some (723)))), (1, .inl (a)), (2, .inl (b)), (3, .inl (x))]) (st' := [.inl (pl), .inl (i)]) rfl ?_
    refine ez_icmp rfl rfl ⟨by first | omega | exact (sz_i32 _).1, by first | omega | exact (sz_i32 _).2⟩ ⟨by first | omega | exact (sz_i32 _).1, by first | omega | exact (sz_i32 _).2⟩ (fun (c1 : (i) ≤ (pl)) => ?_) (fun (c1 : ¬((i) ≤ (pl))) => ?_)
    · skip
      have e9 : i = pl := by omega
      subst e9
      exact rd_ins_e t723 t727 t728 n1 p0 p1 x0 x1 kk hB hf hj0 hc hv
    · exfalso; omega
  | succ m ih =>
    intro i g hm a1 a2 hB hf hj0 hc hv
    refine ez_go (n := 2) (pc' := 87) (L' := [(8, .inl (i)), (7, .inl (0)), (6, .inl (pl)), (4, .inr (.inl (y))), (0, .inr (.inr (some (723)))), (1, .inl (a)), (2, .inl (b)), (3, .inl (x))]) (st' := [.inl (pl), .inl (i)]) rfl ?_
    refine ez_icmp rfl rfl ⟨by first | omega | exact (sz_i32 _).1, by first | omega | exact (sz_i32 _).2⟩ ⟨by first | omega | exact (sz_i32 _).1, by first | omega | exact (sz_i32 _).2⟩ (fun (c1 : (i) ≤ (pl)) => ?_) (fun (c1 : ¬((i) ≤ (pl))) => ?_)
    · exfalso; omega
    · skip
      refine ez_go (n := 1) (pc' := 91) (L' := [(8, .inl (i)), (7, .inl (0)), (6, .inl (pl)), (4, .inr (.inl (y))), (0, .inr (.inr (some (723)))), (1, .inl (a)), (2, .inl (b)), (3, .inl (x))]) (st' := [.inr (.inr (some (723)))]) rfl ?_
      refine ez_gC (p := 727) (tg := 59) hB t723 rfl rfl tq_55 rfl rfl (fun (t727 : _ = 59) => ?_)
      refine ez_go (n := 2) (pc' := 97) (L' := [(8, .inl (i)), (7, .inl (0)), (6, .inl (pl)), (4, .inr (.inl (y))), (0, .inr (.inr (some (723)))), (1, .inl (a)), (2, .inl (b)), (3, .inl (x))]) (st' := [.inr (.inr (some (723))), .inl (i), .inr (.inr (some (727)))]) rfl ?_
      refine ez_gC (p := 727) (tg := 59) hB t723 rfl rfl tq_55 rfl rfl (fun (t727 : _ = 59) => ?_)
      refine ez_go (n := 3) (pc' := 104) (L' := [(8, .inl (i)), (7, .inl (0)), (6, .inl (pl)), (4, .inr (.inl (y))), (0, .inr (.inr (some (723)))), (1, .inl (a)), (2, .inl (b)), (3, .inl (x))]) (st' := [.inl ((i) - (1)), .inr (.inr (some (727))), .inl (i), .inr (.inr (some (727)))]) rfl ?_
      have n2 : 256 ≤ qz_N g 727 ∧ qz_N g 727 ≤ 256 := ez_len hB t727 tq_59 rfl
      refine ez_aL hB t727 rfl tq_59 rfl rfl (by omega) (by omega) ?_
      have n5 : 256 ≤ qz_N g 727 ∧ qz_N g 727 ≤ 256 := ez_len hB t727 tq_59 rfl
      refine ez_as hB t727 rfl tq_59 rfl rfl (by omega) (by omega) ez_vdJ (fun hB3 w4 => ?_)
      refine ez_go (n := 1) (pc' := 107) (L' := [(8, .inl (i)), (7, .inl (0)), (6, .inl (pl)), (4, .inr (.inl (y))), (0, .inr (.inr (some (723)))), (1, .inl (a)), (2, .inl (b)), (3, .inl (x))]) (st' := [.inr (.inr (some (723)))]) rfl ?_
      refine ez_gC (p := 728) (tg := 60) hB3 t723 rfl rfl tq_55 rfl rfl (fun (t728 : _ = 60) => ?_)
      refine ez_go (n := 2) (pc' := 113) (L' := [(8, .inl (i)), (7, .inl (0)), (6, .inl (pl)), (4, .inr (.inl (y))), (0, .inr (.inr (some (723)))), (1, .inl (a)), (2, .inl (b)), (3, .inl (x))]) (st' := [.inr (.inr (some (723))), .inl (i), .inr (.inr (some (728)))]) rfl ?_
      refine ez_gC (p := 728) (tg := 60) hB3 t723 rfl rfl tq_55 rfl rfl (fun (t728 : _ = 60) => ?_)
      refine ez_go (n := 3) (pc' := 120) (L' := [(8, .inl (i)), (7, .inl (0)), (6, .inl (pl)), (4, .inr (.inl (y))), (0, .inr (.inr (some (723)))), (1, .inl (a)), (2, .inl (b)), (3, .inl (x))]) (st' := [.inl ((i) - (1)), .inr (.inr (some (728))), .inl (i), .inr (.inr (some (728)))]) rfl ?_
      have n7 : 256 ≤ qz_N (dz_put g 727 (i).toNat (ez_v (.inr (.inl (Int64.ofInt (qz_I g 727 ((i) - (1)).toNat)))))) 728 ∧ qz_N (dz_put g 727 (i).toNat (ez_v (.inr (.inl (Int64.ofInt (qz_I g 727 ((i) - (1)).toNat)))))) 728 ≤ 256 := ez_len hB3 t728 tq_60 rfl
      refine ez_aI hB3 t728 rfl tq_60 rfl rfl (by omega) (by omega) (fun (b6 : -2147483648 ≤ qz_I (dz_put g 727 (i).toNat (ez_v (.inr (.inl (Int64.ofInt (qz_I g 727 ((i) - (1)).toNat)))))) 728 ((i) - (1)).toNat) (b6' : qz_I (dz_put g 727 (i).toNat (ez_v (.inr (.inl (Int64.ofInt (qz_I g 727 ((i) - (1)).toNat)))))) 728 ((i) - (1)).toNat ≤ 2147483647) => ?_)
      have n10 : 256 ≤ qz_N (dz_put g 727 (i).toNat (ez_v (.inr (.inl (Int64.ofInt (qz_I g 727 ((i) - (1)).toNat)))))) 728 ∧ qz_N (dz_put g 727 (i).toNat (ez_v (.inr (.inl (Int64.ofInt (qz_I g 727 ((i) - (1)).toNat)))))) 728 ≤ 256 := ez_len hB3 t728 tq_60 rfl
      refine ez_as hB3 t728 rfl tq_60 rfl rfl (by omega) (by omega) (ez_vdI rfl rfl (by omega) (by omega)) (fun hB8 w9 => ?_)
      refine ez_go (n := 2) (pc' := 83) (L' := [(8, .inl (i + (-1))), (7, .inl (0)), (6, .inl (pl)), (4, .inr (.inl (y))), (0, .inr (.inr (some (723)))), (1, .inl (a)), (2, .inl (b)), (3, .inl (x))]) (st' := []) rfl ?_
      refine ez_less [(8, .inl (i + (-1))), (7, .inl (0)), (6, .inl (pl)), (4, .inr (.inl (y))), (0, .inr (.inr (some (723)))), (1, .inl (a)), (2, .inl (b)), (3, .inl (x))] rfl ⟨rfl, rfl, rfl, rfl, rfl, rfl, rfl, rfl, trivial⟩ ?_
      have rd := ez_lrg (i := i - 1) hB t727 tq_59 rfl rfl (by omega) (by omega)
      refine ih _ _ (by omega) (by omega) (by omega) hB8 ((hf.put (show nz_PG 727 = true from rfl) _ _).put (show nz_PG 728 = true from rfl) _ _) (fun j hj => by rw [ez_put_I (by omega), ez_put_I (by omega)]; exact hj0 j hj) (by rw [ez_put_I (by omega), ez_put_I (by omega)]; exact hc) (fun k k0 k1 => ?_)
      rw [ez_put_I (by omega)]
      by_cases e : k = i
      · rw [e, if_pos (by omega), w4]; show (Int64.ofInt (qz_I g 727 (i - 1).toNat)).toInt = _; rw [rd, hv (i - 1) (by omega) (by omega), if_neg (by omega)]
      · rw [ez_put_I (by omega), hv k k0 k1]
        by_cases e2 : i < k
        · rw [if_pos e2, if_pos (by omega)]
        · rw [if_neg e2, if_neg (by omega)]
theorem rd_insertPair {a b x : Int} (hB : ez_B τ h) (hX : jz_X τ) (ha0 : 0 ≤ a) (ha1 : a ≤ 1114111) (hb0 : 0 ≤ b) (hb1 : b ≤ 1114111) (x0 : 0 ≤ x) (x1 : x ≤ 1114111) (hn : qz_I h 723 8 < 256) (hr : ri (pp h) (qz_I h 723 8)) (k0 : (∃ j, 0 ≤ j ∧ j < qz_I h 723 8 ∧ pp h j = a * 2097152 + b) ∨ hz_pair a b → Q (.inl (some (ez_v (.inl 0))), h)) (k1 : (¬ ∃ j, 0 ≤ j ∧ j < qz_I h 723 8 ∧ pp h j = a * 2097152 + b) → ¬ hz_pair a b → ∀ g, ez_B τ g → ez_fr nz_PG h g → (∀ j, j ≠ 8 → qz_I g 723 j = qz_I h 723 j) → qz_I g 723 8 = qz_I h 723 8 + 1 → ri (pp g) (qz_I h 723 8 + 1) → (∀ z, (∃ j, 0 ≤ j ∧ j < qz_I h 723 8 + 1 ∧ pp g j = z) ↔ (z = a * 2097152 + b ∨ ∃ j, 0 ≤ j ∧ j < qz_I h 723 8 ∧ pp h j = z)) → Q (.inl (some (ez_v (.inl 1))), g)) : ez_W (d + 1) cm_121 0 [(0, .inr (.inr (some (723)))), (1, .inl (a)), (2, .inl (b)), (3, .inl (x))] [] h Q := by
  have t723 : τ 723 = 55 := hX 723 (by decide)
  have t727 : τ 727 = 59 := hX 727 (by decide)
  have t728 : τ 728 = 60 := hX 728 (by decide)
  refine ez_go (n := 2) (pc' := 2) (L' := [(0, .inr (.inr (some (723)))), (1, .inl (a)), (2, .inl (b)), (3, .inl (x))]) (st' := [.inl (b), .inl (a)]) rfl ?_
  refine ez_cs hB.2.1 rfl rfl rfl rfl rfl (rd_packPair ha0 ha1 hb0 hb1 (fun y hy => ez_KL ?_))
  refine ez_go (n := 3) (pc' := 10) (L' := [(4, .inr (.inl (y))), (0, .inr (.inr (some (723)))), (1, .inl (a)), (2, .inl (b)), (3, .inl (x))]) (st' := [.inr (.inr (some (723))), .inr (.inl (y))]) rfl ?_
  refine ez_gC (p := 727) (tg := 59) hB t723 rfl rfl tq_55 rfl rfl (fun (t727 : _ = 59) => ?_)
  refine ez_go (n := 1) (pc' := 14) (L' := [(4, .inr (.inl (y))), (0, .inr (.inr (some (723)))), (1, .inl (a)), (2, .inl (b)), (3, .inl (x))]) (st' := [.inr (.inr (some (723))), .inr (.inr (some (727))), .inr (.inl (y))]) rfl ?_
  refine ez_gI hB t723 rfl rfl tq_55 rfl rfl (fun (b1 : 0 ≤ qz_I h 723 8) (b1' : qz_I h 723 8 ≤ 256) => ?_)
  refine ez_cs hB.2.1 rfl rfl rfl rfl rfl (rd_placeOfP hB t727 (by omega) (by omega) (fun pl p0 p1 q1 q2 => ez_K1 ?_))
  have lr : ∀ k, 0 ≤ k → k < 256 → (Int64.ofInt (qz_I h 727 k.toNat)).toInt = pp h k := fun k k0 k1 => ez_lrg hB t727 tq_59 rfl rfl k0 (by have := ez_len hB t727 tq_59 rfl; have : (256 : Int) ≤ qz_N h 727 := this.1; omega)
  have q1 : pl = 0 ∨ pp h (pl - 1) < y.toInt := by
    by_cases e : pl = 0
    · exact Or.inl e
    · refine Or.inr ?_; have := Int64.lt_iff_toInt_lt.mp (q1.resolve_left e); rw [lr _ (by omega) (by omega)] at this; exact this
  have q2 : pl = qz_I h 723 8 ∨ y.toInt ≤ pp h pl := by
    by_cases e : pl = qz_I h 723 8
    · exact Or.inl e
    · refine Or.inr ?_
      by_cases e3 : y.toInt ≤ pp h pl
      · exact e3
      · exact absurd (Int64.lt_iff_toInt_lt.mpr (by rw [lr _ (by omega) (by omega)]; omega)) (q2.resolve_left e)
  refine ez_go (n := 3) (pc' := 25) (L' := [(6, .inl (pl)), (4, .inr (.inl (y))), (0, .inr (.inr (some (723)))), (1, .inl (a)), (2, .inl (b)), (3, .inl (x))]) (st' := [.inr (.inr (some (723))), .inl (pl)]) rfl ?_
  refine ez_gI hB t723 rfl rfl tq_55 rfl rfl (fun (b2 : 0 ≤ qz_I h 723 8) (b2' : qz_I h 723 8 ≤ 256) => ?_)
  refine ez_icmp rfl rfl ⟨by first | omega | exact (sz_i32 _).1, by first | omega | exact (sz_i32 _).2⟩ ⟨by first | omega | exact (sz_i32 _).1, by first | omega | exact (sz_i32 _).2⟩ (fun (c3 : (qz_I h 723 8) ≤ (pl)) => ?_) (fun (c3 : ¬((qz_I h 723 8) ≤ (pl))) => ?_)
  · skip
    refine ez_go (n := 3) (pc' := 53) (L' := [(7, .inl (0)), (6, .inl (pl)), (4, .inr (.inl (y))), (0, .inr (.inr (some (723)))), (1, .inl (a)), (2, .inl (b)), (3, .inl (x))]) (st' := [.inl (0)]) rfl ?_
    refine ez_if rfl rfl ⟨by decide, by decide⟩ (fun (c4 : (0 : Int) ≠ (0)) => absurd c4 (by decide)) (fun _ => ?_)
    refine ez_go (n := 2) (pc' := 58) (L' := [(7, .inl (0)), (6, .inl (pl)), (4, .inr (.inl (y))), (0, .inr (.inr (some (723)))), (1, .inl (a)), (2, .inl (b)), (3, .inl (x))]) (st' := [.inl (b), .inl (a)]) rfl ?_
    refine ez_cs hB.2.1 rfl rfl rfl rfl rfl (rd_syllableOf ha0 ha1 hb0 hb1 (fun v v0 v1 hpr => ez_K1 ?_) (fun hpr => ez_K1 ?_))
    · skip
      refine ez_go (n := 1) (pc' := 62) (L' := [(7, .inl (0)), (6, .inl (pl)), (4, .inr (.inl (y))), (0, .inr (.inr (some (723)))), (1, .inl (a)), (2, .inl (b)), (3, .inl (x))]) (st' := [.inl (-1), .inl (v)]) rfl ?_
      refine ez_icmp rfl rfl ⟨by first | omega | exact (sz_i32 _).1, by first | omega | exact (sz_i32 _).2⟩ ⟨by first | omega | exact (sz_i32 _).1, by first | omega | exact (sz_i32 _).2⟩ (fun (c5 : (v) ≠ (-1)) => ?_) (fun (c5 : ¬((v) ≠ (-1))) => ?_)
      · skip
        refine ez_go (n := 1) (pc' := 76) (L' := [(7, .inl (0)), (6, .inl (pl)), (4, .inr (.inl (y))), (0, .inr (.inr (some (723)))), (1, .inl (a)), (2, .inl (b)), (3, .inl (x))]) (st' := [.inl (0)]) rfl ?_
        exact ez_retZ rfl rfl (by decide) (k0 (Or.inr hpr))
      · skip
        refine ez_go (n := 1) (pc' := 66) (L' := [(7, .inl (0)), (6, .inl (pl)), (4, .inr (.inl (y))), (0, .inr (.inr (some (723)))), (1, .inl (a)), (2, .inl (b)), (3, .inl (x))]) (st' := [.inr (.inr (some (723)))]) rfl ?_
        refine ez_gI hB t723 rfl rfl tq_55 rfl rfl (fun (b6 : 0 ≤ qz_I h 723 8) (b6' : qz_I h 723 8 ≤ 256) => ?_)
        refine ez_go (n := 1) (pc' := 72) (L' := [(7, .inl (0)), (6, .inl (pl)), (4, .inr (.inl (y))), (0, .inr (.inr (some (723)))), (1, .inl (a)), (2, .inl (b)), (3, .inl (x))]) (st' := [.inl (256), .inl (qz_I h 723 8)]) rfl ?_
        refine ez_icmp rfl rfl ⟨by first | omega | exact (sz_i32 _).1, by first | omega | exact (sz_i32 _).2⟩ ⟨by first | omega | exact (sz_i32 _).1, by first | omega | exact (sz_i32 _).2⟩ (fun (c7 : (qz_I h 723 8) < (256)) => ?_) (fun (c7 : ¬((qz_I h 723 8) < (256))) => ?_)
        · skip
          refine ez_go (n := 1) (pc' := 78) (L' := [(7, .inl (0)), (6, .inl (pl)), (4, .inr (.inl (y))), (0, .inr (.inr (some (723)))), (1, .inl (a)), (2, .inl (b)), (3, .inl (x))]) (st' := [.inr (.inr (some (723)))]) rfl ?_
          refine ez_gI hB t723 rfl rfl tq_55 rfl rfl (fun (b8 : 0 ≤ qz_I h 723 8) (b8' : qz_I h 723 8 ≤ 256) => ?_)
          refine ez_go (n := 1) (pc' := 83) (L' := [(8, .inl (qz_I h 723 8)), (7, .inl (0)), (6, .inl (pl)), (4, .inr (.inl (y))), (0, .inr (.inr (some (723)))), (1, .inl (a)), (2, .inl (b)), (3, .inl (x))]) (st' := []) rfl ?_
          exfalso; omega
        · skip
          refine ez_go (n := 1) (pc' := 76) (L' := [(7, .inl (0)), (6, .inl (pl)), (4, .inr (.inl (y))), (0, .inr (.inr (some (723)))), (1, .inl (a)), (2, .inl (b)), (3, .inl (x))]) (st' := [.inl (0)]) rfl ?_
          exact ez_retZ rfl rfl (by decide) (k0 (Or.inr hpr))
    · skip
      refine ez_go (n := 1) (pc' := 62) (L' := [(7, .inl (0)), (6, .inl (pl)), (4, .inr (.inl (y))), (0, .inr (.inr (some (723)))), (1, .inl (a)), (2, .inl (b)), (3, .inl (x))]) (st' := [.inl (-1), .inl (-1)]) rfl ?_
      refine ez_icmp rfl rfl ⟨by decide, by decide⟩ ⟨by decide, by decide⟩ (fun (c9 : (-1 : Int) ≠ (-1)) => absurd c9 (by decide)) (fun _ => ?_)
      refine ez_go (n := 1) (pc' := 66) (L' := [(7, .inl (0)), (6, .inl (pl)), (4, .inr (.inl (y))), (0, .inr (.inr (some (723)))), (1, .inl (a)), (2, .inl (b)), (3, .inl (x))]) (st' := [.inr (.inr (some (723)))]) rfl ?_
      refine ez_gI hB t723 rfl rfl tq_55 rfl rfl (fun (b10 : 0 ≤ qz_I h 723 8) (b10' : qz_I h 723 8 ≤ 256) => ?_)
      refine ez_go (n := 1) (pc' := 72) (L' := [(7, .inl (0)), (6, .inl (pl)), (4, .inr (.inl (y))), (0, .inr (.inr (some (723)))), (1, .inl (a)), (2, .inl (b)), (3, .inl (x))]) (st' := [.inl (256), .inl (qz_I h 723 8)]) rfl ?_
      refine ez_icmp rfl rfl ⟨by first | omega | exact (sz_i32 _).1, by first | omega | exact (sz_i32 _).2⟩ ⟨by first | omega | exact (sz_i32 _).1, by first | omega | exact (sz_i32 _).2⟩ (fun (c11 : (qz_I h 723 8) < (256)) => ?_) (fun (c11 : ¬((qz_I h 723 8) < (256))) => ?_)
      · skip
        refine ez_go (n := 1) (pc' := 78) (L' := [(7, .inl (0)), (6, .inl (pl)), (4, .inr (.inl (y))), (0, .inr (.inr (some (723)))), (1, .inl (a)), (2, .inl (b)), (3, .inl (x))]) (st' := [.inr (.inr (some (723)))]) rfl ?_
        refine ez_gI hB t723 rfl rfl tq_55 rfl rfl (fun (b12 : 0 ≤ qz_I h 723 8) (b12' : qz_I h 723 8 ≤ 256) => ?_)
        refine ez_go (n := 1) (pc' := 83) (L' := [(8, .inl (qz_I h 723 8)), (7, .inl (0)), (6, .inl (pl)), (4, .inr (.inl (y))), (0, .inr (.inr (some (723)))), (1, .inl (a)), (2, .inl (b)), (3, .inl (x))]) (st' := []) rfl ?_
        refine ez_less [(8, .inl (qz_I h 723 8)), (7, .inl (0)), (6, .inl (pl)), (4, .inr (.inl (y))), (0, .inr (.inr (some (723)))), (1, .inl (a)), (2, .inl (b)), (3, .inl (x))] rfl ⟨rfl, rfl, rfl, rfl, rfl, rfl, rfl, rfl, trivial⟩ ?_
        have q3 : pl = qz_I h 723 8 ∨ y.toInt < pp h pl := by
          by_cases e : pl = qz_I h 723 8
          · exact Or.inl e
          · refine Or.inr ?_
            have e4 := q2.resolve_left e
            have e5 : y.toInt ≠ pp h pl := fun e6 => by
              have e7 : Int64.ofInt (qz_I h 727 pl.toNat) = y := Int64.toInt_inj.mp (by rw [lr pl p0 (by omega)]; exact e6.symm)
              have e8 := (nz_cmp_eq _ _).mpr e7
              first | (exact absurd e8 (by assumption)) | omega
            omega
        refine rd_ins_l t723 t727 t728 (n := qz_I h 723 8) hn p0 p1 x0 x1 (fun g hB2 f2 j2 c2 v2 => ?_) _ _ h rfl (by omega) (by omega) hB (ez_fr.refl _ _) (fun _ _ => rfl) rfl (fun k k0 k1 => by rw [if_neg (by omega)]; rfl)
        obtain ⟨r1, r2⟩ := ri_ins (P := pp h) (P2 := pp g) hr p0 p1 q1 q3 v2
        refine k1 (fun ⟨j, j0, j1, e⟩ => ?_) hpr g hB2 f2 j2 c2 r1 (fun z => by rw [← hy]; exact r2 z)
        rw [← hy] at e
        by_cases e2 : j < pl
        · rcases q1 with w | w
          · omega
          · by_cases e3 : j = pl - 1
            · rw [e3] at e; omega
            · have := hr j (pl - 1) j0 (by omega) (by omega); omega
        · rcases q3 with w | w
          · omega
          · by_cases e3 : j = pl
            · rw [e3] at e; omega
            · have := hr pl j p0 (by omega) j1; omega
      · skip
        refine ez_go (n := 1) (pc' := 76) (L' := [(7, .inl (0)), (6, .inl (pl)), (4, .inr (.inl (y))), (0, .inr (.inr (some (723)))), (1, .inl (a)), (2, .inl (b)), (3, .inl (x))]) (st' := [.inl (0)]) rfl ?_
        exfalso; omega
  · skip
    refine ez_go (n := 1) (pc' := 32) (L' := [(6, .inl (pl)), (4, .inr (.inl (y))), (0, .inr (.inr (some (723)))), (1, .inl (a)), (2, .inl (b)), (3, .inl (x))]) (st' := [.inr (.inr (some (723)))]) rfl ?_
    refine ez_gC (p := 727) (tg := 59) hB t723 rfl rfl tq_55 rfl rfl (fun (t727 : _ = 59) => ?_)
    refine ez_go (n := 1) (pc' := 37) (L' := [(6, .inl (pl)), (4, .inr (.inl (y))), (0, .inr (.inr (some (723)))), (1, .inl (a)), (2, .inl (b)), (3, .inl (x))]) (st' := [.inl (pl), .inr (.inr (some (727)))]) rfl ?_
    have n13 : 256 ≤ qz_N h 727 ∧ qz_N h 727 ≤ 256 := ez_len hB t727 tq_59 rfl
    refine ez_aL hB t727 rfl tq_59 rfl rfl (by omega) (by omega) ?_
    refine ez_go (n := 2) (pc' := 41) (L' := [(6, .inl (pl)), (4, .inr (.inl (y))), (0, .inr (.inr (some (723)))), (1, .inl (a)), (2, .inl (b)), (3, .inl (x))]) (st' := [.inl ((lg_cmp (Int64.ofInt (qz_I h 727 (pl).toNat)) (y)).toInt)]) rfl ?_
    refine ez_if rfl rfl ⟨by first | omega | exact (sz_i32 _).1, by first | omega | exact (sz_i32 _).2⟩ (fun (c14 : ((lg_cmp (Int64.ofInt (qz_I h 727 (pl).toNat)) (y)).toInt) ≠ (0)) => ?_) (fun (c14 : ¬(((lg_cmp (Int64.ofInt (qz_I h 727 (pl).toNat)) (y)).toInt) ≠ (0))) => ?_)
    · skip
      refine ez_go (n := 3) (pc' := 53) (L' := [(7, .inl (0)), (6, .inl (pl)), (4, .inr (.inl (y))), (0, .inr (.inr (some (723)))), (1, .inl (a)), (2, .inl (b)), (3, .inl (x))]) (st' := [.inl (0)]) rfl ?_
      refine ez_if rfl rfl ⟨by decide, by decide⟩ (fun (c15 : (0 : Int) ≠ (0)) => absurd c15 (by decide)) (fun _ => ?_)
      refine ez_go (n := 2) (pc' := 58) (L' := [(7, .inl (0)), (6, .inl (pl)), (4, .inr (.inl (y))), (0, .inr (.inr (some (723)))), (1, .inl (a)), (2, .inl (b)), (3, .inl (x))]) (st' := [.inl (b), .inl (a)]) rfl ?_
      refine ez_cs hB.2.1 rfl rfl rfl rfl rfl (rd_syllableOf ha0 ha1 hb0 hb1 (fun v v0 v1 hpr => ez_K1 ?_) (fun hpr => ez_K1 ?_))
      · skip
        refine ez_go (n := 1) (pc' := 62) (L' := [(7, .inl (0)), (6, .inl (pl)), (4, .inr (.inl (y))), (0, .inr (.inr (some (723)))), (1, .inl (a)), (2, .inl (b)), (3, .inl (x))]) (st' := [.inl (-1), .inl (v)]) rfl ?_
        refine ez_icmp rfl rfl ⟨by first | omega | exact (sz_i32 _).1, by first | omega | exact (sz_i32 _).2⟩ ⟨by first | omega | exact (sz_i32 _).1, by first | omega | exact (sz_i32 _).2⟩ (fun (c16 : (v) ≠ (-1)) => ?_) (fun (c16 : ¬((v) ≠ (-1))) => ?_)
        · skip
          refine ez_go (n := 1) (pc' := 76) (L' := [(7, .inl (0)), (6, .inl (pl)), (4, .inr (.inl (y))), (0, .inr (.inr (some (723)))), (1, .inl (a)), (2, .inl (b)), (3, .inl (x))]) (st' := [.inl (0)]) rfl ?_
          exact ez_retZ rfl rfl (by decide) (k0 (Or.inr hpr))
        · skip
          refine ez_go (n := 1) (pc' := 66) (L' := [(7, .inl (0)), (6, .inl (pl)), (4, .inr (.inl (y))), (0, .inr (.inr (some (723)))), (1, .inl (a)), (2, .inl (b)), (3, .inl (x))]) (st' := [.inr (.inr (some (723)))]) rfl ?_
          refine ez_gI hB t723 rfl rfl tq_55 rfl rfl (fun (b17 : 0 ≤ qz_I h 723 8) (b17' : qz_I h 723 8 ≤ 256) => ?_)
          refine ez_go (n := 1) (pc' := 72) (L' := [(7, .inl (0)), (6, .inl (pl)), (4, .inr (.inl (y))), (0, .inr (.inr (some (723)))), (1, .inl (a)), (2, .inl (b)), (3, .inl (x))]) (st' := [.inl (256), .inl (qz_I h 723 8)]) rfl ?_
          refine ez_icmp rfl rfl ⟨by first | omega | exact (sz_i32 _).1, by first | omega | exact (sz_i32 _).2⟩ ⟨by first | omega | exact (sz_i32 _).1, by first | omega | exact (sz_i32 _).2⟩ (fun (c18 : (qz_I h 723 8) < (256)) => ?_) (fun (c18 : ¬((qz_I h 723 8) < (256))) => ?_)
          · skip
            refine ez_go (n := 1) (pc' := 78) (L' := [(7, .inl (0)), (6, .inl (pl)), (4, .inr (.inl (y))), (0, .inr (.inr (some (723)))), (1, .inl (a)), (2, .inl (b)), (3, .inl (x))]) (st' := [.inr (.inr (some (723)))]) rfl ?_
            refine ez_gI hB t723 rfl rfl tq_55 rfl rfl (fun (b19 : 0 ≤ qz_I h 723 8) (b19' : qz_I h 723 8 ≤ 256) => ?_)
            refine ez_go (n := 1) (pc' := 83) (L' := [(8, .inl (qz_I h 723 8)), (7, .inl (0)), (6, .inl (pl)), (4, .inr (.inl (y))), (0, .inr (.inr (some (723)))), (1, .inl (a)), (2, .inl (b)), (3, .inl (x))]) (st' := []) rfl ?_
            exfalso; omega
          · skip
            refine ez_go (n := 1) (pc' := 76) (L' := [(7, .inl (0)), (6, .inl (pl)), (4, .inr (.inl (y))), (0, .inr (.inr (some (723)))), (1, .inl (a)), (2, .inl (b)), (3, .inl (x))]) (st' := [.inl (0)]) rfl ?_
            exact ez_retZ rfl rfl (by decide) (k0 (Or.inr hpr))
      · skip
        refine ez_go (n := 1) (pc' := 62) (L' := [(7, .inl (0)), (6, .inl (pl)), (4, .inr (.inl (y))), (0, .inr (.inr (some (723)))), (1, .inl (a)), (2, .inl (b)), (3, .inl (x))]) (st' := [.inl (-1), .inl (-1)]) rfl ?_
        refine ez_icmp rfl rfl ⟨by decide, by decide⟩ ⟨by decide, by decide⟩ (fun (c20 : (-1 : Int) ≠ (-1)) => absurd c20 (by decide)) (fun _ => ?_)
        refine ez_go (n := 1) (pc' := 66) (L' := [(7, .inl (0)), (6, .inl (pl)), (4, .inr (.inl (y))), (0, .inr (.inr (some (723)))), (1, .inl (a)), (2, .inl (b)), (3, .inl (x))]) (st' := [.inr (.inr (some (723)))]) rfl ?_
        refine ez_gI hB t723 rfl rfl tq_55 rfl rfl (fun (b21 : 0 ≤ qz_I h 723 8) (b21' : qz_I h 723 8 ≤ 256) => ?_)
        refine ez_go (n := 1) (pc' := 72) (L' := [(7, .inl (0)), (6, .inl (pl)), (4, .inr (.inl (y))), (0, .inr (.inr (some (723)))), (1, .inl (a)), (2, .inl (b)), (3, .inl (x))]) (st' := [.inl (256), .inl (qz_I h 723 8)]) rfl ?_
        refine ez_icmp rfl rfl ⟨by first | omega | exact (sz_i32 _).1, by first | omega | exact (sz_i32 _).2⟩ ⟨by first | omega | exact (sz_i32 _).1, by first | omega | exact (sz_i32 _).2⟩ (fun (c22 : (qz_I h 723 8) < (256)) => ?_) (fun (c22 : ¬((qz_I h 723 8) < (256))) => ?_)
        · skip
          refine ez_go (n := 1) (pc' := 78) (L' := [(7, .inl (0)), (6, .inl (pl)), (4, .inr (.inl (y))), (0, .inr (.inr (some (723)))), (1, .inl (a)), (2, .inl (b)), (3, .inl (x))]) (st' := [.inr (.inr (some (723)))]) rfl ?_
          refine ez_gI hB t723 rfl rfl tq_55 rfl rfl (fun (b23 : 0 ≤ qz_I h 723 8) (b23' : qz_I h 723 8 ≤ 256) => ?_)
          refine ez_go (n := 1) (pc' := 83) (L' := [(8, .inl (qz_I h 723 8)), (7, .inl (0)), (6, .inl (pl)), (4, .inr (.inl (y))), (0, .inr (.inr (some (723)))), (1, .inl (a)), (2, .inl (b)), (3, .inl (x))]) (st' := []) rfl ?_
          refine ez_less [(8, .inl (qz_I h 723 8)), (7, .inl (0)), (6, .inl (pl)), (4, .inr (.inl (y))), (0, .inr (.inr (some (723)))), (1, .inl (a)), (2, .inl (b)), (3, .inl (x))] rfl ⟨rfl, rfl, rfl, rfl, rfl, rfl, rfl, rfl, trivial⟩ ?_
          have q3 : pl = qz_I h 723 8 ∨ y.toInt < pp h pl := by
            by_cases e : pl = qz_I h 723 8
            · exact Or.inl e
            · refine Or.inr ?_
              have e4 := q2.resolve_left e
              have e5 : y.toInt ≠ pp h pl := fun e6 => by
                have e7 : Int64.ofInt (qz_I h 727 pl.toNat) = y := Int64.toInt_inj.mp (by rw [lr pl p0 (by omega)]; exact e6.symm)
                have e8 := (nz_cmp_eq _ _).mpr e7
                first | (exact absurd e8 (by assumption)) | omega
              omega
          refine rd_ins_l t723 t727 t728 (n := qz_I h 723 8) hn p0 p1 x0 x1 (fun g hB2 f2 j2 c2 v2 => ?_) _ _ h rfl (by omega) (by omega) hB (ez_fr.refl _ _) (fun _ _ => rfl) rfl (fun k k0 k1 => by rw [if_neg (by omega)]; rfl)
          obtain ⟨r1, r2⟩ := ri_ins (P := pp h) (P2 := pp g) hr p0 p1 q1 q3 v2
          refine k1 (fun ⟨j, j0, j1, e⟩ => ?_) hpr g hB2 f2 j2 c2 r1 (fun z => by rw [← hy]; exact r2 z)
          rw [← hy] at e
          by_cases e2 : j < pl
          · rcases q1 with w | w
            · omega
            · by_cases e3 : j = pl - 1
              · rw [e3] at e; omega
              · have := hr j (pl - 1) j0 (by omega) (by omega); omega
          · rcases q3 with w | w
            · omega
            · by_cases e3 : j = pl
              · rw [e3] at e; omega
              · have := hr pl j p0 (by omega) j1; omega
        · skip
          refine ez_go (n := 1) (pc' := 76) (L' := [(7, .inl (0)), (6, .inl (pl)), (4, .inr (.inl (y))), (0, .inr (.inr (some (723)))), (1, .inl (a)), (2, .inl (b)), (3, .inl (x))]) (st' := [.inl (0)]) rfl ?_
          exfalso; omega
    · skip
      refine ez_go (n := 4) (pc' := 53) (L' := [(7, .inl (1)), (6, .inl (pl)), (4, .inr (.inl (y))), (0, .inr (.inr (some (723)))), (1, .inl (a)), (2, .inl (b)), (3, .inl (x))]) (st' := [.inl (1)]) rfl ?_
      refine ez_if rfl rfl ⟨by decide, by decide⟩ (fun _ => ?_) (fun (c24 : ¬((1 : Int) ≠ (0))) => absurd c24 (by decide))
      refine ez_go (n := 1) (pc' := 76) (L' := [(7, .inl (1)), (6, .inl (pl)), (4, .inr (.inl (y))), (0, .inr (.inr (some (723)))), (1, .inl (a)), (2, .inl (b)), (3, .inl (x))]) (st' := [.inl (0)]) rfl ?_
      exact ez_retZ rfl rfl (by decide) (k0 (Or.inl ⟨pl, p0, by omega, by have := (nz_cmp_eq (Int64.ofInt (qz_I h 727 (pl).toNat)) y).mp (by omega); rw [← lr pl p0 (by omega), this, hy]⟩))

end EzIp
/-! The class: gatherPairs. (Written by wip/p2/py/pv36.py.) -/
def lim (h : cz_H) (i : Int) : Int := if i < qz_I h 202 1 then sz_f h i else 1114112
def wL (h : cz_H) (i x : Int) : Nat := if lim h i ≤ x then 1 else 0
theorem lim_lt {h : cz_H} (hs : sz_ok h) {i : Int} (i0 : 0 ≤ i) (i1 : i < qz_I h 202 1) : sz_f h i < lim h (i + 1) := by
  unfold lim
  split
  · exact (hs.2 i (i + 1) i0 (by omega) (by assumption)).1
  · have := (sz_first hs i0 i1).2.2; omega
theorem lim_eq {h : cz_H} {i : Int} (i1 : i < qz_I h 202 1) : lim h i = sz_f h i := by unfold lim; rw [if_pos i1]
/-- the pairs of the spans before i -/
def gp (h : cz_H) (F : rz_W) (E : Int → Prop) (Xs : List Int) (g : cz_H) (i : Int) : Prop := ri (pp g) (qz_I g 723 8) ∧ (∀ z, (∃ j, 0 ≤ j ∧ j < qz_I g 723 8 ∧ pp g j = z) ↔ ∃ k, (0 ≤ k ∧ k < i) ∧ ∃ a b, ez_p F E (sz_f h k) a b ∧ z = a * 2097152 + b) ∧ ((∀ k, 0 ≤ k → k < i → ∀ a b, ez_p F E (sz_f h k) a b → ¬ hz_pair a b) ∧ ∀ k k2, 0 ≤ k → k < i → 0 ≤ k2 → k2 < i → ∀ a b, ez_p F E (sz_f h k) a b → ez_p F E (sz_f h k2) a b → k = k2) ∧ qz_I g 723 8 + (wz (wL h i) Xs : Int) ≤ (Xs.length : Int)
theorem gp_skip {h : cz_H} {F : rz_W} {E : Int → Prop} {Xs : List Int} {g : cz_H} {i : Int} (hs : sz_ok h) (i0 : 0 ≤ i) (i1 : i < qz_I h 202 1) (hg : gp h F E Xs g i) (hno : ∀ a b, ¬ ez_p F E (sz_f h i) a b) : gp h F E Xs g (i + 1) := by
  obtain ⟨a1, a2, ⟨a3, a4⟩, a5⟩ := hg
  have hk : ∀ k, k < i + 1 → k ≠ i → k < i := fun k h1 h2 => by omega
  refine ⟨a1, fun z => (a2 z).trans ⟨fun ⟨k, k0, w⟩ => ⟨k, ⟨k0.1, by omega⟩, w⟩, fun ⟨k, k0, a, b, w⟩ => ?_⟩, ⟨fun k k0 k1 a b w => ?_, fun k k2 k0 k1 k20 k21 a b w w2 => ?_⟩, ?_⟩
  · by_cases e : k = i
    · subst e; exact absurd w.1 (hno a b)
    · exact ⟨k, ⟨k0.1, by omega⟩, a, b, w⟩
  · by_cases e : k = i
    · subst e; exact absurd w (hno a b)
    · exact a3 k k0 (by omega) a b w
  · by_cases e : k = i
    · subst e; exact absurd w (hno a b)
    · by_cases e2 : k2 = i
      · subst e2; exact absurd w2 (hno a b)
      · exact a4 k k2 k0 (by omega) k20 (by omega) a b w w2
  · have : wz (wL h (i + 1)) Xs ≤ wz (wL h i) Xs := wz_le (fun x => by
      have := lim_lt hs i0 i1
      have e := lim_eq i1
      unfold wL
      split
      · rw [if_pos (by omega)]; exact Nat.le_refl _
      · omega)
    omega
theorem gp_ins {h : cz_H} {F : rz_W} {E : Int → Prop} {Xs : List Int} {g g2 : cz_H} {i a b : Int} (hw : uz_wf F) (hXs : ∀ x, (F x).2 ≠ none → x ∈ Xs) (hs : sz_ok h) (i0 : 0 ≤ i) (i1 : i < qz_I h 202 1) (hg : gp h F E Xs g i) (hp : ez_p F E (sz_f h i) a b) (hno : ¬ ∃ j, 0 ≤ j ∧ j < qz_I g 723 8 ∧ pp g j = a * 2097152 + b) (hz' : ¬ hz_pair a b) (h8 : qz_I g2 723 8 = qz_I g 723 8 + 1) (hr : ri (pp g2) (qz_I g 723 8 + 1)) (hm : ∀ z, (∃ j, 0 ≤ j ∧ j < qz_I g 723 8 + 1 ∧ pp g2 j = z) ↔ (z = a * 2097152 + b ∨ ∃ j, 0 ≤ j ∧ j < qz_I g 723 8 ∧ pp g j = z)) : gp h F E Xs g2 (i + 1) := by
  obtain ⟨a1, a2, ⟨a3, a4⟩, a5⟩ := hg
  have pin : ∀ {a2 b2}, ez_p F E (sz_f h i) a2 b2 → a2 = a ∧ b2 = b := fun {a2 b2} w => by
    have e := w.1
    rw [hp.1] at e
    cases e
    exact ⟨rfl, rfl⟩
  refine ⟨by rw [h8]; exact hr, fun z => ?_, ⟨fun k k0 k1 c d w => ?_, fun k k2 k0 k1 k20 k21 c d w w2 => ?_⟩, ?_⟩
  · rw [h8, hm z, a2 z]
    constructor
    · rintro (w | ⟨k, k0, w⟩)
      · exact ⟨i, ⟨i0, by omega⟩, a, b, hp, w⟩
      · exact ⟨k, ⟨k0.1, by omega⟩, w⟩
    · rintro ⟨k, k0, c, d, w, e⟩
      by_cases ek : k = i
      · subst ek
        obtain ⟨rfl, rfl⟩ := pin w
        exact Or.inl e
      · exact Or.inr ⟨k, ⟨k0.1, by omega⟩, c, d, w, e⟩
  · by_cases e : k = i
    · subst e
      obtain ⟨rfl, rfl⟩ := pin w
      exact hz'
    · exact a3 k k0 (by omega) c d w
  · by_cases e : k = i
    · by_cases e2 : k2 = i
      · omega
      · subst e
        obtain ⟨rfl, rfl⟩ := pin w
        exact absurd ((a2 _).mpr ⟨k2, ⟨k20, by omega⟩, c, d, w2, rfl⟩) hno
    · by_cases e2 : k2 = i
      · subst e2
        obtain ⟨rfl, rfl⟩ := pin w2
        exact absurd ((a2 _).mpr ⟨k, ⟨k0, by omega⟩, c, d, w, rfl⟩) hno
      · exact a4 k k2 k0 (by omega) k20 (by omega) c d w w2
  · have : wz (wL h (i + 1)) Xs + 1 ≤ wz (wL h i) Xs := wz_lt (y := sz_f h i) (fun x => by
      have := lim_lt hs i0 i1
      have e := lim_eq i1
      unfold wL
      split
      · rw [if_pos (by omega)]; exact Nat.le_refl _
      · omega) (hXs _ (by rw [hp.1]; exact fun e => by cases e)) (by
        have := lim_lt hs i0 i1
        have e := lim_eq i1
        unfold wL
        rw [if_neg (by omega), if_pos (by omega)]
        omega)
    omega
section EzGp
variable {d : Nat} {h : cz_H} {τ : Nat → Nat} {Q : cz_F → Prop} {T : Int → Nat} {F : rz_W} {E : Int → Prop} {Xs : List Int}
theorem pz_PG {g : cz_H} (hX : jz_X τ) (hf : ez_fr nz_PG h g) : pz τ h g := pz_fr hf (fun q hq => by
  unfold nz_PG at hq
  have : q = 723 ∨ q = 727 ∨ q = 728 := by
    rw [Bool.or_eq_true, Bool.or_eq_true] at hq
    exact hq.imp Nat.eq_of_beq_eq_true (fun w => w.imp Nat.eq_of_beq_eq_true Nat.eq_of_beq_eq_true)
  exact ⟨by omega, by omega, (pz_X hX (by omega) (by omega)).1⟩)
theorem gp_S4 {g : cz_H} (hw : uz_wf F) (hC : pz_C τ h T F E) (hg : gp h F E Xs g (qz_I h 202 1)) : uz_S4 F E := by
  have hd : ∀ {x a b}, ez_p F E x a b → ∃ k, 0 ≤ k ∧ k < qz_I h 202 1 ∧ sz_f h k = x := fun {x a b} w => by
    have := ((hw x).2 _ _ w.1).2.2.2
    exact sz_dec hC this.1 this.2 (by rw [w.1]; exact fun e => by cases e)
  refine ⟨fun x a b w => ?_, fun x y a b w w2 => ?_⟩
  · obtain ⟨k, k0, k1, e⟩ := hd w
    exact hg.2.2.1.1 k k0 k1 a b (by rw [e]; exact w)
  · obtain ⟨k, k0, k1, e⟩ := hd w
    obtain ⟨k2, k20, k21, e2⟩ := hd w2
    have := hg.2.2.1.2 k k2 k0 k1 k20 k21 a b (by rw [e]; exact w) (by rw [e2]; exact w2)
    rw [← e, ← e2, this]
theorem rd_gather_l (hw : uz_wf F) (hS : uz_S1 F) (hXs : ∀ x, (F x).2 ≠ none → x ∈ Xs) (hXl : Xs.length ≤ 256) (hC0 : pz_C τ h T F E) (t723 : τ 723 = 55) (t202 : τ 202 = 48) (t203 : τ 203 = 49) (t727 : τ 727 = 59) (t728 : τ 728 = 60) (k1 : uz_S4 F E → ∀ g, ez_B τ g → ez_fr nz_PG h g → (∀ j, j ≠ 8 → qz_I g 723 j = qz_I h 723 j) → Q (.inl (some (ez_v (.inl 1))), g)) (k0 : ¬ uz_S4 F E → ∀ g, ez_B τ g → pz τ h g → Q (.inl (some (ez_v (.inl 0))), g)) : ∀ (m : Nat) (i : Int) (g : cz_H), m = (qz_I h 202 1 - i).toNat → 0 ≤ i → i ≤ qz_I h 202 1 → pz_C τ g T F E → ez_fr nz_PG h g → (∀ j, j ≠ 8 → qz_I g 723 j = qz_I h 723 j) → gp h F E Xs g i → ez_W (d + 3) cm_119 2 [(1, .inl (i)), (0, .inr (.inr (some (723))))] [] g Q := by
  intro m
  induction m with
  | zero =>
    intro i g hm i0 i1 hC hf hj0 hgp
    have bn := sz_R_n1 hC0.1 t202
    have e202 : qz_I g 202 1 = qz_I h 202 1 := hf.I rfl 1
    have hpz := pz_PG hC0.2.1 hf
    refine ez_go (n := 2) (pc' := 4) (L' := [(1, .inl (i)), (0, .inr (.inr (some (723))))]) (st' := [.inr (.inr (some (723))), .inl (i)]) rfl ?_
    refine ez_gC (p := 202) (tg := 48) hC.1 t723 rfl rfl tq_55 rfl rfl (fun (t202 : _ = 48) => ?_)
    refine ez_gI hC.1 t202 rfl rfl tq_48 rfl rfl (fun (b1 : 1 ≤ qz_I g 202 1) (b1' : qz_I g 202 1 ≤ 513) => ?_)
    refine ez_icmp rfl rfl ⟨by first | omega | exact (sz_i32 _).1, by first | omega | exact (sz_i32 _).2⟩ ⟨by first | omega | exact (sz_i32 _).1, by first | omega | exact (sz_i32 _).2⟩ (fun (c2 : (qz_I g 202 1) ≤ (i)) => ?_) (fun (c2 : ¬((qz_I g 202 1) ≤ (i))) => ?_)
    · skip
      refine ez_go (n := 1) (pc' := 92) (L' := [(1, .inl (i)), (0, .inr (.inr (some (723))))]) (st' := [.inl (1)]) rfl ?_
      rw [show i = qz_I h 202 1 by omega] at hgp
      exact ez_retZ rfl rfl (by decide) (k1 (gp_S4 hw hC0 hgp) g hC.1 hf hj0)
    · exfalso; omega
  | succ m ih =>
    intro i g hm i0 i1 hC hf hj0 hgp
    have bn := sz_R_n1 hC0.1 t202
    have e202 : qz_I g 202 1 = qz_I h 202 1 := hf.I rfl 1
    have hpz := pz_PG hC0.2.1 hf
    refine ez_go (n := 2) (pc' := 4) (L' := [(1, .inl (i)), (0, .inr (.inr (some (723))))]) (st' := [.inr (.inr (some (723))), .inl (i)]) rfl ?_
    refine ez_gC (p := 202) (tg := 48) hC.1 t723 rfl rfl tq_55 rfl rfl (fun (t202 : _ = 48) => ?_)
    refine ez_gI hC.1 t202 rfl rfl tq_48 rfl rfl (fun (b1 : 1 ≤ qz_I g 202 1) (b1' : qz_I g 202 1 ≤ 513) => ?_)
    refine ez_icmp rfl rfl ⟨by first | omega | exact (sz_i32 _).1, by first | omega | exact (sz_i32 _).2⟩ ⟨by first | omega | exact (sz_i32 _).1, by first | omega | exact (sz_i32 _).2⟩ (fun (c2 : (qz_I g 202 1) ≤ (i)) => ?_) (fun (c2 : ¬((qz_I g 202 1) ≤ (i))) => ?_)
    · exfalso; omega
    · skip
      refine ez_go (n := 1) (pc' := 14) (L' := [(1, .inl (i)), (0, .inr (.inr (some (723))))]) (st' := [.inr (.inr (some (723)))]) rfl ?_
      refine ez_gC (p := 202) (tg := 48) hC.1 t723 rfl rfl tq_55 rfl rfl (fun (t202 : _ = 48) => ?_)
      refine ez_gC (p := 203) (tg := 49) hC.1 t202 rfl rfl tq_48 rfl rfl (fun (t203 : _ = 49) => ?_)
      refine ez_go (n := 1) (pc' := 21) (L' := [(1, .inl (i)), (0, .inr (.inr (some (723))))]) (st' := [.inl (i), .inr (.inr (some (203)))]) rfl ?_
      have n4 : 513 ≤ qz_N g 203 ∧ qz_N g 203 ≤ 513 := ez_len hC.1 t203 tq_49 rfl
      have y5 : 1 ≤ qz_I g 203 (i).toNat ∧ qz_I g 203 (i).toNat ≤ 1000000 := ez_aB hC.1 t203 tq_49 rfl rfl (by decide) (by omega) (by omega)
      have y5' : ((qz_P g 203 (i).toNat : Nat) : Int) + 1 = qz_I g 203 (i).toNat := by unfold qz_P; omega
      refine ez_aR hC.1 t203 rfl tq_49 rfl rfl (by omega) (by omega) (by omega) (fun (t3 : _ = 4) => ?_)
      refine ez_gR hC.1 t3 rfl rfl tq_4 rfl rfl (fun (t6 : _ = 3) (t6' : 1 ≤ qz_I g (qz_P g 203 (i).toNat) 1) => ?_)
      obtain ⟨at1, y0, y1⟩ := sz_first hC.2.2.1 i0 (show i < qz_I g 202 1 by omega)
      have ef : sz_f g i = sz_f h i := by unfold sz_f sz_p qz_P qz_I; rw [hf.2.2 203 rfl, hf.2.2 _ (by have tz := sz_tag hC0.1 t203 i0 (show i < 513 by omega); unfold sz_p qz_P qz_I at tz; unfold nz_PG; rw [dz_beq_ne (fun e => by rw [e, t723] at tz; cases tz), dz_beq_ne (fun e => by rw [e, t727] at tz; cases tz), dz_beq_ne (fun e => by rw [e, t728] at tz; cases tz)]; rfl)]
      rw [ef] at at1 y0 y1
      have e1 := (hC.2.2.2.1 _ i y0 y1 at1).1
      obtain ⟨x, ex⟩ : ∃ x, x = sz_f h i := ⟨_, rfl⟩
      rw [← ex] at at1 y0 y1 e1
      have eT : qz_P g (qz_P g 203 (i).toNat) 1 = T x := by show qz_P g (sz_p g i) 1 = T x; unfold qz_P; omega
      rw [eT]
      obtain ⟨tT, -, f3, f4⟩ := hC.2.2.2.2 x y0 y1
      refine ez_go (n := 2) (pc' := 27) (L' := [(2, .inr (.inr (some ((T x))))), (1, .inl (i)), (0, .inr (.inr (some (723))))]) (st' := [.inr (.inr (some ((T x))))]) rfl ?_
      refine ez_gN hC.1 tT rfl rfl tq_3 rfl rfl (fun (t7 : qz_I g ((T x)) 3 = 0) => ?_) (fun (t7 : _ = 5) (t7' : 1 ≤ qz_I g ((T x)) 3) => ?_)
      · skip
        refine ez_null0 rfl rfl ?_
        refine ez_go (n := 2) (pc' := 2) (L' := [(1, .inl (i + 1)), (2, .inr (.inr (some ((T x))))), (0, .inr (.inr (some (723))))]) (st' := []) rfl ?_
        refine ez_less [(1, .inl (i + 1)), (0, .inr (.inr (some (723))))] rfl ⟨rfl, rfl, trivial⟩ ?_
        refine ih (i + 1) g (by omega) (by omega) (by omega) hC hf hj0 (gp_skip hC0.2.2.1 i0 (by omega) hgp (fun a b w => ?_))
        rw [← ex] at w
        obtain ⟨d0', d1', d2', d3', d4', d5'⟩ := f4 _ _ w.1
        simp only [List.length_cons, List.length_nil] at d4'
        first | omega | exact w.2 hex
      · skip
        refine ez_null1 rfl ?_
        refine ez_go (n := 1) (pc' := 34) (L' := [(2, .inr (.inr (some ((T x))))), (1, .inl (i)), (0, .inr (.inr (some (723))))]) (st' := [.inr (.inr (some ((T x))))]) rfl ?_
        refine ez_gI hC.1 tT rfl rfl tq_3 rfl rfl (fun (b8 : 0 ≤ qz_I g ((T x)) 4) (b8' : qz_I g ((T x)) 4 ≤ 1) => ?_)
        refine ez_if rfl rfl ⟨by first | omega | exact (sz_i32 _).1, by first | omega | exact (sz_i32 _).2⟩ (fun (c9 : (qz_I g ((T x)) 4) ≠ (0)) => ?_) (fun (c9 : ¬((qz_I g ((T x)) 4) ≠ (0))) => ?_)
        · skip
          refine ez_go (n := 2) (pc' := 2) (L' := [(1, .inl (i + 1)), (2, .inr (.inr (some ((T x))))), (0, .inr (.inr (some (723))))]) (st' := []) rfl ?_
          refine ez_less [(1, .inl (i + 1)), (0, .inr (.inr (some (723))))] rfl ⟨rfl, rfl, trivial⟩ ?_
          refine ih (i + 1) g (by omega) (by omega) (by omega) hC hf hj0 (gp_skip hC0.2.2.1 i0 (by omega) hgp (fun a b w => ?_))
          rw [← ex] at w
          obtain ⟨d0', d1', d2', d3', d4', d5'⟩ := f4 _ _ w.1
          simp only [List.length_cons, List.length_nil] at d4'
          first | omega | exact w.2 hex
        · skip
          refine ez_go (n := 1) (pc' := 41) (L' := [(2, .inr (.inr (some ((T x))))), (1, .inl (i)), (0, .inr (.inr (some (723))))]) (st' := [.inr (.inr (some ((T x))))]) rfl ?_
          refine ez_gN hC.1 tT rfl rfl tq_3 rfl rfl (fun (t10 : qz_I g ((T x)) 3 = 0) => ?_) (fun (t10 : _ = 5) (t10' : 1 ≤ qz_I g ((T x)) 3) => ?_)
          · exfalso; omega
          · skip
            refine ez_al hC.1 t10 rfl tq_5 rfl (fun (b11 : 0 ≤ qz_N g (qz_P g ((T x)) 3)) (b11' : qz_N g (qz_P g ((T x)) 3) ≤ 18) => ?_)
            refine ez_go (n := 1) (pc' := 46) (L' := [(2, .inr (.inr (some ((T x))))), (1, .inl (i)), (0, .inr (.inr (some (723))))]) (st' := [.inl (2), .inl (qz_N g (qz_P g ((T x)) 3))]) rfl ?_
            refine ez_icmp rfl rfl ⟨by first | omega | exact (sz_i32 _).1, by first | omega | exact (sz_i32 _).2⟩ ⟨by first | omega | exact (sz_i32 _).1, by first | omega | exact (sz_i32 _).2⟩ (fun (c12 : (qz_N g (qz_P g ((T x)) 3)) ≠ (2)) => ?_) (fun (c12 : ¬((qz_N g (qz_P g ((T x)) 3)) ≠ (2))) => ?_)
            · skip
              refine ez_go (n := 2) (pc' := 2) (L' := [(1, .inl (i + 1)), (2, .inr (.inr (some ((T x))))), (0, .inr (.inr (some (723))))]) (st' := []) rfl ?_
              refine ez_less [(1, .inl (i + 1)), (0, .inr (.inr (some (723))))] rfl ⟨rfl, rfl, trivial⟩ ?_
              refine ih (i + 1) g (by omega) (by omega) (by omega) hC hf hj0 (gp_skip hC0.2.2.1 i0 (by omega) hgp (fun a b w => ?_))
              rw [← ex] at w
              obtain ⟨d0', d1', d2', d3', d4', d5'⟩ := f4 _ _ w.1
              simp only [List.length_cons, List.length_nil] at d4'
              first | omega | exact w.2 hex
            · skip
              refine ez_go (n := 2) (pc' := 51) (L' := [(2, .inr (.inr (some ((T x))))), (1, .inl (i)), (0, .inr (.inr (some (723))))]) (st' := [.inr (.inr (some ((T x)))), .inr (.inr (some (723)))]) rfl ?_
              refine ez_gI hC.1 tT rfl rfl tq_3 rfl rfl (fun (b13 : -2147483648 ≤ qz_I g ((T x)) 0) (b13' : qz_I g ((T x)) 0 ≤ 2147483647) => ?_)
              obtain ⟨cp, vs, hq⟩ : ∃ cp vs, (F x).2 = some (cp, vs) := by
                cases hq : (F x).2 with
                | none => have := f3 hq; omega
                | some q => exact ⟨q.1, q.2, rfl⟩
              obtain ⟨d0, d1, d2, d3, d4, d5⟩ := f4 cp vs hq
              rw [d0]
              refine ez_cv hC.1 t723 rfl rfl rfl tq_55 rfl rfl rfl (rd_isExcluded hw hC y0 y1 (hS x cp vs hq).1 (fun hex => ez_K1 ?_) (fun hex => ez_K1 ?_))
              · skip
                refine ez_if rfl rfl ⟨by decide, by decide⟩ (fun _ => ?_) (fun (c14 : ¬((1 : Int) ≠ (0))) => absurd c14 (by decide))
                refine ez_go (n := 2) (pc' := 2) (L' := [(1, .inl (i + 1)), (2, .inr (.inr (some ((T x))))), (0, .inr (.inr (some (723))))]) (st' := []) rfl ?_
                refine ez_less [(1, .inl (i + 1)), (0, .inr (.inr (some (723))))] rfl ⟨rfl, rfl, trivial⟩ ?_
                refine ih (i + 1) g (by omega) (by omega) (by omega) hC hf hj0 (gp_skip hC0.2.2.1 i0 (by omega) hgp (fun a b w => ?_))
                rw [← ex] at w
                obtain ⟨d0', d1', d2', d3', d4', d5'⟩ := f4 _ _ w.1
                simp only [List.length_cons, List.length_nil] at d4'
                first | omega | exact w.2 hex
              · skip
                have hl2 : vs.length = 2 := by omega
                have hc0 : cp = 0 := by omega
                subst hc0
                obtain ⟨a, b, rfl⟩ : ∃ a b, vs = [a, b] := by
                  match vs, hl2 with
                  | [a, b], _ => exact ⟨a, b, rfl⟩
                have da := d5 0 a rfl
                have db := d5 1 b rfl
                have hwa := ((hw x).2 _ _ hq).2.2.1 a (by simp)
                have hwb := ((hw x).2 _ _ hq).2.2.1 b (by simp)
                have hp : ez_p F E x a b := ⟨hq, hex⟩
                refine ez_if rfl rfl ⟨by decide, by decide⟩ (fun (c15 : (0 : Int) ≠ (0)) => absurd c15 (by decide)) (fun _ => ?_)
                refine ez_go (n := 2) (pc' := 62) (L' := [(2, .inr (.inr (some ((T x))))), (1, .inl (i)), (0, .inr (.inr (some (723))))]) (st' := [.inr (.inr (some ((T x)))), .inr (.inr (some (723)))]) rfl ?_
                refine ez_gN hC.1 tT rfl rfl tq_3 rfl rfl (fun (t16 : qz_I g ((T x)) 3 = 0) => ?_) (fun (t16 : _ = 5) (t16' : 1 ≤ qz_I g ((T x)) 3) => ?_)
                · exfalso; omega
                · skip
                  refine ez_go (n := 1) (pc' := 66) (L' := [(2, .inr (.inr (some ((T x))))), (1, .inl (i)), (0, .inr (.inr (some (723))))]) (st' := [.inl (0), .inr (.inr (some (qz_P g ((T x)) 3))), .inr (.inr (some (723)))]) rfl ?_
                  have n18 : 0 ≤ qz_N g (qz_P g ((T x)) 3) ∧ qz_N g (qz_P g ((T x)) 3) ≤ 18 := ez_len hC.1 t16 tq_5 rfl
                  refine ez_aI hC.1 t16 rfl tq_5 rfl rfl (by omega) (by omega) (fun (b17 : -2147483648 ≤ qz_I g (qz_P g ((T x)) 3) (0 : Int).toNat) (b17' : qz_I g (qz_P g ((T x)) 3) (0 : Int).toNat ≤ 2147483647) => ?_)
                  refine ez_go (n := 1) (pc' := 68) (L' := [(2, .inr (.inr (some ((T x))))), (1, .inl (i)), (0, .inr (.inr (some (723))))]) (st' := [.inr (.inr (some ((T x)))), .inl (qz_I g (qz_P g ((T x)) 3) (0 : Int).toNat), .inr (.inr (some (723)))]) rfl ?_
                  refine ez_gN hC.1 tT rfl rfl tq_3 rfl rfl (fun (t19 : qz_I g ((T x)) 3 = 0) => ?_) (fun (t19 : _ = 5) (t19' : 1 ≤ qz_I g ((T x)) 3) => ?_)
                  · exfalso; omega
                  · skip
                    refine ez_go (n := 1) (pc' := 72) (L' := [(2, .inr (.inr (some ((T x))))), (1, .inl (i)), (0, .inr (.inr (some (723))))]) (st' := [.inl (1), .inr (.inr (some (qz_P g ((T x)) 3))), .inl (qz_I g (qz_P g ((T x)) 3) (0 : Int).toNat), .inr (.inr (some (723)))]) rfl ?_
                    have n21 : 0 ≤ qz_N g (qz_P g ((T x)) 3) ∧ qz_N g (qz_P g ((T x)) 3) ≤ 18 := ez_len hC.1 t19 tq_5 rfl
                    refine ez_aI hC.1 t19 rfl tq_5 rfl rfl (by omega) (by omega) (fun (b20 : -2147483648 ≤ qz_I g (qz_P g ((T x)) 3) (1 : Int).toNat) (b20' : qz_I g (qz_P g ((T x)) 3) (1 : Int).toNat ≤ 2147483647) => ?_)
                    refine ez_go (n := 1) (pc' := 74) (L' := [(2, .inr (.inr (some ((T x))))), (1, .inl (i)), (0, .inr (.inr (some (723))))]) (st' := [.inr (.inr (some ((T x)))), .inl (qz_I g (qz_P g ((T x)) 3) (1 : Int).toNat), .inl (qz_I g (qz_P g ((T x)) 3) (0 : Int).toNat), .inr (.inr (some (723)))]) rfl ?_
                    refine ez_gI hC.1 tT rfl rfl tq_3 rfl rfl (fun (b22 : -2147483648 ≤ qz_I g ((T x)) 0) (b22' : qz_I g ((T x)) 0 ≤ 2147483647) => ?_)
                    have hn8 : qz_I g 723 8 < 256 := by
                      have q5 := hgp.2.2.2
                      have := wz_lt2 (W := wL h i) (W' := fun _ => 0) (y := x) (k := 1) (xs := Xs) (fun _ _ => Nat.zero_le _) (hXs x (by rw [hq]; exact fun e => by cases e)) (by unfold wL; rw [lim_eq (by omega), ← ex, if_pos (Int.le_refl _)]; omega)
                      omega
                    rw [show (0 : Int).toNat = 0 from rfl, show (1 : Int).toNat = 1 from rfl, da, db, d0]
                    refine ez_cv hC.1 t723 rfl rfl rfl tq_55 rfl rfl rfl (rd_insertPair hC.1 hC.2.1 hwa.1 hwa.2 hwb.1 hwb.2 y0 y1 hn8 hgp.1 (fun hbad => ez_K1 ?_) (fun h1 h2 g2 hB2 f2 j2 c2 r2 m2 => ez_K1 ?_))
                    · skip
                      refine ez_if rfl rfl ⟨by decide, by decide⟩ (fun (c23 : (0 : Int) ≠ (0)) => absurd c23 (by decide)) (fun _ => ?_)
                      refine ez_go (n := 1) (pc' := 84) (L' := [(2, .inr (.inr (some ((T x))))), (1, .inl (i)), (0, .inr (.inr (some (723))))]) (st' := [.inl (0)]) rfl ?_
                      refine ez_retZ rfl rfl (by decide) (k0 (fun h4 => ?_) g hC.1 hpz)
                      rcases hbad with hbad | hbad
                      · obtain ⟨k, k0', a2, b2, w, e⟩ := (hgp.2.1 _).mp hbad
                        have wr := ((hw _).2 _ _ w.1).2.2.1
                        have wa := wr a2 (by simp)
                        have wb := wr b2 (by simp)
                        have ea : a2 = a := by omega
                        have eb : b2 = b := by omega
                        subst ea; subst eb
                        have e3 := h4.2 _ _ _ _ w hp
                        rw [ex] at e3
                        have := hC0.2.2.1.2 k i k0'.1 k0'.2 (by omega)
                        omega
                      · exact h4.1 x a b hp hbad
                    · skip
                      refine ez_if rfl rfl ⟨by decide, by decide⟩ (fun _ => ?_) (fun (c24 : ¬((1 : Int) ≠ (0))) => absurd c24 (by decide))
                      refine ez_go (n := 2) (pc' := 2) (L' := [(1, .inl (i + 1)), (2, .inr (.inr (some ((T x))))), (0, .inr (.inr (some (723))))]) (st' := []) rfl ?_
                      refine ez_less [(1, .inl (i + 1)), (0, .inr (.inr (some (723))))] rfl ⟨rfl, rfl, trivial⟩ ?_
                      have hfr := hf.trans f2
                      refine ih (i + 1) g2 (by omega) (by omega) (by omega) (hC0.fr hB2 (pz_PG hC0.2.1 hfr)) hfr (fun j hj => (j2 j hj).trans (hj0 j hj)) ?_
                      exact gp_ins hw hXs hC0.2.2.1 i0 (by omega) hgp (by rw [← ex]; exact hp) h1 h2 c2 r2 m2
theorem rd_gatherPairs (hw : uz_wf F) (hS : uz_S1 F) (hXs : ∀ x, (F x).2 ≠ none → x ∈ Xs) (hXl : Xs.length ≤ 256) (hC0 : pz_C τ h T F E) (h8 : qz_I h 723 8 = 0) (k1 : uz_S4 F E → ∀ g, ez_B τ g → ez_fr nz_PG h g → (∀ j, j ≠ 8 → qz_I g 723 j = qz_I h 723 j) → Q (.inl (some (ez_v (.inl 1))), g)) (k0 : ¬ uz_S4 F E → ∀ g, ez_B τ g → pz τ h g → Q (.inl (some (ez_v (.inl 0))), g)) : ez_W (d + 3) cm_119 0 [(0, .inr (.inr (some (723))))] [] h Q := by
  have t723 : τ 723 = 55 := hC0.2.1 723 (by decide)
  have t202 : τ 202 = 48 := hC0.2.1 202 (by decide)
  have t203 : τ 203 = 49 := hC0.2.1 203 (by decide)
  have t727 : τ 727 = 59 := hC0.2.1 727 (by decide)
  have t728 : τ 728 = 60 := hC0.2.1 728 (by decide)
  have bn := sz_R_n1 hC0.1 t202
  refine ez_go (n := 2) (pc' := 2) (L' := [(1, .inl (0)), (0, .inr (.inr (some (723))))]) (st' := []) rfl ?_
  refine ez_less [(1, .inl (0)), (0, .inr (.inr (some (723))))] rfl ⟨rfl, rfl, trivial⟩ ?_
  refine rd_gather_l hw hS hXs hXl hC0 t723 t202 t203 t727 t728 k1 k0 _ 0 h rfl (by omega) (by omega) hC0 (ez_fr.refl _ _) (fun _ _ => rfl) ⟨fun i j i0 ij jn => by omega, fun z => ⟨fun ⟨j, j0, j1, _⟩ => by omega, fun ⟨k, k0, _⟩ => by omega⟩, ⟨fun k k0 k1 => by omega, fun k k2 k0 k1 => by omega⟩, ?_⟩
  have := wz_one (W := wL h 0) (fun x => by unfold wL; split <;> omega) Xs
  omega

end EzGp
