/-! The class: runs of marks put in order. (Written by wip/p2/py/pvt3.py.) -/
def so_P (p z : Nat) : Bool := Nat.beq z p || (Nat.ble 730 z && Nat.ble z 732)
theorem so_Pp (p : Nat) : so_P p p = true := by unfold so_P; rw [Nat.beq_refl]; rfl
theorem so_Po {p z : Nat} (h : 730 ≤ z ∧ z ≤ 732) : so_P p z = true := by unfold so_P; rw [Nat.ble_eq.mpr h.1, Nat.ble_eq.mpr h.2]; exact Bool.or_true _
theorem so_Pn {p z : Nat} (h1 : z ≠ p) (h2 : z < 730 ∨ 732 < z) : so_P p z = false := by
  unfold so_P
  rw [dz_beq_ne h1]
  cases e : Nat.ble 730 z && Nat.ble z 732 with
  | false => rfl
  | true => rw [Bool.and_eq_true, Nat.ble_eq, Nat.ble_eq] at e; omega
section EzSo
variable {d : Nat} {h : cz_H} {τ : Nat → Nat} {Q : cz_F → Prop} {p : Nat} {L : List (Int × Int)}
theorem rd_merge_l {a m b : Int} (t729 : τ 729 = 61) (t730 : τ 730 = 62) (t731 : τ 731 = 63) (t732 : τ 732 = 64) (tp : τ p = 2) (ll : (L.length : Int) ≤ 2000) (rg : rgl L) (a0 : 0 ≤ a) (am : a < m) (mb : m < b) (bl : b ≤ (L.length : Int)) (u1 : upw L a m) (u2 : upw L m b) (ps : ps0 L a b) (k : ∀ g L', ez_B τ g → ez_fr (so_P p) h g → prs g p L' → mgd L L' a b → Q (.inl none, g)) : ∀ (n : Nat) (i x y : Int) (g : cz_H), n = (b - i).toNat → i ≤ b → ez_B τ g → ez_fr (so_P p) h g → mgi g p L a m b i x y → ez_W d cm_143 58 [(7, .inl (i)), (6, .inl (y)), (5, .inl (x)), (0, .inr (.inr (some (729)))), (1, .inr (.inr (some (p)))), (2, .inl (a)), (3, .inl (m)), (4, .inl (b))] [] g Q := by
  have np0 : p ≠ 730 := fun e => by rw [e, t730] at tp; cases tp
  have np1 : p ≠ 731 := fun e => by rw [e, t731] at tp; cases tp
  have np2 : p ≠ 732 := fun e => by rw [e, t732] at tp; cases tp
  intro n
  induction n with
  | zero =>
    intro i x y g hn ib hBg hf hm
    obtain ⟨⟨⟨c1, c2⟩, ⟨c3, c4⟩, c5⟩, -, -, -, c9⟩ := id hm
    refine ez_go (n := 2) (pc' := 62) (L' := [(7, .inl (i)), (6, .inl (y)), (5, .inl (x)), (0, .inr (.inr (some (729)))), (1, .inr (.inr (some (p)))), (2, .inl (a)), (3, .inl (m)), (4, .inl (b))]) (st' := [.inl (b), .inl (i)]) rfl ?_
    refine ez_icmp rfl rfl ⟨by first | omega | exact (sz_i32 _).1, by first | omega | exact (sz_i32 _).2⟩ ⟨by first | omega | exact (sz_i32 _).1, by first | omega | exact (sz_i32 _).2⟩ (fun (c1 : (b) ≤ (i)) => ?_) (fun (c1 : ¬((b) ≤ (i))) => ?_)
    · skip
      exact ez_ret0 rfl rfl (k g _ hBg hf (mgi_end a0 (by omega) (by omega) bl hm (by omega)) (mgw_mg a0 (by omega) (by omega) bl u1 u2 ps))
    · exfalso; omega
  | succ n ih =>
    intro i x y g hn ib hBg hf hm
    obtain ⟨⟨⟨c1, c2⟩, ⟨c3, c4⟩, c5⟩, -, -, -, c9⟩ := id hm
    refine ez_go (n := 2) (pc' := 62) (L' := [(7, .inl (i)), (6, .inl (y)), (5, .inl (x)), (0, .inr (.inr (some (729)))), (1, .inr (.inr (some (p)))), (2, .inl (a)), (3, .inl (m)), (4, .inl (b))]) (st' := [.inl (b), .inl (i)]) rfl ?_
    refine ez_icmp rfl rfl ⟨by first | omega | exact (sz_i32 _).1, by first | omega | exact (sz_i32 _).2⟩ ⟨by first | omega | exact (sz_i32 _).1, by first | omega | exact (sz_i32 _).2⟩ (fun (c1 : (b) ≤ (i)) => ?_) (fun (c1 : ¬((b) ≤ (i))) => ?_)
    · exfalso; omega
    · skip
      refine ez_go (n := 2) (pc' := 69) (L' := [(7, .inl (i)), (6, .inl (y)), (5, .inl (x)), (0, .inr (.inr (some (729)))), (1, .inr (.inr (some (p)))), (2, .inl (a)), (3, .inl (m)), (4, .inl (b))]) (st' := [.inl (b), .inl (y)]) rfl ?_
      refine ez_icmp rfl rfl ⟨by first | omega | exact (sz_i32 _).1, by first | omega | exact (sz_i32 _).2⟩ ⟨by first | omega | exact (sz_i32 _).1, by first | omega | exact (sz_i32 _).2⟩ (fun (c2 : (b) ≤ (y)) => ?_) (fun (c2 : ¬((b) ≤ (y))) => ?_)
      · skip
        refine ez_go (n := 4) (pc' := 104) (L' := [(8, .inl (1)), (7, .inl (i)), (6, .inl (y)), (5, .inl (x)), (0, .inr (.inr (some (729)))), (1, .inr (.inr (some (p)))), (2, .inl (a)), (3, .inl (m)), (4, .inl (b))]) (st' := [.inl (1)]) rfl ?_
        refine ez_if rfl rfl ⟨by decide, by decide⟩ (fun (c3 : (1 : Int) = (0)) => absurd c3 (by decide)) (fun _ => ?_)
        refine ez_go (n := 6) (pc' := 120) (L' := [(9, .inl (x)), (8, .inl (1)), (7, .inl (i)), (6, .inl (y)), (5, .inl (x)), (0, .inr (.inr (some (729)))), (1, .inr (.inr (some (p)))), (2, .inl (a)), (3, .inl (m)), (4, .inl (b))]) (st' := [.inr (.inr (some (729))), .inl (i), .inr (.inr (some (p)))]) rfl ?_
        refine ez_gC (p := 731) (tg := 63) hBg t729 rfl rfl tq_61 rfl rfl (fun (t731 : _ = 63) => ?_)
        refine ez_go (n := 1) (pc' := 125) (L' := [(9, .inl (x)), (8, .inl (1)), (7, .inl (i)), (6, .inl (y)), (5, .inl (x)), (0, .inr (.inr (some (729)))), (1, .inr (.inr (some (p)))), (2, .inl (a)), (3, .inl (m)), (4, .inl (b))]) (st' := [.inl (x), .inr (.inr (some (731))), .inl (i), .inr (.inr (some (p)))]) rfl ?_
        have n5 : 2000 ≤ qz_N g 731 ∧ qz_N g 731 ≤ 2000 := ez_len hBg t731 tq_63 rfl
        refine ez_aI hBg t731 rfl tq_63 rfl rfl (by omega) (by omega) (fun (b4 : -2147483648 ≤ qz_I g 731 (x).toNat) (b4' : qz_I g 731 (x).toNat ≤ 2147483647) => ?_)
        have n8 : 2000 ≤ qz_N g p ∧ qz_N g p ≤ 2000 := ez_len hBg tp tq_2 rfl
        refine ez_as hBg tp rfl tq_2 rfl rfl (by omega) (by omega) (ez_vdI rfl rfl (by omega) (by omega)) (fun hB6 w7 => ?_)
        refine ez_go (n := 1) (pc' := 128) (L' := [(9, .inl (x)), (8, .inl (1)), (7, .inl (i)), (6, .inl (y)), (5, .inl (x)), (0, .inr (.inr (some (729)))), (1, .inr (.inr (some (p)))), (2, .inl (a)), (3, .inl (m)), (4, .inl (b))]) (st' := [.inr (.inr (some (729)))]) rfl ?_
        refine ez_gC (p := 730) (tg := 62) hB6 t729 rfl rfl tq_61 rfl rfl (fun (t730 : _ = 62) => ?_)
        refine ez_go (n := 2) (pc' := 134) (L' := [(9, .inl (x)), (8, .inl (1)), (7, .inl (i)), (6, .inl (y)), (5, .inl (x)), (0, .inr (.inr (some (729)))), (1, .inr (.inr (some (p)))), (2, .inl (a)), (3, .inl (m)), (4, .inl (b))]) (st' := [.inr (.inr (some (729))), .inl (i), .inr (.inr (some (730)))]) rfl ?_
        refine ez_gC (p := 732) (tg := 64) hB6 t729 rfl rfl tq_61 rfl rfl (fun (t732 : _ = 64) => ?_)
        refine ez_go (n := 1) (pc' := 139) (L' := [(9, .inl (x)), (8, .inl (1)), (7, .inl (i)), (6, .inl (y)), (5, .inl (x)), (0, .inr (.inr (some (729)))), (1, .inr (.inr (some (p)))), (2, .inl (a)), (3, .inl (m)), (4, .inl (b))]) (st' := [.inl (x), .inr (.inr (some (732))), .inl (i), .inr (.inr (some (730)))]) rfl ?_
        have n10 : 2000 ≤ qz_N (dz_put g p (i).toNat (ez_v (.inl (qz_I g 731 (x).toNat)))) 732 ∧ qz_N (dz_put g p (i).toNat (ez_v (.inl (qz_I g 731 (x).toNat)))) 732 ≤ 2000 := ez_len hB6 t732 tq_64 rfl
        refine ez_aI hB6 t732 rfl tq_64 rfl rfl (by omega) (by omega) (fun (b9 : -2147483648 ≤ qz_I (dz_put g p (i).toNat (ez_v (.inl (qz_I g 731 (x).toNat)))) 732 (x).toNat) (b9' : qz_I (dz_put g p (i).toNat (ez_v (.inl (qz_I g 731 (x).toNat)))) 732 (x).toNat ≤ 2147483647) => ?_)
        have n13 : 2000 ≤ qz_N (dz_put g p (i).toNat (ez_v (.inl (qz_I g 731 (x).toNat)))) 730 ∧ qz_N (dz_put g p (i).toNat (ez_v (.inl (qz_I g 731 (x).toNat)))) 730 ≤ 2000 := ez_len hB6 t730 tq_62 rfl
        refine ez_as hB6 t730 rfl tq_62 rfl rfl (by omega) (by omega) (ez_vdI rfl rfl (by omega) (by omega)) (fun hB11 w12 => ?_)
        refine ez_go (n := 1) (pc' := 143) (L' := [(9, .inl (x)), (8, .inl (1)), (7, .inl (i)), (6, .inl (y)), (5, .inl (x)), (0, .inr (.inr (some (729)))), (1, .inr (.inr (some (p)))), (2, .inl (a)), (3, .inl (m)), (4, .inl (b))]) (st' := [.inl (1)]) rfl ?_
        refine ez_if rfl rfl ⟨by decide, by decide⟩ (fun (c14 : (1 : Int) = (0)) => absurd c14 (by decide)) (fun _ => ?_)
        refine ez_go (n := 4) (pc' := 58) (L' := [(7, .inl (i + 1)), (5, .inl (x + 1)), (9, .inl (x)), (8, .inl (1)), (6, .inl (y)), (0, .inr (.inr (some (729)))), (1, .inr (.inr (some (p)))), (2, .inl (a)), (3, .inl (m)), (4, .inl (b))]) (st' := []) rfl ?_
        refine ez_less [(7, .inl (i + 1)), (6, .inl (y)), (5, .inl (x + 1)), (0, .inr (.inr (some (729)))), (1, .inr (.inr (some (p)))), (2, .inl (a)), (3, .inl (m)), (4, .inl (b))] rfl ⟨rfl, rfl, rfl, rfl, rfl, rfl, rfl, rfl, trivial⟩ ?_
        have h9 : (x).toNat < L.length := by omega
        have ez := c9 (x).toNat _ (by omega) (by omega) (List.getElem?_eq_getElem h9)
        have rz9 := rg _ (List.getElem_mem h9)
        have cd : y = b ∨ ∀ w, L[y.toNat]? = some w → (L[x.toNat]).2 ≤ w.2 := by first | exact Or.inl (by omega) | exact Or.inr (fun w hw => by have := c9 y.toNat w (by omega) (by omega) hw; omega)
        have w1 : qz_I (dz_put (dz_put g p (i).toNat (ez_v (.inl (qz_I g 731 (x).toNat)))) 730 (i).toNat (ez_v (.inl (qz_I (dz_put g p (i).toNat (ez_v (.inl (qz_I g 731 (x).toNat)))) 732 (x).toNat)))) p (i).toNat = (L[(x).toNat]).1 := by rw [ez_put_I (fun w => by omega), w7, ez.1]; exact ez_rg.v rz9.1
        have w2 : qz_I (dz_put (dz_put g p (i).toNat (ez_v (.inl (qz_I g 731 (x).toNat)))) 730 (i).toNat (ez_v (.inl (qz_I (dz_put g p (i).toNat (ez_v (.inl (qz_I g 731 (x).toNat)))) 732 (x).toNat)))) 730 (i).toNat = (L[(x).toNat]).2 := by rw [w12, ez_put_I (fun w => by omega), ez.2]; exact ez_rg.v rz9.2
        have st := (mgi_step (g2 := (dz_put (dz_put g p (i).toNat (ez_v (.inl (qz_I g 731 (x).toNat)))) 730 (i).toNat (ez_v (.inl (qz_I (dz_put g p (i).toNat (ez_v (.inl (qz_I g 731 (x).toNat)))) 732 (x).toNat))))) (t := x) a0 bl hm (by omega) (List.getElem?_eq_getElem h9) w1 w2 (fun j hj => by rw [ez_put_I (fun w => by omega), ez_put_I (fun w => hj w.2)]) (fun j hj => by rw [ez_put_I (fun w => hj w.2), ez_put_I (fun w => by omega)]) (fun j => by rw [ez_put_I (fun w => by omega), ez_put_I (fun w => by omega)]) (fun j => by rw [ez_put_I (fun w => by omega), ez_put_I (fun w => by omega)])).1 rfl (by omega) cd
        exact ih _ _ _ _ (by omega) (by omega) hB11 ((hf.put (so_Pp p) _ _).put (so_Po (by decide)) _ _) st
      · skip
        refine ez_go (n := 2) (pc' := 75) (L' := [(7, .inl (i)), (6, .inl (y)), (5, .inl (x)), (0, .inr (.inr (some (729)))), (1, .inr (.inr (some (p)))), (2, .inl (a)), (3, .inl (m)), (4, .inl (b))]) (st' := [.inl (m), .inl (x)]) rfl ?_
        refine ez_icmp rfl rfl ⟨by first | omega | exact (sz_i32 _).1, by first | omega | exact (sz_i32 _).2⟩ ⟨by first | omega | exact (sz_i32 _).1, by first | omega | exact (sz_i32 _).2⟩ (fun (c15 : (m) ≤ (x)) => ?_) (fun (c15 : ¬((m) ≤ (x))) => ?_)
        · skip
          refine ez_go (n := 3) (pc' := 104) (L' := [(8, .inl (0)), (7, .inl (i)), (6, .inl (y)), (5, .inl (x)), (0, .inr (.inr (some (729)))), (1, .inr (.inr (some (p)))), (2, .inl (a)), (3, .inl (m)), (4, .inl (b))]) (st' := [.inl (0)]) rfl ?_
          refine ez_if rfl rfl ⟨by decide, by decide⟩ (fun _ => ?_) (fun (c16 : ¬((0 : Int) = (0))) => absurd c16 (by decide))
          refine ez_go (n := 5) (pc' := 120) (L' := [(9, .inl (y)), (8, .inl (0)), (7, .inl (i)), (6, .inl (y)), (5, .inl (x)), (0, .inr (.inr (some (729)))), (1, .inr (.inr (some (p)))), (2, .inl (a)), (3, .inl (m)), (4, .inl (b))]) (st' := [.inr (.inr (some (729))), .inl (i), .inr (.inr (some (p)))]) rfl ?_
          refine ez_gC (p := 731) (tg := 63) hBg t729 rfl rfl tq_61 rfl rfl (fun (t731 : _ = 63) => ?_)
          refine ez_go (n := 1) (pc' := 125) (L' := [(9, .inl (y)), (8, .inl (0)), (7, .inl (i)), (6, .inl (y)), (5, .inl (x)), (0, .inr (.inr (some (729)))), (1, .inr (.inr (some (p)))), (2, .inl (a)), (3, .inl (m)), (4, .inl (b))]) (st' := [.inl (y), .inr (.inr (some (731))), .inl (i), .inr (.inr (some (p)))]) rfl ?_
          have n18 : 2000 ≤ qz_N g 731 ∧ qz_N g 731 ≤ 2000 := ez_len hBg t731 tq_63 rfl
          refine ez_aI hBg t731 rfl tq_63 rfl rfl (by omega) (by omega) (fun (b17 : -2147483648 ≤ qz_I g 731 (y).toNat) (b17' : qz_I g 731 (y).toNat ≤ 2147483647) => ?_)
          have n21 : 2000 ≤ qz_N g p ∧ qz_N g p ≤ 2000 := ez_len hBg tp tq_2 rfl
          refine ez_as hBg tp rfl tq_2 rfl rfl (by omega) (by omega) (ez_vdI rfl rfl (by omega) (by omega)) (fun hB19 w20 => ?_)
          refine ez_go (n := 1) (pc' := 128) (L' := [(9, .inl (y)), (8, .inl (0)), (7, .inl (i)), (6, .inl (y)), (5, .inl (x)), (0, .inr (.inr (some (729)))), (1, .inr (.inr (some (p)))), (2, .inl (a)), (3, .inl (m)), (4, .inl (b))]) (st' := [.inr (.inr (some (729)))]) rfl ?_
          refine ez_gC (p := 730) (tg := 62) hB19 t729 rfl rfl tq_61 rfl rfl (fun (t730 : _ = 62) => ?_)
          refine ez_go (n := 2) (pc' := 134) (L' := [(9, .inl (y)), (8, .inl (0)), (7, .inl (i)), (6, .inl (y)), (5, .inl (x)), (0, .inr (.inr (some (729)))), (1, .inr (.inr (some (p)))), (2, .inl (a)), (3, .inl (m)), (4, .inl (b))]) (st' := [.inr (.inr (some (729))), .inl (i), .inr (.inr (some (730)))]) rfl ?_
          refine ez_gC (p := 732) (tg := 64) hB19 t729 rfl rfl tq_61 rfl rfl (fun (t732 : _ = 64) => ?_)
          refine ez_go (n := 1) (pc' := 139) (L' := [(9, .inl (y)), (8, .inl (0)), (7, .inl (i)), (6, .inl (y)), (5, .inl (x)), (0, .inr (.inr (some (729)))), (1, .inr (.inr (some (p)))), (2, .inl (a)), (3, .inl (m)), (4, .inl (b))]) (st' := [.inl (y), .inr (.inr (some (732))), .inl (i), .inr (.inr (some (730)))]) rfl ?_
          have n23 : 2000 ≤ qz_N (dz_put g p (i).toNat (ez_v (.inl (qz_I g 731 (y).toNat)))) 732 ∧ qz_N (dz_put g p (i).toNat (ez_v (.inl (qz_I g 731 (y).toNat)))) 732 ≤ 2000 := ez_len hB19 t732 tq_64 rfl
          refine ez_aI hB19 t732 rfl tq_64 rfl rfl (by omega) (by omega) (fun (b22 : -2147483648 ≤ qz_I (dz_put g p (i).toNat (ez_v (.inl (qz_I g 731 (y).toNat)))) 732 (y).toNat) (b22' : qz_I (dz_put g p (i).toNat (ez_v (.inl (qz_I g 731 (y).toNat)))) 732 (y).toNat ≤ 2147483647) => ?_)
          have n26 : 2000 ≤ qz_N (dz_put g p (i).toNat (ez_v (.inl (qz_I g 731 (y).toNat)))) 730 ∧ qz_N (dz_put g p (i).toNat (ez_v (.inl (qz_I g 731 (y).toNat)))) 730 ≤ 2000 := ez_len hB19 t730 tq_62 rfl
          refine ez_as hB19 t730 rfl tq_62 rfl rfl (by omega) (by omega) (ez_vdI rfl rfl (by omega) (by omega)) (fun hB24 w25 => ?_)
          refine ez_go (n := 1) (pc' := 143) (L' := [(9, .inl (y)), (8, .inl (0)), (7, .inl (i)), (6, .inl (y)), (5, .inl (x)), (0, .inr (.inr (some (729)))), (1, .inr (.inr (some (p)))), (2, .inl (a)), (3, .inl (m)), (4, .inl (b))]) (st' := [.inl (0)]) rfl ?_
          refine ez_if rfl rfl ⟨by decide, by decide⟩ (fun _ => ?_) (fun (c27 : ¬((0 : Int) = (0))) => absurd c27 (by decide))
          refine ez_go (n := 3) (pc' := 58) (L' := [(7, .inl (i + 1)), (6, .inl (y + 1)), (9, .inl (y)), (8, .inl (0)), (5, .inl (x)), (0, .inr (.inr (some (729)))), (1, .inr (.inr (some (p)))), (2, .inl (a)), (3, .inl (m)), (4, .inl (b))]) (st' := []) rfl ?_
          refine ez_less [(7, .inl (i + 1)), (6, .inl (y + 1)), (5, .inl (x)), (0, .inr (.inr (some (729)))), (1, .inr (.inr (some (p)))), (2, .inl (a)), (3, .inl (m)), (4, .inl (b))] rfl ⟨rfl, rfl, rfl, rfl, rfl, rfl, rfl, rfl, trivial⟩ ?_
          have h9 : (y).toNat < L.length := by omega
          have ez := c9 (y).toNat _ (by omega) (by omega) (List.getElem?_eq_getElem h9)
          have rz9 := rg _ (List.getElem_mem h9)
          have cd : x = m ∨ ∀ w, L[x.toNat]? = some w → ¬ w.2 ≤ (L[y.toNat]).2 := by first | exact Or.inl (by omega) | exact Or.inr (fun w hw => by have := c9 x.toNat w (by omega) (by omega) hw; omega)
          have w1 : qz_I (dz_put (dz_put g p (i).toNat (ez_v (.inl (qz_I g 731 (y).toNat)))) 730 (i).toNat (ez_v (.inl (qz_I (dz_put g p (i).toNat (ez_v (.inl (qz_I g 731 (y).toNat)))) 732 (y).toNat)))) p (i).toNat = (L[(y).toNat]).1 := by rw [ez_put_I (fun w => by omega), w20, ez.1]; exact ez_rg.v rz9.1
          have w2 : qz_I (dz_put (dz_put g p (i).toNat (ez_v (.inl (qz_I g 731 (y).toNat)))) 730 (i).toNat (ez_v (.inl (qz_I (dz_put g p (i).toNat (ez_v (.inl (qz_I g 731 (y).toNat)))) 732 (y).toNat)))) 730 (i).toNat = (L[(y).toNat]).2 := by rw [w25, ez_put_I (fun w => by omega), ez.2]; exact ez_rg.v rz9.2
          have st := (mgi_step (g2 := (dz_put (dz_put g p (i).toNat (ez_v (.inl (qz_I g 731 (y).toNat)))) 730 (i).toNat (ez_v (.inl (qz_I (dz_put g p (i).toNat (ez_v (.inl (qz_I g 731 (y).toNat)))) 732 (y).toNat))))) (t := y) a0 bl hm (by omega) (List.getElem?_eq_getElem h9) w1 w2 (fun j hj => by rw [ez_put_I (fun w => by omega), ez_put_I (fun w => hj w.2)]) (fun j hj => by rw [ez_put_I (fun w => hj w.2), ez_put_I (fun w => by omega)]) (fun j => by rw [ez_put_I (fun w => by omega), ez_put_I (fun w => by omega)]) (fun j => by rw [ez_put_I (fun w => by omega), ez_put_I (fun w => by omega)])).2 rfl (by omega) cd
          exact ih _ _ _ _ (by omega) (by omega) hB24 ((hf.put (so_Pp p) _ _).put (so_Po (by decide)) _ _) st
        · skip
          refine ez_go (n := 1) (pc' := 79) (L' := [(7, .inl (i)), (6, .inl (y)), (5, .inl (x)), (0, .inr (.inr (some (729)))), (1, .inr (.inr (some (p)))), (2, .inl (a)), (3, .inl (m)), (4, .inl (b))]) (st' := [.inr (.inr (some (729)))]) rfl ?_
          refine ez_gC (p := 732) (tg := 64) hBg t729 rfl rfl tq_61 rfl rfl (fun (t732 : _ = 64) => ?_)
          refine ez_go (n := 1) (pc' := 84) (L' := [(7, .inl (i)), (6, .inl (y)), (5, .inl (x)), (0, .inr (.inr (some (729)))), (1, .inr (.inr (some (p)))), (2, .inl (a)), (3, .inl (m)), (4, .inl (b))]) (st' := [.inl (x), .inr (.inr (some (732)))]) rfl ?_
          have n29 : 2000 ≤ qz_N g 732 ∧ qz_N g 732 ≤ 2000 := ez_len hBg t732 tq_64 rfl
          refine ez_aI hBg t732 rfl tq_64 rfl rfl (by omega) (by omega) (fun (b28 : -2147483648 ≤ qz_I g 732 (x).toNat) (b28' : qz_I g 732 (x).toNat ≤ 2147483647) => ?_)
          refine ez_go (n := 1) (pc' := 86) (L' := [(7, .inl (i)), (6, .inl (y)), (5, .inl (x)), (0, .inr (.inr (some (729)))), (1, .inr (.inr (some (p)))), (2, .inl (a)), (3, .inl (m)), (4, .inl (b))]) (st' := [.inr (.inr (some (729))), .inl (qz_I g 732 (x).toNat)]) rfl ?_
          refine ez_gC (p := 732) (tg := 64) hBg t729 rfl rfl tq_61 rfl rfl (fun (t732 : _ = 64) => ?_)
          refine ez_go (n := 1) (pc' := 91) (L' := [(7, .inl (i)), (6, .inl (y)), (5, .inl (x)), (0, .inr (.inr (some (729)))), (1, .inr (.inr (some (p)))), (2, .inl (a)), (3, .inl (m)), (4, .inl (b))]) (st' := [.inl (y), .inr (.inr (some (732))), .inl (qz_I g 732 (x).toNat)]) rfl ?_
          have n31 : 2000 ≤ qz_N g 732 ∧ qz_N g 732 ≤ 2000 := ez_len hBg t732 tq_64 rfl
          refine ez_aI hBg t732 rfl tq_64 rfl rfl (by omega) (by omega) (fun (b30 : -2147483648 ≤ qz_I g 732 (y).toNat) (b30' : qz_I g 732 (y).toNat ≤ 2147483647) => ?_)
          refine ez_icmp rfl rfl ⟨by first | omega | exact (sz_i32 _).1, by first | omega | exact (sz_i32 _).2⟩ ⟨by first | omega | exact (sz_i32 _).1, by first | omega | exact (sz_i32 _).2⟩ (fun (c32 : (qz_I g 732 (y).toNat) < (qz_I g 732 (x).toNat)) => ?_) (fun (c32 : ¬((qz_I g 732 (y).toNat) < (qz_I g 732 (x).toNat))) => ?_)
          · skip
            refine ez_go (n := 3) (pc' := 104) (L' := [(8, .inl (0)), (7, .inl (i)), (6, .inl (y)), (5, .inl (x)), (0, .inr (.inr (some (729)))), (1, .inr (.inr (some (p)))), (2, .inl (a)), (3, .inl (m)), (4, .inl (b))]) (st' := [.inl (0)]) rfl ?_
            refine ez_if rfl rfl ⟨by decide, by decide⟩ (fun _ => ?_) (fun (c33 : ¬((0 : Int) = (0))) => absurd c33 (by decide))
            refine ez_go (n := 5) (pc' := 120) (L' := [(9, .inl (y)), (8, .inl (0)), (7, .inl (i)), (6, .inl (y)), (5, .inl (x)), (0, .inr (.inr (some (729)))), (1, .inr (.inr (some (p)))), (2, .inl (a)), (3, .inl (m)), (4, .inl (b))]) (st' := [.inr (.inr (some (729))), .inl (i), .inr (.inr (some (p)))]) rfl ?_
            refine ez_gC (p := 731) (tg := 63) hBg t729 rfl rfl tq_61 rfl rfl (fun (t731 : _ = 63) => ?_)
            refine ez_go (n := 1) (pc' := 125) (L' := [(9, .inl (y)), (8, .inl (0)), (7, .inl (i)), (6, .inl (y)), (5, .inl (x)), (0, .inr (.inr (some (729)))), (1, .inr (.inr (some (p)))), (2, .inl (a)), (3, .inl (m)), (4, .inl (b))]) (st' := [.inl (y), .inr (.inr (some (731))), .inl (i), .inr (.inr (some (p)))]) rfl ?_
            have n35 : 2000 ≤ qz_N g 731 ∧ qz_N g 731 ≤ 2000 := ez_len hBg t731 tq_63 rfl
            refine ez_aI hBg t731 rfl tq_63 rfl rfl (by omega) (by omega) (fun (b34 : -2147483648 ≤ qz_I g 731 (y).toNat) (b34' : qz_I g 731 (y).toNat ≤ 2147483647) => ?_)
            have n38 : 2000 ≤ qz_N g p ∧ qz_N g p ≤ 2000 := ez_len hBg tp tq_2 rfl
            refine ez_as hBg tp rfl tq_2 rfl rfl (by omega) (by omega) (ez_vdI rfl rfl (by omega) (by omega)) (fun hB36 w37 => ?_)
            refine ez_go (n := 1) (pc' := 128) (L' := [(9, .inl (y)), (8, .inl (0)), (7, .inl (i)), (6, .inl (y)), (5, .inl (x)), (0, .inr (.inr (some (729)))), (1, .inr (.inr (some (p)))), (2, .inl (a)), (3, .inl (m)), (4, .inl (b))]) (st' := [.inr (.inr (some (729)))]) rfl ?_
            refine ez_gC (p := 730) (tg := 62) hB36 t729 rfl rfl tq_61 rfl rfl (fun (t730 : _ = 62) => ?_)
            refine ez_go (n := 2) (pc' := 134) (L' := [(9, .inl (y)), (8, .inl (0)), (7, .inl (i)), (6, .inl (y)), (5, .inl (x)), (0, .inr (.inr (some (729)))), (1, .inr (.inr (some (p)))), (2, .inl (a)), (3, .inl (m)), (4, .inl (b))]) (st' := [.inr (.inr (some (729))), .inl (i), .inr (.inr (some (730)))]) rfl ?_
            refine ez_gC (p := 732) (tg := 64) hB36 t729 rfl rfl tq_61 rfl rfl (fun (t732 : _ = 64) => ?_)
            refine ez_go (n := 1) (pc' := 139) (L' := [(9, .inl (y)), (8, .inl (0)), (7, .inl (i)), (6, .inl (y)), (5, .inl (x)), (0, .inr (.inr (some (729)))), (1, .inr (.inr (some (p)))), (2, .inl (a)), (3, .inl (m)), (4, .inl (b))]) (st' := [.inl (y), .inr (.inr (some (732))), .inl (i), .inr (.inr (some (730)))]) rfl ?_
            have n40 : 2000 ≤ qz_N (dz_put g p (i).toNat (ez_v (.inl (qz_I g 731 (y).toNat)))) 732 ∧ qz_N (dz_put g p (i).toNat (ez_v (.inl (qz_I g 731 (y).toNat)))) 732 ≤ 2000 := ez_len hB36 t732 tq_64 rfl
            refine ez_aI hB36 t732 rfl tq_64 rfl rfl (by omega) (by omega) (fun (b39 : -2147483648 ≤ qz_I (dz_put g p (i).toNat (ez_v (.inl (qz_I g 731 (y).toNat)))) 732 (y).toNat) (b39' : qz_I (dz_put g p (i).toNat (ez_v (.inl (qz_I g 731 (y).toNat)))) 732 (y).toNat ≤ 2147483647) => ?_)
            have n43 : 2000 ≤ qz_N (dz_put g p (i).toNat (ez_v (.inl (qz_I g 731 (y).toNat)))) 730 ∧ qz_N (dz_put g p (i).toNat (ez_v (.inl (qz_I g 731 (y).toNat)))) 730 ≤ 2000 := ez_len hB36 t730 tq_62 rfl
            refine ez_as hB36 t730 rfl tq_62 rfl rfl (by omega) (by omega) (ez_vdI rfl rfl (by omega) (by omega)) (fun hB41 w42 => ?_)
            refine ez_go (n := 1) (pc' := 143) (L' := [(9, .inl (y)), (8, .inl (0)), (7, .inl (i)), (6, .inl (y)), (5, .inl (x)), (0, .inr (.inr (some (729)))), (1, .inr (.inr (some (p)))), (2, .inl (a)), (3, .inl (m)), (4, .inl (b))]) (st' := [.inl (0)]) rfl ?_
            refine ez_if rfl rfl ⟨by decide, by decide⟩ (fun _ => ?_) (fun (c44 : ¬((0 : Int) = (0))) => absurd c44 (by decide))
            refine ez_go (n := 3) (pc' := 58) (L' := [(7, .inl (i + 1)), (6, .inl (y + 1)), (9, .inl (y)), (8, .inl (0)), (5, .inl (x)), (0, .inr (.inr (some (729)))), (1, .inr (.inr (some (p)))), (2, .inl (a)), (3, .inl (m)), (4, .inl (b))]) (st' := []) rfl ?_
            refine ez_less [(7, .inl (i + 1)), (6, .inl (y + 1)), (5, .inl (x)), (0, .inr (.inr (some (729)))), (1, .inr (.inr (some (p)))), (2, .inl (a)), (3, .inl (m)), (4, .inl (b))] rfl ⟨rfl, rfl, rfl, rfl, rfl, rfl, rfl, rfl, trivial⟩ ?_
            have h9 : (y).toNat < L.length := by omega
            have ez := c9 (y).toNat _ (by omega) (by omega) (List.getElem?_eq_getElem h9)
            have rz9 := rg _ (List.getElem_mem h9)
            have cd : x = m ∨ ∀ w, L[x.toNat]? = some w → ¬ w.2 ≤ (L[y.toNat]).2 := by first | exact Or.inl (by omega) | exact Or.inr (fun w hw => by have := c9 x.toNat w (by omega) (by omega) hw; omega)
            have w1 : qz_I (dz_put (dz_put g p (i).toNat (ez_v (.inl (qz_I g 731 (y).toNat)))) 730 (i).toNat (ez_v (.inl (qz_I (dz_put g p (i).toNat (ez_v (.inl (qz_I g 731 (y).toNat)))) 732 (y).toNat)))) p (i).toNat = (L[(y).toNat]).1 := by rw [ez_put_I (fun w => by omega), w37, ez.1]; exact ez_rg.v rz9.1
            have w2 : qz_I (dz_put (dz_put g p (i).toNat (ez_v (.inl (qz_I g 731 (y).toNat)))) 730 (i).toNat (ez_v (.inl (qz_I (dz_put g p (i).toNat (ez_v (.inl (qz_I g 731 (y).toNat)))) 732 (y).toNat)))) 730 (i).toNat = (L[(y).toNat]).2 := by rw [w42, ez_put_I (fun w => by omega), ez.2]; exact ez_rg.v rz9.2
            have st := (mgi_step (g2 := (dz_put (dz_put g p (i).toNat (ez_v (.inl (qz_I g 731 (y).toNat)))) 730 (i).toNat (ez_v (.inl (qz_I (dz_put g p (i).toNat (ez_v (.inl (qz_I g 731 (y).toNat)))) 732 (y).toNat))))) (t := y) a0 bl hm (by omega) (List.getElem?_eq_getElem h9) w1 w2 (fun j hj => by rw [ez_put_I (fun w => by omega), ez_put_I (fun w => hj w.2)]) (fun j hj => by rw [ez_put_I (fun w => hj w.2), ez_put_I (fun w => by omega)]) (fun j => by rw [ez_put_I (fun w => by omega), ez_put_I (fun w => by omega)]) (fun j => by rw [ez_put_I (fun w => by omega), ez_put_I (fun w => by omega)])).2 rfl (by omega) cd
            exact ih _ _ _ _ (by omega) (by omega) hB41 ((hf.put (so_Pp p) _ _).put (so_Po (by decide)) _ _) st
          · skip
            refine ez_go (n := 4) (pc' := 104) (L' := [(8, .inl (1)), (7, .inl (i)), (6, .inl (y)), (5, .inl (x)), (0, .inr (.inr (some (729)))), (1, .inr (.inr (some (p)))), (2, .inl (a)), (3, .inl (m)), (4, .inl (b))]) (st' := [.inl (1)]) rfl ?_
            refine ez_if rfl rfl ⟨by decide, by decide⟩ (fun (c45 : (1 : Int) = (0)) => absurd c45 (by decide)) (fun _ => ?_)
            refine ez_go (n := 6) (pc' := 120) (L' := [(9, .inl (x)), (8, .inl (1)), (7, .inl (i)), (6, .inl (y)), (5, .inl (x)), (0, .inr (.inr (some (729)))), (1, .inr (.inr (some (p)))), (2, .inl (a)), (3, .inl (m)), (4, .inl (b))]) (st' := [.inr (.inr (some (729))), .inl (i), .inr (.inr (some (p)))]) rfl ?_
            refine ez_gC (p := 731) (tg := 63) hBg t729 rfl rfl tq_61 rfl rfl (fun (t731 : _ = 63) => ?_)
            refine ez_go (n := 1) (pc' := 125) (L' := [(9, .inl (x)), (8, .inl (1)), (7, .inl (i)), (6, .inl (y)), (5, .inl (x)), (0, .inr (.inr (some (729)))), (1, .inr (.inr (some (p)))), (2, .inl (a)), (3, .inl (m)), (4, .inl (b))]) (st' := [.inl (x), .inr (.inr (some (731))), .inl (i), .inr (.inr (some (p)))]) rfl ?_
            have n47 : 2000 ≤ qz_N g 731 ∧ qz_N g 731 ≤ 2000 := ez_len hBg t731 tq_63 rfl
            refine ez_aI hBg t731 rfl tq_63 rfl rfl (by omega) (by omega) (fun (b46 : -2147483648 ≤ qz_I g 731 (x).toNat) (b46' : qz_I g 731 (x).toNat ≤ 2147483647) => ?_)
            have n50 : 2000 ≤ qz_N g p ∧ qz_N g p ≤ 2000 := ez_len hBg tp tq_2 rfl
            refine ez_as hBg tp rfl tq_2 rfl rfl (by omega) (by omega) (ez_vdI rfl rfl (by omega) (by omega)) (fun hB48 w49 => ?_)
            refine ez_go (n := 1) (pc' := 128) (L' := [(9, .inl (x)), (8, .inl (1)), (7, .inl (i)), (6, .inl (y)), (5, .inl (x)), (0, .inr (.inr (some (729)))), (1, .inr (.inr (some (p)))), (2, .inl (a)), (3, .inl (m)), (4, .inl (b))]) (st' := [.inr (.inr (some (729)))]) rfl ?_
            refine ez_gC (p := 730) (tg := 62) hB48 t729 rfl rfl tq_61 rfl rfl (fun (t730 : _ = 62) => ?_)
            refine ez_go (n := 2) (pc' := 134) (L' := [(9, .inl (x)), (8, .inl (1)), (7, .inl (i)), (6, .inl (y)), (5, .inl (x)), (0, .inr (.inr (some (729)))), (1, .inr (.inr (some (p)))), (2, .inl (a)), (3, .inl (m)), (4, .inl (b))]) (st' := [.inr (.inr (some (729))), .inl (i), .inr (.inr (some (730)))]) rfl ?_
            refine ez_gC (p := 732) (tg := 64) hB48 t729 rfl rfl tq_61 rfl rfl (fun (t732 : _ = 64) => ?_)
            refine ez_go (n := 1) (pc' := 139) (L' := [(9, .inl (x)), (8, .inl (1)), (7, .inl (i)), (6, .inl (y)), (5, .inl (x)), (0, .inr (.inr (some (729)))), (1, .inr (.inr (some (p)))), (2, .inl (a)), (3, .inl (m)), (4, .inl (b))]) (st' := [.inl (x), .inr (.inr (some (732))), .inl (i), .inr (.inr (some (730)))]) rfl ?_
            have n52 : 2000 ≤ qz_N (dz_put g p (i).toNat (ez_v (.inl (qz_I g 731 (x).toNat)))) 732 ∧ qz_N (dz_put g p (i).toNat (ez_v (.inl (qz_I g 731 (x).toNat)))) 732 ≤ 2000 := ez_len hB48 t732 tq_64 rfl
            refine ez_aI hB48 t732 rfl tq_64 rfl rfl (by omega) (by omega) (fun (b51 : -2147483648 ≤ qz_I (dz_put g p (i).toNat (ez_v (.inl (qz_I g 731 (x).toNat)))) 732 (x).toNat) (b51' : qz_I (dz_put g p (i).toNat (ez_v (.inl (qz_I g 731 (x).toNat)))) 732 (x).toNat ≤ 2147483647) => ?_)
            have n55 : 2000 ≤ qz_N (dz_put g p (i).toNat (ez_v (.inl (qz_I g 731 (x).toNat)))) 730 ∧ qz_N (dz_put g p (i).toNat (ez_v (.inl (qz_I g 731 (x).toNat)))) 730 ≤ 2000 := ez_len hB48 t730 tq_62 rfl
            refine ez_as hB48 t730 rfl tq_62 rfl rfl (by omega) (by omega) (ez_vdI rfl rfl (by omega) (by omega)) (fun hB53 w54 => ?_)
            refine ez_go (n := 1) (pc' := 143) (L' := [(9, .inl (x)), (8, .inl (1)), (7, .inl (i)), (6, .inl (y)), (5, .inl (x)), (0, .inr (.inr (some (729)))), (1, .inr (.inr (some (p)))), (2, .inl (a)), (3, .inl (m)), (4, .inl (b))]) (st' := [.inl (1)]) rfl ?_
            refine ez_if rfl rfl ⟨by decide, by decide⟩ (fun (c56 : (1 : Int) = (0)) => absurd c56 (by decide)) (fun _ => ?_)
            refine ez_go (n := 4) (pc' := 58) (L' := [(7, .inl (i + 1)), (5, .inl (x + 1)), (9, .inl (x)), (8, .inl (1)), (6, .inl (y)), (0, .inr (.inr (some (729)))), (1, .inr (.inr (some (p)))), (2, .inl (a)), (3, .inl (m)), (4, .inl (b))]) (st' := []) rfl ?_
            refine ez_less [(7, .inl (i + 1)), (6, .inl (y)), (5, .inl (x + 1)), (0, .inr (.inr (some (729)))), (1, .inr (.inr (some (p)))), (2, .inl (a)), (3, .inl (m)), (4, .inl (b))] rfl ⟨rfl, rfl, rfl, rfl, rfl, rfl, rfl, rfl, trivial⟩ ?_
            have h9 : (x).toNat < L.length := by omega
            have ez := c9 (x).toNat _ (by omega) (by omega) (List.getElem?_eq_getElem h9)
            have rz9 := rg _ (List.getElem_mem h9)
            have cd : y = b ∨ ∀ w, L[y.toNat]? = some w → (L[x.toNat]).2 ≤ w.2 := by first | exact Or.inl (by omega) | exact Or.inr (fun w hw => by have := c9 y.toNat w (by omega) (by omega) hw; omega)
            have w1 : qz_I (dz_put (dz_put g p (i).toNat (ez_v (.inl (qz_I g 731 (x).toNat)))) 730 (i).toNat (ez_v (.inl (qz_I (dz_put g p (i).toNat (ez_v (.inl (qz_I g 731 (x).toNat)))) 732 (x).toNat)))) p (i).toNat = (L[(x).toNat]).1 := by rw [ez_put_I (fun w => by omega), w49, ez.1]; exact ez_rg.v rz9.1
            have w2 : qz_I (dz_put (dz_put g p (i).toNat (ez_v (.inl (qz_I g 731 (x).toNat)))) 730 (i).toNat (ez_v (.inl (qz_I (dz_put g p (i).toNat (ez_v (.inl (qz_I g 731 (x).toNat)))) 732 (x).toNat)))) 730 (i).toNat = (L[(x).toNat]).2 := by rw [w54, ez_put_I (fun w => by omega), ez.2]; exact ez_rg.v rz9.2
            have st := (mgi_step (g2 := (dz_put (dz_put g p (i).toNat (ez_v (.inl (qz_I g 731 (x).toNat)))) 730 (i).toNat (ez_v (.inl (qz_I (dz_put g p (i).toNat (ez_v (.inl (qz_I g 731 (x).toNat)))) 732 (x).toNat))))) (t := x) a0 bl hm (by omega) (List.getElem?_eq_getElem h9) w1 w2 (fun j hj => by rw [ez_put_I (fun w => by omega), ez_put_I (fun w => hj w.2)]) (fun j hj => by rw [ez_put_I (fun w => hj w.2), ez_put_I (fun w => by omega)]) (fun j => by rw [ez_put_I (fun w => by omega), ez_put_I (fun w => by omega)]) (fun j => by rw [ez_put_I (fun w => by omega), ez_put_I (fun w => by omega)])).1 rfl (by omega) cd
            exact ih _ _ _ _ (by omega) (by omega) hB53 ((hf.put (so_Pp p) _ _).put (so_Po (by decide)) _ _) st
theorem rd_merge {a m b : Int} (t729 : τ 729 = 61) (t730 : τ 730 = 62) (t731 : τ 731 = 63) (t732 : τ 732 = 64) (tp : τ p = 2) (ll : (L.length : Int) ≤ 2000) (rg : rgl L) (a0 : 0 ≤ a) (am : a < m) (mb : m < b) (bl : b ≤ (L.length : Int)) (u1 : upw L a m) (u2 : upw L m b) (ps : ps0 L a b) (hB : ez_B τ h) (hp : prs h p L) (k : ∀ g L', ez_B τ g → ez_fr (so_P p) h g → prs g p L' → mgd L L' a b → Q (.inl none, g)) : ez_W (d + 1) cm_143 0 [(0, .inr (.inr (some (729)))), (1, .inr (.inr (some (p)))), (2, .inl (a)), (3, .inl (m)), (4, .inl (b))] [] h Q := by
  have np0 : p ≠ 730 := fun e => by rw [e, t730] at tp; cases tp
  have np1 : p ≠ 731 := fun e => by rw [e, t731] at tp; cases tp
  have np2 : p ≠ 732 := fun e => by rw [e, t732] at tp; cases tp
  refine ez_go (n := 1) (pc' := 1) (L' := [(0, .inr (.inr (some (729)))), (1, .inr (.inr (some (p)))), (2, .inl (a)), (3, .inl (m)), (4, .inl (b))]) (st' := [.inr (.inr (some (729)))]) rfl ?_
  refine ez_gC (p := 730) (tg := 62) hB t729 rfl rfl tq_61 rfl rfl (fun (t730 : _ = 62) => ?_)
  refine ez_go (n := 3) (pc' := 7) (L' := [(0, .inr (.inr (some (729)))), (1, .inr (.inr (some (p)))), (2, .inl (a)), (3, .inl (m)), (4, .inl (b))]) (st' := [.inl ((m) - (1)), .inr (.inr (some (730)))]) rfl ?_
  have n2 : 2000 ≤ qz_N h 730 ∧ qz_N h 730 ≤ 2000 := ez_len hB t730 tq_62 rfl
  refine ez_aI hB t730 rfl tq_62 rfl rfl (by omega) (by omega) (fun (b1 : -2147483648 ≤ qz_I h 730 ((m) - (1)).toNat) (b1' : qz_I h 730 ((m) - (1)).toNat ≤ 2147483647) => ?_)
  refine ez_go (n := 1) (pc' := 9) (L' := [(0, .inr (.inr (some (729)))), (1, .inr (.inr (some (p)))), (2, .inl (a)), (3, .inl (m)), (4, .inl (b))]) (st' := [.inr (.inr (some (729))), .inl (qz_I h 730 ((m) - (1)).toNat)]) rfl ?_
  refine ez_gC (p := 730) (tg := 62) hB t729 rfl rfl tq_61 rfl rfl (fun (t730 : _ = 62) => ?_)
  refine ez_go (n := 1) (pc' := 13) (L' := [(0, .inr (.inr (some (729)))), (1, .inr (.inr (some (p)))), (2, .inl (a)), (3, .inl (m)), (4, .inl (b))]) (st' := [.inl (m), .inr (.inr (some (730))), .inl (qz_I h 730 ((m) - (1)).toNat)]) rfl ?_
  have n4 : 2000 ≤ qz_N h 730 ∧ qz_N h 730 ≤ 2000 := ez_len hB t730 tq_62 rfl
  refine ez_aI hB t730 rfl tq_62 rfl rfl (by omega) (by omega) (fun (b3 : -2147483648 ≤ qz_I h 730 (m).toNat) (b3' : qz_I h 730 (m).toNat ≤ 2147483647) => ?_)
  refine ez_icmp rfl rfl ⟨by first | omega | exact (sz_i32 _).1, by first | omega | exact (sz_i32 _).2⟩ ⟨by first | omega | exact (sz_i32 _).1, by first | omega | exact (sz_i32 _).2⟩ (fun (c5 : (qz_I h 730 (m).toNat) < (qz_I h 730 ((m) - (1)).toNat)) => ?_) (fun (c5 : ¬((qz_I h 730 (m).toNat) < (qz_I h 730 ((m) - (1)).toNat))) => ?_)
  · skip
    refine ez_go (n := 3) (pc' := 21) (L' := [(0, .inr (.inr (some (729)))), (1, .inr (.inr (some (p)))), (2, .inl (a)), (3, .inl (m)), (4, .inl (b))]) (st' := [.inr (.inr (some (729))), .inl (a), .inr (.inr (some (p)))]) rfl ?_
    refine ez_gC (p := 731) (tg := 63) hB t729 rfl rfl tq_61 rfl rfl (fun (t731 : _ = 63) => ?_)
    refine ez_go (n := 4) (pc' := 29) (L' := [(0, .inr (.inr (some (729)))), (1, .inr (.inr (some (p)))), (2, .inl (a)), (3, .inl (m)), (4, .inl (b))]) (st' := [.inl ((b) - (a)), .inl (a), .inr (.inr (some (731))), .inl (a), .inr (.inr (some (p)))]) rfl ?_
    have n6 : 2000 ≤ qz_N h p ∧ qz_N h p ≤ 2000 := ez_len hB tp tq_2 rfl
    have n7 : 2000 ≤ qz_N h 731 ∧ qz_N h 731 ≤ 2000 := ez_len hB t731 tq_63 rfl
    refine ez_ac hB tp t731 tq_2 tq_63 rfl rfl rfl rfl rfl rfl rfl (by omega) (by omega) (by omega) (by omega) (by omega) (fun g1 hB1 f1 n1 i1 => ?_)
    refine ez_go (n := 1) (pc' := 33) (L' := [(0, .inr (.inr (some (729)))), (1, .inr (.inr (some (p)))), (2, .inl (a)), (3, .inl (m)), (4, .inl (b))]) (st' := [.inr (.inr (some (729)))]) rfl ?_
    refine ez_gC (p := 730) (tg := 62) hB1 t729 rfl rfl tq_61 rfl rfl (fun (t730 : _ = 62) => ?_)
    refine ez_go (n := 2) (pc' := 38) (L' := [(0, .inr (.inr (some (729)))), (1, .inr (.inr (some (p)))), (2, .inl (a)), (3, .inl (m)), (4, .inl (b))]) (st' := [.inr (.inr (some (729))), .inl (a), .inr (.inr (some (730)))]) rfl ?_
    refine ez_gC (p := 732) (tg := 64) hB1 t729 rfl rfl tq_61 rfl rfl (fun (t732 : _ = 64) => ?_)
    refine ez_go (n := 4) (pc' := 46) (L' := [(0, .inr (.inr (some (729)))), (1, .inr (.inr (some (p)))), (2, .inl (a)), (3, .inl (m)), (4, .inl (b))]) (st' := [.inl ((b) - (a)), .inl (a), .inr (.inr (some (732))), .inl (a), .inr (.inr (some (730)))]) rfl ?_
    have n8 : 2000 ≤ qz_N g1 730 ∧ qz_N g1 730 ≤ 2000 := ez_len hB1 t730 tq_62 rfl
    have n9 : 2000 ≤ qz_N g1 732 ∧ qz_N g1 732 ≤ 2000 := ez_len hB1 t732 tq_64 rfl
    refine ez_ac hB1 t730 t732 tq_62 tq_64 rfl rfl rfl rfl rfl rfl rfl (by omega) (by omega) (by omega) (by omega) (by omega) (fun g2 hB2 f2 n2 i2 => ?_)
    refine ez_go (n := 6) (pc' := 58) (L' := [(7, .inl (a)), (6, .inl (m)), (5, .inl (a)), (0, .inr (.inr (some (729)))), (1, .inr (.inr (some (p)))), (2, .inl (a)), (3, .inl (m)), (4, .inl (b))]) (st' := []) rfl ?_
    refine ez_less [(7, .inl (a)), (6, .inl (m)), (5, .inl (a)), (0, .inr (.inr (some (729)))), (1, .inr (.inr (some (p)))), (2, .inl (a)), (3, .inl (m)), (4, .inl (b))] rfl ⟨rfl, rfl, rfl, rfl, rfl, rfl, rfl, rfl, trivial⟩ ?_
    have o1 : ∀ q j, q ≠ 731 → q ≠ 732 → qz_I g2 q j = qz_I h q j := fun q j q1 q2 => by rw [f2.I (dz_beq_ne q2), f1.I (dz_beq_ne q1)]
    refine rd_merge_l (h := h) t729 t730 t731 t732 tp ll rg a0 am mb bl u1 u2 ps k _ a a m g2 rfl (by omega) hB2 ((ez_fr_mono f1 (fun z hz => by unfold ez_one at hz; rw [Nat.eq_of_beq_eq_true hz]; exact so_Po (by decide))).trans (ez_fr_mono f2 (fun z hz => by unfold ez_one at hz; rw [Nat.eq_of_beq_eq_true hz]; exact so_Po (by decide)))) ⟨⟨⟨by omega, by omega⟩, ⟨by omega, by omega⟩, by omega⟩, ?_, fun j z _ hj => by omega, fun j z hj hz => ?_, fun j z h1 h2 hz => ?_⟩
    · rw [show (a - a).toNat = 0 by omega, List.drop_zero]
    · rw [o1 p j np1 np2, o1 730 j (by decide) (by decide)]; exact hp j z hz
    · have q1 : qz_I g2 731 j = qz_I h p j := by rw [f2.I (by rfl), i1, if_pos (by omega)]; try (congr 2 <;> omega)
      have q2 : qz_I g2 732 j = qz_I h 730 j := by rw [i2, if_pos (by omega), f1.I (by rfl)]; try (congr 2 <;> omega)
      rw [q1, q2]; exact hp j z hz
  · skip
    have y1 := hp _ _ (List.getElem?_eq_getElem (show (m - 1).toNat < L.length by omega))
    have y2 := hp _ _ (List.getElem?_eq_getElem (show m.toNat < L.length by omega))
    exact ez_ret0 rfl rfl (k h L hB (ez_fr.refl _ _) hp (mgd_refl u1 u2 ps am mb (List.getElem?_eq_getElem (show (m - 1).toNat < L.length by omega)) (List.getElem?_eq_getElem (show m.toNat < L.length by omega)) (by omega) a0))

theorem rd_minE {x y : Int} (xr : ez_rg x) (yr : ez_rg y) (k : Q (.inl (some (ez_v (.inl (min x y)))), h)) : ez_W d cm_322 0 [(0, .inl (x)), (1, .inl (y))] [] h Q := by
  obtain ⟨x1, x2⟩ := xr
  obtain ⟨y1, y2⟩ := yr
  refine ez_go (n := 2) (pc' := 2) (L' := [(0, .inl (x)), (1, .inl (y))]) (st' := [.inl (y), .inl (x)]) rfl ?_
  refine ez_icmp rfl rfl ⟨by first | omega | exact (sz_i32 _).1, by first | omega | exact (sz_i32 _).2⟩ ⟨by first | omega | exact (sz_i32 _).1, by first | omega | exact (sz_i32 _).2⟩ (fun (c1 : (y) < (x)) => ?_) (fun (c1 : ¬((y) < (x))) => ?_)
  · skip
    refine ez_go (n := 1) (pc' := 10) (L' := [(0, .inl (x)), (1, .inl (y))]) (st' := [.inl (y)]) rfl ?_
    exact ez_retI rfl rfl (by rw [show (y : Int) = min x y by omega]; exact k)
  · skip
    refine ez_go (n := 2) (pc' := 10) (L' := [(0, .inl (x)), (1, .inl (y))]) (st' := [.inl (x)]) rfl ?_
    exact ez_retI rfl rfl (by rw [show (x : Int) = min x y by omega]; exact k)

theorem rd_maxE {x y : Int} (xr : ez_rg x) (yr : ez_rg y) (k : Q (.inl (some (ez_v (.inl (max x y)))), h)) : ez_W d cm_321 0 [(0, .inl (x)), (1, .inl (y))] [] h Q := by
  obtain ⟨x1, x2⟩ := xr
  obtain ⟨y1, y2⟩ := yr
  refine ez_go (n := 2) (pc' := 2) (L' := [(0, .inl (x)), (1, .inl (y))]) (st' := [.inl (y), .inl (x)]) rfl ?_
  refine ez_icmp rfl rfl ⟨by first | omega | exact (sz_i32 _).1, by first | omega | exact (sz_i32 _).2⟩ ⟨by first | omega | exact (sz_i32 _).1, by first | omega | exact (sz_i32 _).2⟩ (fun (c1 : (x) < (y)) => ?_) (fun (c1 : ¬((x) < (y))) => ?_)
  · skip
    refine ez_go (n := 1) (pc' := 10) (L' := [(0, .inl (x)), (1, .inl (y))]) (st' := [.inl (y)]) rfl ?_
    exact ez_retI rfl rfl (by rw [show (y : Int) = max x y by omega]; exact k)
  · skip
    refine ez_go (n := 2) (pc' := 10) (L' := [(0, .inl (x)), (1, .inl (y))]) (st' := [.inl (x)]) rfl ?_
    exact ez_retI rfl rfl (by rw [show (x : Int) = max x y by omega]; exact k)

theorem rd_sort_i {w : Int} {f t : Int} (t729 : τ 729 = 61) (t730 : τ 730 = 62) (t731 : τ 731 = 63) (t732 : τ 732 = 64) (tp : τ p = 2) (ll : (L.length : Int) ≤ 2000) (rg : rgl L) (f0 : 0 ≤ f) (tl : t ≤ (L.length : Int)) (ft : f ≤ t) (w1 : 1 ≤ w) (w2 : w ≤ 4000) (kx : ∀ g L2, ez_B τ g → ez_fr (so_P p) h g → prs g p L2 → bks L2 f t (2 * w) → sds L L2 f t → ez_W (d + 2) cm_145 58 [(4, .inl (w)), (0, .inr (.inr (some (729)))), (1, .inr (.inr (some (p)))), (2, .inl (f)), (3, .inl (t))] [] g Q) : ∀ (n : Nat) (lo kq : Int) (L2 : List (Int × Int)) (g : cz_H), (t - lo).toNat ≤ n → 0 ≤ kq → lo = f + kq * (2 * w) → lo ≤ t + w → ez_B τ g → ez_fr (so_P p) h g → prs g p L2 → sis L2 f t w kq → sds L L2 f t → ez_W (d + 2) cm_145 14 [(5, .inl (lo)), (4, .inl (w)), (0, .inr (.inr (some (729)))), (1, .inr (.inr (some (p)))), (2, .inl (f)), (3, .inl (t))] [] g Q := by
  intro n
  induction n with
  | zero =>
    intro lo kq L2 g hn k0 hlo hlt hBg hf hp hs hd
    have hk9 : 0 ≤ kq * (2 * w) := Int.mul_nonneg k0 (by omega)
    refine ez_go (n := 4) (pc' := 20) (L' := [(5, .inl (lo)), (4, .inl (w)), (0, .inr (.inr (some (729)))), (1, .inr (.inr (some (p)))), (2, .inl (f)), (3, .inl (t))]) (st' := [.inl (t), .inl ((lo) + (w))]) rfl ?_
    refine ez_icmp rfl rfl ⟨by first | omega | exact (sz_i32 _).1, by first | omega | exact (sz_i32 _).2⟩ ⟨by first | omega | exact (sz_i32 _).1, by first | omega | exact (sz_i32 _).2⟩ (fun (c1 : (t) ≤ ((lo) + (w))) => ?_) (fun (c1 : ¬((t) ≤ ((lo) + (w)))) => ?_)
    · skip
      refine ez_less [(4, .inl (w)), (0, .inr (.inr (some (729)))), (1, .inr (.inr (some (p)))), (2, .inl (f)), (3, .inl (t))] rfl ⟨rfl, rfl, rfl, rfl, rfl, trivial⟩ ?_
      exact kx g L2 hBg hf hp (sis_out w1 k0 hs (by omega)) hd
    · exfalso; omega
  | succ n ih =>
    intro lo kq L2 g hn k0 hlo hlt hBg hf hp hs hd
    have hk9 : 0 ≤ kq * (2 * w) := Int.mul_nonneg k0 (by omega)
    refine ez_go (n := 4) (pc' := 20) (L' := [(5, .inl (lo)), (4, .inl (w)), (0, .inr (.inr (some (729)))), (1, .inr (.inr (some (p)))), (2, .inl (f)), (3, .inl (t))]) (st' := [.inl (t), .inl ((lo) + (w))]) rfl ?_
    refine ez_icmp rfl rfl ⟨by first | omega | exact (sz_i32 _).1, by first | omega | exact (sz_i32 _).2⟩ ⟨by first | omega | exact (sz_i32 _).1, by first | omega | exact (sz_i32 _).2⟩ (fun (c1 : (t) ≤ ((lo) + (w))) => ?_) (fun (c1 : ¬((t) ≤ ((lo) + (w)))) => ?_)
    · skip
      refine ez_less [(4, .inl (w)), (0, .inr (.inr (some (729)))), (1, .inr (.inr (some (p)))), (2, .inl (f)), (3, .inl (t))] rfl ⟨rfl, rfl, rfl, rfl, rfl, trivial⟩ ?_
      exact kx g L2 hBg hf hp (sis_out w1 k0 hs (by omega)) hd
    · skip
      refine ez_go (n := 12) (pc' := 40) (L' := [(5, .inl (lo)), (4, .inl (w)), (0, .inr (.inr (some (729)))), (1, .inr (.inr (some (p)))), (2, .inl (f)), (3, .inl (t))]) (st' := [.inl (t), .inl ((lo) + ((2) * (w))), .inl ((lo) + (w)), .inl (lo), .inr (.inr (some (p))), .inr (.inr (some (729)))]) rfl ?_
      refine ez_cs hBg.2.1 rfl rfl rfl rfl rfl (rd_minE ⟨by omega, by omega⟩ ⟨by omega, by omega⟩ (ez_K1 ?_))
      have pre := sis_pre hs (by omega)
      rw [← hlo] at pre
      refine ez_cv hBg t729 rfl rfl rfl tq_61 rfl rfl rfl (rd_merge (L := L2) (h := g) (m := lo + w) (b := min (lo + 2 * w) t) t729 t730 t731 t732 tp (by rw [hd.1]; exact ll) (fun x hx => rg x (hd.2.2.2.2 x hx)) (by omega) (by omega) (by omega) (by rw [hd.1]; omega) pre.1 pre.2 (fun i x h1 h2 h3 => hd.2.2.2.1 i x (by omega) (by omega) h3) hBg hp (fun g2 L3 hB2 f2 p2 m2 => ez_K0 ?_))
      refine ez_go (n := 7) (pc' := 14) (L' := [(5, .inl ((lo) + ((2) * (w)))), (4, .inl (w)), (0, .inr (.inr (some (729)))), (1, .inr (.inr (some (p)))), (2, .inl (f)), (3, .inl (t))]) (st' := []) rfl ?_
      refine ez_less [(5, .inl ((lo) + ((2) * (w)))), (4, .inl (w)), (0, .inr (.inr (some (729)))), (1, .inr (.inr (some (p)))), (2, .inl (f)), (3, .inl (t))] rfl ⟨rfl, rfl, rfl, rfl, rfl, rfl, trivial⟩ ?_
      have e9 := (sis_ar kq w).2.2
      rw [hlo] at m2
      refine ih _ (kq + 1) L3 g2 (by omega) (by omega) (by omega) (by omega) hB2 (hf.trans f2) p2 (sis_step w1 k0 hs m2) (sds_step hd m2 (by omega) (by omega))
theorem rd_sort_l {f t : Int} (t729 : τ 729 = 61) (t730 : τ 730 = 62) (t731 : τ 731 = 63) (t732 : τ 732 = 64) (tp : τ p = 2) (ll : (L.length : Int) ≤ 2000) (rg : rgl L) (f0 : 0 ≤ f) (tl : t ≤ (L.length : Int)) (ft : f ≤ t) (k : ∀ g L', ez_B τ g → ez_fr (so_P p) h g → prs g p L' → mgd L L' f t → Q (.inl none, g)) : ∀ (n : Nat) (w : Int) (L2 : List (Int × Int)) (g : cz_H), (t - f - w).toNat ≤ n → 1 ≤ w → w ≤ 4000 → ez_B τ g → ez_fr (so_P p) h g → prs g p L2 → bks L2 f t w → sds L L2 f t → ez_W (d + 2) cm_145 3 [(4, .inl (w)), (0, .inr (.inr (some (729)))), (1, .inr (.inr (some (p)))), (2, .inl (f)), (3, .inl (t))] [] g Q := by
  intro n
  induction n with
  | zero =>
    intro w L2 g hn w1 w2 hBg hf hp hb hd
    refine ez_go (n := 4) (pc' := 8) (L' := [(4, .inl (w)), (0, .inr (.inr (some (729)))), (1, .inr (.inr (some (p)))), (2, .inl (f)), (3, .inl (t))]) (st' := [.inl ((t) - (f)), .inl (w)]) rfl ?_
    refine ez_icmp rfl rfl ⟨by first | omega | exact (sz_i32 _).1, by first | omega | exact (sz_i32 _).2⟩ ⟨by first | omega | exact (sz_i32 _).1, by first | omega | exact (sz_i32 _).2⟩ (fun (c1 : ((t) - (f)) ≤ (w)) => ?_) (fun (c1 : ¬(((t) - (f)) ≤ (w))) => ?_)
    · skip
      exact ez_ret0 rfl rfl (k g L2 hBg hf hp (sds_end hd (bks_all hb (by omega))))
    · skip
      refine ez_go (n := 2) (pc' := 14) (L' := [(5, .inl (f)), (4, .inl (w)), (0, .inr (.inr (some (729)))), (1, .inr (.inr (some (p)))), (2, .inl (f)), (3, .inl (t))]) (st' := []) rfl ?_
      refine ez_less [(5, .inl (f)), (4, .inl (w)), (0, .inr (.inr (some (729)))), (1, .inr (.inr (some (p)))), (2, .inl (f)), (3, .inl (t))] rfl ⟨rfl, rfl, rfl, rfl, rfl, rfl, trivial⟩ ?_
      exfalso; omega
  | succ n ih =>
    intro w L2 g hn w1 w2 hBg hf hp hb hd
    refine ez_go (n := 4) (pc' := 8) (L' := [(4, .inl (w)), (0, .inr (.inr (some (729)))), (1, .inr (.inr (some (p)))), (2, .inl (f)), (3, .inl (t))]) (st' := [.inl ((t) - (f)), .inl (w)]) rfl ?_
    refine ez_icmp rfl rfl ⟨by first | omega | exact (sz_i32 _).1, by first | omega | exact (sz_i32 _).2⟩ ⟨by first | omega | exact (sz_i32 _).1, by first | omega | exact (sz_i32 _).2⟩ (fun (c1 : ((t) - (f)) ≤ (w)) => ?_) (fun (c1 : ¬(((t) - (f)) ≤ (w))) => ?_)
    · skip
      exact ez_ret0 rfl rfl (k g L2 hBg hf hp (sds_end hd (bks_all hb (by omega))))
    · skip
      refine ez_go (n := 2) (pc' := 14) (L' := [(5, .inl (f)), (4, .inl (w)), (0, .inr (.inr (some (729)))), (1, .inr (.inr (some (p)))), (2, .inl (f)), (3, .inl (t))]) (st' := []) rfl ?_
      refine ez_less [(5, .inl (f)), (4, .inl (w)), (0, .inr (.inr (some (729)))), (1, .inr (.inr (some (p)))), (2, .inl (f)), (3, .inl (t))] rfl ⟨rfl, rfl, rfl, rfl, rfl, rfl, trivial⟩ ?_
      refine rd_sort_i (h := h) t729 t730 t731 t732 tp ll rg f0 tl ft w1 w2 (fun g3 L3 b3 f3 p3 bk3 d3 => ?_) _ f 0 L2 g (Nat.le_refl _) (by omega) (by rw [Int.zero_mul]; omega) (by omega) hBg hf hp (sis_0 hb) hd
      refine ez_go (n := 5) (pc' := 3) (L' := [(4, .inl ((w) * (2))), (0, .inr (.inr (some (729)))), (1, .inr (.inr (some (p)))), (2, .inl (f)), (3, .inl (t))]) (st' := []) rfl ?_
      refine ez_less [(4, .inl ((w) * (2))), (0, .inr (.inr (some (729)))), (1, .inr (.inr (some (p)))), (2, .inl (f)), (3, .inl (t))] rfl ⟨rfl, rfl, rfl, rfl, rfl, trivial⟩ ?_
      refine ih _ L3 g3 (by omega) (by omega) (by omega) b3 f3 p3 (by rw [Int.mul_comm w 2]; exact bk3) d3
theorem rd_sort {f t : Int} (t729 : τ 729 = 61) (t730 : τ 730 = 62) (t731 : τ 731 = 63) (t732 : τ 732 = 64) (tp : τ p = 2) (ll : (L.length : Int) ≤ 2000) (rg : rgl L) (f0 : 0 ≤ f) (tl : t ≤ (L.length : Int)) (ft : f ≤ t) (hB : ez_B τ h) (hp : prs h p L) (ps : ps0 L f t) (k : ∀ g L', ez_B τ g → ez_fr (so_P p) h g → prs g p L' → mgd L L' f t → Q (.inl none, g)) : ez_W (d + 2) cm_145 0 [(0, .inr (.inr (some (729)))), (1, .inr (.inr (some (p)))), (2, .inl (f)), (3, .inl (t))] [] h Q := by
  refine ez_go (n := 2) (pc' := 3) (L' := [(4, .inl (1)), (0, .inr (.inr (some (729)))), (1, .inr (.inr (some (p)))), (2, .inl (f)), (3, .inl (t))]) (st' := []) rfl ?_
  refine ez_less [(4, .inl (1)), (0, .inr (.inr (some (729)))), (1, .inr (.inr (some (p)))), (2, .inl (f)), (3, .inl (t))] rfl ⟨rfl, rfl, rfl, rfl, rfl, trivial⟩ ?_
  exact rd_sort_l (h := h) t729 t730 t731 t732 tp ll rg f0 tl ft k _ 1 L h (Nat.le_refl _) (by omega) (by omega) hB (ez_fr.refl _ _) hp (bks_1 L f t) (sds_0 ps)

theorem rd_pio_l {r : Nat} (t729 : τ 729 = 61) (t730 : τ 730 = 62) (t731 : τ 731 = 63) (t732 : τ 732 = 64) (tr : τ r = 1) (nr : r < 730 ∨ 732 < r) (ll : (L.length : Int) ≤ 2000) (rg : rgl L) (nn : ∀ x ∈ L, 0 ≤ x.2) (hl : qz_I h r 1 = (L.length : Int)) (k : ∀ g, ez_B τ g → ez_fr (so_P (r + 1)) h g → prs g (r + 1) (os_srt L) → Q (.inl none, g)) : ∀ (n : Nat) (i s : Int) (L2 : List (Int × Int)) (g : cz_H), ((L.length : Int) + 1 - i).toNat ≤ n → 0 ≤ i → i ≤ (L.length : Int) + 1 → 0 ≤ s → s ≤ i → ez_B τ g → ez_fr (so_P (r + 1)) h g → prs g (r + 1) L2 → pio L L2 s i ∧ (i = (L.length : Int) + 1 → s = i) → ez_W (d + 3) cm_144 4 [(3, .inl (i)), (2, .inl (s)), (0, .inr (.inr (some (729)))), (1, .inr (.inr (some (r))))] [] g Q := by
  intro n
  induction n with
  | zero =>
    intro i s L2 g hn i0 i1 s0 si hBg hf hp hd2
    obtain ⟨hd, he⟩ := hd2
    have tp := tx_p1 hBg tr
    have cr : ∀ j, qz_I g r j = qz_I h r j := fun j => hf.I (so_Pn (by omega) (by have := nr; omega)) j
    have cr1 := cr 1
    have ll2 := hd.1
    refine ez_go (n := 2) (pc' := 6) (L' := [(3, .inl (i)), (2, .inl (s)), (0, .inr (.inr (some (729)))), (1, .inr (.inr (some (r))))]) (st' := [.inr (.inr (some (r))), .inl (i)]) rfl ?_
    refine ez_gI hBg tr rfl rfl tq_1 rfl rfl (fun (b1 : 0 ≤ qz_I g r 1) (b1' : qz_I g r 1 ≤ 2000) => ?_)
    refine ez_icmp rfl rfl ⟨by first | omega | exact (sz_i32 _).1, by first | omega | exact (sz_i32 _).2⟩ ⟨by first | omega | exact (sz_i32 _).1, by first | omega | exact (sz_i32 _).2⟩ (fun (c2 : (qz_I g r 1) < (i)) => ?_) (fun (c2 : ¬((qz_I g r 1) < (i))) => ?_)
    · skip
      have hs9 := he (by omega)
      have eL := pio_end hd (by omega)
      rw [eL] at hp
      exact ez_ret0 rfl rfl (k g hBg hf hp)
    · exfalso; omega
  | succ n ih =>
    intro i s L2 g hn i0 i1 s0 si hBg hf hp hd2
    obtain ⟨hd, he⟩ := hd2
    have tp := tx_p1 hBg tr
    have cr : ∀ j, qz_I g r j = qz_I h r j := fun j => hf.I (so_Pn (by omega) (by have := nr; omega)) j
    have cr1 := cr 1
    have ll2 := hd.1
    refine ez_go (n := 2) (pc' := 6) (L' := [(3, .inl (i)), (2, .inl (s)), (0, .inr (.inr (some (729)))), (1, .inr (.inr (some (r))))]) (st' := [.inr (.inr (some (r))), .inl (i)]) rfl ?_
    refine ez_gI hBg tr rfl rfl tq_1 rfl rfl (fun (b1 : 0 ≤ qz_I g r 1) (b1' : qz_I g r 1 ≤ 2000) => ?_)
    refine ez_icmp rfl rfl ⟨by first | omega | exact (sz_i32 _).1, by first | omega | exact (sz_i32 _).2⟩ ⟨by first | omega | exact (sz_i32 _).1, by first | omega | exact (sz_i32 _).2⟩ (fun (c2 : (qz_I g r 1) < (i)) => ?_) (fun (c2 : ¬((qz_I g r 1) < (i))) => ?_)
    · skip
      have hs9 := he (by omega)
      have eL := pio_end hd (by omega)
      rw [eL] at hp
      exact ez_ret0 rfl rfl (k g hBg hf hp)
    · skip
      refine ez_go (n := 2) (pc' := 14) (L' := [(3, .inl (i)), (2, .inl (s)), (0, .inr (.inr (some (729)))), (1, .inr (.inr (some (r))))]) (st' := [.inr (.inr (some (r))), .inl (i)]) rfl ?_
      refine ez_gI hBg tr rfl rfl tq_1 rfl rfl (fun (b3 : 0 ≤ qz_I g r 1) (b3' : qz_I g r 1 ≤ 2000) => ?_)
      refine ez_icmp rfl rfl ⟨by first | omega | exact (sz_i32 _).1, by first | omega | exact (sz_i32 _).2⟩ ⟨by first | omega | exact (sz_i32 _).1, by first | omega | exact (sz_i32 _).2⟩ (fun (c4 : (i) = (qz_I g r 1)) => ?_) (fun (c4 : ¬((i) = (qz_I g r 1))) => ?_)
      · skip
        refine ez_go (n := 2) (pc' := 31) (L' := [(3, .inl (i)), (2, .inl (s)), (0, .inr (.inr (some (729)))), (1, .inr (.inr (some (r))))]) (st' := [.inr (.inr (some (r))), .inr (.inr (some (729)))]) rfl ?_
        refine ez_g3 hBg tr rfl rfl tq_1 rfl rfl (fun (t5 : _ = 2) => ?_)
        refine ez_go (n := 2) (pc' := 36) (L' := [(3, .inl (i)), (2, .inl (s)), (0, .inr (.inr (some (729)))), (1, .inr (.inr (some (r))))]) (st' := [.inl (i), .inl (s), .inr (.inr (some (r + 1))), .inr (.inr (some (729)))]) rfl ?_
        refine ez_cv hBg t729 rfl rfl rfl tq_61 rfl rfl rfl (rd_sort (L := L2) (h := g) t729 t730 t731 t732 tp (by rw [hd.1]; exact ll) (fun x hx => rg x (hd.2.2.2.2.2 x hx)) s0 (by rw [hd.1]; omega) si hBg hp hd.2.2.1 (fun g2 L3 hB2 f2 p2 m2 => ez_K0 ?_))
        refine ez_go (n := 6) (pc' := 4) (L' := [(3, .inl (i + 1)), (2, .inl ((i) + (1))), (0, .inr (.inr (some (729)))), (1, .inr (.inr (some (r))))]) (st' := []) rfl ?_
        refine ez_less [(3, .inl (i + 1)), (2, .inl ((i) + (1))), (0, .inr (.inr (some (729)))), (1, .inr (.inr (some (r))))] rfl ⟨rfl, rfl, rfl, rfl, trivial⟩ ?_
        refine ih _ _ L3 g2 (by omega) (by omega) (by omega) (by omega) (by omega) hB2 (hf.trans f2) p2 ⟨pio_run hd m2 si (fun j x hj hx => ?_), fun _ => by omega⟩
        have ej : j = i.toNat := by omega
        subst ej
        have := (hp _ x hx).2; have := (List.getElem?_eq_some_iff.mp hx).1; omega
      · skip
        refine ez_go (n := 1) (pc' := 21) (L' := [(3, .inl (i)), (2, .inl (s)), (0, .inr (.inr (some (729)))), (1, .inr (.inr (some (r))))]) (st' := [.inr (.inr (some (729)))]) rfl ?_
        refine ez_gC (p := 730) (tg := 62) hBg t729 rfl rfl tq_61 rfl rfl (fun (t730 : _ = 62) => ?_)
        refine ez_go (n := 1) (pc' := 25) (L' := [(3, .inl (i)), (2, .inl (s)), (0, .inr (.inr (some (729)))), (1, .inr (.inr (some (r))))]) (st' := [.inl (i), .inr (.inr (some (730)))]) rfl ?_
        have n7 : 2000 ≤ qz_N g 730 ∧ qz_N g 730 ≤ 2000 := ez_len hBg t730 tq_62 rfl
        refine ez_aI hBg t730 rfl tq_62 rfl rfl (by omega) (by omega) (fun (b6 : -2147483648 ≤ qz_I g 730 (i).toNat) (b6' : qz_I g 730 (i).toNat ≤ 2147483647) => ?_)
        refine ez_if rfl rfl ⟨by first | omega | exact (sz_i32 _).1, by first | omega | exact (sz_i32 _).2⟩ (fun (c8 : (qz_I g 730 (i).toNat) ≠ (0)) => ?_) (fun (c8 : ¬((qz_I g 730 (i).toNat) ≠ (0))) => ?_)
        · skip
          refine ez_go (n := 2) (pc' := 4) (L' := [(3, .inl (i + 1)), (2, .inl (s)), (0, .inr (.inr (some (729)))), (1, .inr (.inr (some (r))))]) (st' := []) rfl ?_
          refine ez_less [(3, .inl (i + 1)), (2, .inl (s)), (0, .inr (.inr (some (729)))), (1, .inr (.inr (some (r))))] rfl ⟨rfl, rfl, rfl, rfl, trivial⟩ ?_
          have h9 : i.toNat < L2.length := by omega
          have e9 := (hp _ _ (List.getElem?_eq_getElem h9)).2
          have p9 := nn _ (hd.2.2.2.2.2 _ (List.getElem_mem h9))
          refine ih _ _ L2 g (by omega) (by omega) (by omega) (by omega) (by omega) hBg hf hp ⟨pio_more hd (List.getElem?_eq_getElem h9) i0 (by omega), fun e => by omega⟩
        · skip
          refine ez_go (n := 2) (pc' := 31) (L' := [(3, .inl (i)), (2, .inl (s)), (0, .inr (.inr (some (729)))), (1, .inr (.inr (some (r))))]) (st' := [.inr (.inr (some (r))), .inr (.inr (some (729)))]) rfl ?_
          refine ez_g3 hBg tr rfl rfl tq_1 rfl rfl (fun (t9 : _ = 2) => ?_)
          refine ez_go (n := 2) (pc' := 36) (L' := [(3, .inl (i)), (2, .inl (s)), (0, .inr (.inr (some (729)))), (1, .inr (.inr (some (r))))]) (st' := [.inl (i), .inl (s), .inr (.inr (some (r + 1))), .inr (.inr (some (729)))]) rfl ?_
          refine ez_cv hBg t729 rfl rfl rfl tq_61 rfl rfl rfl (rd_sort (L := L2) (h := g) t729 t730 t731 t732 tp (by rw [hd.1]; exact ll) (fun x hx => rg x (hd.2.2.2.2.2 x hx)) s0 (by rw [hd.1]; omega) si hBg hp hd.2.2.1 (fun g2 L3 hB2 f2 p2 m2 => ez_K0 ?_))
          refine ez_go (n := 6) (pc' := 4) (L' := [(3, .inl (i + 1)), (2, .inl ((i) + (1))), (0, .inr (.inr (some (729)))), (1, .inr (.inr (some (r))))]) (st' := []) rfl ?_
          refine ez_less [(3, .inl (i + 1)), (2, .inl ((i) + (1))), (0, .inr (.inr (some (729)))), (1, .inr (.inr (some (r))))] rfl ⟨rfl, rfl, rfl, rfl, trivial⟩ ?_
          refine ih _ _ L3 g2 (by omega) (by omega) (by omega) (by omega) (by omega) hB2 (hf.trans f2) p2 ⟨pio_run hd m2 si (fun j x hj hx => ?_), fun _ => by omega⟩
          have ej : j = i.toNat := by omega
          subst ej
          have := (hp _ x hx).2; have := (List.getElem?_eq_some_iff.mp hx).1; omega
theorem rd_putInOrder {r : Nat} (t729 : τ 729 = 61) (t730 : τ 730 = 62) (t731 : τ 731 = 63) (t732 : τ 732 = 64) (tr : τ r = 1) (nr : r < 730 ∨ 732 < r) (ll : (L.length : Int) ≤ 2000) (rg : rgl L) (nn : ∀ x ∈ L, 0 ≤ x.2) (hl : qz_I h r 1 = (L.length : Int)) (hB : ez_B τ h) (hp : prs h (r + 1) L) (k : ∀ g, ez_B τ g → ez_fr (so_P (r + 1)) h g → prs g (r + 1) (os_srt L) → Q (.inl none, g)) : ez_W (d + 3) cm_144 0 [(0, .inr (.inr (some (729)))), (1, .inr (.inr (some (r))))] [] h Q := by
  refine ez_go (n := 4) (pc' := 4) (L' := [(3, .inl (0)), (2, .inl (0)), (0, .inr (.inr (some (729)))), (1, .inr (.inr (some (r))))]) (st' := []) rfl ?_
  refine ez_less [(3, .inl (0)), (2, .inl (0)), (0, .inr (.inr (some (729)))), (1, .inr (.inr (some (r))))] rfl ⟨rfl, rfl, rfl, rfl, trivial⟩ ?_
  exact rd_pio_l (h := h) t729 t730 t731 t732 tr nr ll rg nn hl k _ 0 0 L h (Nat.le_refl _) (by omega) (by omega) (by omega) (by omega) hB (ez_fr.refl _ _) hp ⟨pio_0 L, fun e => by omega⟩

end EzSo
/-! COMPOSED, as lists have it. -/
def hzv (a b : Int) : Int := if a ≤ 4370 then 44032 + ((a - 4352) * 21 + (b - 4449)) * 28 else a + b - 4519
/-- what two become, -1 where they are no PAIR -/
def cpR (F : rz_W) (E : Int → Prop) (a b v : Int) : Prop := (hz_pair a b ∧ v = hzv a b) ∨ (¬ hz_pair a b ∧ ez_p F E v a b) ∨ (¬ hz_pair a b ∧ (¬ ∃ x, ez_p F E x a b) ∧ v = -1)
theorem hzv_bd {a b : Int} (h : hz_pair a b) : hz (hzv a b) := by
  unfold hz_pair hz at h
  unfold hzv hz
  split <;> omega
theorem cpR_u {F : rz_W} {E : Int → Prop} {a b v w : Int} (s : uz_S4 F E) (h1 : cpR F E a b v) (h2 : cpR F E a b w) : v = w := by
  rcases h1 with ⟨p, e⟩ | ⟨p, e⟩ | ⟨p, q, e⟩ <;> rcases h2 with ⟨p', e'⟩ | ⟨p', e'⟩ | ⟨p', q', e'⟩
  · rw [e, e']
  · exact absurd p p'
  · exact absurd p p'
  · exact absurd p' p
  · exact s.2 v w a b e e'
  · exact absurd ⟨v, e⟩ q'
  · exact absurd p' p
  · exact absurd ⟨w, e'⟩ q
  · rw [e, e']
theorem cpR_bd {F : rz_W} {E : Int → Prop} {a b v : Int} (hw : uz_wf F) (h : cpR F E a b v) : v = -1 ∨ (0 ≤ v ∧ v ≤ 1114111) := by
  rcases h with ⟨p, e⟩ | ⟨p, e⟩ | ⟨p, q, e⟩
  · have h9 := hzv_bd p
    unfold hz at h9
    omega
  · exact Or.inr ((hw v).2 _ _ e.1).2.2.2
  · exact Or.inl e
/-- the last one of rank 0, all behind it below r -/
def lst (K : List (Int × Int)) (r : Int) (s : Nat) (x : Int × Int) : Prop := K[s]? = some x ∧ x.2 = 0 ∧ ∀ j y, s < j → K[j]? = some y → y.2 ≠ 0 ∧ y.2 < r
theorem lst_u {K : List (Int × Int)} {r : Int} {s s' : Nat} {x x' : Int × Int} (h1 : lst K r s x) (h2 : lst K r s' x') : s = s' ∧ x = x' := by
  have e : s = s' := by
    by_cases a : s < s'
    · exact absurd h2.2.1 (h1.2.2 s' x' a h2.1).1
    · by_cases b : s' < s
      · exact absurd h1.2.1 (h2.2.2 s x b h1.1).1
      · omega
  subst e
  have := h1.1
  rw [h2.1] at this
  cases this
  exact ⟨rfl, rfl⟩
/-- one point more -/
def kst (F : rz_W) (E : Int → Prop) (K : List (Int × Int)) (c : Int × Int) (K' : List (Int × Int)) : Prop :=
  (∃ s x v, lst K c.2 s x ∧ cpR F E x.1 c.1 v ∧ v ≠ -1 ∧ K' = K.set s (v, (F v).1)) ∨ ((∀ s x, lst K c.2 s x → cpR F E x.1 c.1 (-1)) ∧ K' = K ++ [c])
theorem kst_u {F : rz_W} {E : Int → Prop} {K K1 K2 : List (Int × Int)} {c : Int × Int} (s4 : uz_S4 F E) (h1 : kst F E K c K1) (h2 : kst F E K c K2) : K1 = K2 := by
  rcases h1 with ⟨s, x, v, a1, a2, a3, a4⟩ | ⟨a1, a2⟩ <;> rcases h2 with ⟨s', x', v', b1, b2, b3, b4⟩ | ⟨b1, b2⟩
  · obtain ⟨rfl, rfl⟩ := lst_u a1 b1
    rw [a4, b4, cpR_u s4 a2 b2]
  · exact absurd (cpR_u s4 a2 (b1 s x a1)) a3
  · exact absurd (cpR_u s4 b2 (a1 s' x' b1)) b3
  · rw [a2, b2]
def kcR (F : rz_W) (E : Int → Prop) : List (Int × Int) → List (Int × Int) → List (Int × Int) → Prop
  | [], K, R => R = K
  | c :: L, K, R => ∃ K', kst F E K c K' ∧ kcR F E L K' R
theorem kcR_u {F : rz_W} {E : Int → Prop} (s4 : uz_S4 F E) : ∀ {L K R1 R2 : List (Int × Int)}, kcR F E L K R1 → kcR F E L K R2 → R1 = R2
  | [], K, R1, R2, h1, h2 => h1.trans h2.symm
  | c :: L, K, R1, R2, ⟨K1, a1, a2⟩, ⟨K2, b1, b2⟩ => by
    rw [kst_u s4 a1 b1] at a2
    exact kcR_u s4 a2 b2
/-- kept ones: points with their ranks -/
def kok (F : rz_W) (K : List (Int × Int)) : Prop := ∀ x ∈ K, (0 ≤ x.1 ∧ x.1 ≤ 1114111) ∧ x.2 = (F x.1).1
theorem kst_ok {F : rz_W} {E : Int → Prop} {K K' : List (Int × Int)} {c : Int × Int} (hw : uz_wf F) (h : kst F E K c K') (hK : kok F K) (hc : (0 ≤ c.1 ∧ c.1 ≤ 1114111) ∧ c.2 = (F c.1).1) : kok F K' := by
  rcases h with ⟨s, x, v, a1, a2, a3, a4⟩ | ⟨a1, a2⟩
  · intro y hy
    rw [a4] at hy
    rcases List.mem_or_eq_of_mem_set hy with w | w
    · exact hK y w
    · rw [w]; exact ⟨(cpR_bd hw a2).resolve_left a3, rfl⟩
  · intro y hy
    rw [a2] at hy
    rcases List.mem_append.mp hy with w | w
    · exact hK y w
    · rw [List.mem_singleton] at w; rw [w]; exact hc
theorem kst_len {F : rz_W} {E : Int → Prop} {K K' : List (Int × Int)} {c : Int × Int} (h : kst F E K c K') : K'.length ≤ K.length + 1 ∧ K.length ≤ K'.length := by
  rcases h with ⟨s, x, v, a1, a2, a3, a4⟩ | ⟨a1, a2⟩
  · rw [a4, List.length_set]; omega
  · rw [a2, List.length_append, List.length_singleton]; omega
theorem kok_zl {F : rz_W} {l : List Int} (h : ptl l) : kok F (zl F l) := fun x hx => ⟨h _ (zl_mem hx).1, (zl_mem hx).2⟩
theorem os_ins_mem {x z : Int × Int} : ∀ {L : List (Int × Int)}, z ∈ os_ins x L → z = x ∨ z ∈ L
  | [], h => by
    rw [show os_ins x [] = [x] from rfl, List.mem_singleton] at h; exact Or.inl h
  | y :: L, h => by
    unfold os_ins at h
    split at h
    · rcases List.mem_cons.mp h with w | w
      · rw [w]; exact Or.inr List.mem_cons_self
      · rcases os_ins_mem w with v | v
        · exact Or.inl v
        · exact Or.inr (List.mem_cons_of_mem _ v)
    · rcases List.mem_cons.mp h with w | w
      · exact Or.inl w
      · exact Or.inr w
theorem os_srt_mem {z : Int × Int} : ∀ {L : List (Int × Int)}, z ∈ os_srt L → z ∈ L
  | [], h => h
  | x :: L, h => by
    rcases os_ins_mem h with w | w
    · rw [w]; exact List.mem_cons_self
    · exact List.mem_cons_of_mem _ (os_srt_mem w)
theorem os_ins_len {x : Int × Int} : ∀ (L : List (Int × Int)), (os_ins x L).length = L.length + 1
  | [] => rfl
  | y :: L => by
    unfold os_ins
    split
    · rw [List.length_cons, List.length_cons, os_ins_len L]
    · rfl
theorem os_srt_len : ∀ (L : List (Int × Int)), (os_srt L).length = L.length
  | [] => rfl
  | x :: L => by
    show (os_ins x (os_srt L)).length = _
    rw [os_ins_len, os_srt_len L]; rfl
theorem kok_srt {F : rz_W} {L : List (Int × Int)} (h : kok F L) : kok F (os_srt L) := fun x hx => h x (os_srt_mem hx)
/-- a FORM of a row of points: decomposed, ordered, composed -/
def nfR (F : rz_W) (E : Int → Prop) (fm : Int) (m r : List Int) : Prop := ∃ R, (if fm = 2 ∨ fm = 3 then kcR F E (os_srt (zl F m)) [] R else R = os_srt (zl F m)) ∧ r = R.map Prod.fst
theorem nfR_u {F : rz_W} {E : Int → Prop} {fm : Int} {m r r' : List Int} (s4 : uz_S4 F E) (h1 : nfR F E fm m r) (h2 : nfR F E fm m r') : r = r' := by
  obtain ⟨R, a1, a2⟩ := h1
  obtain ⟨R', b1, b2⟩ := h2
  rw [a2, b2]
  split at a1
  · rename_i e
    rw [if_pos e] at b1
    rw [kcR_u s4 a1 b1]
  · rename_i e
    rw [if_neg e] at b1
    rw [a1, b1]
/-- the pairs of the class -/
theorem cP.keep {h g : cz_H} {F : rz_W} {E : Int → Prop} (a : cP h F E) (e1 : g.2.2 723 = h.2.2 723) (e2 : g.2.2 727 = h.2.2 727) (e3 : g.2.2 728 = h.2.2 728) : cP g F E := by
  unfold cP pp ri qz_I at a ⊢
  rw [e1, e2, e3]; exact a
/-- the class's state within compose -/
def cst (K : List (Int × Int)) (st hi : Int) : Prop := ((st = -1 ∧ ∀ (j : Nat) y, K[j]? = some y → y.2 ≠ 0) ∨ (0 ≤ st ∧ ∃ x, K[st.toNat]? = some x ∧ x.2 = 0 ∧ ∀ (j : Nat) y, st < (j : Int) → K[j]? = some y → y.2 ≠ 0)) ∧ (∀ (j : Nat) y, st < (j : Int) → K[j]? = some y → y.2 ≤ hi) ∧ (hi = -1 ∨ ∃ (j : Nat) (y : Int × Int), st < (j : Int) ∧ K[j]? = some y ∧ y.2 = hi) ∧ -1 ≤ hi
theorem cst_lst {K : List (Int × Int)} {st hi r : Int} (c : cst K st hi) (r0 : 0 ≤ r) : (∀ s x, lst K r s x → st = (s : Int) ∧ hi < r) ∧ (0 ≤ st → hi < r → ∃ x, lst K r st.toNat x) := by
  obtain ⟨c1, c2, c3, c4⟩ := c
  refine ⟨fun s x hs => ?_, fun s0 hr => ?_⟩
  · have e : st = (s : Int) := by
      rcases c1 with ⟨-, w⟩ | ⟨w0, y, w1, w2, w3⟩
      · exact absurd hs.2.1 (w s x hs.1)
      · by_cases a : st < (s : Int)
        · exact absurd hs.2.1 (w3 s x a hs.1)
        · by_cases b : (s : Int) < st
          · exact absurd w2 (hs.2.2 st.toNat y (by omega) w1).1
          · omega
    refine ⟨e, ?_⟩
    rcases c3 with w | ⟨j, y, w1, w2, w3⟩
    · omega
    · have := (hs.2.2 j y (by omega) w2).2; omega
  · rcases c1 with ⟨w, -⟩ | ⟨w0, y, w1, w2, w3⟩
    · omega
    · exact ⟨y, w1, w2, fun j z hj hz => ⟨w3 j z (by omega) hz, by have := c2 j z (by omega) hz; omega⟩⟩
theorem cst_0 : cst [] (-1) (-1) := ⟨Or.inl ⟨rfl, fun j y h => (by cases h)⟩, fun j y _ h => (by cases h), Or.inl rfl, by omega⟩
theorem cst_z {K : List (Int × Int)} {st hi : Int} {c : Int × Int} (hc : c.2 = 0) : cst (K ++ [c]) (K.length : Int) (-1) := by
  have no : ∀ (j : Nat) y, (K.length : Int) < (j : Int) → (K ++ [c])[j]? = some y → False := fun j y h1 h2 => by
    have := (List.getElem?_eq_some_iff.mp h2).1
    rw [List.length_append, List.length_singleton] at this
    omega
  refine ⟨Or.inr ⟨by omega, c, by rw [Int.toNat_natCast, List.getElem?_append_right (Nat.le_refl _), Nat.sub_self]; rfl, hc, fun j y h1 h2 => (no j y h1 h2).elim⟩, fun j y h1 h2 => (no j y h1 h2).elim, Or.inl rfl, by omega⟩
theorem cst_n {K : List (Int × Int)} {st hi : Int} {c : Int × Int} (h : cst K st hi) (hs : st < (K.length : Int)) (hc : c.2 ≠ 0) (c0 : 0 ≤ c.2) : cst (K ++ [c]) st (max hi c.2) := by
  obtain ⟨c1, c2, c3, c4⟩ := h
  have at' : ∀ (j : Nat) y, (K ++ [c])[j]? = some y → (j < K.length ∧ K[j]? = some y) ∨ (j = K.length ∧ y = c) := fun j y hj => by
    by_cases e : j < K.length
    · rw [List.getElem?_append_left e] at hj; exact Or.inl ⟨e, hj⟩
    · rw [List.getElem?_append_right (by omega)] at hj
      have e0 : j - K.length = 0 := by
        by_cases w : j - K.length = 0
        · exact w
        · rw [List.getElem?_eq_none (by rw [List.length_singleton]; omega)] at hj; cases hj
      rw [e0] at hj; cases hj
      exact Or.inr ⟨by omega, rfl⟩
  refine ⟨?_, fun j y h1 h2 => ?_, ?_, by omega⟩
  · rcases c1 with ⟨w0, w⟩ | ⟨w0, x, w1, w2, w3⟩
    · refine Or.inl ⟨w0, fun j y hj => ?_⟩
      rcases at' j y hj with ⟨-, v⟩ | ⟨-, v⟩
      · exact w j y v
      · rw [v]; exact hc
    · refine Or.inr ⟨w0, x, by rw [List.getElem?_append_left (by omega)]; exact w1, w2, fun j y hj hy => ?_⟩
      rcases at' j y hy with ⟨-, v⟩ | ⟨-, v⟩
      · exact w3 j y hj v
      · rw [v]; exact hc
  · rcases at' j y h2 with ⟨-, v⟩ | ⟨-, v⟩
    · have := c2 j y h1 v; omega
    · rw [v]; omega
  · by_cases e : hi ≤ c.2
    · exact Or.inr ⟨K.length, c, hs, by rw [List.getElem?_append_right (Nat.le_refl _), Nat.sub_self]; rfl, by omega⟩
    · rcases c3 with w | ⟨j, y, w1, w2, w3⟩
      · omega
      · exact Or.inr ⟨j, y, w1, by rw [List.getElem?_append_left (List.getElem?_eq_some_iff.mp w2).1]; exact w2, by omega⟩
/-- the starter becomes another one of rank 0 -/
theorem cst_set0 {K : List (Int × Int)} {st hi : Int} {c : Int × Int} (h : cst K st hi) (s0 : 0 ≤ st) (hc : c.2 = 0) : cst (K.set st.toNat c) st hi := by
  obtain ⟨c1, c2, c3, c4⟩ := h
  have at' : ∀ (j : Nat), st < (j : Int) → (K.set st.toNat c)[j]? = K[j]? := fun j hj => List.getElem?_set_ne (by omega)
  rcases c1 with ⟨w0, w⟩ | ⟨w0, x, w1, w2, w3⟩
  · omega
  · refine ⟨Or.inr ⟨w0, c, ?_, hc, fun j y hj hy => w3 j y hj (by rw [← at' j hj]; exact hy)⟩, fun j y hj hy => c2 j y hj (by rw [← at' j hj]; exact hy), ?_, c4⟩
    · rw [List.getElem?_set_self (List.getElem?_eq_some_iff.mp w1).1]
    · rcases c3 with v | ⟨j, y, v1, v2, v3⟩
      · exact Or.inl v
      · exact Or.inr ⟨j, y, v1, by rw [at' j v1]; exact v2, v3⟩
/-- found anew -/
theorem cst_new {K : List (Int × Int)} {st hi : Int} (h1 : (st = -1 ∧ ∀ (j : Nat) y, K[j]? = some y → y.2 ≠ 0) ∨ (0 ≤ st ∧ ∃ x, K[st.toNat]? = some x ∧ x.2 = 0 ∧ ∀ (j : Nat) y, st < (j : Int) → K[j]? = some y → y.2 ≠ 0)) (h2 : (∀ (j : Nat) y, st < (j : Int) → K[j]? = some y → y.2 ≤ hi) ∧ (hi = -1 ∨ ∃ (j : Nat) (y : Int × Int), st < (j : Int) ∧ K[j]? = some y ∧ y.2 = hi) ∧ -1 ≤ hi) : cst K st hi := ⟨h1, h2.1, h2.2.1, h2.2.2⟩
theorem cst_lt {K : List (Int × Int)} {st hi : Int} (h : cst K st hi) : st < (K.length : Int) := by
  rcases h.1 with ⟨w, -⟩ | ⟨w0, x, w1, -⟩
  · omega
  · have := (List.getElem?_eq_some_iff.mp w1).1; omega
/-! The class: FORMS. (Written by wip/p2/py/pvt4.py.) -/
section EzCo
variable {d : Nat} {h : cz_H} {τ : Nat → Nat} {Q : cz_F → Prop} {T : Int → Nat} {F : rz_W} {E : Int → Prop} {r : Nat}
theorem so_keep {p : Nat} {g : cz_H} (hX : jz_X τ) (tp : τ p = 2) (f : ez_fr (so_P p) h g) {q : Nat} (q2 : τ q ≠ 2) (q6 : τ q < 62 ∨ 64 < τ q) : g.2.2 q = h.2.2 q := f.2.2 q (so_Pn (fun e => q2 (by rw [e]; exact tp)) (by
  by_cases e : 730 ≤ q ∧ q ≤ 732
  · have : q = 730 ∨ q = 731 ∨ q = 732 := by omega
    have t0 : τ 730 = 62 := hX 730 (by decide)
    have t1 : τ 731 = 63 := hX 731 (by decide)
    have t2 : τ 732 = 64 := hX 732 (by decide)
    rcases this with e | e | e <;> (subst e; omega)
  · omega))
theorem so_kD {p : Nat} {g : cz_H} (hX : jz_X τ) (tp : τ p = 2) (f : ez_fr (so_P p) h g) : ∀ q, kD (τ q) = true → g.2.2 q = h.2.2 q := fun q hq => so_keep hX tp f (fun e => by rw [e] at hq; cases hq) (by
  by_cases e : 62 ≤ τ q ∧ τ q ≤ 64
  · have : τ q = 62 ∨ τ q = 63 ∨ τ q = 64 := by omega
    rcases this with e | e | e <;> (rw [e] at hq; cases hq)
  · omega)
theorem pz_rg {x : Int} (hC : pz_C τ h T F E) (x0 : 0 ≤ x) (x1 : x ≤ 1114111) : ez_rg (F x).1 := by
  obtain ⟨tT, f2, -⟩ := hC.2.2.2.2 x x0 x1
  rw [← f2]
  exact (ez_fB (cl := 3) (k := 2) hC.1 tT tq_3 rfl rfl (by decide) : -2147483648 ≤ qz_I h (T x) 2 ∧ qz_I h (T x) 2 ≤ 2147483647)
theorem rd_sylOf {a b : Int} (a0 : 0 ≤ a) (a1 : a ≤ 1114111) (b0 : 0 ≤ b) (b1 : b ≤ 1114111) (k1 : hz_pair a b → Q (.inl (some (ez_v (.inl (hzv a b)))), h)) (k0 : ¬ hz_pair a b → Q (.inl (some (ez_v (.inl (-1)))), h)) : ez_W d cm_131 0 [(0, .inl (a)), (1, .inl (b))] [] h Q := by
  refine ez_go (n := 2) (pc' := 4) (L' := [(0, .inl (a)), (1, .inl (b))]) (st' := [.inl (4352), .inl (a)]) rfl ?_
  refine ez_icmp rfl rfl ⟨by first | omega | exact (sz_i32 _).1, by first | omega | exact (sz_i32 _).2⟩ ⟨by first | omega | exact (sz_i32 _).1, by first | omega | exact (sz_i32 _).2⟩ (fun (c1 : (a) < (4352)) => ?_) (fun (c1 : ¬((a) < (4352))) => ?_)
  · skip
    refine ez_go (n := 1) (pc' := 51) (L' := [(0, .inl (a)), (1, .inl (b))]) (st' := [.inl (a)]) rfl ?_
    refine ez_ldc (44032) rfl rfl rfl ?_
    refine ez_go (n := 3) (pc' := 56) (L' := [(2, .inl ((a) - (44032))), (0, .inl (a)), (1, .inl (b))]) (st' := [.inl ((a) - (44032))]) rfl ?_
    refine ez_if rfl rfl ⟨by first | omega | exact (sz_i32 _).1, by first | omega | exact (sz_i32 _).2⟩ (fun (c2 : ((a) - (44032)) < (0)) => ?_) (fun (c2 : ¬(((a) - (44032)) < (0))) => ?_)
    · skip
      refine ez_go (n := 3) (pc' := 79) (L' := [(3, .inl (0)), (2, .inl ((a) - (44032))), (0, .inl (a)), (1, .inl (b))]) (st' := [.inl (0)]) rfl ?_
      refine ez_if rfl rfl ⟨by decide, by decide⟩ (fun _ => ?_) (fun (c3 : ¬((0 : Int) = (0))) => absurd c3 (by decide))
      refine ez_go (n := 1) (pc' := 107) (L' := [(3, .inl (0)), (2, .inl ((a) - (44032))), (0, .inl (a)), (1, .inl (b))]) (st' := [.inl (-1)]) rfl ?_
      exact ez_retI rfl rfl (k0 (fun w => by rcases w with w | ⟨⟨w1, w2⟩, w3, w4⟩ <;> omega))
    · skip
      refine ez_go (n := 1) (pc' := 60) (L' := [(2, .inl ((a) - (44032))), (0, .inl (a)), (1, .inl (b))]) (st' := [.inl (a)]) rfl ?_
      refine ez_ldc (55203) rfl rfl rfl ?_
      refine ez_icmp rfl rfl ⟨by first | omega | exact (sz_i32 _).1, by first | omega | exact (sz_i32 _).2⟩ ⟨by first | omega | exact (sz_i32 _).1, by first | omega | exact (sz_i32 _).2⟩ (fun (c4 : (55203) < (a)) => ?_) (fun (c4 : ¬((55203) < (a))) => ?_)
      · skip
        refine ez_go (n := 3) (pc' := 79) (L' := [(3, .inl (0)), (2, .inl ((a) - (44032))), (0, .inl (a)), (1, .inl (b))]) (st' := [.inl (0)]) rfl ?_
        refine ez_if rfl rfl ⟨by decide, by decide⟩ (fun _ => ?_) (fun (c5 : ¬((0 : Int) = (0))) => absurd c5 (by decide))
        refine ez_go (n := 1) (pc' := 107) (L' := [(3, .inl (0)), (2, .inl ((a) - (44032))), (0, .inl (a)), (1, .inl (b))]) (st' := [.inl (-1)]) rfl ?_
        exact ez_retI rfl rfl (k0 (fun w => by rcases w with w | ⟨⟨w1, w2⟩, w3, w4⟩ <;> omega))
      · skip
        refine ez_go (n := 2) (pc' := 68) (L' := [(2, .inl ((a) - (44032))), (0, .inl (a)), (1, .inl (b))]) (st' := [.inl (28), .inl ((a) - (44032))]) rfl ?_
        refine ez_rem rfl (by omega) (by omega) (by omega) (by omega) ?_
        refine ez_if rfl rfl ⟨by first | omega | exact (sz_i32 _).1, by first | omega | exact (sz_i32 _).2⟩ (fun (c6 : (((a) - (44032)) % (28)) ≠ (0)) => ?_) (fun (c6 : ¬((((a) - (44032)) % (28)) ≠ (0))) => ?_)
        · skip
          refine ez_go (n := 3) (pc' := 79) (L' := [(3, .inl (0)), (2, .inl ((a) - (44032))), (0, .inl (a)), (1, .inl (b))]) (st' := [.inl (0)]) rfl ?_
          refine ez_if rfl rfl ⟨by decide, by decide⟩ (fun _ => ?_) (fun (c7 : ¬((0 : Int) = (0))) => absurd c7 (by decide))
          refine ez_go (n := 1) (pc' := 107) (L' := [(3, .inl (0)), (2, .inl ((a) - (44032))), (0, .inl (a)), (1, .inl (b))]) (st' := [.inl (-1)]) rfl ?_
          exact ez_retI rfl rfl (k0 (fun w => by rcases w with w | ⟨⟨w1, w2⟩, w3, w4⟩ <;> omega))
        · skip
          refine ez_go (n := 4) (pc' := 79) (L' := [(3, .inl (1)), (2, .inl ((a) - (44032))), (0, .inl (a)), (1, .inl (b))]) (st' := [.inl (1)]) rfl ?_
          refine ez_if rfl rfl ⟨by decide, by decide⟩ (fun (c8 : (1 : Int) = (0)) => absurd c8 (by decide)) (fun _ => ?_)
          refine ez_go (n := 2) (pc' := 86) (L' := [(3, .inl (1)), (2, .inl ((a) - (44032))), (0, .inl (a)), (1, .inl (b))]) (st' := [.inl (4520), .inl (b)]) rfl ?_
          refine ez_icmp rfl rfl ⟨by first | omega | exact (sz_i32 _).1, by first | omega | exact (sz_i32 _).2⟩ ⟨by first | omega | exact (sz_i32 _).1, by first | omega | exact (sz_i32 _).2⟩ (fun (c9 : (b) < (4520)) => ?_) (fun (c9 : ¬((b) < (4520))) => ?_)
          · skip
            refine ez_go (n := 1) (pc' := 107) (L' := [(3, .inl (1)), (2, .inl ((a) - (44032))), (0, .inl (a)), (1, .inl (b))]) (st' := [.inl (-1)]) rfl ?_
            exact ez_retI rfl rfl (k0 (fun w => by rcases w with w | ⟨⟨w1, w2⟩, w3, w4⟩ <;> omega))
          · skip
            refine ez_go (n := 2) (pc' := 93) (L' := [(3, .inl (1)), (2, .inl ((a) - (44032))), (0, .inl (a)), (1, .inl (b))]) (st' := [.inl (4546), .inl (b)]) rfl ?_
            refine ez_icmp rfl rfl ⟨by first | omega | exact (sz_i32 _).1, by first | omega | exact (sz_i32 _).2⟩ ⟨by first | omega | exact (sz_i32 _).1, by first | omega | exact (sz_i32 _).2⟩ (fun (c10 : (4546) < (b)) => ?_) (fun (c10 : ¬((4546) < (b))) => ?_)
            · skip
              refine ez_go (n := 1) (pc' := 107) (L' := [(3, .inl (1)), (2, .inl ((a) - (44032))), (0, .inl (a)), (1, .inl (b))]) (st' := [.inl (-1)]) rfl ?_
              exact ez_retI rfl rfl (k0 (fun w => by rcases w with w | ⟨⟨w1, w2⟩, w3, w4⟩ <;> omega))
            · skip
              refine ez_go (n := 6) (pc' := 107) (L' := [(3, .inl (1)), (2, .inl ((a) - (44032))), (0, .inl (a)), (1, .inl (b))]) (st' := [.inl (((a) + (b)) - (4519))]) rfl ?_
              have hh : hz_pair a b := by first | (exact Or.inl ⟨⟨by omega, by omega⟩, by omega, by omega⟩) | (exact Or.inr ⟨⟨by omega, by omega⟩, by omega, by omega, by omega⟩)
              have ev : ((a) + (b)) - (4519) = hzv a b := by unfold hzv; split <;> omega
              rw [ev]
              exact ez_retI rfl rfl (k1 hh)
  · skip
    refine ez_go (n := 2) (pc' := 11) (L' := [(0, .inl (a)), (1, .inl (b))]) (st' := [.inl (4370), .inl (a)]) rfl ?_
    refine ez_icmp rfl rfl ⟨by first | omega | exact (sz_i32 _).1, by first | omega | exact (sz_i32 _).2⟩ ⟨by first | omega | exact (sz_i32 _).1, by first | omega | exact (sz_i32 _).2⟩ (fun (c11 : (4370) < (a)) => ?_) (fun (c11 : ¬((4370) < (a))) => ?_)
    · skip
      refine ez_go (n := 1) (pc' := 51) (L' := [(0, .inl (a)), (1, .inl (b))]) (st' := [.inl (a)]) rfl ?_
      refine ez_ldc (44032) rfl rfl rfl ?_
      refine ez_go (n := 3) (pc' := 56) (L' := [(2, .inl ((a) - (44032))), (0, .inl (a)), (1, .inl (b))]) (st' := [.inl ((a) - (44032))]) rfl ?_
      refine ez_if rfl rfl ⟨by first | omega | exact (sz_i32 _).1, by first | omega | exact (sz_i32 _).2⟩ (fun (c12 : ((a) - (44032)) < (0)) => ?_) (fun (c12 : ¬(((a) - (44032)) < (0))) => ?_)
      · skip
        refine ez_go (n := 3) (pc' := 79) (L' := [(3, .inl (0)), (2, .inl ((a) - (44032))), (0, .inl (a)), (1, .inl (b))]) (st' := [.inl (0)]) rfl ?_
        refine ez_if rfl rfl ⟨by decide, by decide⟩ (fun _ => ?_) (fun (c13 : ¬((0 : Int) = (0))) => absurd c13 (by decide))
        refine ez_go (n := 1) (pc' := 107) (L' := [(3, .inl (0)), (2, .inl ((a) - (44032))), (0, .inl (a)), (1, .inl (b))]) (st' := [.inl (-1)]) rfl ?_
        exact ez_retI rfl rfl (k0 (fun w => by rcases w with w | ⟨⟨w1, w2⟩, w3, w4⟩ <;> omega))
      · skip
        refine ez_go (n := 1) (pc' := 60) (L' := [(2, .inl ((a) - (44032))), (0, .inl (a)), (1, .inl (b))]) (st' := [.inl (a)]) rfl ?_
        refine ez_ldc (55203) rfl rfl rfl ?_
        refine ez_icmp rfl rfl ⟨by first | omega | exact (sz_i32 _).1, by first | omega | exact (sz_i32 _).2⟩ ⟨by first | omega | exact (sz_i32 _).1, by first | omega | exact (sz_i32 _).2⟩ (fun (c14 : (55203) < (a)) => ?_) (fun (c14 : ¬((55203) < (a))) => ?_)
        · skip
          refine ez_go (n := 3) (pc' := 79) (L' := [(3, .inl (0)), (2, .inl ((a) - (44032))), (0, .inl (a)), (1, .inl (b))]) (st' := [.inl (0)]) rfl ?_
          refine ez_if rfl rfl ⟨by decide, by decide⟩ (fun _ => ?_) (fun (c15 : ¬((0 : Int) = (0))) => absurd c15 (by decide))
          refine ez_go (n := 1) (pc' := 107) (L' := [(3, .inl (0)), (2, .inl ((a) - (44032))), (0, .inl (a)), (1, .inl (b))]) (st' := [.inl (-1)]) rfl ?_
          exact ez_retI rfl rfl (k0 (fun w => by rcases w with w | ⟨⟨w1, w2⟩, w3, w4⟩ <;> omega))
        · skip
          refine ez_go (n := 2) (pc' := 68) (L' := [(2, .inl ((a) - (44032))), (0, .inl (a)), (1, .inl (b))]) (st' := [.inl (28), .inl ((a) - (44032))]) rfl ?_
          refine ez_rem rfl (by omega) (by omega) (by omega) (by omega) ?_
          refine ez_if rfl rfl ⟨by first | omega | exact (sz_i32 _).1, by first | omega | exact (sz_i32 _).2⟩ (fun (c16 : (((a) - (44032)) % (28)) ≠ (0)) => ?_) (fun (c16 : ¬((((a) - (44032)) % (28)) ≠ (0))) => ?_)
          · skip
            refine ez_go (n := 3) (pc' := 79) (L' := [(3, .inl (0)), (2, .inl ((a) - (44032))), (0, .inl (a)), (1, .inl (b))]) (st' := [.inl (0)]) rfl ?_
            refine ez_if rfl rfl ⟨by decide, by decide⟩ (fun _ => ?_) (fun (c17 : ¬((0 : Int) = (0))) => absurd c17 (by decide))
            refine ez_go (n := 1) (pc' := 107) (L' := [(3, .inl (0)), (2, .inl ((a) - (44032))), (0, .inl (a)), (1, .inl (b))]) (st' := [.inl (-1)]) rfl ?_
            exact ez_retI rfl rfl (k0 (fun w => by rcases w with w | ⟨⟨w1, w2⟩, w3, w4⟩ <;> omega))
          · skip
            refine ez_go (n := 4) (pc' := 79) (L' := [(3, .inl (1)), (2, .inl ((a) - (44032))), (0, .inl (a)), (1, .inl (b))]) (st' := [.inl (1)]) rfl ?_
            refine ez_if rfl rfl ⟨by decide, by decide⟩ (fun (c18 : (1 : Int) = (0)) => absurd c18 (by decide)) (fun _ => ?_)
            refine ez_go (n := 2) (pc' := 86) (L' := [(3, .inl (1)), (2, .inl ((a) - (44032))), (0, .inl (a)), (1, .inl (b))]) (st' := [.inl (4520), .inl (b)]) rfl ?_
            refine ez_icmp rfl rfl ⟨by first | omega | exact (sz_i32 _).1, by first | omega | exact (sz_i32 _).2⟩ ⟨by first | omega | exact (sz_i32 _).1, by first | omega | exact (sz_i32 _).2⟩ (fun (c19 : (b) < (4520)) => ?_) (fun (c19 : ¬((b) < (4520))) => ?_)
            · skip
              refine ez_go (n := 1) (pc' := 107) (L' := [(3, .inl (1)), (2, .inl ((a) - (44032))), (0, .inl (a)), (1, .inl (b))]) (st' := [.inl (-1)]) rfl ?_
              exact ez_retI rfl rfl (k0 (fun w => by rcases w with w | ⟨⟨w1, w2⟩, w3, w4⟩ <;> omega))
            · skip
              refine ez_go (n := 2) (pc' := 93) (L' := [(3, .inl (1)), (2, .inl ((a) - (44032))), (0, .inl (a)), (1, .inl (b))]) (st' := [.inl (4546), .inl (b)]) rfl ?_
              refine ez_icmp rfl rfl ⟨by first | omega | exact (sz_i32 _).1, by first | omega | exact (sz_i32 _).2⟩ ⟨by first | omega | exact (sz_i32 _).1, by first | omega | exact (sz_i32 _).2⟩ (fun (c20 : (4546) < (b)) => ?_) (fun (c20 : ¬((4546) < (b))) => ?_)
              · skip
                refine ez_go (n := 1) (pc' := 107) (L' := [(3, .inl (1)), (2, .inl ((a) - (44032))), (0, .inl (a)), (1, .inl (b))]) (st' := [.inl (-1)]) rfl ?_
                exact ez_retI rfl rfl (k0 (fun w => by rcases w with w | ⟨⟨w1, w2⟩, w3, w4⟩ <;> omega))
              · skip
                refine ez_go (n := 6) (pc' := 107) (L' := [(3, .inl (1)), (2, .inl ((a) - (44032))), (0, .inl (a)), (1, .inl (b))]) (st' := [.inl (((a) + (b)) - (4519))]) rfl ?_
                have hh : hz_pair a b := by first | (exact Or.inl ⟨⟨by omega, by omega⟩, by omega, by omega⟩) | (exact Or.inr ⟨⟨by omega, by omega⟩, by omega, by omega, by omega⟩)
                have ev : ((a) + (b)) - (4519) = hzv a b := by unfold hzv; split <;> omega
                rw [ev]
                exact ez_retI rfl rfl (k1 hh)
    · skip
      refine ez_go (n := 2) (pc' := 18) (L' := [(0, .inl (a)), (1, .inl (b))]) (st' := [.inl (4449), .inl (b)]) rfl ?_
      refine ez_icmp rfl rfl ⟨by first | omega | exact (sz_i32 _).1, by first | omega | exact (sz_i32 _).2⟩ ⟨by first | omega | exact (sz_i32 _).1, by first | omega | exact (sz_i32 _).2⟩ (fun (c21 : (b) < (4449)) => ?_) (fun (c21 : ¬((b) < (4449))) => ?_)
      · skip
        refine ez_go (n := 1) (pc' := 51) (L' := [(0, .inl (a)), (1, .inl (b))]) (st' := [.inl (a)]) rfl ?_
        refine ez_ldc (44032) rfl rfl rfl ?_
        refine ez_go (n := 3) (pc' := 56) (L' := [(2, .inl ((a) - (44032))), (0, .inl (a)), (1, .inl (b))]) (st' := [.inl ((a) - (44032))]) rfl ?_
        refine ez_if rfl rfl ⟨by first | omega | exact (sz_i32 _).1, by first | omega | exact (sz_i32 _).2⟩ (fun (c22 : ((a) - (44032)) < (0)) => ?_) (fun (c22 : ¬(((a) - (44032)) < (0))) => ?_)
        · skip
          refine ez_go (n := 3) (pc' := 79) (L' := [(3, .inl (0)), (2, .inl ((a) - (44032))), (0, .inl (a)), (1, .inl (b))]) (st' := [.inl (0)]) rfl ?_
          refine ez_if rfl rfl ⟨by decide, by decide⟩ (fun _ => ?_) (fun (c23 : ¬((0 : Int) = (0))) => absurd c23 (by decide))
          refine ez_go (n := 1) (pc' := 107) (L' := [(3, .inl (0)), (2, .inl ((a) - (44032))), (0, .inl (a)), (1, .inl (b))]) (st' := [.inl (-1)]) rfl ?_
          exact ez_retI rfl rfl (k0 (fun w => by rcases w with w | ⟨⟨w1, w2⟩, w3, w4⟩ <;> omega))
        · skip
          refine ez_go (n := 1) (pc' := 60) (L' := [(2, .inl ((a) - (44032))), (0, .inl (a)), (1, .inl (b))]) (st' := [.inl (a)]) rfl ?_
          refine ez_ldc (55203) rfl rfl rfl ?_
          refine ez_icmp rfl rfl ⟨by first | omega | exact (sz_i32 _).1, by first | omega | exact (sz_i32 _).2⟩ ⟨by first | omega | exact (sz_i32 _).1, by first | omega | exact (sz_i32 _).2⟩ (fun (c24 : (55203) < (a)) => ?_) (fun (c24 : ¬((55203) < (a))) => ?_)
          · skip
            refine ez_go (n := 3) (pc' := 79) (L' := [(3, .inl (0)), (2, .inl ((a) - (44032))), (0, .inl (a)), (1, .inl (b))]) (st' := [.inl (0)]) rfl ?_
            refine ez_if rfl rfl ⟨by decide, by decide⟩ (fun _ => ?_) (fun (c25 : ¬((0 : Int) = (0))) => absurd c25 (by decide))
            refine ez_go (n := 1) (pc' := 107) (L' := [(3, .inl (0)), (2, .inl ((a) - (44032))), (0, .inl (a)), (1, .inl (b))]) (st' := [.inl (-1)]) rfl ?_
            exact ez_retI rfl rfl (k0 (fun w => by rcases w with w | ⟨⟨w1, w2⟩, w3, w4⟩ <;> omega))
          · skip
            refine ez_go (n := 2) (pc' := 68) (L' := [(2, .inl ((a) - (44032))), (0, .inl (a)), (1, .inl (b))]) (st' := [.inl (28), .inl ((a) - (44032))]) rfl ?_
            refine ez_rem rfl (by omega) (by omega) (by omega) (by omega) ?_
            refine ez_if rfl rfl ⟨by first | omega | exact (sz_i32 _).1, by first | omega | exact (sz_i32 _).2⟩ (fun (c26 : (((a) - (44032)) % (28)) ≠ (0)) => ?_) (fun (c26 : ¬((((a) - (44032)) % (28)) ≠ (0))) => ?_)
            · skip
              refine ez_go (n := 3) (pc' := 79) (L' := [(3, .inl (0)), (2, .inl ((a) - (44032))), (0, .inl (a)), (1, .inl (b))]) (st' := [.inl (0)]) rfl ?_
              refine ez_if rfl rfl ⟨by decide, by decide⟩ (fun _ => ?_) (fun (c27 : ¬((0 : Int) = (0))) => absurd c27 (by decide))
              refine ez_go (n := 1) (pc' := 107) (L' := [(3, .inl (0)), (2, .inl ((a) - (44032))), (0, .inl (a)), (1, .inl (b))]) (st' := [.inl (-1)]) rfl ?_
              exact ez_retI rfl rfl (k0 (fun w => by rcases w with w | ⟨⟨w1, w2⟩, w3, w4⟩ <;> omega))
            · skip
              refine ez_go (n := 4) (pc' := 79) (L' := [(3, .inl (1)), (2, .inl ((a) - (44032))), (0, .inl (a)), (1, .inl (b))]) (st' := [.inl (1)]) rfl ?_
              refine ez_if rfl rfl ⟨by decide, by decide⟩ (fun (c28 : (1 : Int) = (0)) => absurd c28 (by decide)) (fun _ => ?_)
              refine ez_go (n := 2) (pc' := 86) (L' := [(3, .inl (1)), (2, .inl ((a) - (44032))), (0, .inl (a)), (1, .inl (b))]) (st' := [.inl (4520), .inl (b)]) rfl ?_
              refine ez_icmp rfl rfl ⟨by first | omega | exact (sz_i32 _).1, by first | omega | exact (sz_i32 _).2⟩ ⟨by first | omega | exact (sz_i32 _).1, by first | omega | exact (sz_i32 _).2⟩ (fun (c29 : (b) < (4520)) => ?_) (fun (c29 : ¬((b) < (4520))) => ?_)
              · skip
                refine ez_go (n := 1) (pc' := 107) (L' := [(3, .inl (1)), (2, .inl ((a) - (44032))), (0, .inl (a)), (1, .inl (b))]) (st' := [.inl (-1)]) rfl ?_
                exact ez_retI rfl rfl (k0 (fun w => by rcases w with w | ⟨⟨w1, w2⟩, w3, w4⟩ <;> omega))
              · skip
                refine ez_go (n := 2) (pc' := 93) (L' := [(3, .inl (1)), (2, .inl ((a) - (44032))), (0, .inl (a)), (1, .inl (b))]) (st' := [.inl (4546), .inl (b)]) rfl ?_
                refine ez_icmp rfl rfl ⟨by first | omega | exact (sz_i32 _).1, by first | omega | exact (sz_i32 _).2⟩ ⟨by first | omega | exact (sz_i32 _).1, by first | omega | exact (sz_i32 _).2⟩ (fun (c30 : (4546) < (b)) => ?_) (fun (c30 : ¬((4546) < (b))) => ?_)
                · skip
                  refine ez_go (n := 1) (pc' := 107) (L' := [(3, .inl (1)), (2, .inl ((a) - (44032))), (0, .inl (a)), (1, .inl (b))]) (st' := [.inl (-1)]) rfl ?_
                  exact ez_retI rfl rfl (k0 (fun w => by rcases w with w | ⟨⟨w1, w2⟩, w3, w4⟩ <;> omega))
                · skip
                  refine ez_go (n := 6) (pc' := 107) (L' := [(3, .inl (1)), (2, .inl ((a) - (44032))), (0, .inl (a)), (1, .inl (b))]) (st' := [.inl (((a) + (b)) - (4519))]) rfl ?_
                  have hh : hz_pair a b := by first | (exact Or.inl ⟨⟨by omega, by omega⟩, by omega, by omega⟩) | (exact Or.inr ⟨⟨by omega, by omega⟩, by omega, by omega, by omega⟩)
                  have ev : ((a) + (b)) - (4519) = hzv a b := by unfold hzv; split <;> omega
                  rw [ev]
                  exact ez_retI rfl rfl (k1 hh)
      · skip
        refine ez_go (n := 2) (pc' := 25) (L' := [(0, .inl (a)), (1, .inl (b))]) (st' := [.inl (4469), .inl (b)]) rfl ?_
        refine ez_icmp rfl rfl ⟨by first | omega | exact (sz_i32 _).1, by first | omega | exact (sz_i32 _).2⟩ ⟨by first | omega | exact (sz_i32 _).1, by first | omega | exact (sz_i32 _).2⟩ (fun (c31 : (4469) < (b)) => ?_) (fun (c31 : ¬((4469) < (b))) => ?_)
        · skip
          refine ez_go (n := 1) (pc' := 51) (L' := [(0, .inl (a)), (1, .inl (b))]) (st' := [.inl (a)]) rfl ?_
          refine ez_ldc (44032) rfl rfl rfl ?_
          refine ez_go (n := 3) (pc' := 56) (L' := [(2, .inl ((a) - (44032))), (0, .inl (a)), (1, .inl (b))]) (st' := [.inl ((a) - (44032))]) rfl ?_
          refine ez_if rfl rfl ⟨by first | omega | exact (sz_i32 _).1, by first | omega | exact (sz_i32 _).2⟩ (fun (c32 : ((a) - (44032)) < (0)) => ?_) (fun (c32 : ¬(((a) - (44032)) < (0))) => ?_)
          · skip
            refine ez_go (n := 3) (pc' := 79) (L' := [(3, .inl (0)), (2, .inl ((a) - (44032))), (0, .inl (a)), (1, .inl (b))]) (st' := [.inl (0)]) rfl ?_
            refine ez_if rfl rfl ⟨by decide, by decide⟩ (fun _ => ?_) (fun (c33 : ¬((0 : Int) = (0))) => absurd c33 (by decide))
            refine ez_go (n := 1) (pc' := 107) (L' := [(3, .inl (0)), (2, .inl ((a) - (44032))), (0, .inl (a)), (1, .inl (b))]) (st' := [.inl (-1)]) rfl ?_
            exact ez_retI rfl rfl (k0 (fun w => by rcases w with w | ⟨⟨w1, w2⟩, w3, w4⟩ <;> omega))
          · skip
            refine ez_go (n := 1) (pc' := 60) (L' := [(2, .inl ((a) - (44032))), (0, .inl (a)), (1, .inl (b))]) (st' := [.inl (a)]) rfl ?_
            refine ez_ldc (55203) rfl rfl rfl ?_
            refine ez_icmp rfl rfl ⟨by first | omega | exact (sz_i32 _).1, by first | omega | exact (sz_i32 _).2⟩ ⟨by first | omega | exact (sz_i32 _).1, by first | omega | exact (sz_i32 _).2⟩ (fun (c34 : (55203) < (a)) => ?_) (fun (c34 : ¬((55203) < (a))) => ?_)
            · skip
              refine ez_go (n := 3) (pc' := 79) (L' := [(3, .inl (0)), (2, .inl ((a) - (44032))), (0, .inl (a)), (1, .inl (b))]) (st' := [.inl (0)]) rfl ?_
              refine ez_if rfl rfl ⟨by decide, by decide⟩ (fun _ => ?_) (fun (c35 : ¬((0 : Int) = (0))) => absurd c35 (by decide))
              refine ez_go (n := 1) (pc' := 107) (L' := [(3, .inl (0)), (2, .inl ((a) - (44032))), (0, .inl (a)), (1, .inl (b))]) (st' := [.inl (-1)]) rfl ?_
              exact ez_retI rfl rfl (k0 (fun w => by rcases w with w | ⟨⟨w1, w2⟩, w3, w4⟩ <;> omega))
            · skip
              refine ez_go (n := 2) (pc' := 68) (L' := [(2, .inl ((a) - (44032))), (0, .inl (a)), (1, .inl (b))]) (st' := [.inl (28), .inl ((a) - (44032))]) rfl ?_
              refine ez_rem rfl (by omega) (by omega) (by omega) (by omega) ?_
              refine ez_if rfl rfl ⟨by first | omega | exact (sz_i32 _).1, by first | omega | exact (sz_i32 _).2⟩ (fun (c36 : (((a) - (44032)) % (28)) ≠ (0)) => ?_) (fun (c36 : ¬((((a) - (44032)) % (28)) ≠ (0))) => ?_)
              · skip
                refine ez_go (n := 3) (pc' := 79) (L' := [(3, .inl (0)), (2, .inl ((a) - (44032))), (0, .inl (a)), (1, .inl (b))]) (st' := [.inl (0)]) rfl ?_
                refine ez_if rfl rfl ⟨by decide, by decide⟩ (fun _ => ?_) (fun (c37 : ¬((0 : Int) = (0))) => absurd c37 (by decide))
                refine ez_go (n := 1) (pc' := 107) (L' := [(3, .inl (0)), (2, .inl ((a) - (44032))), (0, .inl (a)), (1, .inl (b))]) (st' := [.inl (-1)]) rfl ?_
                exact ez_retI rfl rfl (k0 (fun w => by rcases w with w | ⟨⟨w1, w2⟩, w3, w4⟩ <;> omega))
              · skip
                refine ez_go (n := 4) (pc' := 79) (L' := [(3, .inl (1)), (2, .inl ((a) - (44032))), (0, .inl (a)), (1, .inl (b))]) (st' := [.inl (1)]) rfl ?_
                refine ez_if rfl rfl ⟨by decide, by decide⟩ (fun (c38 : (1 : Int) = (0)) => absurd c38 (by decide)) (fun _ => ?_)
                refine ez_go (n := 2) (pc' := 86) (L' := [(3, .inl (1)), (2, .inl ((a) - (44032))), (0, .inl (a)), (1, .inl (b))]) (st' := [.inl (4520), .inl (b)]) rfl ?_
                refine ez_icmp rfl rfl ⟨by first | omega | exact (sz_i32 _).1, by first | omega | exact (sz_i32 _).2⟩ ⟨by first | omega | exact (sz_i32 _).1, by first | omega | exact (sz_i32 _).2⟩ (fun (c39 : (b) < (4520)) => ?_) (fun (c39 : ¬((b) < (4520))) => ?_)
                · skip
                  refine ez_go (n := 1) (pc' := 107) (L' := [(3, .inl (1)), (2, .inl ((a) - (44032))), (0, .inl (a)), (1, .inl (b))]) (st' := [.inl (-1)]) rfl ?_
                  exact ez_retI rfl rfl (k0 (fun w => by rcases w with w | ⟨⟨w1, w2⟩, w3, w4⟩ <;> omega))
                · skip
                  refine ez_go (n := 2) (pc' := 93) (L' := [(3, .inl (1)), (2, .inl ((a) - (44032))), (0, .inl (a)), (1, .inl (b))]) (st' := [.inl (4546), .inl (b)]) rfl ?_
                  refine ez_icmp rfl rfl ⟨by first | omega | exact (sz_i32 _).1, by first | omega | exact (sz_i32 _).2⟩ ⟨by first | omega | exact (sz_i32 _).1, by first | omega | exact (sz_i32 _).2⟩ (fun (c40 : (4546) < (b)) => ?_) (fun (c40 : ¬((4546) < (b))) => ?_)
                  · skip
                    refine ez_go (n := 1) (pc' := 107) (L' := [(3, .inl (1)), (2, .inl ((a) - (44032))), (0, .inl (a)), (1, .inl (b))]) (st' := [.inl (-1)]) rfl ?_
                    exact ez_retI rfl rfl (k0 (fun w => by rcases w with w | ⟨⟨w1, w2⟩, w3, w4⟩ <;> omega))
                  · skip
                    refine ez_go (n := 6) (pc' := 107) (L' := [(3, .inl (1)), (2, .inl ((a) - (44032))), (0, .inl (a)), (1, .inl (b))]) (st' := [.inl (((a) + (b)) - (4519))]) rfl ?_
                    have hh : hz_pair a b := by first | (exact Or.inl ⟨⟨by omega, by omega⟩, by omega, by omega⟩) | (exact Or.inr ⟨⟨by omega, by omega⟩, by omega, by omega, by omega⟩)
                    have ev : ((a) + (b)) - (4519) = hzv a b := by unfold hzv; split <;> omega
                    rw [ev]
                    exact ez_retI rfl rfl (k1 hh)
        · skip
          refine ez_ldc (44032) rfl rfl rfl ?_
          refine ez_go (n := 12) (pc' := 49) (L' := [(0, .inl (a)), (1, .inl (b))]) (st' := [.inl (((44032) + (((a) - (4352)) * (588))) + (((b) - (4449)) * (28)))]) rfl ?_
          have hh : hz_pair a b := by first | (exact Or.inl ⟨⟨by omega, by omega⟩, by omega, by omega⟩) | (exact Or.inr ⟨⟨by omega, by omega⟩, by omega, by omega, by omega⟩)
          have ev : ((44032) + (((a) - (4352)) * (588))) + (((b) - (4449)) * (28)) = hzv a b := by unfold hzv; split <;> omega
          rw [ev]
          exact ez_retI rfl rfl (k1 hh)

theorem rd_compositeOf {a b : Int} (hB : ez_B τ h) (hX : jz_X τ) (hw : uz_wf F) (cp : cP h F E) (a0 : 0 ≤ a) (a1 : a ≤ 1114111) (b0 : 0 ≤ b) (b1 : b ≤ 1114111) (k : ∀ v, cpR F E a b v → Q (.inl (some (ez_v (.inl v))), h)) : ez_W (d + 1) cm_114 0 [(0, .inr (.inr (some (723)))), (1, .inl (a)), (2, .inl (b))] [] h Q := by
  have t723 : τ 723 = 55 := hX 723 (by decide)
  have t727 : τ 727 = 59 := hX 727 (by decide)
  have t728 : τ 728 = 60 := hX 728 (by decide)
  have b8 : 0 ≤ qz_I h 723 8 ∧ qz_I h 723 8 ≤ 256 := ez_fB (cl := 6) (k := 8) hB t723 tq_55 rfl rfl (by decide)
  refine ez_go (n := 2) (pc' := 2) (L' := [(0, .inr (.inr (some (723)))), (1, .inl (a)), (2, .inl (b))]) (st' := [.inl (b), .inl (a)]) rfl ?_
  refine ez_cs hB.2.1 rfl rfl rfl rfl rfl (rd_sylOf a0 a1 b0 b1 (fun hh => ez_K1 ?_) (fun hh => ez_K1 ?_))
  · skip
    have hb9 := hzv_bd hh
    unfold hz at hb9
    refine ez_go (n := 3) (pc' := 8) (L' := [(3, .inl (hzv a b)), (0, .inr (.inr (some (723)))), (1, .inl (a)), (2, .inl (b))]) (st' := [.inl (-1), .inl (hzv a b)]) rfl ?_
    refine ez_icmp rfl rfl ⟨by first | omega | exact (sz_i32 _).1, by first | omega | exact (sz_i32 _).2⟩ ⟨by first | omega | exact (sz_i32 _).1, by first | omega | exact (sz_i32 _).2⟩ (fun (c1 : (hzv a b) = (-1)) => ?_) (fun (c1 : ¬((hzv a b) = (-1))) => ?_)
    · skip
      refine ez_go (n := 2) (pc' := 15) (L' := [(3, .inl (hzv a b)), (0, .inr (.inr (some (723)))), (1, .inl (a)), (2, .inl (b))]) (st' := [.inl (b), .inl (a)]) rfl ?_
      refine ez_cs hB.2.1 rfl rfl rfl rfl rfl (rd_packPair a0 a1 b0 b1 (fun y hy => ez_KL ?_))
      refine ez_go (n := 3) (pc' := 23) (L' := [(4, .inr (.inl (y))), (3, .inl (hzv a b)), (0, .inr (.inr (some (723)))), (1, .inl (a)), (2, .inl (b))]) (st' := [.inr (.inr (some (723))), .inr (.inl (y))]) rfl ?_
      refine ez_gC (p := 727) (tg := 59) hB t723 rfl rfl tq_55 rfl rfl (fun (t727 : _ = 59) => ?_)
      refine ez_go (n := 1) (pc' := 27) (L' := [(4, .inr (.inl (y))), (3, .inl (hzv a b)), (0, .inr (.inr (some (723)))), (1, .inl (a)), (2, .inl (b))]) (st' := [.inr (.inr (some (723))), .inr (.inr (some (727))), .inr (.inl (y))]) rfl ?_
      refine ez_gI hB t723 rfl rfl tq_55 rfl rfl (fun (b2 : 0 ≤ qz_I h 723 8) (b2' : qz_I h 723 8 ≤ 256) => ?_)
      refine ez_cs hB.2.1 rfl rfl rfl rfl rfl (rd_placeOfP hB t727 (by omega) (by omega) (fun pl p0 p1 q1 q2 => ez_K1 ?_))
      have lr : ∀ k, 0 ≤ k → k < 256 → (Int64.ofInt (qz_I h 727 k.toNat)).toInt = pp h k := fun k k0 k1 => ez_lrg hB t727 tq_59 rfl rfl k0 (by have := ez_len hB t727 tq_59 rfl; have : (256 : Int) ≤ qz_N h 727 := this.1; omega)
      have q1 : pl = 0 ∨ pp h (pl - 1) < y.toInt := by
        by_cases e : pl = 0
        · exact Or.inl e
        · refine Or.inr ?_; have := Int64.lt_iff_toInt_lt.mp (q1.resolve_left e); rw [lr _ (by omega) (by omega)] at this; exact this
      have q2 : pl = qz_I h 723 8 ∨ y.toInt ≤ pp h pl := by
        by_cases e : pl = qz_I h 723 8
        · exact Or.inl e
        · refine Or.inr ?_
          by_cases e3 : y.toInt ≤ pp h pl
          · exact e3
          · exact absurd (Int64.lt_iff_toInt_lt.mpr (by rw [lr _ (by omega) (by omega)]; omega)) (q2.resolve_left e)
      have lo : ∀ j, 0 ≤ j → j < pl → pp h j < y.toInt := fun j j0 j1 => by
        have w := q1.resolve_left (by omega)
        by_cases e3 : j = pl - 1
        · rw [e3]; exact w
        · have := cp.1 j (pl - 1) j0 (by omega) (by omega); omega
      refine ez_go (n := 3) (pc' := 38) (L' := [(6, .inl (pl)), (4, .inr (.inl (y))), (3, .inl (hzv a b)), (0, .inr (.inr (some (723)))), (1, .inl (a)), (2, .inl (b))]) (st' := [.inr (.inr (some (723))), .inl (pl)]) rfl ?_
      refine ez_gI hB t723 rfl rfl tq_55 rfl rfl (fun (b3 : 0 ≤ qz_I h 723 8) (b3' : qz_I h 723 8 ≤ 256) => ?_)
      refine ez_icmp rfl rfl ⟨by first | omega | exact (sz_i32 _).1, by first | omega | exact (sz_i32 _).2⟩ ⟨by first | omega | exact (sz_i32 _).1, by first | omega | exact (sz_i32 _).2⟩ (fun (c4 : (qz_I h 723 8) ≤ (pl)) => ?_) (fun (c4 : ¬((qz_I h 723 8) ≤ (pl))) => ?_)
      · skip
        refine ez_go (n := 1) (pc' := 68) (L' := [(6, .inl (pl)), (4, .inr (.inl (y))), (3, .inl (hzv a b)), (0, .inr (.inr (some (723)))), (1, .inl (a)), (2, .inl (b))]) (st' := [.inl (-1)]) rfl ?_
        exfalso; omega
      · skip
        refine ez_go (n := 1) (pc' := 45) (L' := [(6, .inl (pl)), (4, .inr (.inl (y))), (3, .inl (hzv a b)), (0, .inr (.inr (some (723)))), (1, .inl (a)), (2, .inl (b))]) (st' := [.inr (.inr (some (723)))]) rfl ?_
        refine ez_gC (p := 727) (tg := 59) hB t723 rfl rfl tq_55 rfl rfl (fun (t727 : _ = 59) => ?_)
        refine ez_go (n := 1) (pc' := 50) (L' := [(6, .inl (pl)), (4, .inr (.inl (y))), (3, .inl (hzv a b)), (0, .inr (.inr (some (723)))), (1, .inl (a)), (2, .inl (b))]) (st' := [.inl (pl), .inr (.inr (some (727)))]) rfl ?_
        have n5 : 256 ≤ qz_N h 727 ∧ qz_N h 727 ≤ 256 := ez_len hB t727 tq_59 rfl
        refine ez_aL hB t727 rfl tq_59 rfl rfl (by omega) (by omega) ?_
        refine ez_go (n := 2) (pc' := 54) (L' := [(6, .inl (pl)), (4, .inr (.inl (y))), (3, .inl (hzv a b)), (0, .inr (.inr (some (723)))), (1, .inl (a)), (2, .inl (b))]) (st' := [.inl ((lg_cmp (Int64.ofInt (qz_I h 727 (pl).toNat)) (y)).toInt)]) rfl ?_
        refine ez_if rfl rfl ⟨by first | omega | exact (sz_i32 _).1, by first | omega | exact (sz_i32 _).2⟩ (fun (c6 : ((lg_cmp (Int64.ofInt (qz_I h 727 (pl).toNat)) (y)).toInt) ≠ (0)) => ?_) (fun (c6 : ¬(((lg_cmp (Int64.ofInt (qz_I h 727 (pl).toNat)) (y)).toInt) ≠ (0))) => ?_)
        · skip
          refine ez_go (n := 1) (pc' := 68) (L' := [(6, .inl (pl)), (4, .inr (.inl (y))), (3, .inl (hzv a b)), (0, .inr (.inr (some (723)))), (1, .inl (a)), (2, .inl (b))]) (st' := [.inl (-1)]) rfl ?_
          exfalso; omega
        · skip
          refine ez_go (n := 1) (pc' := 58) (L' := [(6, .inl (pl)), (4, .inr (.inl (y))), (3, .inl (hzv a b)), (0, .inr (.inr (some (723)))), (1, .inl (a)), (2, .inl (b))]) (st' := [.inr (.inr (some (723)))]) rfl ?_
          refine ez_gC (p := 728) (tg := 60) hB t723 rfl rfl tq_55 rfl rfl (fun (t728 : _ = 60) => ?_)
          refine ez_go (n := 1) (pc' := 63) (L' := [(6, .inl (pl)), (4, .inr (.inl (y))), (3, .inl (hzv a b)), (0, .inr (.inr (some (723)))), (1, .inl (a)), (2, .inl (b))]) (st' := [.inl (pl), .inr (.inr (some (728)))]) rfl ?_
          have n8 : 256 ≤ qz_N h 728 ∧ qz_N h 728 ≤ 256 := ez_len hB t728 tq_60 rfl
          refine ez_aI hB t728 rfl tq_60 rfl rfl (by omega) (by omega) (fun (b7 : -2147483648 ≤ qz_I h 728 (pl).toNat) (b7' : qz_I h 728 (pl).toNat ≤ 2147483647) => ?_)
          refine ez_go (n := 1) (pc' := 68) (L' := [(6, .inl (pl)), (4, .inr (.inl (y))), (3, .inl (hzv a b)), (0, .inr (.inr (some (723)))), (1, .inl (a)), (2, .inl (b))]) (st' := [.inl (qz_I h 728 (pl).toNat)]) rfl ?_
          exfalso; omega
    · skip
      refine ez_go (n := 1) (pc' := 12) (L' := [(3, .inl (hzv a b)), (0, .inr (.inr (some (723)))), (1, .inl (a)), (2, .inl (b))]) (st' := [.inl (hzv a b)]) rfl ?_
      exact ez_retI rfl rfl (k _ (Or.inl ⟨hh, rfl⟩))
  · skip
    refine ez_go (n := 3) (pc' := 8) (L' := [(3, .inl (-1)), (0, .inr (.inr (some (723)))), (1, .inl (a)), (2, .inl (b))]) (st' := [.inl (-1), .inl (-1)]) rfl ?_
    refine ez_icmp rfl rfl ⟨by decide, by decide⟩ ⟨by decide, by decide⟩ (fun _ => ?_) (fun (c9 : ¬((-1 : Int) = (-1))) => absurd c9 (by decide))
    refine ez_go (n := 2) (pc' := 15) (L' := [(3, .inl (-1)), (0, .inr (.inr (some (723)))), (1, .inl (a)), (2, .inl (b))]) (st' := [.inl (b), .inl (a)]) rfl ?_
    refine ez_cs hB.2.1 rfl rfl rfl rfl rfl (rd_packPair a0 a1 b0 b1 (fun y hy => ez_KL ?_))
    refine ez_go (n := 3) (pc' := 23) (L' := [(4, .inr (.inl (y))), (3, .inl (-1)), (0, .inr (.inr (some (723)))), (1, .inl (a)), (2, .inl (b))]) (st' := [.inr (.inr (some (723))), .inr (.inl (y))]) rfl ?_
    refine ez_gC (p := 727) (tg := 59) hB t723 rfl rfl tq_55 rfl rfl (fun (t727 : _ = 59) => ?_)
    refine ez_go (n := 1) (pc' := 27) (L' := [(4, .inr (.inl (y))), (3, .inl (-1)), (0, .inr (.inr (some (723)))), (1, .inl (a)), (2, .inl (b))]) (st' := [.inr (.inr (some (723))), .inr (.inr (some (727))), .inr (.inl (y))]) rfl ?_
    refine ez_gI hB t723 rfl rfl tq_55 rfl rfl (fun (b10 : 0 ≤ qz_I h 723 8) (b10' : qz_I h 723 8 ≤ 256) => ?_)
    refine ez_cs hB.2.1 rfl rfl rfl rfl rfl (rd_placeOfP hB t727 (by omega) (by omega) (fun pl p0 p1 q1 q2 => ez_K1 ?_))
    have lr : ∀ k, 0 ≤ k → k < 256 → (Int64.ofInt (qz_I h 727 k.toNat)).toInt = pp h k := fun k k0 k1 => ez_lrg hB t727 tq_59 rfl rfl k0 (by have := ez_len hB t727 tq_59 rfl; have : (256 : Int) ≤ qz_N h 727 := this.1; omega)
    have q1 : pl = 0 ∨ pp h (pl - 1) < y.toInt := by
      by_cases e : pl = 0
      · exact Or.inl e
      · refine Or.inr ?_; have := Int64.lt_iff_toInt_lt.mp (q1.resolve_left e); rw [lr _ (by omega) (by omega)] at this; exact this
    have q2 : pl = qz_I h 723 8 ∨ y.toInt ≤ pp h pl := by
      by_cases e : pl = qz_I h 723 8
      · exact Or.inl e
      · refine Or.inr ?_
        by_cases e3 : y.toInt ≤ pp h pl
        · exact e3
        · exact absurd (Int64.lt_iff_toInt_lt.mpr (by rw [lr _ (by omega) (by omega)]; omega)) (q2.resolve_left e)
    have lo : ∀ j, 0 ≤ j → j < pl → pp h j < y.toInt := fun j j0 j1 => by
      have w := q1.resolve_left (by omega)
      by_cases e3 : j = pl - 1
      · rw [e3]; exact w
      · have := cp.1 j (pl - 1) j0 (by omega) (by omega); omega
    refine ez_go (n := 3) (pc' := 38) (L' := [(6, .inl (pl)), (4, .inr (.inl (y))), (3, .inl (-1)), (0, .inr (.inr (some (723)))), (1, .inl (a)), (2, .inl (b))]) (st' := [.inr (.inr (some (723))), .inl (pl)]) rfl ?_
    refine ez_gI hB t723 rfl rfl tq_55 rfl rfl (fun (b11 : 0 ≤ qz_I h 723 8) (b11' : qz_I h 723 8 ≤ 256) => ?_)
    refine ez_icmp rfl rfl ⟨by first | omega | exact (sz_i32 _).1, by first | omega | exact (sz_i32 _).2⟩ ⟨by first | omega | exact (sz_i32 _).1, by first | omega | exact (sz_i32 _).2⟩ (fun (c12 : (qz_I h 723 8) ≤ (pl)) => ?_) (fun (c12 : ¬((qz_I h 723 8) ≤ (pl))) => ?_)
    · skip
      refine ez_go (n := 1) (pc' := 68) (L' := [(6, .inl (pl)), (4, .inr (.inl (y))), (3, .inl (-1)), (0, .inr (.inr (some (723)))), (1, .inl (a)), (2, .inl (b))]) (st' := [.inl (-1)]) rfl ?_
      refine ez_retI rfl rfl (k _ (Or.inr (Or.inr ⟨hh, fun ⟨x, hx⟩ => ?_, rfl⟩)))
      obtain ⟨j, j0, j1, ej⟩ := cp.2.2 x a b hx
      rw [← hy] at ej
      by_cases e2 : j < pl
      · have := lo j j0 e2; omega
      · have hpl : y.toInt ≤ pp h pl := q2.resolve_left (by omega)
        have e4 : pp h pl ≠ y.toInt := fun e6 => by
          have e7 : Int64.ofInt (qz_I h 727 pl.toNat) = y := Int64.toInt_inj.mp (by rw [lr pl p0 (by omega)]; exact e6)
          have e8 := (nz_cmp_eq _ _).mpr e7
          first | (exact absurd e8 (by assumption)) | omega
        by_cases e3 : j = pl
        · rw [e3] at ej; omega
        · have := cp.1 pl j p0 (by omega) j1; omega
    · skip
      refine ez_go (n := 1) (pc' := 45) (L' := [(6, .inl (pl)), (4, .inr (.inl (y))), (3, .inl (-1)), (0, .inr (.inr (some (723)))), (1, .inl (a)), (2, .inl (b))]) (st' := [.inr (.inr (some (723)))]) rfl ?_
      refine ez_gC (p := 727) (tg := 59) hB t723 rfl rfl tq_55 rfl rfl (fun (t727 : _ = 59) => ?_)
      refine ez_go (n := 1) (pc' := 50) (L' := [(6, .inl (pl)), (4, .inr (.inl (y))), (3, .inl (-1)), (0, .inr (.inr (some (723)))), (1, .inl (a)), (2, .inl (b))]) (st' := [.inl (pl), .inr (.inr (some (727)))]) rfl ?_
      have n13 : 256 ≤ qz_N h 727 ∧ qz_N h 727 ≤ 256 := ez_len hB t727 tq_59 rfl
      refine ez_aL hB t727 rfl tq_59 rfl rfl (by omega) (by omega) ?_
      refine ez_go (n := 2) (pc' := 54) (L' := [(6, .inl (pl)), (4, .inr (.inl (y))), (3, .inl (-1)), (0, .inr (.inr (some (723)))), (1, .inl (a)), (2, .inl (b))]) (st' := [.inl ((lg_cmp (Int64.ofInt (qz_I h 727 (pl).toNat)) (y)).toInt)]) rfl ?_
      refine ez_if rfl rfl ⟨by first | omega | exact (sz_i32 _).1, by first | omega | exact (sz_i32 _).2⟩ (fun (c14 : ((lg_cmp (Int64.ofInt (qz_I h 727 (pl).toNat)) (y)).toInt) ≠ (0)) => ?_) (fun (c14 : ¬(((lg_cmp (Int64.ofInt (qz_I h 727 (pl).toNat)) (y)).toInt) ≠ (0))) => ?_)
      · skip
        refine ez_go (n := 1) (pc' := 68) (L' := [(6, .inl (pl)), (4, .inr (.inl (y))), (3, .inl (-1)), (0, .inr (.inr (some (723)))), (1, .inl (a)), (2, .inl (b))]) (st' := [.inl (-1)]) rfl ?_
        refine ez_retI rfl rfl (k _ (Or.inr (Or.inr ⟨hh, fun ⟨x, hx⟩ => ?_, rfl⟩)))
        obtain ⟨j, j0, j1, ej⟩ := cp.2.2 x a b hx
        rw [← hy] at ej
        by_cases e2 : j < pl
        · have := lo j j0 e2; omega
        · have hpl : y.toInt ≤ pp h pl := q2.resolve_left (by omega)
          have e4 : pp h pl ≠ y.toInt := fun e6 => by
            have e7 : Int64.ofInt (qz_I h 727 pl.toNat) = y := Int64.toInt_inj.mp (by rw [lr pl p0 (by omega)]; exact e6)
            have e8 := (nz_cmp_eq _ _).mpr e7
            first | (exact absurd e8 (by assumption)) | omega
          by_cases e3 : j = pl
          · rw [e3] at ej; omega
          · have := cp.1 pl j p0 (by omega) j1; omega
      · skip
        refine ez_go (n := 1) (pc' := 58) (L' := [(6, .inl (pl)), (4, .inr (.inl (y))), (3, .inl (-1)), (0, .inr (.inr (some (723)))), (1, .inl (a)), (2, .inl (b))]) (st' := [.inr (.inr (some (723)))]) rfl ?_
        refine ez_gC (p := 728) (tg := 60) hB t723 rfl rfl tq_55 rfl rfl (fun (t728 : _ = 60) => ?_)
        refine ez_go (n := 1) (pc' := 63) (L' := [(6, .inl (pl)), (4, .inr (.inl (y))), (3, .inl (-1)), (0, .inr (.inr (some (723)))), (1, .inl (a)), (2, .inl (b))]) (st' := [.inl (pl), .inr (.inr (some (728)))]) rfl ?_
        have n16 : 256 ≤ qz_N h 728 ∧ qz_N h 728 ≤ 256 := ez_len hB t728 tq_60 rfl
        refine ez_aI hB t728 rfl tq_60 rfl rfl (by omega) (by omega) (fun (b15 : -2147483648 ≤ qz_I h 728 (pl).toNat) (b15' : qz_I h 728 (pl).toNat ≤ 2147483647) => ?_)
        refine ez_go (n := 1) (pc' := 68) (L' := [(6, .inl (pl)), (4, .inr (.inl (y))), (3, .inl (-1)), (0, .inr (.inr (some (723)))), (1, .inl (a)), (2, .inl (b))]) (st' := [.inl (qz_I h 728 (pl).toNat)]) rfl ?_
        have e7 := (nz_cmp_eq (Int64.ofInt (qz_I h 727 (pl).toNat)) y).mp (by omega)
        obtain ⟨a2, b2, hx, e9⟩ := cp.2.1 pl p0 (by omega)
        have wr := ((hw _).2 _ _ hx.1).2.2.1
        have wa := wr a2 (by simp)
        have wb := wr b2 (by simp)
        have e10 : pp h pl = a * 2097152 + b := by rw [← lr pl p0 (by omega), e7, hy]
        have ea : a2 = a := by omega
        have eb : b2 = b := by omega
        subst ea
        subst eb
        exact ez_retI rfl rfl (k _ (Or.inr (Or.inl ⟨hh, hx⟩)))

theorem rd_lastStarter_l {n : Int} (hB : ez_B τ h) (t729 : τ 729 = 61) (n1 : n ≤ 2000) (k : ∀ s, (s = -1 ∧ ∀ j : Nat, (j : Int) < n → qz_I h 730 j ≠ 0) ∨ (0 ≤ s ∧ s < n ∧ qz_I h 730 s.toNat = 0 ∧ ∀ j : Nat, s < (j : Int) → (j : Int) < n → qz_I h 730 j ≠ 0) → Q (.inl (some (ez_v (.inl s))), h)) : ∀ (m : Nat) (i : Int), (i + 1).toNat ≤ m → -1 ≤ i → i < n → (∀ j : Nat, i < (j : Int) → (j : Int) < n → qz_I h 730 j ≠ 0) → ez_W d cm_142 4 [(2, .inl (i)), (0, .inr (.inr (some (729)))), (1, .inl (n))] [] h Q := by
  intro m
  induction m with
  | zero =>
    intro i hm i0 i1 hj
    refine ez_go (n := 1) (pc' := 5) (L' := [(2, .inl (i)), (0, .inr (.inr (some (729)))), (1, .inl (n))]) (st' := [.inl (i)]) rfl ?_
    refine ez_if rfl rfl ⟨by first | omega | exact (sz_i32 _).1, by first | omega | exact (sz_i32 _).2⟩ (fun (c1 : (i) < (0)) => ?_) (fun (c1 : ¬((i) < (0))) => ?_)
    · skip
      refine ez_go (n := 1) (pc' := 24) (L' := [(2, .inl (i)), (0, .inr (.inr (some (729)))), (1, .inl (n))]) (st' := [.inl (i)]) rfl ?_
      exact ez_retI rfl rfl (k i (by first | exact Or.inl ⟨by omega, fun j j1 => hj j (by omega) j1⟩ | exact Or.inr ⟨by omega, by omega, by omega, hj⟩))
    · exfalso; omega
  | succ m ih =>
    intro i hm i0 i1 hj
    refine ez_go (n := 1) (pc' := 5) (L' := [(2, .inl (i)), (0, .inr (.inr (some (729)))), (1, .inl (n))]) (st' := [.inl (i)]) rfl ?_
    refine ez_if rfl rfl ⟨by first | omega | exact (sz_i32 _).1, by first | omega | exact (sz_i32 _).2⟩ (fun (c1 : (i) < (0)) => ?_) (fun (c1 : ¬((i) < (0))) => ?_)
    · skip
      refine ez_go (n := 1) (pc' := 24) (L' := [(2, .inl (i)), (0, .inr (.inr (some (729)))), (1, .inl (n))]) (st' := [.inl (i)]) rfl ?_
      exact ez_retI rfl rfl (k i (by first | exact Or.inl ⟨by omega, fun j j1 => hj j (by omega) j1⟩ | exact Or.inr ⟨by omega, by omega, by omega, hj⟩))
    · skip
      refine ez_go (n := 1) (pc' := 9) (L' := [(2, .inl (i)), (0, .inr (.inr (some (729)))), (1, .inl (n))]) (st' := [.inr (.inr (some (729)))]) rfl ?_
      refine ez_gC (p := 730) (tg := 62) hB t729 rfl rfl tq_61 rfl rfl (fun (t730 : _ = 62) => ?_)
      refine ez_go (n := 1) (pc' := 13) (L' := [(2, .inl (i)), (0, .inr (.inr (some (729)))), (1, .inl (n))]) (st' := [.inl (i), .inr (.inr (some (730)))]) rfl ?_
      have n3 : 2000 ≤ qz_N h 730 ∧ qz_N h 730 ≤ 2000 := ez_len hB t730 tq_62 rfl
      refine ez_aI hB t730 rfl tq_62 rfl rfl (by omega) (by omega) (fun (b2 : -2147483648 ≤ qz_I h 730 (i).toNat) (b2' : qz_I h 730 (i).toNat ≤ 2147483647) => ?_)
      refine ez_if rfl rfl ⟨by first | omega | exact (sz_i32 _).1, by first | omega | exact (sz_i32 _).2⟩ (fun (c4 : (qz_I h 730 (i).toNat) = (0)) => ?_) (fun (c4 : ¬((qz_I h 730 (i).toNat) = (0))) => ?_)
      · skip
        refine ez_go (n := 1) (pc' := 24) (L' := [(2, .inl (i)), (0, .inr (.inr (some (729)))), (1, .inl (n))]) (st' := [.inl (i)]) rfl ?_
        exact ez_retI rfl rfl (k i (by first | exact Or.inl ⟨by omega, fun j j1 => hj j (by omega) j1⟩ | exact Or.inr ⟨by omega, by omega, by omega, hj⟩))
      · skip
        refine ez_go (n := 2) (pc' := 4) (L' := [(2, .inl (i + (-1))), (0, .inr (.inr (some (729)))), (1, .inl (n))]) (st' := []) rfl ?_
        refine ez_less [(2, .inl (i + (-1))), (0, .inr (.inr (some (729)))), (1, .inl (n))] rfl ⟨rfl, rfl, rfl, trivial⟩ ?_
        refine ih _ (by omega) (by omega) (by omega) (fun j j1 j2 => ?_)
        by_cases e : (j : Int) = i
        · rw [show j = i.toNat by omega]; omega
        · exact hj j (by omega) j2
theorem rd_lastStarter {n : Int} (hB : ez_B τ h) (t729 : τ 729 = 61) (n0 : 0 ≤ n) (n1 : n ≤ 2000) (k : ∀ s, (s = -1 ∧ ∀ j : Nat, (j : Int) < n → qz_I h 730 j ≠ 0) ∨ (0 ≤ s ∧ s < n ∧ qz_I h 730 s.toNat = 0 ∧ ∀ j : Nat, s < (j : Int) → (j : Int) < n → qz_I h 730 j ≠ 0) → Q (.inl (some (ez_v (.inl s))), h)) : ez_W d cm_142 0 [(0, .inr (.inr (some (729)))), (1, .inl (n))] [] h Q := by
  refine ez_go (n := 4) (pc' := 4) (L' := [(2, .inl ((n) - (1))), (0, .inr (.inr (some (729)))), (1, .inl (n))]) (st' := []) rfl ?_
  refine ez_less [(2, .inl ((n) - (1))), (0, .inr (.inr (some (729)))), (1, .inl (n))] rfl ⟨rfl, rfl, rfl, trivial⟩ ?_
  exact rd_lastStarter_l hB t729 n1 k _ _ (Nat.le_refl _) (by omega) (by omega) (fun j j1 j2 => by omega)

theorem rd_highest_l {f t : Int} (hB : ez_B τ h) (t729 : τ 729 = 61) (f0 : 0 ≤ f) (ft : f ≤ t) (t1 : t ≤ 2000) (k : ∀ w, (∀ j : Nat, f ≤ (j : Int) → (j : Int) < t → qz_I h 730 j ≤ w) ∧ (w = -1 ∨ ∃ j : Nat, f ≤ (j : Int) ∧ (j : Int) < t ∧ qz_I h 730 j = w) ∧ -1 ≤ w → Q (.inl (some (ez_v (.inl w))), h)) : ∀ (m : Nat) (i w : Int), m = (t - i).toNat → f ≤ i → i ≤ t → ez_rg w → (∀ j : Nat, f ≤ (j : Int) → (j : Int) < i → qz_I h 730 j ≤ w) ∧ (w = -1 ∨ ∃ j : Nat, f ≤ (j : Int) ∧ (j : Int) < i ∧ qz_I h 730 j = w) ∧ -1 ≤ w → ez_W (d + 1) cm_141 5 [(4, .inl (i)), (3, .inl (w)), (0, .inr (.inr (some (729)))), (1, .inl (f)), (2, .inl (t))] [] h Q := by
  intro m
  induction m with
  | zero =>
    intro i w hm i0 i1 wr hw
    obtain ⟨wr1, wr2⟩ := id wr
    refine ez_go (n := 2) (pc' := 8) (L' := [(4, .inl (i)), (3, .inl (w)), (0, .inr (.inr (some (729)))), (1, .inl (f)), (2, .inl (t))]) (st' := [.inl (t), .inl (i)]) rfl ?_
    refine ez_icmp rfl rfl ⟨by first | omega | exact (sz_i32 _).1, by first | omega | exact (sz_i32 _).2⟩ ⟨by first | omega | exact (sz_i32 _).1, by first | omega | exact (sz_i32 _).2⟩ (fun (c1 : (t) ≤ (i)) => ?_) (fun (c1 : ¬((t) ≤ (i))) => ?_)
    · skip
      refine ez_go (n := 1) (pc' := 30) (L' := [(4, .inl (i)), (3, .inl (w)), (0, .inr (.inr (some (729)))), (1, .inl (f)), (2, .inl (t))]) (st' := [.inl (w)]) rfl ?_
      exact ez_retI rfl rfl (k w (by rw [show i = t by omega] at hw; exact hw))
    · exfalso; omega
  | succ m ih =>
    intro i w hm i0 i1 wr hw
    obtain ⟨wr1, wr2⟩ := id wr
    refine ez_go (n := 2) (pc' := 8) (L' := [(4, .inl (i)), (3, .inl (w)), (0, .inr (.inr (some (729)))), (1, .inl (f)), (2, .inl (t))]) (st' := [.inl (t), .inl (i)]) rfl ?_
    refine ez_icmp rfl rfl ⟨by first | omega | exact (sz_i32 _).1, by first | omega | exact (sz_i32 _).2⟩ ⟨by first | omega | exact (sz_i32 _).1, by first | omega | exact (sz_i32 _).2⟩ (fun (c1 : (t) ≤ (i)) => ?_) (fun (c1 : ¬((t) ≤ (i))) => ?_)
    · exfalso; omega
    · skip
      refine ez_go (n := 2) (pc' := 13) (L' := [(4, .inl (i)), (3, .inl (w)), (0, .inr (.inr (some (729)))), (1, .inl (f)), (2, .inl (t))]) (st' := [.inr (.inr (some (729))), .inl (w)]) rfl ?_
      refine ez_gC (p := 730) (tg := 62) hB t729 rfl rfl tq_61 rfl rfl (fun (t730 : _ = 62) => ?_)
      refine ez_go (n := 1) (pc' := 18) (L' := [(4, .inl (i)), (3, .inl (w)), (0, .inr (.inr (some (729)))), (1, .inl (f)), (2, .inl (t))]) (st' := [.inl (i), .inr (.inr (some (730))), .inl (w)]) rfl ?_
      have n3 : 2000 ≤ qz_N h 730 ∧ qz_N h 730 ≤ 2000 := ez_len hB t730 tq_62 rfl
      refine ez_aI hB t730 rfl tq_62 rfl rfl (by omega) (by omega) (fun (b2 : -2147483648 ≤ qz_I h 730 (i).toNat) (b2' : qz_I h 730 (i).toNat ≤ 2147483647) => ?_)
      refine ez_cs hB.2.1 rfl rfl rfl rfl rfl (rd_maxE ⟨by omega, by omega⟩ ⟨by omega, by omega⟩ (ez_K1 ?_))
      refine ez_go (n := 3) (pc' := 5) (L' := [(4, .inl (i + 1)), (3, .inl (max (w) (qz_I h 730 (i).toNat))), (0, .inr (.inr (some (729)))), (1, .inl (f)), (2, .inl (t))]) (st' := []) rfl ?_
      refine ez_less [(4, .inl (i + 1)), (3, .inl (max (w) (qz_I h 730 (i).toNat))), (0, .inr (.inr (some (729)))), (1, .inl (f)), (2, .inl (t))] rfl ⟨rfl, rfl, rfl, rfl, rfl, trivial⟩ ?_
      have hw3 := hw.2.2
      refine ih _ _ (by clear hw; omega) (by clear hw; omega) (by clear hw; omega) ⟨by clear hw; omega, by clear hw; omega⟩ ⟨fun j j1 j2 => ?_, ?_, by clear hw; omega⟩
      · by_cases e : (j : Int) = i
        · rw [show j = i.toNat by omega]; omega
        · have := hw.1 j j1 (by omega); omega
      · by_cases e : w ≤ qz_I h 730 (i).toNat
        · exact Or.inr ⟨i.toNat, by omega, by omega, by omega⟩
        · rcases hw.2.1 with v | ⟨j, v1, v2, v3⟩
          · exact Or.inl (by omega)
          · exact Or.inr ⟨j, v1, by omega, by omega⟩
theorem rd_highest {f t : Int} (hB : ez_B τ h) (t729 : τ 729 = 61) (f0 : 0 ≤ f) (ft : f ≤ t) (t1 : t ≤ 2000) (k : ∀ w, (∀ j : Nat, f ≤ (j : Int) → (j : Int) < t → qz_I h 730 j ≤ w) ∧ (w = -1 ∨ ∃ j : Nat, f ≤ (j : Int) ∧ (j : Int) < t ∧ qz_I h 730 j = w) ∧ -1 ≤ w → Q (.inl (some (ez_v (.inl w))), h)) : ez_W (d + 1) cm_141 0 [(0, .inr (.inr (some (729)))), (1, .inl (f)), (2, .inl (t))] [] h Q := by
  refine ez_go (n := 4) (pc' := 5) (L' := [(4, .inl (f)), (3, .inl (-1)), (0, .inr (.inr (some (729)))), (1, .inl (f)), (2, .inl (t))]) (st' := []) rfl ?_
  refine ez_less [(4, .inl (f)), (3, .inl (-1)), (0, .inr (.inr (some (729)))), (1, .inl (f)), (2, .inl (t))] rfl ⟨rfl, rfl, rfl, rfl, rfl, trivial⟩ ?_
  exact rd_highest_l hB t729 f0 ft t1 k _ _ _ rfl (by omega) (by omega) ⟨by omega, by omega⟩ ⟨fun j j1 j2 => by omega, Or.inl rfl, by omega⟩

def co_P (r z : Nat) : Bool := Nat.beq z r || so_P (r + 1) z
theorem co_Pr (r : Nat) : co_P r r = true := by unfold co_P; rw [Nat.beq_refl]; rfl
theorem co_Ps {r z : Nat} (h : so_P (r + 1) z = true) : co_P r z = true := by unfold co_P; rw [h]; exact Bool.or_true _
theorem co_Pn {r z : Nat} (h1 : z ≠ r) (h2 : z ≠ r + 1) (h3 : z < 730 ∨ 732 < z) : co_P r z = false := by unfold co_P; rw [dz_beq_ne h1, so_Pn h2 h3]; rfl
theorem co_new {g : cz_H} {K : List (Int × Int)} {n s hi : Int} {c : Int × Int} {st q : Nat} (_hB : ez_B τ g) (hn : (K.length : Int) = n) (hp : prs g q (K.set st c)) (h9 : (K.set st c).length = K.length) (hs : (s = -1 ∧ ∀ j : Nat, (j : Int) < n → qz_I g 730 j ≠ 0) ∨ (0 ≤ s ∧ s < n ∧ qz_I g 730 s.toNat = 0 ∧ ∀ j : Nat, s < (j : Int) → (j : Int) < n → qz_I g 730 j ≠ 0)) (hh : (∀ j : Nat, s + 1 ≤ (j : Int) → (j : Int) < n → qz_I g 730 j ≤ hi) ∧ (hi = -1 ∨ ∃ j : Nat, s + 1 ≤ (j : Int) ∧ (j : Int) < n ∧ qz_I g 730 j = hi) ∧ -1 ≤ hi) : cst (K.set st c) s hi := by
  have lt : ∀ (j : Nat) y, (K.set st c)[j]? = some y → (j : Int) < n := fun j y hj => by have := (List.getElem?_eq_some_iff.mp hj).1; omega
  refine cst_new ?_ ⟨fun j y h1 h2 => ?_, ?_, hh.2.2⟩
  · rcases hs with ⟨w0, w⟩ | ⟨w0, w1, w2, w3⟩
    · exact Or.inl ⟨w0, fun j y hj => by rw [← (hp j y hj).2]; exact w j (lt j y hj)⟩
    · have l9 : s.toNat < (K.set st c).length := by omega
      refine Or.inr ⟨w0, _, List.getElem?_eq_getElem l9, ?_, fun j y h1 hj => by rw [← (hp j y hj).2]; exact w3 j h1 (lt j y hj)⟩
      rw [← (hp _ _ (List.getElem?_eq_getElem l9)).2]; exact w2
  · rw [← (hp j y h2).2]; exact hh.1 j (by omega) (lt j y h2)
  · rcases hh.2.1 with w | ⟨j, w1, w2, w3⟩
    · exact Or.inl w
    · have l9 : j < (K.set st c).length := by omega
      exact Or.inr ⟨j, _, by omega, List.getElem?_eq_getElem l9, by rw [← (hp _ _ (List.getElem?_eq_getElem l9)).2]; exact w3⟩
theorem rd_compose_l {L : List (Int × Int)} (hC : pz_C τ h T F E) (hw : uz_wf F) (cp : cP h F E) (tr : τ r = 1) (nr : r < 730 ∨ 732 < r) (hl : qz_I h r 1 = (L.length : Int)) (hL : kok F L) (k : ∀ g K, ez_B τ g → ez_fr (co_P r) h g → kcR F E L [] K → kok F K → tx g r (K.map Prod.fst) → Q (.inl none, g)) : ∀ (m : Nat) (i hi st n : Int) (K : List (Int × Int)) (g : cz_H), m = ((L.length : Int) - i).toNat → 0 ≤ i → i ≤ (L.length : Int) → n ≤ i → ez_B τ g → ez_fr (so_P (r + 1)) h g → (K.length : Int) = n → kok F K → prs g (r + 1) K → (∀ (j : Nat) z, i ≤ (j : Int) → L[j]? = some z → qz_I g (r + 1) j = z.1 ∧ qz_I g 730 j = z.2) → cst K st hi → (∀ R, kcR F E (L.drop i.toNat) K R → kcR F E L [] R) → ez_W (d + 2) cm_136 16 [(6, .inl (i)), (5, .inl (hi)), (4, .inl (st)), (3, .inl (n)), (2, .inr (.inr (some (r + 1)))), (0, .inr (.inr (some (729)))), (1, .inr (.inr (some (r))))] [] g Q := by
  have t729 : τ 729 = 61 := hC.2.1 729 (by decide)
  have t723 : τ 723 = 55 := hC.2.1 723 (by decide)
  have t730 : τ 730 = 62 := hC.2.1 730 (by decide)
  have t202 : τ 202 = 48 := hC.2.1 202 (by decide)
  have tp := tx_p1 hC.1 tr
  have np0 : r + 1 ≠ 730 := fun e => by rw [e, t730] at tp; cases tp
  have np1 : r ≠ 730 := fun e => by rw [e, t730] at tr; cases tr
  have hb := tx_l1 hC.1 tr
  rw [hl] at hb
  intro m
  induction m with
  | zero =>
    intro i hi st n K g hm i0 i1 ni hBg hf hn hK hp hq hcs hac
    have cr9 : qz_I g r 1 = (L.length : Int) := (hf.I (so_Pn (by omega) nr) 1).trans hl
    have hst := cst_lt hcs
    have hi1 := hcs.2.2.2
    have stn : -1 ≤ st := by rcases hcs.1 with w | w <;> omega
    refine ez_go (n := 2) (pc' := 19) (L' := [(6, .inl (i)), (5, .inl (hi)), (4, .inl (st)), (3, .inl (n)), (2, .inr (.inr (some (r + 1)))), (0, .inr (.inr (some (729)))), (1, .inr (.inr (some (r))))]) (st' := [.inr (.inr (some (r))), .inl (i)]) rfl ?_
    refine ez_gI hBg tr rfl rfl tq_1 rfl rfl (fun (b1 : 0 ≤ qz_I g r 1) (b1' : qz_I g r 1 ≤ 2000) => ?_)
    refine ez_icmp rfl rfl ⟨by first | omega | exact (sz_i32 _).1, by first | omega | exact (sz_i32 _).2⟩ ⟨by first | omega | exact (sz_i32 _).1, by first | omega | exact (sz_i32 _).2⟩ (fun (c2 : (qz_I g r 1) ≤ (i)) => ?_) (fun (c2 : ¬((qz_I g r 1) ≤ (i))) => ?_)
    · skip
      refine ez_go (n := 2) (pc' := 197) (L' := [(6, .inl (i)), (5, .inl (hi)), (4, .inl (st)), (3, .inl (n)), (2, .inr (.inr (some (r + 1)))), (0, .inr (.inr (some (729)))), (1, .inr (.inr (some (r))))]) (st' := [.inl (n), .inr (.inr (some (r)))]) rfl ?_
      refine ez_pf hBg tr rfl rfl tq_1 rfl rfl rfl rfl (ez_vdI rfl rfl (by omega) (by omega)) (fun hB3 w4 => ?_)
      refine ez_ret0 rfl rfl (k _ K hB3 ((ez_fr_mono hf (fun z hz => co_Ps hz)).put (co_Pr r) _ _) (hac K (by rw [List.drop_of_length_le (by omega)]; rfl)) hK ⟨by rw [w4, List.length_map]; rw [rz_rd ⟨by omega, by omega⟩]; exact hn.symm, fun j v hv => ?_⟩)
      rw [List.getElem?_map] at hv
      obtain ⟨z, z1, z2⟩ := Option.map_eq_some_iff.mp hv
      rw [ez_put_I (fun w => by omega), ← z2]; exact (hp j z z1).1
    · exfalso; omega
  | succ m ih =>
    intro i hi st n K g hm i0 i1 ni hBg hf hn hK hp hq hcs hac
    have cr9 : qz_I g r 1 = (L.length : Int) := (hf.I (so_Pn (by omega) nr) 1).trans hl
    have hst := cst_lt hcs
    have hi1 := hcs.2.2.2
    have stn : -1 ≤ st := by rcases hcs.1 with w | w <;> omega
    by_cases iL : i < (L.length : Int)
    · have l9 : i.toNat < L.length := by omega
      obtain ⟨c, hc9⟩ : ∃ c, c = L[i.toNat] := ⟨_, rfl⟩
      have hc : L[i.toNat]? = some c := by rw [hc9]; exact List.getElem?_eq_getElem l9
      have ec := hq _ _ (by omega) hc
      have cb := (hL c (List.mem_of_getElem? hc)).1
      have ce := (hL c (List.mem_of_getElem? hc)).2
      have c20 : 0 ≤ c.2 := by rw [ce]; exact (hw _).1
      have cr : ez_rg c.2 := by rw [ce]; exact pz_rg hC cb.1 cb.2
      obtain ⟨cr1, cr2⟩ := id cr
      have cl := cst_lst hcs c20
      have hir : hi ≤ 2147483647 := by rcases hcs.2.2.1 with w | ⟨j, y, w1, w2, w3⟩; (· omega); (· have := (hK y (List.mem_of_getElem? w2)); have q := (pz_rg hC this.1.1 this.1.2).2; rw [← this.2] at q; omega)
      have dr : L.drop i.toNat = c :: L.drop (i + 1).toNat := by rw [List.drop_eq_getElem_cons l9, ← hc9, show (i + 1).toNat = i.toNat + 1 by omega]
      refine ez_go (n := 2) (pc' := 19) (L' := [(6, .inl (i)), (5, .inl (hi)), (4, .inl (st)), (3, .inl (n)), (2, .inr (.inr (some (r + 1)))), (0, .inr (.inr (some (729)))), (1, .inr (.inr (some (r))))]) (st' := [.inr (.inr (some (r))), .inl (i)]) rfl ?_
      refine ez_gI hBg tr rfl rfl tq_1 rfl rfl (fun (b1 : 0 ≤ qz_I g r 1) (b1' : qz_I g r 1 ≤ 2000) => ?_)
      refine ez_icmp rfl rfl ⟨by first | omega | exact (sz_i32 _).1, by first | omega | exact (sz_i32 _).2⟩ ⟨by first | omega | exact (sz_i32 _).1, by first | omega | exact (sz_i32 _).2⟩ (fun (c2 : (qz_I g r 1) ≤ (i)) => ?_) (fun (c2 : ¬((qz_I g r 1) ≤ (i))) => ?_)
      · exfalso; omega
      · skip
        refine ez_go (n := 2) (pc' := 28) (L' := [(6, .inl (i)), (5, .inl (hi)), (4, .inl (st)), (3, .inl (n)), (2, .inr (.inr (some (r + 1)))), (0, .inr (.inr (some (729)))), (1, .inr (.inr (some (r))))]) (st' := [.inl (-1), .inl (st)]) rfl ?_
        refine ez_icmp rfl rfl ⟨by first | omega | exact (sz_i32 _).1, by first | omega | exact (sz_i32 _).2⟩ ⟨by first | omega | exact (sz_i32 _).1, by first | omega | exact (sz_i32 _).2⟩ (fun (c3 : (st) = (-1)) => ?_) (fun (c3 : ¬((st) = (-1))) => ?_)
        · skip
          refine ez_go (n := 3) (pc' := 52) (L' := [(7, .inl (0)), (6, .inl (i)), (5, .inl (hi)), (4, .inl (st)), (3, .inl (n)), (2, .inr (.inr (some (r + 1)))), (0, .inr (.inr (some (729)))), (1, .inr (.inr (some (r))))]) (st' := [.inl (0)]) rfl ?_
          refine ez_if rfl rfl ⟨by decide, by decide⟩ (fun _ => ?_) (fun (c4 : ¬((0 : Int) = (0))) => absurd c4 (by decide))
          refine ez_go (n := 4) (pc' := 79) (L' := [(8, .inl (-1)), (7, .inl (0)), (6, .inl (i)), (5, .inl (hi)), (4, .inl (st)), (3, .inl (n)), (2, .inr (.inr (some (r + 1)))), (0, .inr (.inr (some (729)))), (1, .inr (.inr (some (r))))]) (st' := [.inl (-1), .inl (-1)]) rfl ?_
          refine ez_icmp rfl rfl ⟨by decide, by decide⟩ ⟨by decide, by decide⟩ (fun _ => ?_) (fun (c5 : ¬((-1 : Int) = (-1))) => absurd c5 (by decide))
          have hk : kst F E K c (K ++ [c]) := Or.inr ⟨fun s x2 hs => by have q := cl.1 s x2 hs; exfalso; omega, rfl⟩
          refine ez_go (n := 4) (pc' := 140) (L' := [(8, .inl (-1)), (7, .inl (0)), (6, .inl (i)), (5, .inl (hi)), (4, .inl (st)), (3, .inl (n)), (2, .inr (.inr (some (r + 1)))), (0, .inr (.inr (some (729)))), (1, .inr (.inr (some (r))))]) (st' := [.inl (i), .inr (.inr (some (r + 1))), .inl (n), .inr (.inr (some (r + 1)))]) rfl ?_
          have n7 : 2000 ≤ qz_N g (r + 1) ∧ qz_N g (r + 1) ≤ 2000 := ez_len hBg tp tq_2 rfl
          refine ez_aI hBg tp rfl tq_2 rfl rfl (by omega) (by omega) (fun (b6 : -2147483648 ≤ qz_I g (r + 1) (i).toNat) (b6' : qz_I g (r + 1) (i).toNat ≤ 2147483647) => ?_)
          have n10 : 2000 ≤ qz_N g (r + 1) ∧ qz_N g (r + 1) ≤ 2000 := ez_len hBg tp tq_2 rfl
          refine ez_as hBg tp rfl tq_2 rfl rfl (by omega) (by omega) (ez_vdI rfl rfl (by omega) (by omega)) (fun hB8 w9 => ?_)
          refine ez_go (n := 1) (pc' := 143) (L' := [(8, .inl (-1)), (7, .inl (0)), (6, .inl (i)), (5, .inl (hi)), (4, .inl (st)), (3, .inl (n)), (2, .inr (.inr (some (r + 1)))), (0, .inr (.inr (some (729)))), (1, .inr (.inr (some (r))))]) (st' := [.inr (.inr (some (729)))]) rfl ?_
          refine ez_gC (p := 730) (tg := 62) hB8 t729 rfl rfl tq_61 rfl rfl (fun (t730 : _ = 62) => ?_)
          refine ez_go (n := 2) (pc' := 148) (L' := [(8, .inl (-1)), (7, .inl (0)), (6, .inl (i)), (5, .inl (hi)), (4, .inl (st)), (3, .inl (n)), (2, .inr (.inr (some (r + 1)))), (0, .inr (.inr (some (729)))), (1, .inr (.inr (some (r))))]) (st' := [.inr (.inr (some (729))), .inl (n), .inr (.inr (some (730)))]) rfl ?_
          refine ez_gC (p := 730) (tg := 62) hB8 t729 rfl rfl tq_61 rfl rfl (fun (t730 : _ = 62) => ?_)
          refine ez_go (n := 1) (pc' := 153) (L' := [(8, .inl (-1)), (7, .inl (0)), (6, .inl (i)), (5, .inl (hi)), (4, .inl (st)), (3, .inl (n)), (2, .inr (.inr (some (r + 1)))), (0, .inr (.inr (some (729)))), (1, .inr (.inr (some (r))))]) (st' := [.inl (i), .inr (.inr (some (730))), .inl (n), .inr (.inr (some (730)))]) rfl ?_
          have n12 : 2000 ≤ qz_N (dz_put g (r + 1) (n).toNat (ez_v (.inl (qz_I g (r + 1) (i).toNat)))) 730 ∧ qz_N (dz_put g (r + 1) (n).toNat (ez_v (.inl (qz_I g (r + 1) (i).toNat)))) 730 ≤ 2000 := ez_len hB8 t730 tq_62 rfl
          refine ez_aI hB8 t730 rfl tq_62 rfl rfl (by omega) (by omega) (fun (b11 : -2147483648 ≤ qz_I (dz_put g (r + 1) (n).toNat (ez_v (.inl (qz_I g (r + 1) (i).toNat)))) 730 (i).toNat) (b11' : qz_I (dz_put g (r + 1) (n).toNat (ez_v (.inl (qz_I g (r + 1) (i).toNat)))) 730 (i).toNat ≤ 2147483647) => ?_)
          have n15 : 2000 ≤ qz_N (dz_put g (r + 1) (n).toNat (ez_v (.inl (qz_I g (r + 1) (i).toNat)))) 730 ∧ qz_N (dz_put g (r + 1) (n).toNat (ez_v (.inl (qz_I g (r + 1) (i).toNat)))) 730 ≤ 2000 := ez_len hB8 t730 tq_62 rfl
          refine ez_as hB8 t730 rfl tq_62 rfl rfl (by omega) (by omega) (ez_vdI rfl rfl (by omega) (by omega)) (fun hB13 w14 => ?_)
          have e0 : qz_I (dz_put (dz_put g (r + 1) (n).toNat (ez_v (.inl (qz_I g (r + 1) (i).toNat)))) 730 (n).toNat (ez_v (.inl (qz_I (dz_put g (r + 1) (n).toNat (ez_v (.inl (qz_I g (r + 1) (i).toNat)))) 730 (i).toNat)))) (r + 1) (n).toNat = c.1 := by rw [ez_put_I (fun w => by omega), w9, show qz_I g (r + 1) (i).toNat = c.1 from ec.1]; exact ez_rg.v ⟨by omega, by omega⟩
          have e1 : qz_I (dz_put (dz_put g (r + 1) (n).toNat (ez_v (.inl (qz_I g (r + 1) (i).toNat)))) 730 (n).toNat (ez_v (.inl (qz_I (dz_put g (r + 1) (n).toNat (ez_v (.inl (qz_I g (r + 1) (i).toNat)))) 730 (i).toNat)))) 730 (n).toNat = c.2 := by rw [w14, ez_put_I (fun w => by omega), show qz_I g 730 (i).toNat = c.2 from ec.2]; exact ez_rg.v cr
          have e2 : ∀ j, j ≠ n.toNat → qz_I (dz_put (dz_put g (r + 1) (n).toNat (ez_v (.inl (qz_I g (r + 1) (i).toNat)))) 730 (n).toNat (ez_v (.inl (qz_I (dz_put g (r + 1) (n).toNat (ez_v (.inl (qz_I g (r + 1) (i).toNat)))) 730 (i).toNat)))) (r + 1) j = qz_I g (r + 1) j ∧ qz_I (dz_put (dz_put g (r + 1) (n).toNat (ez_v (.inl (qz_I g (r + 1) (i).toNat)))) 730 (n).toNat (ez_v (.inl (qz_I (dz_put g (r + 1) (n).toNat (ez_v (.inl (qz_I g (r + 1) (i).toNat)))) 730 (i).toNat)))) 730 j = qz_I g 730 j := fun j hj => ⟨by rw [ez_put_I (fun w => by omega), ez_put_I (fun w => hj w.2)], by rw [ez_put_I (fun w => hj w.2), ez_put_I (fun w => by omega)]⟩
          have f9 : ez_fr (so_P (r + 1)) h (dz_put (dz_put g (r + 1) (n).toNat (ez_v (.inl (qz_I g (r + 1) (i).toNat)))) 730 (n).toNat (ez_v (.inl (qz_I (dz_put g (r + 1) (n).toNat (ez_v (.inl (qz_I g (r + 1) (i).toNat)))) 730 (i).toNat)))) := (hf.put (so_Pp (r + 1)) _ _).put (so_Po (by decide)) _ _
          have hB9 := hB13
          generalize (dz_put (dz_put g (r + 1) (n).toNat (ez_v (.inl (qz_I g (r + 1) (i).toNat)))) 730 (n).toNat (ez_v (.inl (qz_I (dz_put g (r + 1) (n).toNat (ez_v (.inl (qz_I g (r + 1) (i).toNat)))) 730 (i).toNat)))) = g9 at *
          have p9 : prs g9 (r + 1) (K ++ [c]) := fun j z hz => by
            by_cases ej : j = n.toNat
            · rw [ej, List.getElem?_append_right (by omega), show n.toNat - K.length = 0 by omega] at hz; cases hz; rw [ej]; exact ⟨e0, e1⟩
            · have hj9 := (List.getElem?_eq_some_iff.mp hz).1
              rw [List.length_append, List.length_singleton] at hj9
              rw [List.getElem?_append_left (by omega)] at hz; rw [(e2 j ej).1, (e2 j ej).2]; exact hp j z hz
          have q9 : ∀ (j : Nat) z, i + 1 ≤ (j : Int) → L[j]? = some z → qz_I g9 (r + 1) j = z.1 ∧ qz_I g9 730 j = z.2 := fun j z hj hz => by rw [(e2 j (by omega)).1, (e2 j (by omega)).2]; exact hq j z (by omega) hz
          have n9 : (K ++ [c]).length = K.length + 1 := by rw [List.length_append, List.length_singleton]
          refine ez_go (n := 1) (pc' := 156) (L' := [(8, .inl (-1)), (7, .inl (0)), (6, .inl (i)), (5, .inl (hi)), (4, .inl (st)), (3, .inl (n)), (2, .inr (.inr (some (r + 1)))), (0, .inr (.inr (some (729)))), (1, .inr (.inr (some (r))))]) (st' := [.inr (.inr (some (729)))]) rfl ?_
          refine ez_gC (p := 730) (tg := 62) hB9 t729 rfl rfl tq_61 rfl rfl (fun (t730 : _ = 62) => ?_)
          refine ez_go (n := 1) (pc' := 160) (L' := [(8, .inl (-1)), (7, .inl (0)), (6, .inl (i)), (5, .inl (hi)), (4, .inl (st)), (3, .inl (n)), (2, .inr (.inr (some (r + 1)))), (0, .inr (.inr (some (729)))), (1, .inr (.inr (some (r))))]) (st' := [.inl (n), .inr (.inr (some (730)))]) rfl ?_
          have n17 : 2000 ≤ qz_N g9 730 ∧ qz_N g9 730 ≤ 2000 := ez_len hB9 t730 tq_62 rfl
          refine ez_aI hB9 t730 rfl tq_62 rfl rfl (by omega) (by omega) (fun (b16 : -2147483648 ≤ qz_I g9 730 (n).toNat) (b16' : qz_I g9 730 (n).toNat ≤ 2147483647) => ?_)
          rw [e1]
          refine ez_if rfl rfl ⟨by first | omega | exact (sz_i32 _).1, by first | omega | exact (sz_i32 _).2⟩ (fun (c18 : (c.2) ≠ (0)) => ?_) (fun (c18 : ¬((c.2) ≠ (0))) => ?_)
          · skip
            refine ez_go (n := 2) (pc' := 176) (L' := [(8, .inl (-1)), (7, .inl (0)), (6, .inl (i)), (5, .inl (hi)), (4, .inl (st)), (3, .inl (n)), (2, .inr (.inr (some (r + 1)))), (0, .inr (.inr (some (729)))), (1, .inr (.inr (some (r))))]) (st' := [.inr (.inr (some (729))), .inl (hi)]) rfl ?_
            refine ez_gC (p := 730) (tg := 62) hB9 t729 rfl rfl tq_61 rfl rfl (fun (t730 : _ = 62) => ?_)
            refine ez_go (n := 1) (pc' := 180) (L' := [(8, .inl (-1)), (7, .inl (0)), (6, .inl (i)), (5, .inl (hi)), (4, .inl (st)), (3, .inl (n)), (2, .inr (.inr (some (r + 1)))), (0, .inr (.inr (some (729)))), (1, .inr (.inr (some (r))))]) (st' := [.inl (n), .inr (.inr (some (730))), .inl (hi)]) rfl ?_
            have n20 : 2000 ≤ qz_N g9 730 ∧ qz_N g9 730 ≤ 2000 := ez_len hB9 t730 tq_62 rfl
            refine ez_aI hB9 t730 rfl tq_62 rfl rfl (by omega) (by omega) (fun (b19 : -2147483648 ≤ qz_I g9 730 (n).toNat) (b19' : qz_I g9 730 (n).toNat ≤ 2147483647) => ?_)
            rw [e1]
            refine ez_cs hB9.2.1 rfl rfl rfl rfl rfl (rd_maxE ⟨by omega, by omega⟩ ⟨by omega, by omega⟩ (ez_K1 ?_))
            refine ez_go (n := 4) (pc' := 16) (L' := [(6, .inl (i + 1)), (3, .inl (n + 1)), (5, .inl (max (hi) (c.2))), (8, .inl (-1)), (7, .inl (0)), (4, .inl (st)), (2, .inr (.inr (some (r + 1)))), (0, .inr (.inr (some (729)))), (1, .inr (.inr (some (r))))]) (st' := []) rfl ?_
            refine ez_less [(6, .inl (i + 1)), (5, .inl (max (hi) (c.2))), (4, .inl (st)), (3, .inl (n + 1)), (2, .inr (.inr (some (r + 1)))), (0, .inr (.inr (some (729)))), (1, .inr (.inr (some (r))))] rfl ⟨rfl, rfl, rfl, rfl, rfl, rfl, rfl, trivial⟩ ?_
            refine ih _ _ _ _ (K ++ [c]) g9 (by omega) (by omega) (by omega) (by omega) hB9 f9 (by rw [n9]; omega) (kst_ok hw hk hK (hL c (List.mem_of_getElem? hc))) p9 q9 (cst_n hcs hst (by omega) c20) (fun R hR => hac R ?_)
            rw [dr]; exact ⟨_, hk, hR⟩
          · skip
            refine ez_go (n := 8) (pc' := 16) (L' := [(6, .inl (i + 1)), (3, .inl (n + 1)), (5, .inl (-1)), (4, .inl (n)), (8, .inl (-1)), (7, .inl (0)), (2, .inr (.inr (some (r + 1)))), (0, .inr (.inr (some (729)))), (1, .inr (.inr (some (r))))]) (st' := []) rfl ?_
            refine ez_less [(6, .inl (i + 1)), (5, .inl (-1)), (4, .inl (n)), (3, .inl (n + 1)), (2, .inr (.inr (some (r + 1)))), (0, .inr (.inr (some (729)))), (1, .inr (.inr (some (r))))] rfl ⟨rfl, rfl, rfl, rfl, rfl, rfl, rfl, trivial⟩ ?_
            refine ih _ _ _ _ (K ++ [c]) g9 (by omega) (by omega) (by omega) (by omega) hB9 f9 (by rw [n9]; omega) (kst_ok hw hk hK (hL c (List.mem_of_getElem? hc))) p9 q9 (by rw [← hn]; exact cst_z (st := st) (hi := hi) (by omega)) (fun R hR => hac R ?_)
            rw [dr]; exact ⟨_, hk, hR⟩
        · skip
          refine ez_go (n := 2) (pc' := 34) (L' := [(6, .inl (i)), (5, .inl (hi)), (4, .inl (st)), (3, .inl (n)), (2, .inr (.inr (some (r + 1)))), (0, .inr (.inr (some (729)))), (1, .inr (.inr (some (r))))]) (st' := [.inr (.inr (some (729))), .inl (hi)]) rfl ?_
          refine ez_gC (p := 730) (tg := 62) hBg t729 rfl rfl tq_61 rfl rfl (fun (t730 : _ = 62) => ?_)
          refine ez_go (n := 1) (pc' := 39) (L' := [(6, .inl (i)), (5, .inl (hi)), (4, .inl (st)), (3, .inl (n)), (2, .inr (.inr (some (r + 1)))), (0, .inr (.inr (some (729)))), (1, .inr (.inr (some (r))))]) (st' := [.inl (i), .inr (.inr (some (730))), .inl (hi)]) rfl ?_
          have n22 : 2000 ≤ qz_N g 730 ∧ qz_N g 730 ≤ 2000 := ez_len hBg t730 tq_62 rfl
          refine ez_aI hBg t730 rfl tq_62 rfl rfl (by omega) (by omega) (fun (b21 : -2147483648 ≤ qz_I g 730 (i).toNat) (b21' : qz_I g 730 (i).toNat ≤ 2147483647) => ?_)
          rw [show qz_I g 730 (i).toNat = c.2 from ec.2]
          refine ez_icmp rfl rfl ⟨by first | omega | exact (sz_i32 _).1, by first | omega | exact (sz_i32 _).2⟩ ⟨by first | omega | exact (sz_i32 _).1, by first | omega | exact (sz_i32 _).2⟩ (fun (c23 : (c.2) ≤ (hi)) => ?_) (fun (c23 : ¬((c.2) ≤ (hi))) => ?_)
          · skip
            refine ez_go (n := 3) (pc' := 52) (L' := [(7, .inl (0)), (6, .inl (i)), (5, .inl (hi)), (4, .inl (st)), (3, .inl (n)), (2, .inr (.inr (some (r + 1)))), (0, .inr (.inr (some (729)))), (1, .inr (.inr (some (r))))]) (st' := [.inl (0)]) rfl ?_
            refine ez_if rfl rfl ⟨by decide, by decide⟩ (fun _ => ?_) (fun (c24 : ¬((0 : Int) = (0))) => absurd c24 (by decide))
            refine ez_go (n := 4) (pc' := 79) (L' := [(8, .inl (-1)), (7, .inl (0)), (6, .inl (i)), (5, .inl (hi)), (4, .inl (st)), (3, .inl (n)), (2, .inr (.inr (some (r + 1)))), (0, .inr (.inr (some (729)))), (1, .inr (.inr (some (r))))]) (st' := [.inl (-1), .inl (-1)]) rfl ?_
            refine ez_icmp rfl rfl ⟨by decide, by decide⟩ ⟨by decide, by decide⟩ (fun _ => ?_) (fun (c25 : ¬((-1 : Int) = (-1))) => absurd c25 (by decide))
            have hk : kst F E K c (K ++ [c]) := Or.inr ⟨fun s x2 hs => by have q := cl.1 s x2 hs; exfalso; omega, rfl⟩
            refine ez_go (n := 4) (pc' := 140) (L' := [(8, .inl (-1)), (7, .inl (0)), (6, .inl (i)), (5, .inl (hi)), (4, .inl (st)), (3, .inl (n)), (2, .inr (.inr (some (r + 1)))), (0, .inr (.inr (some (729)))), (1, .inr (.inr (some (r))))]) (st' := [.inl (i), .inr (.inr (some (r + 1))), .inl (n), .inr (.inr (some (r + 1)))]) rfl ?_
            have n27 : 2000 ≤ qz_N g (r + 1) ∧ qz_N g (r + 1) ≤ 2000 := ez_len hBg tp tq_2 rfl
            refine ez_aI hBg tp rfl tq_2 rfl rfl (by omega) (by omega) (fun (b26 : -2147483648 ≤ qz_I g (r + 1) (i).toNat) (b26' : qz_I g (r + 1) (i).toNat ≤ 2147483647) => ?_)
            have n30 : 2000 ≤ qz_N g (r + 1) ∧ qz_N g (r + 1) ≤ 2000 := ez_len hBg tp tq_2 rfl
            refine ez_as hBg tp rfl tq_2 rfl rfl (by omega) (by omega) (ez_vdI rfl rfl (by omega) (by omega)) (fun hB28 w29 => ?_)
            refine ez_go (n := 1) (pc' := 143) (L' := [(8, .inl (-1)), (7, .inl (0)), (6, .inl (i)), (5, .inl (hi)), (4, .inl (st)), (3, .inl (n)), (2, .inr (.inr (some (r + 1)))), (0, .inr (.inr (some (729)))), (1, .inr (.inr (some (r))))]) (st' := [.inr (.inr (some (729)))]) rfl ?_
            refine ez_gC (p := 730) (tg := 62) hB28 t729 rfl rfl tq_61 rfl rfl (fun (t730 : _ = 62) => ?_)
            refine ez_go (n := 2) (pc' := 148) (L' := [(8, .inl (-1)), (7, .inl (0)), (6, .inl (i)), (5, .inl (hi)), (4, .inl (st)), (3, .inl (n)), (2, .inr (.inr (some (r + 1)))), (0, .inr (.inr (some (729)))), (1, .inr (.inr (some (r))))]) (st' := [.inr (.inr (some (729))), .inl (n), .inr (.inr (some (730)))]) rfl ?_
            refine ez_gC (p := 730) (tg := 62) hB28 t729 rfl rfl tq_61 rfl rfl (fun (t730 : _ = 62) => ?_)
            refine ez_go (n := 1) (pc' := 153) (L' := [(8, .inl (-1)), (7, .inl (0)), (6, .inl (i)), (5, .inl (hi)), (4, .inl (st)), (3, .inl (n)), (2, .inr (.inr (some (r + 1)))), (0, .inr (.inr (some (729)))), (1, .inr (.inr (some (r))))]) (st' := [.inl (i), .inr (.inr (some (730))), .inl (n), .inr (.inr (some (730)))]) rfl ?_
            have n32 : 2000 ≤ qz_N (dz_put g (r + 1) (n).toNat (ez_v (.inl (qz_I g (r + 1) (i).toNat)))) 730 ∧ qz_N (dz_put g (r + 1) (n).toNat (ez_v (.inl (qz_I g (r + 1) (i).toNat)))) 730 ≤ 2000 := ez_len hB28 t730 tq_62 rfl
            refine ez_aI hB28 t730 rfl tq_62 rfl rfl (by omega) (by omega) (fun (b31 : -2147483648 ≤ qz_I (dz_put g (r + 1) (n).toNat (ez_v (.inl (qz_I g (r + 1) (i).toNat)))) 730 (i).toNat) (b31' : qz_I (dz_put g (r + 1) (n).toNat (ez_v (.inl (qz_I g (r + 1) (i).toNat)))) 730 (i).toNat ≤ 2147483647) => ?_)
            have n35 : 2000 ≤ qz_N (dz_put g (r + 1) (n).toNat (ez_v (.inl (qz_I g (r + 1) (i).toNat)))) 730 ∧ qz_N (dz_put g (r + 1) (n).toNat (ez_v (.inl (qz_I g (r + 1) (i).toNat)))) 730 ≤ 2000 := ez_len hB28 t730 tq_62 rfl
            refine ez_as hB28 t730 rfl tq_62 rfl rfl (by omega) (by omega) (ez_vdI rfl rfl (by omega) (by omega)) (fun hB33 w34 => ?_)
            have e0 : qz_I (dz_put (dz_put g (r + 1) (n).toNat (ez_v (.inl (qz_I g (r + 1) (i).toNat)))) 730 (n).toNat (ez_v (.inl (qz_I (dz_put g (r + 1) (n).toNat (ez_v (.inl (qz_I g (r + 1) (i).toNat)))) 730 (i).toNat)))) (r + 1) (n).toNat = c.1 := by rw [ez_put_I (fun w => by omega), w29, show qz_I g (r + 1) (i).toNat = c.1 from ec.1]; exact ez_rg.v ⟨by omega, by omega⟩
            have e1 : qz_I (dz_put (dz_put g (r + 1) (n).toNat (ez_v (.inl (qz_I g (r + 1) (i).toNat)))) 730 (n).toNat (ez_v (.inl (qz_I (dz_put g (r + 1) (n).toNat (ez_v (.inl (qz_I g (r + 1) (i).toNat)))) 730 (i).toNat)))) 730 (n).toNat = c.2 := by rw [w34, ez_put_I (fun w => by omega), show qz_I g 730 (i).toNat = c.2 from ec.2]; exact ez_rg.v cr
            have e2 : ∀ j, j ≠ n.toNat → qz_I (dz_put (dz_put g (r + 1) (n).toNat (ez_v (.inl (qz_I g (r + 1) (i).toNat)))) 730 (n).toNat (ez_v (.inl (qz_I (dz_put g (r + 1) (n).toNat (ez_v (.inl (qz_I g (r + 1) (i).toNat)))) 730 (i).toNat)))) (r + 1) j = qz_I g (r + 1) j ∧ qz_I (dz_put (dz_put g (r + 1) (n).toNat (ez_v (.inl (qz_I g (r + 1) (i).toNat)))) 730 (n).toNat (ez_v (.inl (qz_I (dz_put g (r + 1) (n).toNat (ez_v (.inl (qz_I g (r + 1) (i).toNat)))) 730 (i).toNat)))) 730 j = qz_I g 730 j := fun j hj => ⟨by rw [ez_put_I (fun w => by omega), ez_put_I (fun w => hj w.2)], by rw [ez_put_I (fun w => hj w.2), ez_put_I (fun w => by omega)]⟩
            have f9 : ez_fr (so_P (r + 1)) h (dz_put (dz_put g (r + 1) (n).toNat (ez_v (.inl (qz_I g (r + 1) (i).toNat)))) 730 (n).toNat (ez_v (.inl (qz_I (dz_put g (r + 1) (n).toNat (ez_v (.inl (qz_I g (r + 1) (i).toNat)))) 730 (i).toNat)))) := (hf.put (so_Pp (r + 1)) _ _).put (so_Po (by decide)) _ _
            have hB9 := hB33
            generalize (dz_put (dz_put g (r + 1) (n).toNat (ez_v (.inl (qz_I g (r + 1) (i).toNat)))) 730 (n).toNat (ez_v (.inl (qz_I (dz_put g (r + 1) (n).toNat (ez_v (.inl (qz_I g (r + 1) (i).toNat)))) 730 (i).toNat)))) = g9 at *
            have p9 : prs g9 (r + 1) (K ++ [c]) := fun j z hz => by
              by_cases ej : j = n.toNat
              · rw [ej, List.getElem?_append_right (by omega), show n.toNat - K.length = 0 by omega] at hz; cases hz; rw [ej]; exact ⟨e0, e1⟩
              · have hj9 := (List.getElem?_eq_some_iff.mp hz).1
                rw [List.length_append, List.length_singleton] at hj9
                rw [List.getElem?_append_left (by omega)] at hz; rw [(e2 j ej).1, (e2 j ej).2]; exact hp j z hz
            have q9 : ∀ (j : Nat) z, i + 1 ≤ (j : Int) → L[j]? = some z → qz_I g9 (r + 1) j = z.1 ∧ qz_I g9 730 j = z.2 := fun j z hj hz => by rw [(e2 j (by omega)).1, (e2 j (by omega)).2]; exact hq j z (by omega) hz
            have n9 : (K ++ [c]).length = K.length + 1 := by rw [List.length_append, List.length_singleton]
            refine ez_go (n := 1) (pc' := 156) (L' := [(8, .inl (-1)), (7, .inl (0)), (6, .inl (i)), (5, .inl (hi)), (4, .inl (st)), (3, .inl (n)), (2, .inr (.inr (some (r + 1)))), (0, .inr (.inr (some (729)))), (1, .inr (.inr (some (r))))]) (st' := [.inr (.inr (some (729)))]) rfl ?_
            refine ez_gC (p := 730) (tg := 62) hB9 t729 rfl rfl tq_61 rfl rfl (fun (t730 : _ = 62) => ?_)
            refine ez_go (n := 1) (pc' := 160) (L' := [(8, .inl (-1)), (7, .inl (0)), (6, .inl (i)), (5, .inl (hi)), (4, .inl (st)), (3, .inl (n)), (2, .inr (.inr (some (r + 1)))), (0, .inr (.inr (some (729)))), (1, .inr (.inr (some (r))))]) (st' := [.inl (n), .inr (.inr (some (730)))]) rfl ?_
            have n37 : 2000 ≤ qz_N g9 730 ∧ qz_N g9 730 ≤ 2000 := ez_len hB9 t730 tq_62 rfl
            refine ez_aI hB9 t730 rfl tq_62 rfl rfl (by omega) (by omega) (fun (b36 : -2147483648 ≤ qz_I g9 730 (n).toNat) (b36' : qz_I g9 730 (n).toNat ≤ 2147483647) => ?_)
            rw [e1]
            refine ez_if rfl rfl ⟨by first | omega | exact (sz_i32 _).1, by first | omega | exact (sz_i32 _).2⟩ (fun (c38 : (c.2) ≠ (0)) => ?_) (fun (c38 : ¬((c.2) ≠ (0))) => ?_)
            · skip
              refine ez_go (n := 2) (pc' := 176) (L' := [(8, .inl (-1)), (7, .inl (0)), (6, .inl (i)), (5, .inl (hi)), (4, .inl (st)), (3, .inl (n)), (2, .inr (.inr (some (r + 1)))), (0, .inr (.inr (some (729)))), (1, .inr (.inr (some (r))))]) (st' := [.inr (.inr (some (729))), .inl (hi)]) rfl ?_
              refine ez_gC (p := 730) (tg := 62) hB9 t729 rfl rfl tq_61 rfl rfl (fun (t730 : _ = 62) => ?_)
              refine ez_go (n := 1) (pc' := 180) (L' := [(8, .inl (-1)), (7, .inl (0)), (6, .inl (i)), (5, .inl (hi)), (4, .inl (st)), (3, .inl (n)), (2, .inr (.inr (some (r + 1)))), (0, .inr (.inr (some (729)))), (1, .inr (.inr (some (r))))]) (st' := [.inl (n), .inr (.inr (some (730))), .inl (hi)]) rfl ?_
              have n40 : 2000 ≤ qz_N g9 730 ∧ qz_N g9 730 ≤ 2000 := ez_len hB9 t730 tq_62 rfl
              refine ez_aI hB9 t730 rfl tq_62 rfl rfl (by omega) (by omega) (fun (b39 : -2147483648 ≤ qz_I g9 730 (n).toNat) (b39' : qz_I g9 730 (n).toNat ≤ 2147483647) => ?_)
              rw [e1]
              refine ez_cs hB9.2.1 rfl rfl rfl rfl rfl (rd_maxE ⟨by omega, by omega⟩ ⟨by omega, by omega⟩ (ez_K1 ?_))
              refine ez_go (n := 4) (pc' := 16) (L' := [(6, .inl (i + 1)), (3, .inl (n + 1)), (5, .inl (max (hi) (c.2))), (8, .inl (-1)), (7, .inl (0)), (4, .inl (st)), (2, .inr (.inr (some (r + 1)))), (0, .inr (.inr (some (729)))), (1, .inr (.inr (some (r))))]) (st' := []) rfl ?_
              refine ez_less [(6, .inl (i + 1)), (5, .inl (max (hi) (c.2))), (4, .inl (st)), (3, .inl (n + 1)), (2, .inr (.inr (some (r + 1)))), (0, .inr (.inr (some (729)))), (1, .inr (.inr (some (r))))] rfl ⟨rfl, rfl, rfl, rfl, rfl, rfl, rfl, trivial⟩ ?_
              refine ih _ _ _ _ (K ++ [c]) g9 (by omega) (by omega) (by omega) (by omega) hB9 f9 (by rw [n9]; omega) (kst_ok hw hk hK (hL c (List.mem_of_getElem? hc))) p9 q9 (cst_n hcs hst (by omega) c20) (fun R hR => hac R ?_)
              rw [dr]; exact ⟨_, hk, hR⟩
            · skip
              refine ez_go (n := 8) (pc' := 16) (L' := [(6, .inl (i + 1)), (3, .inl (n + 1)), (5, .inl (-1)), (4, .inl (n)), (8, .inl (-1)), (7, .inl (0)), (2, .inr (.inr (some (r + 1)))), (0, .inr (.inr (some (729)))), (1, .inr (.inr (some (r))))]) (st' := []) rfl ?_
              refine ez_less [(6, .inl (i + 1)), (5, .inl (-1)), (4, .inl (n)), (3, .inl (n + 1)), (2, .inr (.inr (some (r + 1)))), (0, .inr (.inr (some (729)))), (1, .inr (.inr (some (r))))] rfl ⟨rfl, rfl, rfl, rfl, rfl, rfl, rfl, trivial⟩ ?_
              refine ih _ _ _ _ (K ++ [c]) g9 (by omega) (by omega) (by omega) (by omega) hB9 f9 (by rw [n9]; omega) (kst_ok hw hk hK (hL c (List.mem_of_getElem? hc))) p9 q9 (by rw [← hn]; exact cst_z (st := st) (hi := hi) (by omega)) (fun R hR => hac R ?_)
              rw [dr]; exact ⟨_, hk, hR⟩
          · skip
            refine ez_go (n := 4) (pc' := 52) (L' := [(7, .inl (1)), (6, .inl (i)), (5, .inl (hi)), (4, .inl (st)), (3, .inl (n)), (2, .inr (.inr (some (r + 1)))), (0, .inr (.inr (some (729)))), (1, .inr (.inr (some (r))))]) (st' := [.inl (1)]) rfl ?_
            refine ez_if rfl rfl ⟨by decide, by decide⟩ (fun (c41 : (1 : Int) = (0)) => absurd c41 (by decide)) (fun _ => ?_)
            refine ez_go (n := 1) (pc' := 56) (L' := [(7, .inl (1)), (6, .inl (i)), (5, .inl (hi)), (4, .inl (st)), (3, .inl (n)), (2, .inr (.inr (some (r + 1)))), (0, .inr (.inr (some (729)))), (1, .inr (.inr (some (r))))]) (st' := [.inr (.inr (some (729)))]) rfl ?_
            refine ez_gC (p := 723) (tg := 55) hBg t729 rfl rfl tq_61 rfl rfl (fun (t723 : _ = 55) => ?_)
            refine ez_go (n := 2) (pc' := 62) (L' := [(7, .inl (1)), (6, .inl (i)), (5, .inl (hi)), (4, .inl (st)), (3, .inl (n)), (2, .inr (.inr (some (r + 1)))), (0, .inr (.inr (some (729)))), (1, .inr (.inr (some (r))))]) (st' := [.inl (st), .inr (.inr (some (r + 1))), .inr (.inr (some (723)))]) rfl ?_
            have n43 : 2000 ≤ qz_N g (r + 1) ∧ qz_N g (r + 1) ≤ 2000 := ez_len hBg tp tq_2 rfl
            refine ez_aI hBg tp rfl tq_2 rfl rfl (by omega) (by omega) (fun (b42 : -2147483648 ≤ qz_I g (r + 1) (st).toNat) (b42' : qz_I g (r + 1) (st).toNat ≤ 2147483647) => ?_)
            refine ez_go (n := 2) (pc' := 66) (L' := [(7, .inl (1)), (6, .inl (i)), (5, .inl (hi)), (4, .inl (st)), (3, .inl (n)), (2, .inr (.inr (some (r + 1)))), (0, .inr (.inr (some (729)))), (1, .inr (.inr (some (r))))]) (st' := [.inl (i), .inr (.inr (some (r + 1))), .inl (qz_I g (r + 1) (st).toNat), .inr (.inr (some (723)))]) rfl ?_
            have n45 : 2000 ≤ qz_N g (r + 1) ∧ qz_N g (r + 1) ≤ 2000 := ez_len hBg tp tq_2 rfl
            refine ez_aI hBg tp rfl tq_2 rfl rfl (by omega) (by omega) (fun (b44 : -2147483648 ≤ qz_I g (r + 1) (i).toNat) (b44' : qz_I g (r + 1) (i).toNat ≤ 2147483647) => ?_)
            have sl9 : st.toNat < K.length := by omega
            have ex := hp _ _ (List.getElem?_eq_getElem sl9)
            obtain ⟨x, hx⟩ : ∃ x, x = K[st.toNat] := ⟨_, rfl⟩
            rw [← hx] at ex
            have hx2 : K[st.toNat]? = some x := by rw [hx]; exact List.getElem?_eq_getElem sl9
            have xb := (hK x (List.mem_of_getElem? hx2)).1
            have cb := (hL c (List.mem_of_getElem? hc)).1
            have cpg : cP g F E := cp.keep (so_keep hC.2.1 tp hf (by rw [t723]; decide) (by rw [t723]; decide)) (so_keep hC.2.1 tp hf (by rw [hC.2.1 727 (by decide)]; decide) (by rw [hC.2.1 727 (by decide)]; decide)) (so_keep hC.2.1 tp hf (by rw [hC.2.1 728 (by decide)]; decide) (by rw [hC.2.1 728 (by decide)]; decide))
            rw [show qz_I g (r + 1) (st).toNat = x.1 from ex.1, show qz_I g (r + 1) (i).toNat = c.1 from ec.1]
            refine ez_cv hBg t723 rfl rfl rfl tq_55 rfl rfl rfl (rd_compositeOf hBg hC.2.1 hw cpg xb.1 xb.2 cb.1 cb.2 (fun v hv => ez_K1 ?_))
            have vb := cpR_bd hw hv
            refine ez_go (n := 4) (pc' := 79) (L' := [(8, .inl (v)), (7, .inl (1)), (6, .inl (i)), (5, .inl (hi)), (4, .inl (st)), (3, .inl (n)), (2, .inr (.inr (some (r + 1)))), (0, .inr (.inr (some (729)))), (1, .inr (.inr (some (r))))]) (st' := [.inl (-1), .inl (v)]) rfl ?_
            refine ez_icmp rfl rfl ⟨by first | omega | exact (sz_i32 _).1, by first | omega | exact (sz_i32 _).2⟩ ⟨by first | omega | exact (sz_i32 _).1, by first | omega | exact (sz_i32 _).2⟩ (fun (c46 : (v) = (-1)) => ?_) (fun (c46 : ¬((v) = (-1))) => ?_)
            · skip
              have hk : kst F E K c (K ++ [c]) := Or.inr ⟨fun s x2 hs => by have q := cl.1 s x2 hs; have e2 := hs.1; rw [show s = st.toNat by omega, hx2] at e2; cases e2; rw [show (-1 : Int) = v by omega]; exact hv, rfl⟩
              refine ez_go (n := 4) (pc' := 140) (L' := [(8, .inl (v)), (7, .inl (1)), (6, .inl (i)), (5, .inl (hi)), (4, .inl (st)), (3, .inl (n)), (2, .inr (.inr (some (r + 1)))), (0, .inr (.inr (some (729)))), (1, .inr (.inr (some (r))))]) (st' := [.inl (i), .inr (.inr (some (r + 1))), .inl (n), .inr (.inr (some (r + 1)))]) rfl ?_
              have n48 : 2000 ≤ qz_N g (r + 1) ∧ qz_N g (r + 1) ≤ 2000 := ez_len hBg tp tq_2 rfl
              refine ez_aI hBg tp rfl tq_2 rfl rfl (by omega) (by omega) (fun (b47 : -2147483648 ≤ qz_I g (r + 1) (i).toNat) (b47' : qz_I g (r + 1) (i).toNat ≤ 2147483647) => ?_)
              have n51 : 2000 ≤ qz_N g (r + 1) ∧ qz_N g (r + 1) ≤ 2000 := ez_len hBg tp tq_2 rfl
              refine ez_as hBg tp rfl tq_2 rfl rfl (by omega) (by omega) (ez_vdI rfl rfl (by omega) (by omega)) (fun hB49 w50 => ?_)
              refine ez_go (n := 1) (pc' := 143) (L' := [(8, .inl (v)), (7, .inl (1)), (6, .inl (i)), (5, .inl (hi)), (4, .inl (st)), (3, .inl (n)), (2, .inr (.inr (some (r + 1)))), (0, .inr (.inr (some (729)))), (1, .inr (.inr (some (r))))]) (st' := [.inr (.inr (some (729)))]) rfl ?_
              refine ez_gC (p := 730) (tg := 62) hB49 t729 rfl rfl tq_61 rfl rfl (fun (t730 : _ = 62) => ?_)
              refine ez_go (n := 2) (pc' := 148) (L' := [(8, .inl (v)), (7, .inl (1)), (6, .inl (i)), (5, .inl (hi)), (4, .inl (st)), (3, .inl (n)), (2, .inr (.inr (some (r + 1)))), (0, .inr (.inr (some (729)))), (1, .inr (.inr (some (r))))]) (st' := [.inr (.inr (some (729))), .inl (n), .inr (.inr (some (730)))]) rfl ?_
              refine ez_gC (p := 730) (tg := 62) hB49 t729 rfl rfl tq_61 rfl rfl (fun (t730 : _ = 62) => ?_)
              refine ez_go (n := 1) (pc' := 153) (L' := [(8, .inl (v)), (7, .inl (1)), (6, .inl (i)), (5, .inl (hi)), (4, .inl (st)), (3, .inl (n)), (2, .inr (.inr (some (r + 1)))), (0, .inr (.inr (some (729)))), (1, .inr (.inr (some (r))))]) (st' := [.inl (i), .inr (.inr (some (730))), .inl (n), .inr (.inr (some (730)))]) rfl ?_
              have n53 : 2000 ≤ qz_N (dz_put g (r + 1) (n).toNat (ez_v (.inl (qz_I g (r + 1) (i).toNat)))) 730 ∧ qz_N (dz_put g (r + 1) (n).toNat (ez_v (.inl (qz_I g (r + 1) (i).toNat)))) 730 ≤ 2000 := ez_len hB49 t730 tq_62 rfl
              refine ez_aI hB49 t730 rfl tq_62 rfl rfl (by omega) (by omega) (fun (b52 : -2147483648 ≤ qz_I (dz_put g (r + 1) (n).toNat (ez_v (.inl (qz_I g (r + 1) (i).toNat)))) 730 (i).toNat) (b52' : qz_I (dz_put g (r + 1) (n).toNat (ez_v (.inl (qz_I g (r + 1) (i).toNat)))) 730 (i).toNat ≤ 2147483647) => ?_)
              have n56 : 2000 ≤ qz_N (dz_put g (r + 1) (n).toNat (ez_v (.inl (qz_I g (r + 1) (i).toNat)))) 730 ∧ qz_N (dz_put g (r + 1) (n).toNat (ez_v (.inl (qz_I g (r + 1) (i).toNat)))) 730 ≤ 2000 := ez_len hB49 t730 tq_62 rfl
              refine ez_as hB49 t730 rfl tq_62 rfl rfl (by omega) (by omega) (ez_vdI rfl rfl (by omega) (by omega)) (fun hB54 w55 => ?_)
              have e0 : qz_I (dz_put (dz_put g (r + 1) (n).toNat (ez_v (.inl (qz_I g (r + 1) (i).toNat)))) 730 (n).toNat (ez_v (.inl (qz_I (dz_put g (r + 1) (n).toNat (ez_v (.inl (qz_I g (r + 1) (i).toNat)))) 730 (i).toNat)))) (r + 1) (n).toNat = c.1 := by rw [ez_put_I (fun w => by omega), w50, show qz_I g (r + 1) (i).toNat = c.1 from ec.1]; exact ez_rg.v ⟨by omega, by omega⟩
              have e1 : qz_I (dz_put (dz_put g (r + 1) (n).toNat (ez_v (.inl (qz_I g (r + 1) (i).toNat)))) 730 (n).toNat (ez_v (.inl (qz_I (dz_put g (r + 1) (n).toNat (ez_v (.inl (qz_I g (r + 1) (i).toNat)))) 730 (i).toNat)))) 730 (n).toNat = c.2 := by rw [w55, ez_put_I (fun w => by omega), show qz_I g 730 (i).toNat = c.2 from ec.2]; exact ez_rg.v cr
              have e2 : ∀ j, j ≠ n.toNat → qz_I (dz_put (dz_put g (r + 1) (n).toNat (ez_v (.inl (qz_I g (r + 1) (i).toNat)))) 730 (n).toNat (ez_v (.inl (qz_I (dz_put g (r + 1) (n).toNat (ez_v (.inl (qz_I g (r + 1) (i).toNat)))) 730 (i).toNat)))) (r + 1) j = qz_I g (r + 1) j ∧ qz_I (dz_put (dz_put g (r + 1) (n).toNat (ez_v (.inl (qz_I g (r + 1) (i).toNat)))) 730 (n).toNat (ez_v (.inl (qz_I (dz_put g (r + 1) (n).toNat (ez_v (.inl (qz_I g (r + 1) (i).toNat)))) 730 (i).toNat)))) 730 j = qz_I g 730 j := fun j hj => ⟨by rw [ez_put_I (fun w => by omega), ez_put_I (fun w => hj w.2)], by rw [ez_put_I (fun w => hj w.2), ez_put_I (fun w => by omega)]⟩
              have f9 : ez_fr (so_P (r + 1)) h (dz_put (dz_put g (r + 1) (n).toNat (ez_v (.inl (qz_I g (r + 1) (i).toNat)))) 730 (n).toNat (ez_v (.inl (qz_I (dz_put g (r + 1) (n).toNat (ez_v (.inl (qz_I g (r + 1) (i).toNat)))) 730 (i).toNat)))) := (hf.put (so_Pp (r + 1)) _ _).put (so_Po (by decide)) _ _
              have hB9 := hB54
              generalize (dz_put (dz_put g (r + 1) (n).toNat (ez_v (.inl (qz_I g (r + 1) (i).toNat)))) 730 (n).toNat (ez_v (.inl (qz_I (dz_put g (r + 1) (n).toNat (ez_v (.inl (qz_I g (r + 1) (i).toNat)))) 730 (i).toNat)))) = g9 at *
              have p9 : prs g9 (r + 1) (K ++ [c]) := fun j z hz => by
                by_cases ej : j = n.toNat
                · rw [ej, List.getElem?_append_right (by omega), show n.toNat - K.length = 0 by omega] at hz; cases hz; rw [ej]; exact ⟨e0, e1⟩
                · have hj9 := (List.getElem?_eq_some_iff.mp hz).1
                  rw [List.length_append, List.length_singleton] at hj9
                  rw [List.getElem?_append_left (by omega)] at hz; rw [(e2 j ej).1, (e2 j ej).2]; exact hp j z hz
              have q9 : ∀ (j : Nat) z, i + 1 ≤ (j : Int) → L[j]? = some z → qz_I g9 (r + 1) j = z.1 ∧ qz_I g9 730 j = z.2 := fun j z hj hz => by rw [(e2 j (by omega)).1, (e2 j (by omega)).2]; exact hq j z (by omega) hz
              have n9 : (K ++ [c]).length = K.length + 1 := by rw [List.length_append, List.length_singleton]
              refine ez_go (n := 1) (pc' := 156) (L' := [(8, .inl (v)), (7, .inl (1)), (6, .inl (i)), (5, .inl (hi)), (4, .inl (st)), (3, .inl (n)), (2, .inr (.inr (some (r + 1)))), (0, .inr (.inr (some (729)))), (1, .inr (.inr (some (r))))]) (st' := [.inr (.inr (some (729)))]) rfl ?_
              refine ez_gC (p := 730) (tg := 62) hB9 t729 rfl rfl tq_61 rfl rfl (fun (t730 : _ = 62) => ?_)
              refine ez_go (n := 1) (pc' := 160) (L' := [(8, .inl (v)), (7, .inl (1)), (6, .inl (i)), (5, .inl (hi)), (4, .inl (st)), (3, .inl (n)), (2, .inr (.inr (some (r + 1)))), (0, .inr (.inr (some (729)))), (1, .inr (.inr (some (r))))]) (st' := [.inl (n), .inr (.inr (some (730)))]) rfl ?_
              have n58 : 2000 ≤ qz_N g9 730 ∧ qz_N g9 730 ≤ 2000 := ez_len hB9 t730 tq_62 rfl
              refine ez_aI hB9 t730 rfl tq_62 rfl rfl (by omega) (by omega) (fun (b57 : -2147483648 ≤ qz_I g9 730 (n).toNat) (b57' : qz_I g9 730 (n).toNat ≤ 2147483647) => ?_)
              rw [e1]
              refine ez_if rfl rfl ⟨by first | omega | exact (sz_i32 _).1, by first | omega | exact (sz_i32 _).2⟩ (fun (c59 : (c.2) ≠ (0)) => ?_) (fun (c59 : ¬((c.2) ≠ (0))) => ?_)
              · skip
                refine ez_go (n := 2) (pc' := 176) (L' := [(8, .inl (v)), (7, .inl (1)), (6, .inl (i)), (5, .inl (hi)), (4, .inl (st)), (3, .inl (n)), (2, .inr (.inr (some (r + 1)))), (0, .inr (.inr (some (729)))), (1, .inr (.inr (some (r))))]) (st' := [.inr (.inr (some (729))), .inl (hi)]) rfl ?_
                refine ez_gC (p := 730) (tg := 62) hB9 t729 rfl rfl tq_61 rfl rfl (fun (t730 : _ = 62) => ?_)
                refine ez_go (n := 1) (pc' := 180) (L' := [(8, .inl (v)), (7, .inl (1)), (6, .inl (i)), (5, .inl (hi)), (4, .inl (st)), (3, .inl (n)), (2, .inr (.inr (some (r + 1)))), (0, .inr (.inr (some (729)))), (1, .inr (.inr (some (r))))]) (st' := [.inl (n), .inr (.inr (some (730))), .inl (hi)]) rfl ?_
                have n61 : 2000 ≤ qz_N g9 730 ∧ qz_N g9 730 ≤ 2000 := ez_len hB9 t730 tq_62 rfl
                refine ez_aI hB9 t730 rfl tq_62 rfl rfl (by omega) (by omega) (fun (b60 : -2147483648 ≤ qz_I g9 730 (n).toNat) (b60' : qz_I g9 730 (n).toNat ≤ 2147483647) => ?_)
                rw [e1]
                refine ez_cs hB9.2.1 rfl rfl rfl rfl rfl (rd_maxE ⟨by omega, by omega⟩ ⟨by omega, by omega⟩ (ez_K1 ?_))
                refine ez_go (n := 4) (pc' := 16) (L' := [(6, .inl (i + 1)), (3, .inl (n + 1)), (5, .inl (max (hi) (c.2))), (8, .inl (v)), (7, .inl (1)), (4, .inl (st)), (2, .inr (.inr (some (r + 1)))), (0, .inr (.inr (some (729)))), (1, .inr (.inr (some (r))))]) (st' := []) rfl ?_
                refine ez_less [(6, .inl (i + 1)), (5, .inl (max (hi) (c.2))), (4, .inl (st)), (3, .inl (n + 1)), (2, .inr (.inr (some (r + 1)))), (0, .inr (.inr (some (729)))), (1, .inr (.inr (some (r))))] rfl ⟨rfl, rfl, rfl, rfl, rfl, rfl, rfl, trivial⟩ ?_
                refine ih _ _ _ _ (K ++ [c]) g9 (by omega) (by omega) (by omega) (by omega) hB9 f9 (by rw [n9]; omega) (kst_ok hw hk hK (hL c (List.mem_of_getElem? hc))) p9 q9 (cst_n hcs hst (by omega) c20) (fun R hR => hac R ?_)
                rw [dr]; exact ⟨_, hk, hR⟩
              · skip
                refine ez_go (n := 8) (pc' := 16) (L' := [(6, .inl (i + 1)), (3, .inl (n + 1)), (5, .inl (-1)), (4, .inl (n)), (8, .inl (v)), (7, .inl (1)), (2, .inr (.inr (some (r + 1)))), (0, .inr (.inr (some (729)))), (1, .inr (.inr (some (r))))]) (st' := []) rfl ?_
                refine ez_less [(6, .inl (i + 1)), (5, .inl (-1)), (4, .inl (n)), (3, .inl (n + 1)), (2, .inr (.inr (some (r + 1)))), (0, .inr (.inr (some (729)))), (1, .inr (.inr (some (r))))] rfl ⟨rfl, rfl, rfl, rfl, rfl, rfl, rfl, trivial⟩ ?_
                refine ih _ _ _ _ (K ++ [c]) g9 (by omega) (by omega) (by omega) (by omega) hB9 f9 (by rw [n9]; omega) (kst_ok hw hk hK (hL c (List.mem_of_getElem? hc))) p9 q9 (by rw [← hn]; exact cst_z (st := st) (hi := hi) (by omega)) (fun R hR => hac R ?_)
                rw [dr]; exact ⟨_, hk, hR⟩
            · skip
              have v1 : 0 ≤ v ∧ v ≤ 1114111 := vb.resolve_left (by omega)
              have hlt : lst K c.2 st.toNat x := by obtain ⟨x2, h2⟩ := cl.2 (by omega) (by omega); have h3 := h2.1; rw [hx2] at h3; cases h3; exact h2
              have hk : kst F E K c (K.set st.toNat (v, (F v).1)) := Or.inl ⟨_, x, v, hlt, hv, by omega, rfl⟩
              have vr := pz_rg hC v1.1 v1.2
              obtain ⟨vr1, vr2⟩ := id vr
              have vn := (hw v).1
              refine ez_go (n := 3) (pc' := 87) (L' := [(8, .inl (v)), (7, .inl (1)), (6, .inl (i)), (5, .inl (hi)), (4, .inl (st)), (3, .inl (n)), (2, .inr (.inr (some (r + 1)))), (0, .inr (.inr (some (729)))), (1, .inr (.inr (some (r))))]) (st' := [.inl (v), .inl (st), .inr (.inr (some (r + 1)))]) rfl ?_
              have n64 : 2000 ≤ qz_N g (r + 1) ∧ qz_N g (r + 1) ≤ 2000 := ez_len hBg tp tq_2 rfl
              refine ez_as hBg tp rfl tq_2 rfl rfl (by omega) (by omega) (ez_vdI rfl rfl (by omega) (by omega)) (fun hB62 w63 => ?_)
              refine ez_go (n := 1) (pc' := 89) (L' := [(8, .inl (v)), (7, .inl (1)), (6, .inl (i)), (5, .inl (hi)), (4, .inl (st)), (3, .inl (n)), (2, .inr (.inr (some (r + 1)))), (0, .inr (.inr (some (729)))), (1, .inr (.inr (some (r))))]) (st' := [.inr (.inr (some (729)))]) rfl ?_
              refine ez_gC (p := 730) (tg := 62) hB62 t729 rfl rfl tq_61 rfl rfl (fun (t730 : _ = 62) => ?_)
              refine ez_go (n := 2) (pc' := 95) (L' := [(8, .inl (v)), (7, .inl (1)), (6, .inl (i)), (5, .inl (hi)), (4, .inl (st)), (3, .inl (n)), (2, .inr (.inr (some (r + 1)))), (0, .inr (.inr (some (729)))), (1, .inr (.inr (some (r))))]) (st' := [.inr (.inr (some (729))), .inl (st), .inr (.inr (some (730)))]) rfl ?_
              refine ez_gC (p := 202) (tg := 48) hB62 t729 rfl rfl tq_61 rfl rfl (fun (t202 : _ = 48) => ?_)
              refine ez_go (n := 1) (pc' := 100) (L' := [(8, .inl (v)), (7, .inl (1)), (6, .inl (i)), (5, .inl (hi)), (4, .inl (st)), (3, .inl (n)), (2, .inr (.inr (some (r + 1)))), (0, .inr (.inr (some (729)))), (1, .inr (.inr (some (r))))]) (st' := [.inl (v), .inr (.inr (some (202))), .inl (st), .inr (.inr (some (730)))]) rfl ?_
              have hC2 : pz_C τ (dz_put g (r + 1) (st).toNat (ez_v (.inl (v)))) T F E := hC.keep hB62 (so_kD hC.2.1 tp (hf.put (so_Pp (r + 1)) _ _))
              refine ez_cv hB62 t202 rfl rfl rfl tq_48 rfl rfl rfl (rd_classOf hC2 v1.1 v1.2 (ez_K1 ?_))
              have n67 : 2000 ≤ qz_N (dz_put g (r + 1) (st).toNat (ez_v (.inl (v)))) 730 ∧ qz_N (dz_put g (r + 1) (st).toNat (ez_v (.inl (v)))) 730 ≤ 2000 := ez_len hB62 t730 tq_62 rfl
              refine ez_as hB62 t730 rfl tq_62 rfl rfl (by omega) (by omega) (ez_vdI rfl rfl (by omega) (by omega)) (fun hB65 w66 => ?_)
              have e0 : qz_I (dz_put (dz_put g (r + 1) (st).toNat (ez_v (.inl (v)))) 730 (st).toNat (ez_v (.inl ((F v).1)))) (r + 1) (st).toNat = v := by rw [ez_put_I (fun w => by omega), w63]; exact ez_rg.v ⟨by omega, by omega⟩
              have e1 : qz_I (dz_put (dz_put g (r + 1) (st).toNat (ez_v (.inl (v)))) 730 (st).toNat (ez_v (.inl ((F v).1)))) 730 (st).toNat = (F v).1 := by rw [w66]; exact ez_rg.v vr
              have e2 : ∀ j, j ≠ st.toNat → qz_I (dz_put (dz_put g (r + 1) (st).toNat (ez_v (.inl (v)))) 730 (st).toNat (ez_v (.inl ((F v).1)))) (r + 1) j = qz_I g (r + 1) j ∧ qz_I (dz_put (dz_put g (r + 1) (st).toNat (ez_v (.inl (v)))) 730 (st).toNat (ez_v (.inl ((F v).1)))) 730 j = qz_I g 730 j := fun j hj => ⟨by rw [ez_put_I (fun w => by omega), ez_put_I (fun w => hj w.2)], by rw [ez_put_I (fun w => hj w.2), ez_put_I (fun w => by omega)]⟩
              have f9 : ez_fr (so_P (r + 1)) h (dz_put (dz_put g (r + 1) (st).toNat (ez_v (.inl (v)))) 730 (st).toNat (ez_v (.inl ((F v).1)))) := (hf.put (so_Pp (r + 1)) _ _).put (so_Po (by decide)) _ _
              have hB9 := hB65
              generalize (dz_put (dz_put g (r + 1) (st).toNat (ez_v (.inl (v)))) 730 (st).toNat (ez_v (.inl ((F v).1)))) = g9 at *
              have p9 : prs g9 (r + 1) (K.set st.toNat (v, (F v).1)) := fun j z hz => by
                by_cases ej : j = st.toNat
                · rw [ej, List.getElem?_set_self sl9] at hz; cases hz; rw [ej]; exact ⟨e0, e1⟩
                · rw [List.getElem?_set_ne (fun w => ej w.symm)] at hz; rw [(e2 j ej).1, (e2 j ej).2]; exact hp j z hz
              have q9 : ∀ (j : Nat) z, i + 1 ≤ (j : Int) → L[j]? = some z → qz_I g9 (r + 1) j = z.1 ∧ qz_I g9 730 j = z.2 := fun j z hj hz => by rw [(e2 j (by omega)).1, (e2 j (by omega)).2]; exact hq j z (by omega) hz
              have n9 : (K.set st.toNat (v, (F v).1)).length = K.length := List.length_set
              refine ez_go (n := 1) (pc' := 105) (L' := [(8, .inl (v)), (7, .inl (1)), (6, .inl (i)), (5, .inl (hi)), (4, .inl (st)), (3, .inl (n)), (2, .inr (.inr (some (r + 1)))), (0, .inr (.inr (some (729)))), (1, .inr (.inr (some (r))))]) (st' := [.inr (.inr (some (729)))]) rfl ?_
              refine ez_gC (p := 730) (tg := 62) hB9 t729 rfl rfl tq_61 rfl rfl (fun (t730 : _ = 62) => ?_)
              refine ez_go (n := 1) (pc' := 110) (L' := [(8, .inl (v)), (7, .inl (1)), (6, .inl (i)), (5, .inl (hi)), (4, .inl (st)), (3, .inl (n)), (2, .inr (.inr (some (r + 1)))), (0, .inr (.inr (some (729)))), (1, .inr (.inr (some (r))))]) (st' := [.inl (st), .inr (.inr (some (730)))]) rfl ?_
              have n69 : 2000 ≤ qz_N g9 730 ∧ qz_N g9 730 ≤ 2000 := ez_len hB9 t730 tq_62 rfl
              refine ez_aI hB9 t730 rfl tq_62 rfl rfl (by omega) (by omega) (fun (b68 : -2147483648 ≤ qz_I g9 730 (st).toNat) (b68' : qz_I g9 730 (st).toNat ≤ 2147483647) => ?_)
              rw [e1]
              refine ez_if rfl rfl ⟨by first | omega | exact (sz_i32 _).1, by first | omega | exact (sz_i32 _).2⟩ (fun (c70 : ((F v).1) = (0)) => ?_) (fun (c70 : ¬(((F v).1) = (0))) => ?_)
              · skip
                refine ez_go (n := 2) (pc' := 16) (L' := [(6, .inl (i + 1)), (8, .inl (v)), (7, .inl (1)), (5, .inl (hi)), (4, .inl (st)), (3, .inl (n)), (2, .inr (.inr (some (r + 1)))), (0, .inr (.inr (some (729)))), (1, .inr (.inr (some (r))))]) (st' := []) rfl ?_
                refine ez_less [(6, .inl (i + 1)), (5, .inl (hi)), (4, .inl (st)), (3, .inl (n)), (2, .inr (.inr (some (r + 1)))), (0, .inr (.inr (some (729)))), (1, .inr (.inr (some (r))))] rfl ⟨rfl, rfl, rfl, rfl, rfl, rfl, rfl, trivial⟩ ?_
                refine ih _ _ _ _ (K.set st.toNat (v, (F v).1)) g9 (by omega) (by omega) (by omega) (by omega) hB9 f9 (by rw [n9]; omega) (kst_ok hw hk hK (hL c (List.mem_of_getElem? hc))) p9 q9 (cst_set0 hcs (by omega) (by show (F v).1 = 0; omega)) (fun R hR => hac R ?_)
                rw [dr]; exact ⟨_, hk, hR⟩
              · skip
                refine ez_go (n := 2) (pc' := 116) (L' := [(8, .inl (v)), (7, .inl (1)), (6, .inl (i)), (5, .inl (hi)), (4, .inl (st)), (3, .inl (n)), (2, .inr (.inr (some (r + 1)))), (0, .inr (.inr (some (729)))), (1, .inr (.inr (some (r))))]) (st' := [.inl (n), .inr (.inr (some (729)))]) rfl ?_
                refine ez_cv hB9 t729 rfl rfl rfl tq_61 rfl rfl rfl (rd_lastStarter (h := g9) hB9 t729 (by omega) (by omega) (fun s2 hs2 => ez_K1 ?_))
                have s2b : -1 ≤ s2 ∧ s2 < n := by omega
                refine ez_go (n := 6) (pc' := 127) (L' := [(4, .inl (s2)), (8, .inl (v)), (7, .inl (1)), (6, .inl (i)), (5, .inl (hi)), (3, .inl (n)), (2, .inr (.inr (some (r + 1)))), (0, .inr (.inr (some (729)))), (1, .inr (.inr (some (r))))]) (st' := [.inl (n), .inl ((s2) + (1)), .inr (.inr (some (729)))]) rfl ?_
                refine ez_cv hB9 t729 rfl rfl rfl tq_61 rfl rfl rfl (rd_highest (h := g9) hB9 t729 (by omega) (by omega) (by omega) (fun h2 hh2 => ez_K1 ?_))
                refine ez_go (n := 4) (pc' := 16) (L' := [(6, .inl (i + 1)), (5, .inl (h2)), (4, .inl (s2)), (8, .inl (v)), (7, .inl (1)), (3, .inl (n)), (2, .inr (.inr (some (r + 1)))), (0, .inr (.inr (some (729)))), (1, .inr (.inr (some (r))))]) (st' := []) rfl ?_
                refine ez_less [(6, .inl (i + 1)), (5, .inl (h2)), (4, .inl (s2)), (3, .inl (n)), (2, .inr (.inr (some (r + 1)))), (0, .inr (.inr (some (729)))), (1, .inr (.inr (some (r))))] rfl ⟨rfl, rfl, rfl, rfl, rfl, rfl, rfl, trivial⟩ ?_
                refine ih _ _ _ _ (K.set st.toNat (v, (F v).1)) g9 (by clear hh2; omega) (by clear hh2; omega) (by clear hh2; omega) (by clear hh2; omega) hB9 f9 (by rw [n9]; clear hh2; omega) (kst_ok hw hk hK (hL c (List.mem_of_getElem? hc))) p9 q9 (co_new hB9 hn p9 n9 hs2 hh2) (fun R hR => hac R ?_)
                rw [dr]; exact ⟨_, hk, hR⟩
    · skip
      refine ez_go (n := 2) (pc' := 19) (L' := [(6, .inl (i)), (5, .inl (hi)), (4, .inl (st)), (3, .inl (n)), (2, .inr (.inr (some (r + 1)))), (0, .inr (.inr (some (729)))), (1, .inr (.inr (some (r))))]) (st' := [.inr (.inr (some (r))), .inl (i)]) rfl ?_
      refine ez_gI hBg tr rfl rfl tq_1 rfl rfl (fun (b1 : 0 ≤ qz_I g r 1) (b1' : qz_I g r 1 ≤ 2000) => ?_)
      refine ez_icmp rfl rfl ⟨by first | omega | exact (sz_i32 _).1, by first | omega | exact (sz_i32 _).2⟩ ⟨by first | omega | exact (sz_i32 _).1, by first | omega | exact (sz_i32 _).2⟩ (fun (c2 : (qz_I g r 1) ≤ (i)) => ?_) (fun (c2 : ¬((qz_I g r 1) ≤ (i))) => ?_)
      · skip
        refine ez_go (n := 2) (pc' := 197) (L' := [(6, .inl (i)), (5, .inl (hi)), (4, .inl (st)), (3, .inl (n)), (2, .inr (.inr (some (r + 1)))), (0, .inr (.inr (some (729)))), (1, .inr (.inr (some (r))))]) (st' := [.inl (n), .inr (.inr (some (r)))]) rfl ?_
        refine ez_pf hBg tr rfl rfl tq_1 rfl rfl rfl rfl (ez_vdI rfl rfl (by omega) (by omega)) (fun hB3 w4 => ?_)
        refine ez_ret0 rfl rfl (k _ K hB3 ((ez_fr_mono hf (fun z hz => co_Ps hz)).put (co_Pr r) _ _) (hac K (by rw [List.drop_of_length_le (by omega)]; rfl)) hK ⟨by rw [w4, List.length_map]; rw [rz_rd ⟨by omega, by omega⟩]; exact hn.symm, fun j v hv => ?_⟩)
        rw [List.getElem?_map] at hv
        obtain ⟨z, z1, z2⟩ := Option.map_eq_some_iff.mp hv
        rw [ez_put_I (fun w => by omega), ← z2]; exact (hp j z z1).1
      · exfalso; omega
theorem rd_compose {L : List (Int × Int)} (hC : pz_C τ h T F E) (hw : uz_wf F) (cp : cP h F E) (tr : τ r = 1) (nr : r < 730 ∨ 732 < r) (hl : qz_I h r 1 = (L.length : Int)) (hL : kok F L) (hp : prs h (r + 1) L) (k : ∀ g K, ez_B τ g → ez_fr (co_P r) h g → kcR F E L [] K → kok F K → tx g r (K.map Prod.fst) → Q (.inl none, g)) : ez_W (d + 2) cm_136 0 [(0, .inr (.inr (some (729)))), (1, .inr (.inr (some (r))))] [] h Q := by
  have t729 : τ 729 = 61 := hC.2.1 729 (by decide)
  have t723 : τ 723 = 55 := hC.2.1 723 (by decide)
  have t730 : τ 730 = 62 := hC.2.1 730 (by decide)
  have t202 : τ 202 = 48 := hC.2.1 202 (by decide)
  have tp := tx_p1 hC.1 tr
  have np0 : r + 1 ≠ 730 := fun e => by rw [e, t730] at tp; cases tp
  have np1 : r ≠ 730 := fun e => by rw [e, t730] at tr; cases tr
  have hb := tx_l1 hC.1 tr
  rw [hl] at hb
  refine ez_go (n := 1) (pc' := 1) (L' := [(0, .inr (.inr (some (729)))), (1, .inr (.inr (some (r))))]) (st' := [.inr (.inr (some (r)))]) rfl ?_
  refine ez_g3 hC.1 tr rfl rfl tq_1 rfl rfl (fun (t1 : _ = 2) => ?_)
  refine ez_go (n := 9) (pc' := 16) (L' := [(6, .inl (0)), (5, .inl (-1)), (4, .inl (-1)), (3, .inl (0)), (2, .inr (.inr (some (r + 1)))), (0, .inr (.inr (some (729)))), (1, .inr (.inr (some (r))))]) (st' := []) rfl ?_
  refine ez_less [(6, .inl (0)), (5, .inl (-1)), (4, .inl (-1)), (3, .inl (0)), (2, .inr (.inr (some (r + 1)))), (0, .inr (.inr (some (729)))), (1, .inr (.inr (some (r))))] rfl ⟨rfl, rfl, rfl, rfl, rfl, rfl, rfl, trivial⟩ ?_
  exact rd_compose_l (h := h) hC hw cp tr nr hl hL k _ 0 (-1) (-1) 0 [] h rfl (by omega) (by omega) (by omega) hC.1 (ez_fr.refl _ _) rfl (fun x hx => by cases hx) (fun j z hz => by cases hz) (fun j z _ hz => hp j z hz) cst_0 (fun R hR => hR)

end EzCo
/-! The class: texts made by FORMS, by parts, by points. (Written by wip/p2/py/pvt5.py.) -/
section EzNf
variable {d : Nat} {h : cz_H} {τ : Nat → Nat} {Q : cz_F → Prop} {T : Int → Nat} {F : rz_W} {E : Int → Prop} {r : Nat} {l : List Int}
theorem co_keep {g : cz_H} (hC : pz_C τ h T F E) (tr : τ r = 1) (f : ez_fr (co_P r) h g) {q : Nat} (q1 : τ q ≠ 1) (q2 : τ q ≠ 2) (q6 : τ q < 62 ∨ 64 < τ q) : g.2.2 q = h.2.2 q := f.2.2 q (co_Pn (fun e => q1 (by rw [e]; exact tr)) (fun e => q2 (by rw [e]; exact tx_p1 hC.1 tr)) (by
  by_cases e : 730 ≤ q ∧ q ≤ 732
  · have : q = 730 ∨ q = 731 ∨ q = 732 := by omega
    have t0 : τ 730 = 62 := hC.2.1 730 (by decide)
    have t1 : τ 731 = 63 := hC.2.1 731 (by decide)
    have t2 : τ 732 = 64 := hC.2.1 732 (by decide)
    rcases this with e | e | e <;> (subst e; omega)
  · omega))
theorem co_kD {g : cz_H} (hC : pz_C τ h T F E) (tr : τ r = 1) (f : ez_fr (co_P r) h g) : ∀ q, kD (τ q) = true → g.2.2 q = h.2.2 q := fun q hq => co_keep hC tr f (fun e => by rw [e] at hq; cases hq) (fun e => by rw [e] at hq; cases hq) (by
  by_cases e : 62 ≤ τ q ∧ τ q ≤ 64
  · have : τ q = 62 ∨ τ q = 63 ∨ τ q = 64 := by omega
    rcases this with e | e | e <;> (rw [e] at hq; cases hq)
  · omega)
theorem tx_co {z : Nat} (h : tx_P r z = true) : co_P r z = true := by
  unfold tx_P at h
  rcases Bool.or_eq_true_iff.mp h with w | w
  · rw [Nat.eq_of_beq_eq_true w]; exact co_Pr r
  · rw [Nat.eq_of_beq_eq_true w]; exact co_Ps (so_Pp (r + 1))
theorem kok_ptl {K : List (Int × Int)} (h : kok F K) : ptl (K.map Prod.fst) := fun v hv => by
  obtain ⟨z, z1, z2⟩ := List.mem_map.mp hv
  rw [← z2]; exact (h z z1).1
theorem prs_tx {g : cz_H} {K : List (Int × Int)} (hp : prs g (r + 1) K) (hl : qz_I g r 1 = (K.length : Int)) : tx g r (K.map Prod.fst) := ⟨by rw [hl, List.length_map], fun j v hv => by
  rw [List.getElem?_map] at hv
  obtain ⟨z, z1, z2⟩ := Option.map_eq_some_iff.mp hv
  rw [← z2]; exact (hp j z z1).1⟩
theorem rd_finish_l {fm : Int} (hC : pz_C τ h T F E) (hw : uz_wf F) (cp : cP h F E) (tr : τ r = 1) (nr : r < 730 ∨ 732 < r) (a : tx h r l) (pl : ptl l) (fr : 0 ≤ fm ∧ fm ≤ 3) (kx : ∀ g, ez_B τ g → ez_fr (ez_one 730) h g → (∀ (j : Nat) v, l[j]? = some v → qz_I g 730 j = (F v).1) → ez_W (d + 4) cm_140 35 [(0, .inr (.inr (some (729)))), (1, .inr (.inr (some (r)))), (2, .inl (fm))] [] g Q) : ∀ (m : Nat) (i : Int) (g : cz_H), m = ((l.length : Int) - i).toNat → 0 ≤ i → i ≤ (l.length : Int) → ez_B τ g → ez_fr (ez_one 730) h g → (∀ (j : Nat) v, (j : Int) < i → l[j]? = some v → qz_I g 730 j = (F v).1) → ez_W (d + 4) cm_140 2 [(3, .inl (i)), (0, .inr (.inr (some (729)))), (1, .inr (.inr (some (r)))), (2, .inl (fm))] [] g Q := by
  have t729 : τ 729 = 61 := hC.2.1 729 (by decide)
  have t730 : τ 730 = 62 := hC.2.1 730 (by decide)
  have t731 : τ 731 = 63 := hC.2.1 731 (by decide)
  have t732 : τ 732 = 64 := hC.2.1 732 (by decide)
  have t202 : τ 202 = 48 := hC.2.1 202 (by decide)
  have tp := tx_p1 hC.1 tr
  have np0 : r + 1 ≠ 730 := fun e => by rw [e, t730] at tp; cases tp
  have np1 : r ≠ 730 := fun e => by rw [e, t730] at tr; cases tr
  have hb := tx_l1 hC.1 tr
  have al := a.1
  intro m
  induction m with
  | zero =>
    intro i g hm i0 i1 hBg hf he
    have cr : ∀ j, qz_I g r j = qz_I h r j := fun j => hf.I (dz_beq_ne np1) j
    have cr1 := cr 1
    have cp1 : ∀ j, qz_I g (r + 1) j = qz_I h (r + 1) j := fun j => hf.I (dz_beq_ne np0) j
    refine ez_go (n := 2) (pc' := 4) (L' := [(3, .inl (i)), (0, .inr (.inr (some (729)))), (1, .inr (.inr (some (r)))), (2, .inl (fm))]) (st' := [.inr (.inr (some (r))), .inl (i)]) rfl ?_
    refine ez_gI hBg tr rfl rfl tq_1 rfl rfl (fun (b1 : 0 ≤ qz_I g r 1) (b1' : qz_I g r 1 ≤ 2000) => ?_)
    refine ez_icmp rfl rfl ⟨by first | omega | exact (sz_i32 _).1, by first | omega | exact (sz_i32 _).2⟩ ⟨by first | omega | exact (sz_i32 _).1, by first | omega | exact (sz_i32 _).2⟩ (fun (c2 : (qz_I g r 1) ≤ (i)) => ?_) (fun (c2 : ¬((qz_I g r 1) ≤ (i))) => ?_)
    · skip
      refine ez_less [(0, .inr (.inr (some (729)))), (1, .inr (.inr (some (r)))), (2, .inl (fm))] rfl ⟨rfl, rfl, rfl, trivial⟩ ?_
      exact kx g hBg hf (fun j v hv => he j v (by have := (List.getElem?_eq_some_iff.mp hv).1; omega) hv)
    · exfalso; omega
  | succ m ih =>
    intro i g hm i0 i1 hBg hf he
    have cr : ∀ j, qz_I g r j = qz_I h r j := fun j => hf.I (dz_beq_ne np1) j
    have cr1 := cr 1
    have cp1 : ∀ j, qz_I g (r + 1) j = qz_I h (r + 1) j := fun j => hf.I (dz_beq_ne np0) j
    refine ez_go (n := 2) (pc' := 4) (L' := [(3, .inl (i)), (0, .inr (.inr (some (729)))), (1, .inr (.inr (some (r)))), (2, .inl (fm))]) (st' := [.inr (.inr (some (r))), .inl (i)]) rfl ?_
    refine ez_gI hBg tr rfl rfl tq_1 rfl rfl (fun (b1 : 0 ≤ qz_I g r 1) (b1' : qz_I g r 1 ≤ 2000) => ?_)
    refine ez_icmp rfl rfl ⟨by first | omega | exact (sz_i32 _).1, by first | omega | exact (sz_i32 _).2⟩ ⟨by first | omega | exact (sz_i32 _).1, by first | omega | exact (sz_i32 _).2⟩ (fun (c2 : (qz_I g r 1) ≤ (i)) => ?_) (fun (c2 : ¬((qz_I g r 1) ≤ (i))) => ?_)
    · exfalso; omega
    · skip
      refine ez_go (n := 1) (pc' := 11) (L' := [(3, .inl (i)), (0, .inr (.inr (some (729)))), (1, .inr (.inr (some (r)))), (2, .inl (fm))]) (st' := [.inr (.inr (some (729)))]) rfl ?_
      refine ez_gC (p := 730) (tg := 62) hBg t729 rfl rfl tq_61 rfl rfl (fun (t730 : _ = 62) => ?_)
      refine ez_go (n := 2) (pc' := 16) (L' := [(3, .inl (i)), (0, .inr (.inr (some (729)))), (1, .inr (.inr (some (r)))), (2, .inl (fm))]) (st' := [.inr (.inr (some (729))), .inl (i), .inr (.inr (some (730)))]) rfl ?_
      refine ez_gC (p := 202) (tg := 48) hBg t729 rfl rfl tq_61 rfl rfl (fun (t202 : _ = 48) => ?_)
      refine ez_go (n := 1) (pc' := 20) (L' := [(3, .inl (i)), (0, .inr (.inr (some (729)))), (1, .inr (.inr (some (r)))), (2, .inl (fm))]) (st' := [.inr (.inr (some (r))), .inr (.inr (some (202))), .inl (i), .inr (.inr (some (730)))]) rfl ?_
      refine ez_g3 hBg tr rfl rfl tq_1 rfl rfl (fun (t3 : _ = 2) => ?_)
      refine ez_go (n := 1) (pc' := 24) (L' := [(3, .inl (i)), (0, .inr (.inr (some (729)))), (1, .inr (.inr (some (r)))), (2, .inl (fm))]) (st' := [.inl (i), .inr (.inr (some (r + 1))), .inr (.inr (some (202))), .inl (i), .inr (.inr (some (730)))]) rfl ?_
      have n5 : 2000 ≤ qz_N g (r + 1) ∧ qz_N g (r + 1) ≤ 2000 := ez_len hBg t3 tq_2 rfl
      refine ez_aI hBg t3 rfl tq_2 rfl rfl (by omega) (by omega) (fun (b4 : -2147483648 ≤ qz_I g (r + 1) (i).toNat) (b4' : qz_I g (r + 1) (i).toNat ≤ 2147483647) => ?_)
      have l9 : i.toNat < l.length := by omega
      have ev := a.2 _ _ (List.getElem?_eq_getElem l9)
      have vb := ptl_at pl (List.getElem?_eq_getElem l9)
      have hCg : pz_C τ g T F E := hC.keep hBg (fun q hq => hf.2.2 q (dz_beq_ne (fun e => by rw [e, t730] at hq; cases hq)))
      rw [show qz_I g (r + 1) (i).toNat = l[i.toNat] from (cp1 _).trans ev]
      have vr := pz_rg hC vb.1 vb.2
      obtain ⟨vr1, vr2⟩ := id vr
      refine ez_cv hBg t202 rfl rfl rfl tq_48 rfl rfl rfl (rd_classOf hCg vb.1 vb.2 (ez_K1 ?_))
      have n8 : 2000 ≤ qz_N g 730 ∧ qz_N g 730 ≤ 2000 := ez_len hBg t730 tq_62 rfl
      refine ez_as hBg t730 rfl tq_62 rfl rfl (by omega) (by omega) (ez_vdI rfl rfl (by omega) (by omega)) (fun hB6 w7 => ?_)
      refine ez_go (n := 2) (pc' := 2) (L' := [(3, .inl (i + 1)), (0, .inr (.inr (some (729)))), (1, .inr (.inr (some (r)))), (2, .inl (fm))]) (st' := []) rfl ?_
      refine ez_less [(3, .inl (i + 1)), (0, .inr (.inr (some (729)))), (1, .inr (.inr (some (r)))), (2, .inl (fm))] rfl ⟨rfl, rfl, rfl, rfl, trivial⟩ ?_
      refine ih (i + 1) _ (by omega) (by omega) (by omega) hB6 (hf.put (show Nat.beq 730 730 = true from rfl) _ _) (fun j v hj hv => ?_)
      by_cases ej : (j : Int) = i
      · have e9 : j = i.toNat := by omega
        subst e9
        rw [List.getElem?_eq_getElem l9] at hv
        cases hv
        rw [w7]; exact ez_rg.v vr
      · rw [ez_put_I (fun w => by omega)]; exact he j v (by omega) hv
theorem rd_finish_e {fm : Int} (hC : pz_C τ h T F E) (hw : uz_wf F) (cp : cP h F E) (tr : τ r = 1) (nr : r < 730 ∨ 732 < r) (a : tx h r l) (pl : ptl l) (fr : 0 ≤ fm ∧ fm ≤ 3) {g : cz_H} (hBg : ez_B τ g) (hf : ez_fr (ez_one 730) h g) (he : ∀ (j : Nat) v, l[j]? = some v → qz_I g 730 j = (F v).1) (k : ∀ g res, ez_B τ g → ez_fr (co_P r) h g → nfR F E fm l res → ptl res → tx g r res → Q (.inl (some (ez_v (.inl 1))), g)) : ez_W (d + 4) cm_140 35 [(0, .inr (.inr (some (729)))), (1, .inr (.inr (some (r)))), (2, .inl (fm))] [] g Q := by
  have t729 : τ 729 = 61 := hC.2.1 729 (by decide)
  have t730 : τ 730 = 62 := hC.2.1 730 (by decide)
  have t731 : τ 731 = 63 := hC.2.1 731 (by decide)
  have t732 : τ 732 = 64 := hC.2.1 732 (by decide)
  have t202 : τ 202 = 48 := hC.2.1 202 (by decide)
  have tp := tx_p1 hC.1 tr
  have np0 : r + 1 ≠ 730 := fun e => by rw [e, t730] at tp; cases tp
  have np1 : r ≠ 730 := fun e => by rw [e, t730] at tr; cases tr
  have hb := tx_l1 hC.1 tr
  have al := a.1
  have t723 : τ 723 = 55 := hC.2.1 723 (by decide)
  have t727 : τ 727 = 59 := hC.2.1 727 (by decide)
  have t728 : τ 728 = 60 := hC.2.1 728 (by decide)
  refine ez_go (n := 2) (pc' := 37) (L' := [(0, .inr (.inr (some (729)))), (1, .inr (.inr (some (r)))), (2, .inl (fm))]) (st' := [.inr (.inr (some (r))), .inr (.inr (some (729)))]) rfl ?_
  have cr1 : qz_I g r 1 = qz_I h r 1 := hf.I (dz_beq_ne np1) 1
  have zll := zl_len F l
  have okz := kok_zl (F := F) pl
  have hp : prs g (r + 1) (zl F l) := fun j z hz => by obtain ⟨z1, z2⟩ := zl_at hz; exact ⟨(hf.I (dz_beq_ne np0) j).trans (a.2 j _ z1), by rw [z2]; exact he j _ z1⟩
  refine ez_cv hBg t729 rfl rfl rfl tq_61 rfl rfl rfl (rd_putInOrder (L := zl F l) (h := g) t729 t730 t731 t732 tr nr (by omega) (fun z hz => ⟨⟨by have := (okz z hz).1; omega, by have := (okz z hz).1; omega⟩, by have q := okz z hz; rw [q.2]; exact pz_rg hC q.1.1 q.1.2⟩) (fun z hz => by rw [(okz z hz).2]; exact (hw _).1) (by omega) hBg hp (fun g2 hB2 f2 p2 => ez_K0 ?_))
  have f3 : ez_fr (co_P r) h g2 := (ez_fr_mono hf (fun z hz => by unfold ez_one at hz; rw [Nat.eq_of_beq_eq_true hz]; exact co_Ps (so_Po (by decide)))).trans (ez_fr_mono f2 (fun z hz => co_Ps hz))
  have l2 : qz_I g2 r 1 = ((os_srt (zl F l)).length : Int) := by rw [os_srt_len, zll, ← al, ← cr1]; exact f2.I (so_Pn (by omega) nr) 1
  have ok2 := kok_srt okz
  refine ez_go (n := 2) (pc' := 42) (L' := [(0, .inr (.inr (some (729)))), (1, .inr (.inr (some (r)))), (2, .inl (fm))]) (st' := [.inl (2), .inl (fm)]) rfl ?_
  refine ez_icmp rfl rfl ⟨by first | omega | exact (sz_i32 _).1, by first | omega | exact (sz_i32 _).2⟩ ⟨by first | omega | exact (sz_i32 _).1, by first | omega | exact (sz_i32 _).2⟩ (fun (c1 : (fm) = (2)) => ?_) (fun (c1 : ¬((fm) = (2))) => ?_)
  · skip
    refine ez_go (n := 2) (pc' := 52) (L' := [(0, .inr (.inr (some (729)))), (1, .inr (.inr (some (r)))), (2, .inl (fm))]) (st' := [.inr (.inr (some (r))), .inr (.inr (some (729)))]) rfl ?_
    refine ez_cv hB2 t729 rfl rfl rfl tq_61 rfl rfl rfl (rd_compose (L := os_srt (zl F l)) (h := g2) (hC.keep hB2 (co_kD hC tr f3)) hw (cp.keep (co_keep hC tr f3 (by rw [t723]; decide) (by rw [t723]; decide) (by rw [t723]; decide)) (co_keep hC tr f3 (by rw [t727]; decide) (by rw [t727]; decide) (by rw [t727]; decide)) (co_keep hC tr f3 (by rw [t728]; decide) (by rw [t728]; decide) (by rw [t728]; decide))) tr nr l2 ok2 p2 (fun g4 K hB4 f4 kc okK tK => ez_K0 ?_))
    refine ez_go (n := 1) (pc' := 56) (L' := [(0, .inr (.inr (some (729)))), (1, .inr (.inr (some (r)))), (2, .inl (fm))]) (st' := [.inl (1)]) rfl ?_
    exact ez_retZ rfl rfl (by decide) (k g4 _ hB4 (f3.trans f4) ⟨K, by rw [if_pos (by omega)]; exact kc, rfl⟩ (kok_ptl okK) tK)
  · skip
    refine ez_go (n := 2) (pc' := 47) (L' := [(0, .inr (.inr (some (729)))), (1, .inr (.inr (some (r)))), (2, .inl (fm))]) (st' := [.inl (3), .inl (fm)]) rfl ?_
    refine ez_icmp rfl rfl ⟨by first | omega | exact (sz_i32 _).1, by first | omega | exact (sz_i32 _).2⟩ ⟨by first | omega | exact (sz_i32 _).1, by first | omega | exact (sz_i32 _).2⟩ (fun (c2 : (fm) ≠ (3)) => ?_) (fun (c2 : ¬((fm) ≠ (3))) => ?_)
    · skip
      refine ez_go (n := 1) (pc' := 56) (L' := [(0, .inr (.inr (some (729)))), (1, .inr (.inr (some (r)))), (2, .inl (fm))]) (st' := [.inl (1)]) rfl ?_
      exact ez_retZ rfl rfl (by decide) (k g2 _ hB2 f3 ⟨os_srt (zl F l), by rw [if_neg (by omega)], rfl⟩ (kok_ptl ok2) (prs_tx p2 l2))
    · skip
      refine ez_go (n := 2) (pc' := 52) (L' := [(0, .inr (.inr (some (729)))), (1, .inr (.inr (some (r)))), (2, .inl (fm))]) (st' := [.inr (.inr (some (r))), .inr (.inr (some (729)))]) rfl ?_
      refine ez_cv hB2 t729 rfl rfl rfl tq_61 rfl rfl rfl (rd_compose (L := os_srt (zl F l)) (h := g2) (hC.keep hB2 (co_kD hC tr f3)) hw (cp.keep (co_keep hC tr f3 (by rw [t723]; decide) (by rw [t723]; decide) (by rw [t723]; decide)) (co_keep hC tr f3 (by rw [t727]; decide) (by rw [t727]; decide) (by rw [t727]; decide)) (co_keep hC tr f3 (by rw [t728]; decide) (by rw [t728]; decide) (by rw [t728]; decide))) tr nr l2 ok2 p2 (fun g4 K hB4 f4 kc okK tK => ez_K0 ?_))
      refine ez_go (n := 1) (pc' := 56) (L' := [(0, .inr (.inr (some (729)))), (1, .inr (.inr (some (r)))), (2, .inl (fm))]) (st' := [.inl (1)]) rfl ?_
      exact ez_retZ rfl rfl (by decide) (k g4 _ hB4 (f3.trans f4) ⟨K, by rw [if_pos (by omega)]; exact kc, rfl⟩ (kok_ptl okK) tK)

theorem rd_finish {fm : Int} (hC : pz_C τ h T F E) (hw : uz_wf F) (cp : cP h F E) (tr : τ r = 1) (nr : r < 730 ∨ 732 < r) (a : tx h r l) (pl : ptl l) (fr : 0 ≤ fm ∧ fm ≤ 3) (k : ∀ g res, ez_B τ g → ez_fr (co_P r) h g → nfR F E fm l res → ptl res → tx g r res → Q (.inl (some (ez_v (.inl 1))), g)) : ez_W (d + 4) cm_140 0 [(0, .inr (.inr (some (729)))), (1, .inr (.inr (some (r)))), (2, .inl (fm))] [] h Q := by
  have t729 : τ 729 = 61 := hC.2.1 729 (by decide)
  have t730 : τ 730 = 62 := hC.2.1 730 (by decide)
  have t731 : τ 731 = 63 := hC.2.1 731 (by decide)
  have t732 : τ 732 = 64 := hC.2.1 732 (by decide)
  have t202 : τ 202 = 48 := hC.2.1 202 (by decide)
  have tp := tx_p1 hC.1 tr
  have np0 : r + 1 ≠ 730 := fun e => by rw [e, t730] at tp; cases tp
  have np1 : r ≠ 730 := fun e => by rw [e, t730] at tr; cases tr
  have hb := tx_l1 hC.1 tr
  have al := a.1
  refine ez_go (n := 2) (pc' := 2) (L' := [(3, .inl (0)), (0, .inr (.inr (some (729)))), (1, .inr (.inr (some (r)))), (2, .inl (fm))]) (st' := []) rfl ?_
  refine ez_less [(3, .inl (0)), (0, .inr (.inr (some (729)))), (1, .inr (.inr (some (r)))), (2, .inl (fm))] rfl ⟨rfl, rfl, rfl, rfl, trivial⟩ ?_
  exact rd_finish_l (h := h) hC hw cp tr nr a pl fr (fun g hBg hf he => rd_finish_e hC hw cp tr nr a pl fr hBg hf he k) _ 0 h rfl (by omega) (by omega) hC.1 (ez_fr.refl _ _) (fun j v hj => by omega)

/-- a text made empty -/
theorem tx_nil {g : cz_H} (e : qz_I g r 1 = 0) : tx g r [] := ⟨e, fun j v hv => by cases hv⟩
theorem rd_convs {q : Nat} {u : List Int} {fm : Int} (hC : pz_C τ h T F E) (fd : fD h T F) (hw : uz_wf F) (cp : cP h F E) (tr : τ r = 1) (nr : r < 730 ∨ 732 < r) (tq : τ q = 88) (qr : q ≠ r) (uq : tx h q u) (up : ptl u) (fr : 0 ≤ fm ∧ fm ≤ 3) (k1 : ∀ m res, uz_FL F (decide (fm = 1 ∨ fm = 3)) (u) m → m.length ≤ 2000 → nfR F E fm m res → ptl res → ∀ g, ez_B τ g → ez_fr (co_P r) h g → tx g r res → Q (.inl (some (ez_v (.inl 1))), g)) (k0 : ∀ m, uz_FL F (decide (fm = 1 ∨ fm = 3)) (u) m → 2000 < m.length → ∀ g, ez_B τ g → ez_fr (co_P r) h g → Q (.inl (some (ez_v (.inl 0))), g)) : ez_W (d + 5) cm_137 0 [(0, .inr (.inr (some (729)))), (1, .inr (.inr (some (q)))), (2, .inr (.inr (some (r)))), (3, .inl (fm))] [] h Q := by
  have t729 : τ 729 = 61 := hC.2.1 729 (by decide)
  have t723 : τ 723 = 55 := hC.2.1 723 (by decide)
  have t724 : τ 724 = 56 := hC.2.1 724 (by decide)
  have t727 : τ 727 = 59 := hC.2.1 727 (by decide)
  have t728 : τ 728 = 60 := hC.2.1 728 (by decide)
  refine ez_go (n := 2) (pc' := 2) (L' := [(0, .inr (.inr (some (729)))), (1, .inr (.inr (some (q)))), (2, .inr (.inr (some (r)))), (3, .inl (fm))]) (st' := [.inl (0), .inr (.inr (some (r)))]) rfl ?_
  refine ez_pf hC.1 tr rfl rfl tq_1 rfl rfl rfl rfl (ez_vdI rfl rfl (by omega) (by omega)) (fun hB1 w2 => ?_)
  have a1 : tx (dz_put h r 1 (ez_v (.inl (0)))) r [] := tx_nil (w2.trans rfl)
  have f1 : ez_fr (tx_P r) h (dz_put h r 1 (ez_v (.inl (0)))) := (ez_fr.refl (tx_P r) h).put (tx_Pa r) _ _
  have hB1 := hB1
  generalize (dz_put h r 1 (ez_v (.inl (0)))) = g1 at *
  have hC1 : pz_C τ g1 T F E := hC.keep hB1 (tx_kD hC.1 tr f1)
  have fd1 : fD g1 T F := fd.keep hC (tx_kD hC.1 tr f1) (tx_keep hC.1 tr f1 (by rw [t723]; decide) (by rw [t723]; decide)) (tx_keep hC.1 tr f1 (by rw [t724]; decide) (by rw [t724]; decide))
  have tq1 := tx_p88 hC.1 tq
  have uq1 : tx g1 q u := tx_c uq (f1.2.2 q (tx_Pn qr (fun e => by rw [e, tx_p1 hC.1 tr] at tq; cases tq))) (f1.2.2 (q + 1) (tx_Pn (fun e => by rw [e, tr] at tq1; cases tq1) (fun e => qr (by omega))))
  refine ez_go (n := 4) (pc' := 9) (L' := [(0, .inr (.inr (some (729)))), (1, .inr (.inr (some (q)))), (2, .inr (.inr (some (r)))), (3, .inl (fm))]) (st' := [.inl (fm), .inr (.inr (some (r))), .inr (.inr (some (q))), .inr (.inr (some (729)))]) rfl ?_
  refine ez_cv hB1 t729 rfl rfl rfl tq_61 rfl rfl rfl (rd_expand_s hC1 fd1 hw tr tq qr uq1 up fr a1 (fun m um lt g2 hB2 f2 a2 => ez_K1 ?_) (fun m um lt g2 hB2 f2 => ez_K1 ?_))
  · skip
    have f12 := f1.trans f2
    rw [List.nil_append] at a2
    have pm := uz_FL_ptl hw up um
    have hC2 : pz_C τ g2 T F E := hC.keep hB2 (tx_kD hC.1 tr f12)
    have cp2 : cP g2 F E := cp.keep (tx_keep hC.1 tr f12 (by rw [t723]; decide) (by rw [t723]; decide)) (tx_keep hC.1 tr f12 (by rw [t727]; decide) (by rw [t727]; decide)) (tx_keep hC.1 tr f12 (by rw [t728]; decide) (by rw [t728]; decide))
    refine ez_if rfl rfl ⟨by decide, by decide⟩ (fun (c3 : (1 : Int) = (0)) => absurd c3 (by decide)) (fun _ => ?_)
    refine ez_go (n := 3) (pc' := 18) (L' := [(0, .inr (.inr (some (729)))), (1, .inr (.inr (some (q)))), (2, .inr (.inr (some (r)))), (3, .inl (fm))]) (st' := [.inl (fm), .inr (.inr (some (r))), .inr (.inr (some (729)))]) rfl ?_
    refine ez_cv hB2 t729 rfl rfl rfl tq_61 rfl rfl rfl (rd_finish (h := g2) hC2 hw cp2 tr nr a2 pm fr (fun g4 res hB4 f4 nf pr t4 => ez_K1 ?_))
    refine ez_if rfl rfl ⟨by decide, by decide⟩ (fun (c4 : (1 : Int) = (0)) => absurd c4 (by decide)) (fun _ => ?_)
    refine ez_go (n := 2) (pc' := 29) (L' := [(0, .inr (.inr (some (729)))), (1, .inr (.inr (some (q)))), (2, .inr (.inr (some (r)))), (3, .inl (fm))]) (st' := [.inl (1)]) rfl ?_
    exact ez_retZ rfl rfl (by decide) (k1 m res um (by rw [List.length_nil, Nat.zero_add] at lt; exact lt) nf pr g4 hB4 ((ez_fr_mono f12 (fun z hz => tx_co hz)).trans f4) t4)
  · skip
    have f12 := f1.trans f2
    refine ez_if rfl rfl ⟨by decide, by decide⟩ (fun _ => ?_) (fun (c5 : ¬((0 : Int) = (0))) => absurd c5 (by decide))
    refine ez_go (n := 1) (pc' := 29) (L' := [(0, .inr (.inr (some (729)))), (1, .inr (.inr (some (q)))), (2, .inr (.inr (some (r)))), (3, .inl (fm))]) (st' := [.inl (0)]) rfl ?_
    exact ez_retZ rfl rfl (by decide) (k0 m um (by rw [List.length_nil, Nat.zero_add] at lt; exact lt) g2 hB2 (ez_fr_mono f12 (fun z hz => tx_co hz)))

theorem rd_convt {q : Nat} {u : List Int} {fm : Int} (hC : pz_C τ h T F E) (fd : fD h T F) (hw : uz_wf F) (cp : cP h F E) (tr : τ r = 1) (nr : r < 730 ∨ 732 < r) (tq : τ q = 1) (qr : q ≠ r) (uq : tx h q u) (up : ptl u) (fr : 0 ≤ fm ∧ fm ≤ 3) (k1 : ∀ m res, uz_FL F (decide (fm = 1 ∨ fm = 3)) (u) m → m.length ≤ 2000 → nfR F E fm m res → ptl res → ∀ g, ez_B τ g → ez_fr (co_P r) h g → tx g r res → Q (.inl (some (ez_v (.inl 1))), g)) (k0 : ∀ m, uz_FL F (decide (fm = 1 ∨ fm = 3)) (u) m → 2000 < m.length → ∀ g, ez_B τ g → ez_fr (co_P r) h g → Q (.inl (some (ez_v (.inl 0))), g)) : ez_W (d + 5) cm_137 0 [(0, .inr (.inr (some (729)))), (1, .inr (.inr (some (q)))), (2, .inr (.inr (some (r)))), (3, .inl (fm))] [] h Q := by
  have t729 : τ 729 = 61 := hC.2.1 729 (by decide)
  have t723 : τ 723 = 55 := hC.2.1 723 (by decide)
  have t724 : τ 724 = 56 := hC.2.1 724 (by decide)
  have t727 : τ 727 = 59 := hC.2.1 727 (by decide)
  have t728 : τ 728 = 60 := hC.2.1 728 (by decide)
  refine ez_go (n := 2) (pc' := 2) (L' := [(0, .inr (.inr (some (729)))), (1, .inr (.inr (some (q)))), (2, .inr (.inr (some (r)))), (3, .inl (fm))]) (st' := [.inl (0), .inr (.inr (some (r)))]) rfl ?_
  refine ez_pf hC.1 tr rfl rfl tq_1 rfl rfl rfl rfl (ez_vdI rfl rfl (by omega) (by omega)) (fun hB1 w2 => ?_)
  have a1 : tx (dz_put h r 1 (ez_v (.inl (0)))) r [] := tx_nil (w2.trans rfl)
  have f1 : ez_fr (tx_P r) h (dz_put h r 1 (ez_v (.inl (0)))) := (ez_fr.refl (tx_P r) h).put (tx_Pa r) _ _
  have hB1 := hB1
  generalize (dz_put h r 1 (ez_v (.inl (0)))) = g1 at *
  have hC1 : pz_C τ g1 T F E := hC.keep hB1 (tx_kD hC.1 tr f1)
  have fd1 : fD g1 T F := fd.keep hC (tx_kD hC.1 tr f1) (tx_keep hC.1 tr f1 (by rw [t723]; decide) (by rw [t723]; decide)) (tx_keep hC.1 tr f1 (by rw [t724]; decide) (by rw [t724]; decide))
  have tq1 := tx_p1 hC.1 tq
  have uq1 : tx g1 q u := tx_c uq (f1.2.2 q (tx_Pn qr (fun e => by rw [e, tx_p1 hC.1 tr] at tq; cases tq))) (f1.2.2 (q + 1) (tx_Pn (fun e => by rw [e, tr] at tq1; cases tq1) (fun e => qr (by omega))))
  refine ez_go (n := 4) (pc' := 9) (L' := [(0, .inr (.inr (some (729)))), (1, .inr (.inr (some (q)))), (2, .inr (.inr (some (r)))), (3, .inl (fm))]) (st' := [.inl (fm), .inr (.inr (some (r))), .inr (.inr (some (q))), .inr (.inr (some (729)))]) rfl ?_
  refine ez_cv hB1 t729 rfl rfl rfl tq_61 rfl rfl rfl (rd_expand_t hC1 fd1 hw tr tq qr uq1 up fr a1 (fun m um lt g2 hB2 f2 a2 => ez_K1 ?_) (fun m um lt g2 hB2 f2 => ez_K1 ?_))
  · skip
    have f12 := f1.trans f2
    rw [List.nil_append] at a2
    have pm := uz_FL_ptl hw up um
    have hC2 : pz_C τ g2 T F E := hC.keep hB2 (tx_kD hC.1 tr f12)
    have cp2 : cP g2 F E := cp.keep (tx_keep hC.1 tr f12 (by rw [t723]; decide) (by rw [t723]; decide)) (tx_keep hC.1 tr f12 (by rw [t727]; decide) (by rw [t727]; decide)) (tx_keep hC.1 tr f12 (by rw [t728]; decide) (by rw [t728]; decide))
    refine ez_if rfl rfl ⟨by decide, by decide⟩ (fun (c3 : (1 : Int) = (0)) => absurd c3 (by decide)) (fun _ => ?_)
    refine ez_go (n := 3) (pc' := 18) (L' := [(0, .inr (.inr (some (729)))), (1, .inr (.inr (some (q)))), (2, .inr (.inr (some (r)))), (3, .inl (fm))]) (st' := [.inl (fm), .inr (.inr (some (r))), .inr (.inr (some (729)))]) rfl ?_
    refine ez_cv hB2 t729 rfl rfl rfl tq_61 rfl rfl rfl (rd_finish (h := g2) hC2 hw cp2 tr nr a2 pm fr (fun g4 res hB4 f4 nf pr t4 => ez_K1 ?_))
    refine ez_if rfl rfl ⟨by decide, by decide⟩ (fun (c4 : (1 : Int) = (0)) => absurd c4 (by decide)) (fun _ => ?_)
    refine ez_go (n := 2) (pc' := 29) (L' := [(0, .inr (.inr (some (729)))), (1, .inr (.inr (some (q)))), (2, .inr (.inr (some (r)))), (3, .inl (fm))]) (st' := [.inl (1)]) rfl ?_
    exact ez_retZ rfl rfl (by decide) (k1 m res um (by rw [List.length_nil, Nat.zero_add] at lt; exact lt) nf pr g4 hB4 ((ez_fr_mono f12 (fun z hz => tx_co hz)).trans f4) t4)
  · skip
    have f12 := f1.trans f2
    refine ez_if rfl rfl ⟨by decide, by decide⟩ (fun _ => ?_) (fun (c5 : ¬((0 : Int) = (0))) => absurd c5 (by decide))
    refine ez_go (n := 1) (pc' := 29) (L' := [(0, .inr (.inr (some (729)))), (1, .inr (.inr (some (q)))), (2, .inr (.inr (some (r)))), (3, .inl (fm))]) (st' := [.inl (0)]) rfl ?_
    exact ez_retZ rfl rfl (by decide) (k0 m um (by rw [List.length_nil, Nat.zero_add] at lt; exact lt) g2 hB2 (ez_fr_mono f12 (fun z hz => tx_co hz)))

theorem rd_conv2s {q q2 : Nat} {u u2 : List Int} {fm : Int} (hC : pz_C τ h T F E) (fd : fD h T F) (hw : uz_wf F) (cp : cP h F E) (tr : τ r = 1) (nr : r < 730 ∨ 732 < r) (tq : τ q = 88) (qr : q ≠ r) (uq : tx h q u) (up : ptl u) (tq2 : τ q2 = 88) (qr2 : q2 ≠ r) (uq2 : tx h q2 u2) (up2 : ptl u2) (fr : 0 ≤ fm ∧ fm ≤ 3) (k1 : ∀ m res, uz_FL F (decide (fm = 1 ∨ fm = 3)) (u ++ u2) m → m.length ≤ 2000 → nfR F E fm m res → ptl res → ∀ g, ez_B τ g → ez_fr (co_P r) h g → tx g r res → Q (.inl (some (ez_v (.inl 1))), g)) (k0 : ∀ m, uz_FL F (decide (fm = 1 ∨ fm = 3)) (u ++ u2) m → 2000 < m.length → ∀ g, ez_B τ g → ez_fr (co_P r) h g → Q (.inl (some (ez_v (.inl 0))), g)) : ez_W (d + 5) cm_138 0 [(0, .inr (.inr (some (729)))), (1, .inr (.inr (some (q)))), (2, .inr (.inr (some (q2)))), (3, .inr (.inr (some (r)))), (4, .inl (fm))] [] h Q := by
  have t729 : τ 729 = 61 := hC.2.1 729 (by decide)
  have t723 : τ 723 = 55 := hC.2.1 723 (by decide)
  have t724 : τ 724 = 56 := hC.2.1 724 (by decide)
  have t727 : τ 727 = 59 := hC.2.1 727 (by decide)
  have t728 : τ 728 = 60 := hC.2.1 728 (by decide)
  refine ez_go (n := 2) (pc' := 2) (L' := [(0, .inr (.inr (some (729)))), (1, .inr (.inr (some (q)))), (2, .inr (.inr (some (q2)))), (3, .inr (.inr (some (r)))), (4, .inl (fm))]) (st' := [.inl (0), .inr (.inr (some (r)))]) rfl ?_
  refine ez_pf hC.1 tr rfl rfl tq_1 rfl rfl rfl rfl (ez_vdI rfl rfl (by omega) (by omega)) (fun hB1 w2 => ?_)
  have a1 : tx (dz_put h r 1 (ez_v (.inl (0)))) r [] := tx_nil (w2.trans rfl)
  have f1 : ez_fr (tx_P r) h (dz_put h r 1 (ez_v (.inl (0)))) := (ez_fr.refl (tx_P r) h).put (tx_Pa r) _ _
  have hB1 := hB1
  generalize (dz_put h r 1 (ez_v (.inl (0)))) = g1 at *
  have hC1 : pz_C τ g1 T F E := hC.keep hB1 (tx_kD hC.1 tr f1)
  have fd1 : fD g1 T F := fd.keep hC (tx_kD hC.1 tr f1) (tx_keep hC.1 tr f1 (by rw [t723]; decide) (by rw [t723]; decide)) (tx_keep hC.1 tr f1 (by rw [t724]; decide) (by rw [t724]; decide))
  have tq1 := tx_p88 hC.1 tq
  have uq1 : tx g1 q u := tx_c uq (f1.2.2 q (tx_Pn qr (fun e => by rw [e, tx_p1 hC.1 tr] at tq; cases tq))) (f1.2.2 (q + 1) (tx_Pn (fun e => by rw [e, tr] at tq1; cases tq1) (fun e => qr (by omega))))
  refine ez_go (n := 4) (pc' := 10) (L' := [(0, .inr (.inr (some (729)))), (1, .inr (.inr (some (q)))), (2, .inr (.inr (some (q2)))), (3, .inr (.inr (some (r)))), (4, .inl (fm))]) (st' := [.inl (fm), .inr (.inr (some (r))), .inr (.inr (some (q))), .inr (.inr (some (729)))]) rfl ?_
  refine ez_cv hB1 t729 rfl rfl rfl tq_61 rfl rfl rfl (rd_expand_s hC1 fd1 hw tr tq qr uq1 up fr a1 (fun m um lt g2 hB2 f2 a2 => ez_K1 ?_) (fun m um lt g2 hB2 f2 => ez_K1 ?_))
  · skip
    have f12 := f1.trans f2
    rw [List.nil_append] at a2
    have pm := uz_FL_ptl hw up um
    have hC2 : pz_C τ g2 T F E := hC.keep hB2 (tx_kD hC.1 tr f12)
    have cp2 : cP g2 F E := cp.keep (tx_keep hC.1 tr f12 (by rw [t723]; decide) (by rw [t723]; decide)) (tx_keep hC.1 tr f12 (by rw [t727]; decide) (by rw [t727]; decide)) (tx_keep hC.1 tr f12 (by rw [t728]; decide) (by rw [t728]; decide))
    have fd2 : fD g2 T F := fd.keep hC (tx_kD hC.1 tr f12) (tx_keep hC.1 tr f12 (by rw [t723]; decide) (by rw [t723]; decide)) (tx_keep hC.1 tr f12 (by rw [t724]; decide) (by rw [t724]; decide))
    have tq21 := tx_p88 hC.1 tq2
    have uq2b : tx g2 q2 u2 := tx_c uq2 (f12.2.2 q2 (tx_Pn qr2 (fun e => by rw [e, tx_p1 hC.1 tr] at tq2; cases tq2))) (f12.2.2 (q2 + 1) (tx_Pn (fun e => by rw [e, tr] at tq21; cases tq21) (fun e => qr2 (by omega))))
    refine ez_if rfl rfl ⟨by decide, by decide⟩ (fun (c3 : (1 : Int) = (0)) => absurd c3 (by decide)) (fun _ => ?_)
    refine ez_go (n := 4) (pc' := 21) (L' := [(0, .inr (.inr (some (729)))), (1, .inr (.inr (some (q)))), (2, .inr (.inr (some (q2)))), (3, .inr (.inr (some (r)))), (4, .inl (fm))]) (st' := [.inl (fm), .inr (.inr (some (r))), .inr (.inr (some (q2))), .inr (.inr (some (729)))]) rfl ?_
    refine ez_cv hB2 t729 rfl rfl rfl tq_61 rfl rfl rfl (rd_expand_s hC2 fd2 hw tr tq2 qr2 uq2b up2 fr a2 (fun m2 um2 lt2 g3 hB3 f3 a3 => ez_K1 ?_) (fun m2 um2 lt2 g3 hB3 f3 => ez_K1 ?_))
    · skip
      have f123 := f12.trans f3
      have pm2 := ptl_app pm (uz_FL_ptl hw up2 um2)
      have hC3 : pz_C τ g3 T F E := hC.keep hB3 (tx_kD hC.1 tr f123)
      have cp3 : cP g3 F E := cp.keep (tx_keep hC.1 tr f123 (by rw [t723]; decide) (by rw [t723]; decide)) (tx_keep hC.1 tr f123 (by rw [t727]; decide) (by rw [t727]; decide)) (tx_keep hC.1 tr f123 (by rw [t728]; decide) (by rw [t728]; decide))
      refine ez_if rfl rfl ⟨by decide, by decide⟩ (fun (c4 : (1 : Int) = (0)) => absurd c4 (by decide)) (fun _ => ?_)
      refine ez_go (n := 3) (pc' := 31) (L' := [(0, .inr (.inr (some (729)))), (1, .inr (.inr (some (q)))), (2, .inr (.inr (some (q2)))), (3, .inr (.inr (some (r)))), (4, .inl (fm))]) (st' := [.inl (fm), .inr (.inr (some (r))), .inr (.inr (some (729)))]) rfl ?_
      refine ez_cv hB3 t729 rfl rfl rfl tq_61 rfl rfl rfl (rd_finish (h := g3) hC3 hw cp3 tr nr a3 pm2 fr (fun g4 res hB4 f4 nf pr t4 => ez_K1 ?_))
      refine ez_if rfl rfl ⟨by decide, by decide⟩ (fun (c5 : (1 : Int) = (0)) => absurd c5 (by decide)) (fun _ => ?_)
      refine ez_go (n := 2) (pc' := 42) (L' := [(0, .inr (.inr (some (729)))), (1, .inr (.inr (some (q)))), (2, .inr (.inr (some (q2)))), (3, .inr (.inr (some (r)))), (4, .inl (fm))]) (st' := [.inl (1)]) rfl ?_
      exact ez_retZ rfl rfl (by decide) (k1 (m ++ m2) res (uz_FL_app um um2) (by rw [List.length_append]; exact lt2) nf pr g4 hB4 ((ez_fr_mono f123 (fun z hz => tx_co hz)).trans f4) t4)
    · skip
      have f123 := f12.trans f3
      refine ez_if rfl rfl ⟨by decide, by decide⟩ (fun _ => ?_) (fun (c6 : ¬((0 : Int) = (0))) => absurd c6 (by decide))
      refine ez_go (n := 1) (pc' := 42) (L' := [(0, .inr (.inr (some (729)))), (1, .inr (.inr (some (q)))), (2, .inr (.inr (some (q2)))), (3, .inr (.inr (some (r)))), (4, .inl (fm))]) (st' := [.inl (0)]) rfl ?_
      exact ez_retZ rfl rfl (by decide) (k0 (m ++ m2) (uz_FL_app um um2) (by rw [List.length_append]; exact lt2) g3 hB3 (ez_fr_mono f123 (fun z hz => tx_co hz)))
  · skip
    have f12 := f1.trans f2
    refine ez_if rfl rfl ⟨by decide, by decide⟩ (fun _ => ?_) (fun (c7 : ¬((0 : Int) = (0))) => absurd c7 (by decide))
    refine ez_go (n := 1) (pc' := 42) (L' := [(0, .inr (.inr (some (729)))), (1, .inr (.inr (some (q)))), (2, .inr (.inr (some (q2)))), (3, .inr (.inr (some (r)))), (4, .inl (fm))]) (st' := [.inl (0)]) rfl ?_
    obtain ⟨m2, um2⟩ := fd.allL (decide (fm = 1 ∨ fm = 3)) up2
    exact ez_retZ rfl rfl (by decide) (k0 (m ++ m2) (uz_FL_app um um2) (by rw [List.length_append]; rw [List.length_nil, Nat.zero_add] at lt; omega) g2 hB2 (ez_fr_mono f12 (fun z hz => tx_co hz)))

end EzNf
