/-! The class: runs of marks put in order. (Written by wip/p2/py/pvt3.py.) -/
def so_P (p z : Nat) : Bool := Nat.beq z p || (Nat.ble 730 z && Nat.ble z 732)
theorem so_Pp (p : Nat) : so_P p p = true := by unfold so_P; rw [Nat.beq_refl]; rfl
theorem so_Po {p z : Nat} (h : 730 ≤ z ∧ z ≤ 732) : so_P p z = true := by unfold so_P; rw [Nat.ble_eq.mpr h.1, Nat.ble_eq.mpr h.2]; exact Bool.or_true _
theorem so_Pn {p z : Nat} (h1 : z ≠ p) (h2 : z < 730 ∨ 732 < z) : so_P p z = false := by
  unfold so_P
  rw [dz_beq_ne h1]
  cases e : Nat.ble 730 z && Nat.ble z 732 with
  | false => rfl
  | true => rw [Bool.and_eq_true, Nat.ble_eq, Nat.ble_eq] at e; omega
section EzSo
variable {d : Nat} {h : cz_H} {τ : Nat → Nat} {Q : cz_F → Prop} {p : Nat} {L : List (Int × Int)}
theorem rd_merge_l {a m b : Int} (t729 : τ 729 = 61) (t730 : τ 730 = 62) (t731 : τ 731 = 63) (t732 : τ 732 = 64) (tp : τ p = 2) (ll : (L.length : Int) ≤ 2000) (rg : rgl L) (a0 : 0 ≤ a) (am : a < m) (mb : m < b) (bl : b ≤ (L.length : Int)) (u1 : upw L a m) (u2 : upw L m b) (ps : ps0 L a b) (k : ∀ g L', ez_B τ g → ez_fr (so_P p) h g → prs g p L' → mgd L L' a b → Q (.inl none, g)) : ∀ (n : Nat) (i x y : Int) (g : cz_H), n = (b - i).toNat → i ≤ b → ez_B τ g → ez_fr (so_P p) h g → mgi g p L a m b i x y → ez_W d cm_143 58 [(7, .inl (i)), (6, .inl (y)), (5, .inl (x)), (0, .inr (.inr (some (729)))), (1, .inr (.inr (some (p)))), (2, .inl (a)), (3, .inl (m)), (4, .inl (b))] [] g Q := by
  have np0 : p ≠ 730 := fun e => by rw [e, t730] at tp; cases tp
  have np1 : p ≠ 731 := fun e => by rw [e, t731] at tp; cases tp
  have np2 : p ≠ 732 := fun e => by rw [e, t732] at tp; cases tp
  intro n
  induction n with
  | zero =>
    intro i x y g hn ib hBg hf hm
    obtain ⟨⟨⟨c1, c2⟩, ⟨c3, c4⟩, c5⟩, -, -, -, c9⟩ := id hm
    refine ez_go (n := 2) (pc' := 62) (L' := [(7, .inl (i)), (6, .inl (y)), (5, .inl (x)), (0, .inr (.inr (some (729)))), (1, .inr (.inr (some (p)))), (2, .inl (a)), (3, .inl (m)), (4, .inl (b))]) (st' := [.inl (b), .inl (i)]) rfl ?_
    refine ez_icmp rfl rfl ⟨by first | omega | exact (sz_i32 _).1, by first | omega | exact (sz_i32 _).2⟩ ⟨by first | omega | exact (sz_i32 _).1, by first | omega | exact (sz_i32 _).2⟩ (fun (c1 : (b) ≤ (i)) => ?_) (fun (c1 : ¬((b) ≤ (i))) => ?_)
    · skip
      exact ez_ret0 rfl rfl (k g _ hBg hf (mgi_end a0 (by omega) (by omega) bl hm (by omega)) (mgw_mg a0 (by omega) (by omega) bl u1 u2 ps))
    · exfalso; omega
  | succ n ih =>
    intro i x y g hn ib hBg hf hm
    obtain ⟨⟨⟨c1, c2⟩, ⟨c3, c4⟩, c5⟩, -, -, -, c9⟩ := id hm
    refine ez_go (n := 2) (pc' := 62) (L' := [(7, .inl (i)), (6, .inl (y)), (5, .inl (x)), (0, .inr (.inr (some (729)))), (1, .inr (.inr (some (p)))), (2, .inl (a)), (3, .inl (m)), (4, .inl (b))]) (st' := [.inl (b), .inl (i)]) rfl ?_
    refine ez_icmp rfl rfl ⟨by first | omega | exact (sz_i32 _).1, by first | omega | exact (sz_i32 _).2⟩ ⟨by first | omega | exact (sz_i32 _).1, by first | omega | exact (sz_i32 _).2⟩ (fun (c1 : (b) ≤ (i)) => ?_) (fun (c1 : ¬((b) ≤ (i))) => ?_)
    · exfalso; omega
    · skip
      refine ez_go (n := 2) (pc' := 69) (L' := [(7, .inl (i)), (6, .inl (y)), (5, .inl (x)), (0, .inr (.inr (some (729)))), (1, .inr (.inr (some (p)))), (2, .inl (a)), (3, .inl (m)), (4, .inl (b))]) (st' := [.inl (b), .inl (y)]) rfl ?_
      refine ez_icmp rfl rfl ⟨by first | omega | exact (sz_i32 _).1, by first | omega | exact (sz_i32 _).2⟩ ⟨by first | omega | exact (sz_i32 _).1, by first | omega | exact (sz_i32 _).2⟩ (fun (c2 : (b) ≤ (y)) => ?_) (fun (c2 : ¬((b) ≤ (y))) => ?_)
      · skip
        refine ez_go (n := 4) (pc' := 104) (L' := [(8, .inl (1)), (7, .inl (i)), (6, .inl (y)), (5, .inl (x)), (0, .inr (.inr (some (729)))), (1, .inr (.inr (some (p)))), (2, .inl (a)), (3, .inl (m)), (4, .inl (b))]) (st' := [.inl (1)]) rfl ?_
        refine ez_if rfl rfl ⟨by decide, by decide⟩ (fun (c3 : (1 : Int) = (0)) => absurd c3 (by decide)) (fun _ => ?_)
        refine ez_go (n := 6) (pc' := 120) (L' := [(9, .inl (x)), (8, .inl (1)), (7, .inl (i)), (6, .inl (y)), (5, .inl (x)), (0, .inr (.inr (some (729)))), (1, .inr (.inr (some (p)))), (2, .inl (a)), (3, .inl (m)), (4, .inl (b))]) (st' := [.inr (.inr (some (729))), .inl (i), .inr (.inr (some (p)))]) rfl ?_
        refine ez_gC (p := 731) (tg := 63) hBg t729 rfl rfl tq_61 rfl rfl (fun (t731 : _ = 63) => ?_)
        refine ez_go (n := 1) (pc' := 125) (L' := [(9, .inl (x)), (8, .inl (1)), (7, .inl (i)), (6, .inl (y)), (5, .inl (x)), (0, .inr (.inr (some (729)))), (1, .inr (.inr (some (p)))), (2, .inl (a)), (3, .inl (m)), (4, .inl (b))]) (st' := [.inl (x), .inr (.inr (some (731))), .inl (i), .inr (.inr (some (p)))]) rfl ?_
        have n5 : 2000 ≤ qz_N g 731 ∧ qz_N g 731 ≤ 2000 := ez_len hBg t731 tq_63 rfl
        refine ez_aI hBg t731 rfl tq_63 rfl rfl (by omega) (by omega) (fun (b4 : -2147483648 ≤ qz_I g 731 (x).toNat) (b4' : qz_I g 731 (x).toNat ≤ 2147483647) => ?_)
        have n8 : 2000 ≤ qz_N g p ∧ qz_N g p ≤ 2000 := ez_len hBg tp tq_2 rfl
        refine ez_as hBg tp rfl tq_2 rfl rfl (by omega) (by omega) (ez_vdI rfl rfl (by omega) (by omega)) (fun hB6 w7 => ?_)
        refine ez_go (n := 1) (pc' := 128) (L' := [(9, .inl (x)), (8, .inl (1)), (7, .inl (i)), (6, .inl (y)), (5, .inl (x)), (0, .inr (.inr (some (729)))), (1, .inr (.inr (some (p)))), (2, .inl (a)), (3, .inl (m)), (4, .inl (b))]) (st' := [.inr (.inr (some (729)))]) rfl ?_
        refine ez_gC (p := 730) (tg := 62) hB6 t729 rfl rfl tq_61 rfl rfl (fun (t730 : _ = 62) => ?_)
        refine ez_go (n := 2) (pc' := 134) (L' := [(9, .inl (x)), (8, .inl (1)), (7, .inl (i)), (6, .inl (y)), (5, .inl (x)), (0, .inr (.inr (some (729)))), (1, .inr (.inr (some (p)))), (2, .inl (a)), (3, .inl (m)), (4, .inl (b))]) (st' := [.inr (.inr (some (729))), .inl (i), .inr (.inr (some (730)))]) rfl ?_
        refine ez_gC (p := 732) (tg := 64) hB6 t729 rfl rfl tq_61 rfl rfl (fun (t732 : _ = 64) => ?_)
        refine ez_go (n := 1) (pc' := 139) (L' := [(9, .inl (x)), (8, .inl (1)), (7, .inl (i)), (6, .inl (y)), (5, .inl (x)), (0, .inr (.inr (some (729)))), (1, .inr (.inr (some (p)))), (2, .inl (a)), (3, .inl (m)), (4, .inl (b))]) (st' := [.inl (x), .inr (.inr (some (732))), .inl (i), .inr (.inr (some (730)))]) rfl ?_
        have n10 : 2000 ≤ qz_N (dz_put g p (i).toNat (ez_v (.inl (qz_I g 731 (x).toNat)))) 732 ∧ qz_N (dz_put g p (i).toNat (ez_v (.inl (qz_I g 731 (x).toNat)))) 732 ≤ 2000 := ez_len hB6 t732 tq_64 rfl
        refine ez_aI hB6 t732 rfl tq_64 rfl rfl (by omega) (by omega) (fun (b9 : -2147483648 ≤ qz_I (dz_put g p (i).toNat (ez_v (.inl (qz_I g 731 (x).toNat)))) 732 (x).toNat) (b9' : qz_I (dz_put g p (i).toNat (ez_v (.inl (qz_I g 731 (x).toNat)))) 732 (x).toNat ≤ 2147483647) => ?_)
        have n13 : 2000 ≤ qz_N (dz_put g p (i).toNat (ez_v (.inl (qz_I g 731 (x).toNat)))) 730 ∧ qz_N (dz_put g p (i).toNat (ez_v (.inl (qz_I g 731 (x).toNat)))) 730 ≤ 2000 := ez_len hB6 t730 tq_62 rfl
        refine ez_as hB6 t730 rfl tq_62 rfl rfl (by omega) (by omega) (ez_vdI rfl rfl (by omega) (by omega)) (fun hB11 w12 => ?_)
        refine ez_go (n := 1) (pc' := 143) (L' := [(9, .inl (x)), (8, .inl (1)), (7, .inl (i)), (6, .inl (y)), (5, .inl (x)), (0, .inr (.inr (some (729)))), (1, .inr (.inr (some (p)))), (2, .inl (a)), (3, .inl (m)), (4, .inl (b))]) (st' := [.inl (1)]) rfl ?_
        refine ez_if rfl rfl ⟨by decide, by decide⟩ (fun (c14 : (1 : Int) = (0)) => absurd c14 (by decide)) (fun _ => ?_)
        refine ez_go (n := 4) (pc' := 58) (L' := [(7, .inl (i + 1)), (5, .inl (x + 1)), (9, .inl (x)), (8, .inl (1)), (6, .inl (y)), (0, .inr (.inr (some (729)))), (1, .inr (.inr (some (p)))), (2, .inl (a)), (3, .inl (m)), (4, .inl (b))]) (st' := []) rfl ?_
        refine ez_less [(7, .inl (i + 1)), (6, .inl (y)), (5, .inl (x + 1)), (0, .inr (.inr (some (729)))), (1, .inr (.inr (some (p)))), (2, .inl (a)), (3, .inl (m)), (4, .inl (b))] rfl ⟨rfl, rfl, rfl, rfl, rfl, rfl, rfl, rfl, trivial⟩ ?_
        have h9 : (x).toNat < L.length := by omega
        have ez := c9 (x).toNat _ (by omega) (by omega) (List.getElem?_eq_getElem h9)
        have rz9 := rg _ (List.getElem_mem h9)
        have cd : y = b ∨ ∀ w, L[y.toNat]? = some w → (L[x.toNat]).2 ≤ w.2 := by first | exact Or.inl (by omega) | exact Or.inr (fun w hw => by have := c9 y.toNat w (by omega) (by omega) hw; omega)
        have w1 : qz_I (dz_put (dz_put g p (i).toNat (ez_v (.inl (qz_I g 731 (x).toNat)))) 730 (i).toNat (ez_v (.inl (qz_I (dz_put g p (i).toNat (ez_v (.inl (qz_I g 731 (x).toNat)))) 732 (x).toNat)))) p (i).toNat = (L[(x).toNat]).1 := by rw [ez_put_I (fun w => by omega), w7, ez.1]; exact ez_rg.v rz9.1
        have w2 : qz_I (dz_put (dz_put g p (i).toNat (ez_v (.inl (qz_I g 731 (x).toNat)))) 730 (i).toNat (ez_v (.inl (qz_I (dz_put g p (i).toNat (ez_v (.inl (qz_I g 731 (x).toNat)))) 732 (x).toNat)))) 730 (i).toNat = (L[(x).toNat]).2 := by rw [w12, ez_put_I (fun w => by omega), ez.2]; exact ez_rg.v rz9.2
        have st := (mgi_step (g2 := (dz_put (dz_put g p (i).toNat (ez_v (.inl (qz_I g 731 (x).toNat)))) 730 (i).toNat (ez_v (.inl (qz_I (dz_put g p (i).toNat (ez_v (.inl (qz_I g 731 (x).toNat)))) 732 (x).toNat))))) (t := x) a0 bl hm (by omega) (List.getElem?_eq_getElem h9) w1 w2 (fun j hj => by rw [ez_put_I (fun w => by omega), ez_put_I (fun w => hj w.2)]) (fun j hj => by rw [ez_put_I (fun w => hj w.2), ez_put_I (fun w => by omega)]) (fun j => by rw [ez_put_I (fun w => by omega), ez_put_I (fun w => by omega)]) (fun j => by rw [ez_put_I (fun w => by omega), ez_put_I (fun w => by omega)])).1 rfl (by omega) cd
        exact ih _ _ _ _ (by omega) (by omega) hB11 ((hf.put (so_Pp p) _ _).put (so_Po (by decide)) _ _) st
      · skip
        refine ez_go (n := 2) (pc' := 75) (L' := [(7, .inl (i)), (6, .inl (y)), (5, .inl (x)), (0, .inr (.inr (some (729)))), (1, .inr (.inr (some (p)))), (2, .inl (a)), (3, .inl (m)), (4, .inl (b))]) (st' := [.inl (m), .inl (x)]) rfl ?_
        refine ez_icmp rfl rfl ⟨by first | omega | exact (sz_i32 _).1, by first | omega | exact (sz_i32 _).2⟩ ⟨by first | omega | exact (sz_i32 _).1, by first | omega | exact (sz_i32 _).2⟩ (fun (c15 : (m) ≤ (x)) => ?_) (fun (c15 : ¬((m) ≤ (x))) => ?_)
        · skip
          refine ez_go (n := 3) (pc' := 104) (L' := [(8, .inl (0)), (7, .inl (i)), (6, .inl (y)), (5, .inl (x)), (0, .inr (.inr (some (729)))), (1, .inr (.inr (some (p)))), (2, .inl (a)), (3, .inl (m)), (4, .inl (b))]) (st' := [.inl (0)]) rfl ?_
          refine ez_if rfl rfl ⟨by decide, by decide⟩ (fun _ => ?_) (fun (c16 : ¬((0 : Int) = (0))) => absurd c16 (by decide))
          refine ez_go (n := 5) (pc' := 120) (L' := [(9, .inl (y)), (8, .inl (0)), (7, .inl (i)), (6, .inl (y)), (5, .inl (x)), (0, .inr (.inr (some (729)))), (1, .inr (.inr (some (p)))), (2, .inl (a)), (3, .inl (m)), (4, .inl (b))]) (st' := [.inr (.inr (some (729))), .inl (i), .inr (.inr (some (p)))]) rfl ?_
          refine ez_gC (p := 731) (tg := 63) hBg t729 rfl rfl tq_61 rfl rfl (fun (t731 : _ = 63) => ?_)
          refine ez_go (n := 1) (pc' := 125) (L' := [(9, .inl (y)), (8, .inl (0)), (7, .inl (i)), (6, .inl (y)), (5, .inl (x)), (0, .inr (.inr (some (729)))), (1, .inr (.inr (some (p)))), (2, .inl (a)), (3, .inl (m)), (4, .inl (b))]) (st' := [.inl (y), .inr (.inr (some (731))), .inl (i), .inr (.inr (some (p)))]) rfl ?_
          have n18 : 2000 ≤ qz_N g 731 ∧ qz_N g 731 ≤ 2000 := ez_len hBg t731 tq_63 rfl
          refine ez_aI hBg t731 rfl tq_63 rfl rfl (by omega) (by omega) (fun (b17 : -2147483648 ≤ qz_I g 731 (y).toNat) (b17' : qz_I g 731 (y).toNat ≤ 2147483647) => ?_)
          have n21 : 2000 ≤ qz_N g p ∧ qz_N g p ≤ 2000 := ez_len hBg tp tq_2 rfl
          refine ez_as hBg tp rfl tq_2 rfl rfl (by omega) (by omega) (ez_vdI rfl rfl (by omega) (by omega)) (fun hB19 w20 => ?_)
          refine ez_go (n := 1) (pc' := 128) (L' := [(9, .inl (y)), (8, .inl (0)), (7, .inl (i)), (6, .inl (y)), (5, .inl (x)), (0, .inr (.inr (some (729)))), (1, .inr (.inr (some (p)))), (2, .inl (a)), (3, .inl (m)), (4, .inl (b))]) (st' := [.inr (.inr (some (729)))]) rfl ?_
          refine ez_gC (p := 730) (tg := 62) hB19 t729 rfl rfl tq_61 rfl rfl (fun (t730 : _ = 62) => ?_)
          refine ez_go (n := 2) (pc' := 134) (L' := [(9, .inl (y)), (8, .inl (0)), (7, .inl (i)), (6, .inl (y)), (5, .inl (x)), (0, .inr (.inr (some (729)))), (1, .inr (.inr (some (p)))), (2, .inl (a)), (3, .inl (m)), (4, .inl (b))]) (st' := [.inr (.inr (some (729))), .inl (i), .inr (.inr (some (730)))]) rfl ?_
          refine ez_gC (p := 732) (tg := 64) hB19 t729 rfl rfl tq_61 rfl rfl (fun (t732 : _ = 64) => ?_)
          refine ez_go (n := 1) (pc' := 139) (L' := [(9, .inl (y)), (8, .inl (0)), (7, .inl (i)), (6, .inl (y)), (5, .inl (x)), (0, .inr (.inr (some (729)))), (1, .inr (.inr (some (p)))), (2, .inl (a)), (3, .inl (m)), (4, .inl (b))]) (st' := [.inl (y), .inr (.inr (some (732))), .inl (i), .inr (.inr (some (730)))]) rfl ?_
          have n23 : 2000 ≤ qz_N (dz_put g p (i).toNat (ez_v (.inl (qz_I g 731 (y).toNat)))) 732 ∧ qz_N (dz_put g p (i).toNat (ez_v (.inl (qz_I g 731 (y).toNat)))) 732 ≤ 2000 := ez_len hB19 t732 tq_64 rfl
          refine ez_aI hB19 t732 rfl tq_64 rfl rfl (by omega) (by omega) (fun (b22 : -2147483648 ≤ qz_I (dz_put g p (i).toNat (ez_v (.inl (qz_I g 731 (y).toNat)))) 732 (y).toNat) (b22' : qz_I (dz_put g p (i).toNat (ez_v (.inl (qz_I g 731 (y).toNat)))) 732 (y).toNat ≤ 2147483647) => ?_)
          have n26 : 2000 ≤ qz_N (dz_put g p (i).toNat (ez_v (.inl (qz_I g 731 (y).toNat)))) 730 ∧ qz_N (dz_put g p (i).toNat (ez_v (.inl (qz_I g 731 (y).toNat)))) 730 ≤ 2000 := ez_len hB19 t730 tq_62 rfl
          refine ez_as hB19 t730 rfl tq_62 rfl rfl (by omega) (by omega) (ez_vdI rfl rfl (by omega) (by omega)) (fun hB24 w25 => ?_)
          refine ez_go (n := 1) (pc' := 143) (L' := [(9, .inl (y)), (8, .inl (0)), (7, .inl (i)), (6, .inl (y)), (5, .inl (x)), (0, .inr (.inr (some (729)))), (1, .inr (.inr (some (p)))), (2, .inl (a)), (3, .inl (m)), (4, .inl (b))]) (st' := [.inl (0)]) rfl ?_
          refine ez_if rfl rfl ⟨by decide, by decide⟩ (fun _ => ?_) (fun (c27 : ¬((0 : Int) = (0))) => absurd c27 (by decide))
          refine ez_go (n := 3) (pc' := 58) (L' := [(7, .inl (i + 1)), (6, .inl (y + 1)), (9, .inl (y)), (8, .inl (0)), (5, .inl (x)), (0, .inr (.inr (some (729)))), (1, .inr (.inr (some (p)))), (2, .inl (a)), (3, .inl (m)), (4, .inl (b))]) (st' := []) rfl ?_
          refine ez_less [(7, .inl (i + 1)), (6, .inl (y + 1)), (5, .inl (x)), (0, .inr (.inr (some (729)))), (1, .inr (.inr (some (p)))), (2, .inl (a)), (3, .inl (m)), (4, .inl (b))] rfl ⟨rfl, rfl, rfl, rfl, rfl, rfl, rfl, rfl, trivial⟩ ?_
          have h9 : (y).toNat < L.length := by omega
          have ez := c9 (y).toNat _ (by omega) (by omega) (List.getElem?_eq_getElem h9)
          have rz9 := rg _ (List.getElem_mem h9)
          have cd : x = m ∨ ∀ w, L[x.toNat]? = some w → ¬ w.2 ≤ (L[y.toNat]).2 := by first | exact Or.inl (by omega) | exact Or.inr (fun w hw => by have := c9 x.toNat w (by omega) (by omega) hw; omega)
          have w1 : qz_I (dz_put (dz_put g p (i).toNat (ez_v (.inl (qz_I g 731 (y).toNat)))) 730 (i).toNat (ez_v (.inl (qz_I (dz_put g p (i).toNat (ez_v (.inl (qz_I g 731 (y).toNat)))) 732 (y).toNat)))) p (i).toNat = (L[(y).toNat]).1 := by rw [ez_put_I (fun w => by omega), w20, ez.1]; exact ez_rg.v rz9.1
          have w2 : qz_I (dz_put (dz_put g p (i).toNat (ez_v (.inl (qz_I g 731 (y).toNat)))) 730 (i).toNat (ez_v (.inl (qz_I (dz_put g p (i).toNat (ez_v (.inl (qz_I g 731 (y).toNat)))) 732 (y).toNat)))) 730 (i).toNat = (L[(y).toNat]).2 := by rw [w25, ez_put_I (fun w => by omega), ez.2]; exact ez_rg.v rz9.2
          have st := (mgi_step (g2 := (dz_put (dz_put g p (i).toNat (ez_v (.inl (qz_I g 731 (y).toNat)))) 730 (i).toNat (ez_v (.inl (qz_I (dz_put g p (i).toNat (ez_v (.inl (qz_I g 731 (y).toNat)))) 732 (y).toNat))))) (t := y) a0 bl hm (by omega) (List.getElem?_eq_getElem h9) w1 w2 (fun j hj => by rw [ez_put_I (fun w => by omega), ez_put_I (fun w => hj w.2)]) (fun j hj => by rw [ez_put_I (fun w => hj w.2), ez_put_I (fun w => by omega)]) (fun j => by rw [ez_put_I (fun w => by omega), ez_put_I (fun w => by omega)]) (fun j => by rw [ez_put_I (fun w => by omega), ez_put_I (fun w => by omega)])).2 rfl (by omega) cd
          exact ih _ _ _ _ (by omega) (by omega) hB24 ((hf.put (so_Pp p) _ _).put (so_Po (by decide)) _ _) st
        · skip
          refine ez_go (n := 1) (pc' := 79) (L' := [(7, .inl (i)), (6, .inl (y)), (5, .inl (x)), (0, .inr (.inr (some (729)))), (1, .inr (.inr (some (p)))), (2, .inl (a)), (3, .inl (m)), (4, .inl (b))]) (st' := [.inr (.inr (some (729)))]) rfl ?_
          refine ez_gC (p := 732) (tg := 64) hBg t729 rfl rfl tq_61 rfl rfl (fun (t732 : _ = 64) => ?_)
          refine ez_go (n := 1) (pc' := 84) (L' := [(7, .inl (i)), (6, .inl (y)), (5, .inl (x)), (0, .inr (.inr (some (729)))), (1, .inr (.inr (some (p)))), (2, .inl (a)), (3, .inl (m)), (4, .inl (b))]) (st' := [.inl (x), .inr (.inr (some (732)))]) rfl ?_
          have n29 : 2000 ≤ qz_N g 732 ∧ qz_N g 732 ≤ 2000 := ez_len hBg t732 tq_64 rfl
          refine ez_aI hBg t732 rfl tq_64 rfl rfl (by omega) (by omega) (fun (b28 : -2147483648 ≤ qz_I g 732 (x).toNat) (b28' : qz_I g 732 (x).toNat ≤ 2147483647) => ?_)
          refine ez_go (n := 1) (pc' := 86) (L' := [(7, .inl (i)), (6, .inl (y)), (5, .inl (x)), (0, .inr (.inr (some (729)))), (1, .inr (.inr (some (p)))), (2, .inl (a)), (3, .inl (m)), (4, .inl (b))]) (st' := [.inr (.inr (some (729))), .inl (qz_I g 732 (x).toNat)]) rfl ?_
          refine ez_gC (p := 732) (tg := 64) hBg t729 rfl rfl tq_61 rfl rfl (fun (t732 : _ = 64) => ?_)
          refine ez_go (n := 1) (pc' := 91) (L' := [(7, .inl (i)), (6, .inl (y)), (5, .inl (x)), (0, .inr (.inr (some (729)))), (1, .inr (.inr (some (p)))), (2, .inl (a)), (3, .inl (m)), (4, .inl (b))]) (st' := [.inl (y), .inr (.inr (some (732))), .inl (qz_I g 732 (x).toNat)]) rfl ?_
          have n31 : 2000 ≤ qz_N g 732 ∧ qz_N g 732 ≤ 2000 := ez_len hBg t732 tq_64 rfl
          refine ez_aI hBg t732 rfl tq_64 rfl rfl (by omega) (by omega) (fun (b30 : -2147483648 ≤ qz_I g 732 (y).toNat) (b30' : qz_I g 732 (y).toNat ≤ 2147483647) => ?_)
          refine ez_icmp rfl rfl ⟨by first | omega | exact (sz_i32 _).1, by first | omega | exact (sz_i32 _).2⟩ ⟨by first | omega | exact (sz_i32 _).1, by first | omega | exact (sz_i32 _).2⟩ (fun (c32 : (qz_I g 732 (y).toNat) < (qz_I g 732 (x).toNat)) => ?_) (fun (c32 : ¬((qz_I g 732 (y).toNat) < (qz_I g 732 (x).toNat))) => ?_)
          · skip
            refine ez_go (n := 3) (pc' := 104) (L' := [(8, .inl (0)), (7, .inl (i)), (6, .inl (y)), (5, .inl (x)), (0, .inr (.inr (some (729)))), (1, .inr (.inr (some (p)))), (2, .inl (a)), (3, .inl (m)), (4, .inl (b))]) (st' := [.inl (0)]) rfl ?_
            refine ez_if rfl rfl ⟨by decide, by decide⟩ (fun _ => ?_) (fun (c33 : ¬((0 : Int) = (0))) => absurd c33 (by decide))
            refine ez_go (n := 5) (pc' := 120) (L' := [(9, .inl (y)), (8, .inl (0)), (7, .inl (i)), (6, .inl (y)), (5, .inl (x)), (0, .inr (.inr (some (729)))), (1, .inr (.inr (some (p)))), (2, .inl (a)), (3, .inl (m)), (4, .inl (b))]) (st' := [.inr (.inr (some (729))), .inl (i), .inr (.inr (some (p)))]) rfl ?_
            refine ez_gC (p := 731) (tg := 63) hBg t729 rfl rfl tq_61 rfl rfl (fun (t731 : _ = 63) => ?_)
            refine ez_go (n := 1) (pc' := 125) (L' := [(9, .inl (y)), (8, .inl (0)), (7, .inl (i)), (6, .inl (y)), (5, .inl (x)), (0, .inr (.inr (some (729)))), (1, .inr (.inr (some (p)))), (2, .inl (a)), (3, .inl (m)), (4, .inl (b))]) (st' := [.inl (y), .inr (.inr (some (731))), .inl (i), .inr (.inr (some (p)))]) rfl ?_
            have n35 : 2000 ≤ qz_N g 731 ∧ qz_N g 731 ≤ 2000 := ez_len hBg t731 tq_63 rfl
            refine ez_aI hBg t731 rfl tq_63 rfl rfl (by omega) (by omega) (fun (b34 : -2147483648 ≤ qz_I g 731 (y).toNat) (b34' : qz_I g 731 (y).toNat ≤ 2147483647) => ?_)
            have n38 : 2000 ≤ qz_N g p ∧ qz_N g p ≤ 2000 := ez_len hBg tp tq_2 rfl
            refine ez_as hBg tp rfl tq_2 rfl rfl (by omega) (by omega) (ez_vdI rfl rfl (by omega) (by omega)) (fun hB36 w37 => ?_)
            refine ez_go (n := 1) (pc' := 128) (L' := [(9, .inl (y)), (8, .inl (0)), (7, .inl (i)), (6, .inl (y)), (5, .inl (x)), (0, .inr (.inr (some (729)))), (1, .inr (.inr (some (p)))), (2, .inl (a)), (3, .inl (m)), (4, .inl (b))]) (st' := [.inr (.inr (some (729)))]) rfl ?_
            refine ez_gC (p := 730) (tg := 62) hB36 t729 rfl rfl tq_61 rfl rfl (fun (t730 : _ = 62) => ?_)
            refine ez_go (n := 2) (pc' := 134) (L' := [(9, .inl (y)), (8, .inl (0)), (7, .inl (i)), (6, .inl (y)), (5, .inl (x)), (0, .inr (.inr (some (729)))), (1, .inr (.inr (some (p)))), (2, .inl (a)), (3, .inl (m)), (4, .inl (b))]) (st' := [.inr (.inr (some (729))), .inl (i), .inr (.inr (some (730)))]) rfl ?_
            refine ez_gC (p := 732) (tg := 64) hB36 t729 rfl rfl tq_61 rfl rfl (fun (t732 : _ = 64) => ?_)
            refine ez_go (n := 1) (pc' := 139) (L' := [(9, .inl (y)), (8, .inl (0)), (7, .inl (i)), (6, .inl (y)), (5, .inl (x)), (0, .inr (.inr (some (729)))), (1, .inr (.inr (some (p)))), (2, .inl (a)), (3, .inl (m)), (4, .inl (b))]) (st' := [.inl (y), .inr (.inr (some (732))), .inl (i), .inr (.inr (some (730)))]) rfl ?_
            have n40 : 2000 ≤ qz_N (dz_put g p (i).toNat (ez_v (.inl (qz_I g 731 (y).toNat)))) 732 ∧ qz_N (dz_put g p (i).toNat (ez_v (.inl (qz_I g 731 (y).toNat)))) 732 ≤ 2000 := ez_len hB36 t732 tq_64 rfl
            refine ez_aI hB36 t732 rfl tq_64 rfl rfl (by omega) (by omega) (fun (b39 : -2147483648 ≤ qz_I (dz_put g p (i).toNat (ez_v (.inl (qz_I g 731 (y).toNat)))) 732 (y).toNat) (b39' : qz_I (dz_put g p (i).toNat (ez_v (.inl (qz_I g 731 (y).toNat)))) 732 (y).toNat ≤ 2147483647) => ?_)
            have n43 : 2000 ≤ qz_N (dz_put g p (i).toNat (ez_v (.inl (qz_I g 731 (y).toNat)))) 730 ∧ qz_N (dz_put g p (i).toNat (ez_v (.inl (qz_I g 731 (y).toNat)))) 730 ≤ 2000 := ez_len hB36 t730 tq_62 rfl
            refine ez_as hB36 t730 rfl tq_62 rfl rfl (by omega) (by omega) (ez_vdI rfl rfl (by omega) (by omega)) (fun hB41 w42 => ?_)
            refine ez_go (n := 1) (pc' := 143) (L' := [(9, .inl (y)), (8, .inl (0)), (7, .inl (i)), (6, .inl (y)), (5, .inl (x)), (0, .inr (.inr (some (729)))), (1, .inr (.inr (some (p)))), (2, .inl (a)), (3, .inl (m)), (4, .inl (b))]) (st' := [.inl (0)]) rfl ?_
            refine ez_if rfl rfl ⟨by decide, by decide⟩ (fun _ => ?_) (fun (c44 : ¬((0 : Int) = (0))) => absurd c44 (by decide))
            refine ez_go (n := 3) (pc' := 58) (L' := [(7, .inl (i + 1)), (6, .inl (y + 1)), (9, .inl (y)), (8, .inl (0)), (5, .inl (x)), (0, .inr (.inr (some (729)))), (1, .inr (.inr (some (p)))), (2, .inl (a)), (3, .inl (m)), (4, .inl (b))]) (st' := []) rfl ?_
            refine ez_less [(7, .inl (i + 1)), (6, .inl (y + 1)), (5, .inl (x)), (0, .inr (.inr (some (729)))), (1, .inr (.inr (some (p)))), (2, .inl (a)), (3, .inl (m)), (4, .inl (b))] rfl ⟨rfl, rfl, rfl, rfl, rfl, rfl, rfl, rfl, trivial⟩ ?_
            have h9 : (y).toNat < L.length := by omega
            have ez := c9 (y).toNat _ (by omega) (by omega) (List.getElem?_eq_getElem h9)
            have rz9 := rg _ (List.getElem_mem h9)
            have cd : x = m ∨ ∀ w, L[x.toNat]? = some w → ¬ w.2 ≤ (L[y.toNat]).2 := by first | exact Or.inl (by omega) | exact Or.inr (fun w hw => by have := c9 x.toNat w (by omega) (by omega) hw; omega)
            have w1 : qz_I (dz_put (dz_put g p (i).toNat (ez_v (.inl (qz_I g 731 (y).toNat)))) 730 (i).toNat (ez_v (.inl (qz_I (dz_put g p (i).toNat (ez_v (.inl (qz_I g 731 (y).toNat)))) 732 (y).toNat)))) p (i).toNat = (L[(y).toNat]).1 := by rw [ez_put_I (fun w => by omega), w37, ez.1]; exact ez_rg.v rz9.1
            have w2 : qz_I (dz_put (dz_put g p (i).toNat (ez_v (.inl (qz_I g 731 (y).toNat)))) 730 (i).toNat (ez_v (.inl (qz_I (dz_put g p (i).toNat (ez_v (.inl (qz_I g 731 (y).toNat)))) 732 (y).toNat)))) 730 (i).toNat = (L[(y).toNat]).2 := by rw [w42, ez_put_I (fun w => by omega), ez.2]; exact ez_rg.v rz9.2
            have st := (mgi_step (g2 := (dz_put (dz_put g p (i).toNat (ez_v (.inl (qz_I g 731 (y).toNat)))) 730 (i).toNat (ez_v (.inl (qz_I (dz_put g p (i).toNat (ez_v (.inl (qz_I g 731 (y).toNat)))) 732 (y).toNat))))) (t := y) a0 bl hm (by omega) (List.getElem?_eq_getElem h9) w1 w2 (fun j hj => by rw [ez_put_I (fun w => by omega), ez_put_I (fun w => hj w.2)]) (fun j hj => by rw [ez_put_I (fun w => hj w.2), ez_put_I (fun w => by omega)]) (fun j => by rw [ez_put_I (fun w => by omega), ez_put_I (fun w => by omega)]) (fun j => by rw [ez_put_I (fun w => by omega), ez_put_I (fun w => by omega)])).2 rfl (by omega) cd
            exact ih _ _ _ _ (by omega) (by omega) hB41 ((hf.put (so_Pp p) _ _).put (so_Po (by decide)) _ _) st
          · skip
            refine ez_go (n := 4) (pc' := 104) (L' := [(8, .inl (1)), (7, .inl (i)), (6, .inl (y)), (5, .inl (x)), (0, .inr (.inr (some (729)))), (1, .inr (.inr (some (p)))), (2, .inl (a)), (3, .inl (m)), (4, .inl (b))]) (st' := [.inl (1)]) rfl ?_
            refine ez_if rfl rfl ⟨by decide, by decide⟩ (fun (c45 : (1 : Int) = (0)) => absurd c45 (by decide)) (fun _ => ?_)
            refine ez_go (n := 6) (pc' := 120) (L' := [(9, .inl (x)), (8, .inl (1)), (7, .inl (i)), (6, .inl (y)), (5, .inl (x)), (0, .inr (.inr (some (729)))), (1, .inr (.inr (some (p)))), (2, .inl (a)), (3, .inl (m)), (4, .inl (b))]) (st' := [.inr (.inr (some (729))), .inl (i), .inr (.inr (some (p)))]) rfl ?_
            refine ez_gC (p := 731) (tg := 63) hBg t729 rfl rfl tq_61 rfl rfl (fun (t731 : _ = 63) => ?_)
            refine ez_go (n := 1) (pc' := 125) (L' := [(9, .inl (x)), (8, .inl (1)), (7, .inl (i)), (6, .inl (y)), (5, .inl (x)), (0, .inr (.inr (some (729)))), (1, .inr (.inr (some (p)))), (2, .inl (a)), (3, .inl (m)), (4, .inl (b))]) (st' := [.inl (x), .inr (.inr (some (731))), .inl (i), .inr (.inr (some (p)))]) rfl ?_
            have n47 : 2000 ≤ qz_N g 731 ∧ qz_N g 731 ≤ 2000 := ez_len hBg t731 tq_63 rfl
            refine ez_aI hBg t731 rfl tq_63 rfl rfl (by omega) (by omega) (fun (b46 : -2147483648 ≤ qz_I g 731 (x).toNat) (b46' : qz_I g 731 (x).toNat ≤ 2147483647) => ?_)
            have n50 : 2000 ≤ qz_N g p ∧ qz_N g p ≤ 2000 := ez_len hBg tp tq_2 rfl
            refine ez_as hBg tp rfl tq_2 rfl rfl (by omega) (by omega) (ez_vdI rfl rfl (by omega) (by omega)) (fun hB48 w49 => ?_)
            refine ez_go (n := 1) (pc' := 128) (L' := [(9, .inl (x)), (8, .inl (1)), (7, .inl (i)), (6, .inl (y)), (5, .inl (x)), (0, .inr (.inr (some (729)))), (1, .inr (.inr (some (p)))), (2, .inl (a)), (3, .inl (m)), (4, .inl (b))]) (st' := [.inr (.inr (some (729)))]) rfl ?_
            refine ez_gC (p := 730) (tg := 62) hB48 t729 rfl rfl tq_61 rfl rfl (fun (t730 : _ = 62) => ?_)
            refine ez_go (n := 2) (pc' := 134) (L' := [(9, .inl (x)), (8, .inl (1)), (7, .inl (i)), (6, .inl (y)), (5, .inl (x)), (0, .inr (.inr (some (729)))), (1, .inr (.inr (some (p)))), (2, .inl (a)), (3, .inl (m)), (4, .inl (b))]) (st' := [.inr (.inr (some (729))), .inl (i), .inr (.inr (some (730)))]) rfl ?_
            refine ez_gC (p := 732) (tg := 64) hB48 t729 rfl rfl tq_61 rfl rfl (fun (t732 : _ = 64) => ?_)
            refine ez_go (n := 1) (pc' := 139) (L' := [(9, .inl (x)), (8, .inl (1)), (7, .inl (i)), (6, .inl (y)), (5, .inl (x)), (0, .inr (.inr (some (729)))), (1, .inr (.inr (some (p)))), (2, .inl (a)), (3, .inl (m)), (4, .inl (b))]) (st' := [.inl (x), .inr (.inr (some (732))), .inl (i), .inr (.inr (some (730)))]) rfl ?_
            have n52 : 2000 ≤ qz_N (dz_put g p (i).toNat (ez_v (.inl (qz_I g 731 (x).toNat)))) 732 ∧ qz_N (dz_put g p (i).toNat (ez_v (.inl (qz_I g 731 (x).toNat)))) 732 ≤ 2000 := ez_len hB48 t732 tq_64 rfl
            refine ez_aI hB48 t732 rfl tq_64 rfl rfl (by omega) (by omega) (fun (b51 : -2147483648 ≤ qz_I (dz_put g p (i).toNat (ez_v (.inl (qz_I g 731 (x).toNat)))) 732 (x).toNat) (b51' : qz_I (dz_put g p (i).toNat (ez_v (.inl (qz_I g 731 (x).toNat)))) 732 (x).toNat ≤ 2147483647) => ?_)
            have n55 : 2000 ≤ qz_N (dz_put g p (i).toNat (ez_v (.inl (qz_I g 731 (x).toNat)))) 730 ∧ qz_N (dz_put g p (i).toNat (ez_v (.inl (qz_I g 731 (x).toNat)))) 730 ≤ 2000 := ez_len hB48 t730 tq_62 rfl
            refine ez_as hB48 t730 rfl tq_62 rfl rfl (by omega) (by omega) (ez_vdI rfl rfl (by omega) (by omega)) (fun hB53 w54 => ?_)
            refine ez_go (n := 1) (pc' := 143) (L' := [(9, .inl (x)), (8, .inl (1)), (7, .inl (i)), (6, .inl (y)), (5, .inl (x)), (0, .inr (.inr (some (729)))), (1, .inr (.inr (some (p)))), (2, .inl (a)), (3, .inl (m)), (4, .inl (b))]) (st' := [.inl (1)]) rfl ?_
            refine ez_if rfl rfl ⟨by decide, by decide⟩ (fun (c56 : (1 : Int) = (0)) => absurd c56 (by decide)) (fun _ => ?_)
            refine ez_go (n := 4) (pc' := 58) (L' := [(7, .inl (i + 1)), (5, .inl (x + 1)), (9, .inl (x)), (8, .inl (1)), (6, .inl (y)), (0, .inr (.inr (some (729)))), (1, .inr (.inr (some (p)))), (2, .inl (a)), (3, .inl (m)), (4, .inl (b))]) (st' := []) rfl ?_
            refine ez_less [(7, .inl (i + 1)), (6, .inl (y)), (5, .inl (x + 1)), (0, .inr (.inr (some (729)))), (1, .inr (.inr (some (p)))), (2, .inl (a)), (3, .inl (m)), (4, .inl (b))] rfl ⟨rfl, rfl, rfl, rfl, rfl, rfl, rfl, rfl, trivial⟩ ?_
            have h9 : (x).toNat < L.length := by omega
            have ez := c9 (x).toNat _ (by omega) (by omega) (List.getElem?_eq_getElem h9)
            have rz9 := rg _ (List.getElem_mem h9)
            have cd : y = b ∨ ∀ w, L[y.toNat]? = some w → (L[x.toNat]).2 ≤ w.2 := by first | exact Or.inl (by omega) | exact Or.inr (fun w hw => by have := c9 y.toNat w (by omega) (by omega) hw; omega)
            have w1 : qz_I (dz_put (dz_put g p (i).toNat (ez_v (.inl (qz_I g 731 (x).toNat)))) 730 (i).toNat (ez_v (.inl (qz_I (dz_put g p (i).toNat (ez_v (.inl (qz_I g 731 (x).toNat)))) 732 (x).toNat)))) p (i).toNat = (L[(x).toNat]).1 := by rw [ez_put_I (fun w => by omega), w49, ez.1]; exact ez_rg.v rz9.1
            have w2 : qz_I (dz_put (dz_put g p (i).toNat (ez_v (.inl (qz_I g 731 (x).toNat)))) 730 (i).toNat (ez_v (.inl (qz_I (dz_put g p (i).toNat (ez_v (.inl (qz_I g 731 (x).toNat)))) 732 (x).toNat)))) 730 (i).toNat = (L[(x).toNat]).2 := by rw [w54, ez_put_I (fun w => by omega), ez.2]; exact ez_rg.v rz9.2
            have st := (mgi_step (g2 := (dz_put (dz_put g p (i).toNat (ez_v (.inl (qz_I g 731 (x).toNat)))) 730 (i).toNat (ez_v (.inl (qz_I (dz_put g p (i).toNat (ez_v (.inl (qz_I g 731 (x).toNat)))) 732 (x).toNat))))) (t := x) a0 bl hm (by omega) (List.getElem?_eq_getElem h9) w1 w2 (fun j hj => by rw [ez_put_I (fun w => by omega), ez_put_I (fun w => hj w.2)]) (fun j hj => by rw [ez_put_I (fun w => hj w.2), ez_put_I (fun w => by omega)]) (fun j => by rw [ez_put_I (fun w => by omega), ez_put_I (fun w => by omega)]) (fun j => by rw [ez_put_I (fun w => by omega), ez_put_I (fun w => by omega)])).1 rfl (by omega) cd
            exact ih _ _ _ _ (by omega) (by omega) hB53 ((hf.put (so_Pp p) _ _).put (so_Po (by decide)) _ _) st
theorem rd_merge {a m b : Int} (t729 : τ 729 = 61) (t730 : τ 730 = 62) (t731 : τ 731 = 63) (t732 : τ 732 = 64) (tp : τ p = 2) (ll : (L.length : Int) ≤ 2000) (rg : rgl L) (a0 : 0 ≤ a) (am : a < m) (mb : m < b) (bl : b ≤ (L.length : Int)) (u1 : upw L a m) (u2 : upw L m b) (ps : ps0 L a b) (hB : ez_B τ h) (hp : prs h p L) (k : ∀ g L', ez_B τ g → ez_fr (so_P p) h g → prs g p L' → mgd L L' a b → Q (.inl none, g)) : ez_W (d + 1) cm_143 0 [(0, .inr (.inr (some (729)))), (1, .inr (.inr (some (p)))), (2, .inl (a)), (3, .inl (m)), (4, .inl (b))] [] h Q := by
  have np0 : p ≠ 730 := fun e => by rw [e, t730] at tp; cases tp
  have np1 : p ≠ 731 := fun e => by rw [e, t731] at tp; cases tp
  have np2 : p ≠ 732 := fun e => by rw [e, t732] at tp; cases tp
  refine ez_go (n := 1) (pc' := 1) (L' := [(0, .inr (.inr (some (729)))), (1, .inr (.inr (some (p)))), (2, .inl (a)), (3, .inl (m)), (4, .inl (b))]) (st' := [.inr (.inr (some (729)))]) rfl ?_
  refine ez_gC (p := 730) (tg := 62) hB t729 rfl rfl tq_61 rfl rfl (fun (t730 : _ = 62) => ?_)
  refine ez_go (n := 3) (pc' := 7) (L' := [(0, .inr (.inr (some (729)))), (1, .inr (.inr (some (p)))), (2, .inl (a)), (3, .inl (m)), (4, .inl (b))]) (st' := [.inl ((m) - (1)), .inr (.inr (some (730)))]) rfl ?_
  have n2 : 2000 ≤ qz_N h 730 ∧ qz_N h 730 ≤ 2000 := ez_len hB t730 tq_62 rfl
  refine ez_aI hB t730 rfl tq_62 rfl rfl (by omega) (by omega) (fun (b1 : -2147483648 ≤ qz_I h 730 ((m) - (1)).toNat) (b1' : qz_I h 730 ((m) - (1)).toNat ≤ 2147483647) => ?_)
  refine ez_go (n := 1) (pc' := 9) (L' := [(0, .inr (.inr (some (729)))), (1, .inr (.inr (some (p)))), (2, .inl (a)), (3, .inl (m)), (4, .inl (b))]) (st' := [.inr (.inr (some (729))), .inl (qz_I h 730 ((m) - (1)).toNat)]) rfl ?_
  refine ez_gC (p := 730) (tg := 62) hB t729 rfl rfl tq_61 rfl rfl (fun (t730 : _ = 62) => ?_)
  refine ez_go (n := 1) (pc' := 13) (L' := [(0, .inr (.inr (some (729)))), (1, .inr (.inr (some (p)))), (2, .inl (a)), (3, .inl (m)), (4, .inl (b))]) (st' := [.inl (m), .inr (.inr (some (730))), .inl (qz_I h 730 ((m) - (1)).toNat)]) rfl ?_
  have n4 : 2000 ≤ qz_N h 730 ∧ qz_N h 730 ≤ 2000 := ez_len hB t730 tq_62 rfl
  refine ez_aI hB t730 rfl tq_62 rfl rfl (by omega) (by omega) (fun (b3 : -2147483648 ≤ qz_I h 730 (m).toNat) (b3' : qz_I h 730 (m).toNat ≤ 2147483647) => ?_)
  refine ez_icmp rfl rfl ⟨by first | omega | exact (sz_i32 _).1, by first | omega | exact (sz_i32 _).2⟩ ⟨by first | omega | exact (sz_i32 _).1, by first | omega | exact (sz_i32 _).2⟩ (fun (c5 : (qz_I h 730 (m).toNat) < (qz_I h 730 ((m) - (1)).toNat)) => ?_) (fun (c5 : ¬((qz_I h 730 (m).toNat) < (qz_I h 730 ((m) - (1)).toNat))) => ?_)
  · skip
    refine ez_go (n := 3) (pc' := 21) (L' := [(0, .inr (.inr (some (729)))), (1, .inr (.inr (some (p)))), (2, .inl (a)), (3, .inl (m)), (4, .inl (b))]) (st' := [.inr (.inr (some (729))), .inl (a), .inr (.inr (some (p)))]) rfl ?_
    refine ez_gC (p := 731) (tg := 63) hB t729 rfl rfl tq_61 rfl rfl (fun (t731 : _ = 63) => ?_)
    refine ez_go (n := 4) (pc' := 29) (L' := [(0, .inr (.inr (some (729)))), (1, .inr (.inr (some (p)))), (2, .inl (a)), (3, .inl (m)), (4, .inl (b))]) (st' := [.inl ((b) - (a)), .inl (a), .inr (.inr (some (731))), .inl (a), .inr (.inr (some (p)))]) rfl ?_
    have n6 : 2000 ≤ qz_N h p ∧ qz_N h p ≤ 2000 := ez_len hB tp tq_2 rfl
    have n7 : 2000 ≤ qz_N h 731 ∧ qz_N h 731 ≤ 2000 := ez_len hB t731 tq_63 rfl
    refine ez_ac hB tp t731 tq_2 tq_63 rfl rfl rfl rfl rfl rfl rfl (by omega) (by omega) (by omega) (by omega) (by omega) (fun g1 hB1 f1 n1 i1 => ?_)
    refine ez_go (n := 1) (pc' := 33) (L' := [(0, .inr (.inr (some (729)))), (1, .inr (.inr (some (p)))), (2, .inl (a)), (3, .inl (m)), (4, .inl (b))]) (st' := [.inr (.inr (some (729)))]) rfl ?_
    refine ez_gC (p := 730) (tg := 62) hB1 t729 rfl rfl tq_61 rfl rfl (fun (t730 : _ = 62) => ?_)
    refine ez_go (n := 2) (pc' := 38) (L' := [(0, .inr (.inr (some (729)))), (1, .inr (.inr (some (p)))), (2, .inl (a)), (3, .inl (m)), (4, .inl (b))]) (st' := [.inr (.inr (some (729))), .inl (a), .inr (.inr (some (730)))]) rfl ?_
    refine ez_gC (p := 732) (tg := 64) hB1 t729 rfl rfl tq_61 rfl rfl (fun (t732 : _ = 64) => ?_)
    refine ez_go (n := 4) (pc' := 46) (L' := [(0, .inr (.inr (some (729)))), (1, .inr (.inr (some (p)))), (2, .inl (a)), (3, .inl (m)), (4, .inl (b))]) (st' := [.inl ((b) - (a)), .inl (a), .inr (.inr (some (732))), .inl (a), .inr (.inr (some (730)))]) rfl ?_
    have n8 : 2000 ≤ qz_N g1 730 ∧ qz_N g1 730 ≤ 2000 := ez_len hB1 t730 tq_62 rfl
    have n9 : 2000 ≤ qz_N g1 732 ∧ qz_N g1 732 ≤ 2000 := ez_len hB1 t732 tq_64 rfl
    refine ez_ac hB1 t730 t732 tq_62 tq_64 rfl rfl rfl rfl rfl rfl rfl (by omega) (by omega) (by omega) (by omega) (by omega) (fun g2 hB2 f2 n2 i2 => ?_)
    refine ez_go (n := 6) (pc' := 58) (L' := [(7, .inl (a)), (6, .inl (m)), (5, .inl (a)), (0, .inr (.inr (some (729)))), (1, .inr (.inr (some (p)))), (2, .inl (a)), (3, .inl (m)), (4, .inl (b))]) (st' := []) rfl ?_
    refine ez_less [(7, .inl (a)), (6, .inl (m)), (5, .inl (a)), (0, .inr (.inr (some (729)))), (1, .inr (.inr (some (p)))), (2, .inl (a)), (3, .inl (m)), (4, .inl (b))] rfl ⟨rfl, rfl, rfl, rfl, rfl, rfl, rfl, rfl, trivial⟩ ?_
    have o1 : ∀ q j, q ≠ 731 → q ≠ 732 → qz_I g2 q j = qz_I h q j := fun q j q1 q2 => by rw [f2.I (dz_beq_ne q2), f1.I (dz_beq_ne q1)]
    refine rd_merge_l (h := h) t729 t730 t731 t732 tp ll rg a0 am mb bl u1 u2 ps k _ a a m g2 rfl (by omega) hB2 ((ez_fr_mono f1 (fun z hz => by unfold ez_one at hz; rw [Nat.eq_of_beq_eq_true hz]; exact so_Po (by decide))).trans (ez_fr_mono f2 (fun z hz => by unfold ez_one at hz; rw [Nat.eq_of_beq_eq_true hz]; exact so_Po (by decide)))) ⟨⟨⟨by omega, by omega⟩, ⟨by omega, by omega⟩, by omega⟩, ?_, fun j z _ hj => by omega, fun j z hj hz => ?_, fun j z h1 h2 hz => ?_⟩
    · rw [show (a - a).toNat = 0 by omega, List.drop_zero]
    · rw [o1 p j np1 np2, o1 730 j (by decide) (by decide)]; exact hp j z hz
    · have q1 : qz_I g2 731 j = qz_I h p j := by rw [f2.I (by rfl), i1, if_pos (by omega)]; try (congr 2 <;> omega)
      have q2 : qz_I g2 732 j = qz_I h 730 j := by rw [i2, if_pos (by omega), f1.I (by rfl)]; try (congr 2 <;> omega)
      rw [q1, q2]; exact hp j z hz
  · skip
    have y1 := hp _ _ (List.getElem?_eq_getElem (show (m - 1).toNat < L.length by omega))
    have y2 := hp _ _ (List.getElem?_eq_getElem (show m.toNat < L.length by omega))
    exact ez_ret0 rfl rfl (k h L hB (ez_fr.refl _ _) hp (mgd_refl u1 u2 ps am mb (List.getElem?_eq_getElem (show (m - 1).toNat < L.length by omega)) (List.getElem?_eq_getElem (show m.toNat < L.length by omega)) (by omega) a0))

theorem rd_minE {x y : Int} (xr : ez_rg x) (yr : ez_rg y) (k : Q (.inl (some (ez_v (.inl (min x y)))), h)) : ez_W d cm_322 0 [(0, .inl (x)), (1, .inl (y))] [] h Q := by
  obtain ⟨x1, x2⟩ := xr
  obtain ⟨y1, y2⟩ := yr
  refine ez_go (n := 2) (pc' := 2) (L' := [(0, .inl (x)), (1, .inl (y))]) (st' := [.inl (y), .inl (x)]) rfl ?_
  refine ez_icmp rfl rfl ⟨by first | omega | exact (sz_i32 _).1, by first | omega | exact (sz_i32 _).2⟩ ⟨by first | omega | exact (sz_i32 _).1, by first | omega | exact (sz_i32 _).2⟩ (fun (c1 : (y) < (x)) => ?_) (fun (c1 : ¬((y) < (x))) => ?_)
  · skip
    refine ez_go (n := 1) (pc' := 10) (L' := [(0, .inl (x)), (1, .inl (y))]) (st' := [.inl (y)]) rfl ?_
    exact ez_retI rfl rfl (by rw [show (y : Int) = min x y by omega]; exact k)
  · skip
    refine ez_go (n := 2) (pc' := 10) (L' := [(0, .inl (x)), (1, .inl (y))]) (st' := [.inl (x)]) rfl ?_
    exact ez_retI rfl rfl (by rw [show (x : Int) = min x y by omega]; exact k)

theorem rd_maxE {x y : Int} (xr : ez_rg x) (yr : ez_rg y) (k : Q (.inl (some (ez_v (.inl (max x y)))), h)) : ez_W d cm_321 0 [(0, .inl (x)), (1, .inl (y))] [] h Q := by
  obtain ⟨x1, x2⟩ := xr
  obtain ⟨y1, y2⟩ := yr
  refine ez_go (n := 2) (pc' := 2) (L' := [(0, .inl (x)), (1, .inl (y))]) (st' := [.inl (y), .inl (x)]) rfl ?_
  refine ez_icmp rfl rfl ⟨by first | omega | exact (sz_i32 _).1, by first | omega | exact (sz_i32 _).2⟩ ⟨by first | omega | exact (sz_i32 _).1, by first | omega | exact (sz_i32 _).2⟩ (fun (c1 : (x) < (y)) => ?_) (fun (c1 : ¬((x) < (y))) => ?_)
  · skip
    refine ez_go (n := 1) (pc' := 10) (L' := [(0, .inl (x)), (1, .inl (y))]) (st' := [.inl (y)]) rfl ?_
    exact ez_retI rfl rfl (by rw [show (y : Int) = max x y by omega]; exact k)
  · skip
    refine ez_go (n := 2) (pc' := 10) (L' := [(0, .inl (x)), (1, .inl (y))]) (st' := [.inl (x)]) rfl ?_
    exact ez_retI rfl rfl (by rw [show (x : Int) = max x y by omega]; exact k)

theorem rd_sort_i {w : Int} {f t : Int} (t729 : τ 729 = 61) (t730 : τ 730 = 62) (t731 : τ 731 = 63) (t732 : τ 732 = 64) (tp : τ p = 2) (ll : (L.length : Int) ≤ 2000) (rg : rgl L) (f0 : 0 ≤ f) (tl : t ≤ (L.length : Int)) (ft : f ≤ t) (w1 : 1 ≤ w) (w2 : w ≤ 4000) (kx : ∀ g L2, ez_B τ g → ez_fr (so_P p) h g → prs g p L2 → bks L2 f t (2 * w) → sds L L2 f t → ez_W (d + 2) cm_145 58 [(4, .inl (w)), (0, .inr (.inr (some (729)))), (1, .inr (.inr (some (p)))), (2, .inl (f)), (3, .inl (t))] [] g Q) : ∀ (n : Nat) (lo kq : Int) (L2 : List (Int × Int)) (g : cz_H), (t - lo).toNat ≤ n → 0 ≤ kq → lo = f + kq * (2 * w) → lo ≤ t + w → ez_B τ g → ez_fr (so_P p) h g → prs g p L2 → sis L2 f t w kq → sds L L2 f t → ez_W (d + 2) cm_145 14 [(5, .inl (lo)), (4, .inl (w)), (0, .inr (.inr (some (729)))), (1, .inr (.inr (some (p)))), (2, .inl (f)), (3, .inl (t))] [] g Q := by
  intro n
  induction n with
  | zero =>
    intro lo kq L2 g hn k0 hlo hlt hBg hf hp hs hd
    have hk9 : 0 ≤ kq * (2 * w) := Int.mul_nonneg k0 (by omega)
    refine ez_go (n := 4) (pc' := 20) (L' := [(5, .inl (lo)), (4, .inl (w)), (0, .inr (.inr (some (729)))), (1, .inr (.inr (some (p)))), (2, .inl (f)), (3, .inl (t))]) (st' := [.inl (t), .inl ((lo) + (w))]) rfl ?_
    refine ez_icmp rfl rfl ⟨by first | omega | exact (sz_i32 _).1, by first | omega | exact (sz_i32 _).2⟩ ⟨by first | omega | exact (sz_i32 _).1, by first | omega | exact (sz_i32 _).2⟩ (fun (c1 : (t) ≤ ((lo) + (w))) => ?_) (fun (c1 : ¬((t) ≤ ((lo) + (w)))) => ?_)
    · skip
      refine ez_less [(4, .inl (w)), (0, .inr (.inr (some (729)))), (1, .inr (.inr (some (p)))), (2, .inl (f)), (3, .inl (t))] rfl ⟨rfl, rfl, rfl, rfl, rfl, trivial⟩ ?_
      exact kx g L2 hBg hf hp (sis_out w1 k0 hs (by omega)) hd
    · exfalso; omega
  | succ n ih =>
    intro lo kq L2 g hn k0 hlo hlt hBg hf hp hs hd
    have hk9 : 0 ≤ kq * (2 * w) := Int.mul_nonneg k0 (by omega)
    refine ez_go (n := 4) (pc' := 20) (L' := [(5, .inl (lo)), (4, .inl (w)), (0, .inr (.inr (some (729)))), (1, .inr (.inr (some (p)))), (2, .inl (f)), (3, .inl (t))]) (st' := [.inl (t), .inl ((lo) + (w))]) rfl ?_
    refine ez_icmp rfl rfl ⟨by first | omega | exact (sz_i32 _).1, by first | omega | exact (sz_i32 _).2⟩ ⟨by first | omega | exact (sz_i32 _).1, by first | omega | exact (sz_i32 _).2⟩ (fun (c1 : (t) ≤ ((lo) + (w))) => ?_) (fun (c1 : ¬((t) ≤ ((lo) + (w)))) => ?_)
    · skip
      refine ez_less [(4, .inl (w)), (0, .inr (.inr (some (729)))), (1, .inr (.inr (some (p)))), (2, .inl (f)), (3, .inl (t))] rfl ⟨rfl, rfl, rfl, rfl, rfl, trivial⟩ ?_
      exact kx g L2 hBg hf hp (sis_out w1 k0 hs (by omega)) hd
    · skip
      refine ez_go (n := 12) (pc' := 40) (L' := [(5, .inl (lo)), (4, .inl (w)), (0, .inr (.inr (some (729)))), (1, .inr (.inr (some (p)))), (2, .inl (f)), (3, .inl (t))]) (st' := [.inl (t), .inl ((lo) + ((2) * (w))), .inl ((lo) + (w)), .inl (lo), .inr (.inr (some (p))), .inr (.inr (some (729)))]) rfl ?_
      refine ez_cs hBg.2.1 rfl rfl rfl rfl rfl (rd_minE ⟨by omega, by omega⟩ ⟨by omega, by omega⟩ (ez_K1 ?_))
      have pre := sis_pre hs (by omega)
      rw [← hlo] at pre
      refine ez_cv hBg t729 rfl rfl rfl tq_61 rfl rfl rfl (rd_merge (L := L2) (h := g) (m := lo + w) (b := min (lo + 2 * w) t) t729 t730 t731 t732 tp (by rw [hd.1]; exact ll) (fun x hx => rg x (hd.2.2.2.2 x hx)) (by omega) (by omega) (by omega) (by rw [hd.1]; omega) pre.1 pre.2 (fun i x h1 h2 h3 => hd.2.2.2.1 i x (by omega) (by omega) h3) hBg hp (fun g2 L3 hB2 f2 p2 m2 => ez_K0 ?_))
      refine ez_go (n := 7) (pc' := 14) (L' := [(5, .inl ((lo) + ((2) * (w)))), (4, .inl (w)), (0, .inr (.inr (some (729)))), (1, .inr (.inr (some (p)))), (2, .inl (f)), (3, .inl (t))]) (st' := []) rfl ?_
      refine ez_less [(5, .inl ((lo) + ((2) * (w)))), (4, .inl (w)), (0, .inr (.inr (some (729)))), (1, .inr (.inr (some (p)))), (2, .inl (f)), (3, .inl (t))] rfl ⟨rfl, rfl, rfl, rfl, rfl, rfl, trivial⟩ ?_
      have e9 := (sis_ar kq w).2.2
      rw [hlo] at m2
      refine ih _ (kq + 1) L3 g2 (by omega) (by omega) (by omega) (by omega) hB2 (hf.trans f2) p2 (sis_step w1 k0 hs m2) (sds_step hd m2 (by omega) (by omega))
theorem rd_sort_l {f t : Int} (t729 : τ 729 = 61) (t730 : τ 730 = 62) (t731 : τ 731 = 63) (t732 : τ 732 = 64) (tp : τ p = 2) (ll : (L.length : Int) ≤ 2000) (rg : rgl L) (f0 : 0 ≤ f) (tl : t ≤ (L.length : Int)) (ft : f ≤ t) (k : ∀ g L', ez_B τ g → ez_fr (so_P p) h g → prs g p L' → mgd L L' f t → Q (.inl none, g)) : ∀ (n : Nat) (w : Int) (L2 : List (Int × Int)) (g : cz_H), (t - f - w).toNat ≤ n → 1 ≤ w → w ≤ 4000 → ez_B τ g → ez_fr (so_P p) h g → prs g p L2 → bks L2 f t w → sds L L2 f t → ez_W (d + 2) cm_145 3 [(4, .inl (w)), (0, .inr (.inr (some (729)))), (1, .inr (.inr (some (p)))), (2, .inl (f)), (3, .inl (t))] [] g Q := by
  intro n
  induction n with
  | zero =>
    intro w L2 g hn w1 w2 hBg hf hp hb hd
    refine ez_go (n := 4) (pc' := 8) (L' := [(4, .inl (w)), (0, .inr (.inr (some (729)))), (1, .inr (.inr (some (p)))), (2, .inl (f)), (3, .inl (t))]) (st' := [.inl ((t) - (f)), .inl (w)]) rfl ?_
    refine ez_icmp rfl rfl ⟨by first | omega | exact (sz_i32 _).1, by first | omega | exact (sz_i32 _).2⟩ ⟨by first | omega | exact (sz_i32 _).1, by first | omega | exact (sz_i32 _).2⟩ (fun (c1 : ((t) - (f)) ≤ (w)) => ?_) (fun (c1 : ¬(((t) - (f)) ≤ (w))) => ?_)
    · skip
      exact ez_ret0 rfl rfl (k g L2 hBg hf hp (sds_end hd (bks_all hb (by omega))))
    · skip
      refine ez_go (n := 2) (pc' := 14) (L' := [(5, .inl (f)), (4, .inl (w)), (0, .inr (.inr (some (729)))), (1, .inr (.inr (some (p)))), (2, .inl (f)), (3, .inl (t))]) (st' := []) rfl ?_
      refine ez_less [(5, .inl (f)), (4, .inl (w)), (0, .inr (.inr (some (729)))), (1, .inr (.inr (some (p)))), (2, .inl (f)), (3, .inl (t))] rfl ⟨rfl, rfl, rfl, rfl, rfl, rfl, trivial⟩ ?_
      exfalso; omega
  | succ n ih =>
    intro w L2 g hn w1 w2 hBg hf hp hb hd
    refine ez_go (n := 4) (pc' := 8) (L' := [(4, .inl (w)), (0, .inr (.inr (some (729)))), (1, .inr (.inr (some (p)))), (2, .inl (f)), (3, .inl (t))]) (st' := [.inl ((t) - (f)), .inl (w)]) rfl ?_
    refine ez_icmp rfl rfl ⟨by first | omega | exact (sz_i32 _).1, by first | omega | exact (sz_i32 _).2⟩ ⟨by first | omega | exact (sz_i32 _).1, by first | omega | exact (sz_i32 _).2⟩ (fun (c1 : ((t) - (f)) ≤ (w)) => ?_) (fun (c1 : ¬(((t) - (f)) ≤ (w))) => ?_)
    · skip
      exact ez_ret0 rfl rfl (k g L2 hBg hf hp (sds_end hd (bks_all hb (by omega))))
    · skip
      refine ez_go (n := 2) (pc' := 14) (L' := [(5, .inl (f)), (4, .inl (w)), (0, .inr (.inr (some (729)))), (1, .inr (.inr (some (p)))), (2, .inl (f)), (3, .inl (t))]) (st' := []) rfl ?_
      refine ez_less [(5, .inl (f)), (4, .inl (w)), (0, .inr (.inr (some (729)))), (1, .inr (.inr (some (p)))), (2, .inl (f)), (3, .inl (t))] rfl ⟨rfl, rfl, rfl, rfl, rfl, rfl, trivial⟩ ?_
      refine rd_sort_i (h := h) t729 t730 t731 t732 tp ll rg f0 tl ft w1 w2 (fun g3 L3 b3 f3 p3 bk3 d3 => ?_) _ f 0 L2 g (Nat.le_refl _) (by omega) (by rw [Int.zero_mul]; omega) (by omega) hBg hf hp (sis_0 hb) hd
      refine ez_go (n := 5) (pc' := 3) (L' := [(4, .inl ((w) * (2))), (0, .inr (.inr (some (729)))), (1, .inr (.inr (some (p)))), (2, .inl (f)), (3, .inl (t))]) (st' := []) rfl ?_
      refine ez_less [(4, .inl ((w) * (2))), (0, .inr (.inr (some (729)))), (1, .inr (.inr (some (p)))), (2, .inl (f)), (3, .inl (t))] rfl ⟨rfl, rfl, rfl, rfl, rfl, trivial⟩ ?_
      refine ih _ L3 g3 (by omega) (by omega) (by omega) b3 f3 p3 (by rw [Int.mul_comm w 2]; exact bk3) d3
theorem rd_sort {f t : Int} (t729 : τ 729 = 61) (t730 : τ 730 = 62) (t731 : τ 731 = 63) (t732 : τ 732 = 64) (tp : τ p = 2) (ll : (L.length : Int) ≤ 2000) (rg : rgl L) (f0 : 0 ≤ f) (tl : t ≤ (L.length : Int)) (ft : f ≤ t) (hB : ez_B τ h) (hp : prs h p L) (ps : ps0 L f t) (k : ∀ g L', ez_B τ g → ez_fr (so_P p) h g → prs g p L' → mgd L L' f t → Q (.inl none, g)) : ez_W (d + 2) cm_145 0 [(0, .inr (.inr (some (729)))), (1, .inr (.inr (some (p)))), (2, .inl (f)), (3, .inl (t))] [] h Q := by
  refine ez_go (n := 2) (pc' := 3) (L' := [(4, .inl (1)), (0, .inr (.inr (some (729)))), (1, .inr (.inr (some (p)))), (2, .inl (f)), (3, .inl (t))]) (st' := []) rfl ?_
  refine ez_less [(4, .inl (1)), (0, .inr (.inr (some (729)))), (1, .inr (.inr (some (p)))), (2, .inl (f)), (3, .inl (t))] rfl ⟨rfl, rfl, rfl, rfl, rfl, trivial⟩ ?_
  exact rd_sort_l (h := h) t729 t730 t731 t732 tp ll rg f0 tl ft k _ 1 L h (Nat.le_refl _) (by omega) (by omega) hB (ez_fr.refl _ _) hp (bks_1 L f t) (sds_0 ps)

theorem rd_pio_l {r : Nat} (t729 : τ 729 = 61) (t730 : τ 730 = 62) (t731 : τ 731 = 63) (t732 : τ 732 = 64) (tr : τ r = 1) (nr : r < 730 ∨ 732 < r) (ll : (L.length : Int) ≤ 2000) (rg : rgl L) (nn : ∀ x ∈ L, 0 ≤ x.2) (hl : qz_I h r 1 = (L.length : Int)) (k : ∀ g, ez_B τ g → ez_fr (so_P (r + 1)) h g → prs g (r + 1) (os_srt L) → Q (.inl none, g)) : ∀ (n : Nat) (i s : Int) (L2 : List (Int × Int)) (g : cz_H), ((L.length : Int) + 1 - i).toNat ≤ n → 0 ≤ i → i ≤ (L.length : Int) + 1 → 0 ≤ s → s ≤ i → ez_B τ g → ez_fr (so_P (r + 1)) h g → prs g (r + 1) L2 → pio L L2 s i ∧ (i = (L.length : Int) + 1 → s = i) → ez_W (d + 3) cm_144 4 [(3, .inl (i)), (2, .inl (s)), (0, .inr (.inr (some (729)))), (1, .inr (.inr (some (r))))] [] g Q := by
  intro n
  induction n with
  | zero =>
    intro i s L2 g hn i0 i1 s0 si hBg hf hp hd2
    obtain ⟨hd, he⟩ := hd2
    have tp := tx_p1 hBg tr
    have cr : ∀ j, qz_I g r j = qz_I h r j := fun j => hf.I (so_Pn (by omega) (by have := nr; omega)) j
    have cr1 := cr 1
    have ll2 := hd.1
    refine ez_go (n := 2) (pc' := 6) (L' := [(3, .inl (i)), (2, .inl (s)), (0, .inr (.inr (some (729)))), (1, .inr (.inr (some (r))))]) (st' := [.inr (.inr (some (r))), .inl (i)]) rfl ?_
    refine ez_gI hBg tr rfl rfl tq_1 rfl rfl (fun (b1 : 0 ≤ qz_I g r 1) (b1' : qz_I g r 1 ≤ 2000) => ?_)
    refine ez_icmp rfl rfl ⟨by first | omega | exact (sz_i32 _).1, by first | omega | exact (sz_i32 _).2⟩ ⟨by first | omega | exact (sz_i32 _).1, by first | omega | exact (sz_i32 _).2⟩ (fun (c2 : (qz_I g r 1) < (i)) => ?_) (fun (c2 : ¬((qz_I g r 1) < (i))) => ?_)
    · skip
      have hs9 := he (by omega)
      have eL := pio_end hd (by omega)
      rw [eL] at hp
      exact ez_ret0 rfl rfl (k g hBg hf hp)
    · exfalso; omega
  | succ n ih =>
    intro i s L2 g hn i0 i1 s0 si hBg hf hp hd2
    obtain ⟨hd, he⟩ := hd2
    have tp := tx_p1 hBg tr
    have cr : ∀ j, qz_I g r j = qz_I h r j := fun j => hf.I (so_Pn (by omega) (by have := nr; omega)) j
    have cr1 := cr 1
    have ll2 := hd.1
    refine ez_go (n := 2) (pc' := 6) (L' := [(3, .inl (i)), (2, .inl (s)), (0, .inr (.inr (some (729)))), (1, .inr (.inr (some (r))))]) (st' := [.inr (.inr (some (r))), .inl (i)]) rfl ?_
    refine ez_gI hBg tr rfl rfl tq_1 rfl rfl (fun (b1 : 0 ≤ qz_I g r 1) (b1' : qz_I g r 1 ≤ 2000) => ?_)
    refine ez_icmp rfl rfl ⟨by first | omega | exact (sz_i32 _).1, by first | omega | exact (sz_i32 _).2⟩ ⟨by first | omega | exact (sz_i32 _).1, by first | omega | exact (sz_i32 _).2⟩ (fun (c2 : (qz_I g r 1) < (i)) => ?_) (fun (c2 : ¬((qz_I g r 1) < (i))) => ?_)
    · skip
      have hs9 := he (by omega)
      have eL := pio_end hd (by omega)
      rw [eL] at hp
      exact ez_ret0 rfl rfl (k g hBg hf hp)
    · skip
      refine ez_go (n := 2) (pc' := 14) (L' := [(3, .inl (i)), (2, .inl (s)), (0, .inr (.inr (some (729)))), (1, .inr (.inr (some (r))))]) (st' := [.inr (.inr (some (r))), .inl (i)]) rfl ?_
      refine ez_gI hBg tr rfl rfl tq_1 rfl rfl (fun (b3 : 0 ≤ qz_I g r 1) (b3' : qz_I g r 1 ≤ 2000) => ?_)
      refine ez_icmp rfl rfl ⟨by first | omega | exact (sz_i32 _).1, by first | omega | exact (sz_i32 _).2⟩ ⟨by first | omega | exact (sz_i32 _).1, by first | omega | exact (sz_i32 _).2⟩ (fun (c4 : (i) = (qz_I g r 1)) => ?_) (fun (c4 : ¬((i) = (qz_I g r 1))) => ?_)
      · skip
        refine ez_go (n := 2) (pc' := 31) (L' := [(3, .inl (i)), (2, .inl (s)), (0, .inr (.inr (some (729)))), (1, .inr (.inr (some (r))))]) (st' := [.inr (.inr (some (r))), .inr (.inr (some (729)))]) rfl ?_
        refine ez_g3 hBg tr rfl rfl tq_1 rfl rfl (fun (t5 : _ = 2) => ?_)
        refine ez_go (n := 2) (pc' := 36) (L' := [(3, .inl (i)), (2, .inl (s)), (0, .inr (.inr (some (729)))), (1, .inr (.inr (some (r))))]) (st' := [.inl (i), .inl (s), .inr (.inr (some (r + 1))), .inr (.inr (some (729)))]) rfl ?_
        refine ez_cv hBg t729 rfl rfl rfl tq_61 rfl rfl rfl (rd_sort (L := L2) (h := g) t729 t730 t731 t732 tp (by rw [hd.1]; exact ll) (fun x hx => rg x (hd.2.2.2.2.2 x hx)) s0 (by rw [hd.1]; omega) si hBg hp hd.2.2.1 (fun g2 L3 hB2 f2 p2 m2 => ez_K0 ?_))
        refine ez_go (n := 6) (pc' := 4) (L' := [(3, .inl (i + 1)), (2, .inl ((i) + (1))), (0, .inr (.inr (some (729)))), (1, .inr (.inr (some (r))))]) (st' := []) rfl ?_
        refine ez_less [(3, .inl (i + 1)), (2, .inl ((i) + (1))), (0, .inr (.inr (some (729)))), (1, .inr (.inr (some (r))))] rfl ⟨rfl, rfl, rfl, rfl, trivial⟩ ?_
        refine ih _ _ L3 g2 (by omega) (by omega) (by omega) (by omega) (by omega) hB2 (hf.trans f2) p2 ⟨pio_run hd m2 si (fun j x hj hx => ?_), fun _ => by omega⟩
        have ej : j = i.toNat := by omega
        subst ej
        have := (hp _ x hx).2; have := (List.getElem?_eq_some_iff.mp hx).1; omega
      · skip
        refine ez_go (n := 1) (pc' := 21) (L' := [(3, .inl (i)), (2, .inl (s)), (0, .inr (.inr (some (729)))), (1, .inr (.inr (some (r))))]) (st' := [.inr (.inr (some (729)))]) rfl ?_
        refine ez_gC (p := 730) (tg := 62) hBg t729 rfl rfl tq_61 rfl rfl (fun (t730 : _ = 62) => ?_)
        refine ez_go (n := 1) (pc' := 25) (L' := [(3, .inl (i)), (2, .inl (s)), (0, .inr (.inr (some (729)))), (1, .inr (.inr (some (r))))]) (st' := [.inl (i), .inr (.inr (some (730)))]) rfl ?_
        have n7 : 2000 ≤ qz_N g 730 ∧ qz_N g 730 ≤ 2000 := ez_len hBg t730 tq_62 rfl
        refine ez_aI hBg t730 rfl tq_62 rfl rfl (by omega) (by omega) (fun (b6 : -2147483648 ≤ qz_I g 730 (i).toNat) (b6' : qz_I g 730 (i).toNat ≤ 2147483647) => ?_)
        refine ez_if rfl rfl ⟨by first | omega | exact (sz_i32 _).1, by first | omega | exact (sz_i32 _).2⟩ (fun (c8 : (qz_I g 730 (i).toNat) ≠ (0)) => ?_) (fun (c8 : ¬((qz_I g 730 (i).toNat) ≠ (0))) => ?_)
        · skip
          refine ez_go (n := 2) (pc' := 4) (L' := [(3, .inl (i + 1)), (2, .inl (s)), (0, .inr (.inr (some (729)))), (1, .inr (.inr (some (r))))]) (st' := []) rfl ?_
          refine ez_less [(3, .inl (i + 1)), (2, .inl (s)), (0, .inr (.inr (some (729)))), (1, .inr (.inr (some (r))))] rfl ⟨rfl, rfl, rfl, rfl, trivial⟩ ?_
          have h9 : i.toNat < L2.length := by omega
          have e9 := (hp _ _ (List.getElem?_eq_getElem h9)).2
          have p9 := nn _ (hd.2.2.2.2.2 _ (List.getElem_mem h9))
          refine ih _ _ L2 g (by omega) (by omega) (by omega) (by omega) (by omega) hBg hf hp ⟨pio_more hd (List.getElem?_eq_getElem h9) i0 (by omega), fun e => by omega⟩
        · skip
          refine ez_go (n := 2) (pc' := 31) (L' := [(3, .inl (i)), (2, .inl (s)), (0, .inr (.inr (some (729)))), (1, .inr (.inr (some (r))))]) (st' := [.inr (.inr (some (r))), .inr (.inr (some (729)))]) rfl ?_
          refine ez_g3 hBg tr rfl rfl tq_1 rfl rfl (fun (t9 : _ = 2) => ?_)
          refine ez_go (n := 2) (pc' := 36) (L' := [(3, .inl (i)), (2, .inl (s)), (0, .inr (.inr (some (729)))), (1, .inr (.inr (some (r))))]) (st' := [.inl (i), .inl (s), .inr (.inr (some (r + 1))), .inr (.inr (some (729)))]) rfl ?_
          refine ez_cv hBg t729 rfl rfl rfl tq_61 rfl rfl rfl (rd_sort (L := L2) (h := g) t729 t730 t731 t732 tp (by rw [hd.1]; exact ll) (fun x hx => rg x (hd.2.2.2.2.2 x hx)) s0 (by rw [hd.1]; omega) si hBg hp hd.2.2.1 (fun g2 L3 hB2 f2 p2 m2 => ez_K0 ?_))
          refine ez_go (n := 6) (pc' := 4) (L' := [(3, .inl (i + 1)), (2, .inl ((i) + (1))), (0, .inr (.inr (some (729)))), (1, .inr (.inr (some (r))))]) (st' := []) rfl ?_
          refine ez_less [(3, .inl (i + 1)), (2, .inl ((i) + (1))), (0, .inr (.inr (some (729)))), (1, .inr (.inr (some (r))))] rfl ⟨rfl, rfl, rfl, rfl, trivial⟩ ?_
          refine ih _ _ L3 g2 (by omega) (by omega) (by omega) (by omega) (by omega) hB2 (hf.trans f2) p2 ⟨pio_run hd m2 si (fun j x hj hx => ?_), fun _ => by omega⟩
          have ej : j = i.toNat := by omega
          subst ej
          have := (hp _ x hx).2; have := (List.getElem?_eq_some_iff.mp hx).1; omega
theorem rd_putInOrder {r : Nat} (t729 : τ 729 = 61) (t730 : τ 730 = 62) (t731 : τ 731 = 63) (t732 : τ 732 = 64) (tr : τ r = 1) (nr : r < 730 ∨ 732 < r) (ll : (L.length : Int) ≤ 2000) (rg : rgl L) (nn : ∀ x ∈ L, 0 ≤ x.2) (hl : qz_I h r 1 = (L.length : Int)) (hB : ez_B τ h) (hp : prs h (r + 1) L) (k : ∀ g, ez_B τ g → ez_fr (so_P (r + 1)) h g → prs g (r + 1) (os_srt L) → Q (.inl none, g)) : ez_W (d + 3) cm_144 0 [(0, .inr (.inr (some (729)))), (1, .inr (.inr (some (r))))] [] h Q := by
  refine ez_go (n := 4) (pc' := 4) (L' := [(3, .inl (0)), (2, .inl (0)), (0, .inr (.inr (some (729)))), (1, .inr (.inr (some (r))))]) (st' := []) rfl ?_
  refine ez_less [(3, .inl (0)), (2, .inl (0)), (0, .inr (.inr (some (729)))), (1, .inr (.inr (some (r))))] rfl ⟨rfl, rfl, rfl, rfl, trivial⟩ ?_
  exact rd_pio_l (h := h) t729 t730 t731 t732 tr nr ll rg nn hl k _ 0 0 L h (Nat.le_refl _) (by omega) (by omega) (by omega) (by omega) hB (ez_fr.refl _ _) hp ⟨pio_0 L, fun e => by omega⟩

end EzSo
