/-! The class: pooling. (Written by wip/p2/py/pv27.py.) -/
/-- what is appended to the pool -/
def nz_PP (q : Nat) : Bool := Nat.beq q 723 || Nat.beq q 724
def ap (τ : Nat → Nat) (g g2 : cz_H) (l : List Int) : Prop := ez_B τ g2 ∧ ez_fr nz_PP g g2 ∧ (∀ j, j ≠ 2 → qz_I g2 723 j = qz_I g 723 j) ∧ qz_I g2 723 2 = qz_I g 723 2 + (l.length : Int) ∧ ∀ j : Int, 0 ≤ j → qz_I g2 724 j.toNat = if qz_I g 723 2 ≤ j ∧ j < qz_I g 723 2 + (l.length : Int) then l.getD (j - qz_I g 723 2).toNat 0 else qz_I g 724 j.toNat
theorem ap.nil {τ : Nat → Nat} {g : cz_H} (hB : ez_B τ g) : ap τ g g [] := ⟨hB, ez_fr.refl _ _, fun _ _ => rfl, by simp, fun j _ => by rw [if_neg (by simp only [List.length_nil]; omega)]⟩
theorem ap.trans {τ : Nat → Nat} {g g1 g2 : cz_H} {a b : List Int} (x : ap τ g g1 a) (y : ap τ g1 g2 b) : ap τ g g2 (a ++ b) := by
  obtain ⟨x1, x2, x3, x4, x5⟩ := x
  obtain ⟨y1, y2, y3, y4, y5⟩ := y
  refine ⟨y1, x2.trans y2, fun j hj => (y3 j hj).trans (x3 j hj), ?_, fun j j0 => ?_⟩
  · rw [y4, x4, List.length_append]; omega
  · rw [y5 j j0, x4, List.length_append]
    by_cases e : qz_I g 723 2 + (a.length : Int) ≤ j ∧ j < qz_I g 723 2 + (a.length : Int) + (b.length : Int)
    · rw [if_pos e, if_pos (by omega), List.getD_eq_getElem?_getD, List.getD_eq_getElem?_getD, List.getElem?_append_right (by omega)]
      congr 2
      omega
    · rw [if_neg e, x5 j j0]
      by_cases e2 : qz_I g 723 2 ≤ j ∧ j < qz_I g 723 2 + (a.length : Int)
      · rw [if_pos e2, if_pos (by omega), List.getD_eq_getElem?_getD, List.getD_eq_getElem?_getD, List.getElem?_append_left (by omega)]
      · rw [if_neg e2, if_neg (by omega)]
theorem ap.pz {τ : Nat → Nat} {g g2 : cz_H} {l : List Int} (hX : jz_X τ) (x : ap τ g g2 l) : pz τ g g2 := pz_fr x.2.1 (fun q hq => by
  unfold nz_PP at hq
  have : q = 723 ∨ q = 724 := by
    rw [Bool.or_eq_true] at hq
    exact hq.imp Nat.eq_of_beq_eq_true Nat.eq_of_beq_eq_true
  rcases this with rfl | rfl
  · exact ⟨by omega, by omega, (pz_X hX (by omega) (by omega)).1⟩
  · exact ⟨by omega, by omega, (pz_X hX (by omega) (by omega)).1⟩)
section EzPo
variable {d : Nat} {h : cz_H} {τ : Nat → Nat} {Q : cz_F → Prop} {T : Int → Nat} {F : rz_W} {E : Int → Prop}
theorem rd_isSyl {x : Int} (x0 : -2147483648 ≤ x) (x1 : x ≤ 2147483647) (k1 : hz x → Q (.inl (some (ez_v (.inl 1))), h)) (k0 : ¬ hz x → Q (.inl (some (ez_v (.inl 0))), h)) : ez_W d cm_123 0 [(0, .inl (x))] [] h Q := by
  refine ez_go (n := 1) (pc' := 1) (L' := [(0, .inl (x))]) (st' := [.inl (x)]) rfl ?_
  refine ez_ldc (44032) rfl rfl rfl ?_
  refine ez_icmp rfl rfl ⟨by first | omega | exact (sz_i32 _).1, by first | omega | exact (sz_i32 _).2⟩ ⟨by first | omega | exact (sz_i32 _).1, by first | omega | exact (sz_i32 _).2⟩ (fun (c1 : (x) < (44032)) => ?_) (fun (c1 : ¬((x) < (44032))) => ?_)
  · skip
    refine ez_go (n := 1) (pc' := 17) (L' := [(0, .inl (x))]) (st' := [.inl (0)]) rfl ?_
    exact ez_retZ rfl rfl (by decide) (k0 (fun w => by have w1 := w.1; have w2 := w.2; omega))
  · skip
    refine ez_go (n := 1) (pc' := 7) (L' := [(0, .inl (x))]) (st' := [.inl (x)]) rfl ?_
    refine ez_ldc (55203) rfl rfl rfl ?_
    refine ez_icmp rfl rfl ⟨by first | omega | exact (sz_i32 _).1, by first | omega | exact (sz_i32 _).2⟩ ⟨by first | omega | exact (sz_i32 _).1, by first | omega | exact (sz_i32 _).2⟩ (fun (c2 : (55203) < (x)) => ?_) (fun (c2 : ¬((55203) < (x))) => ?_)
    · skip
      refine ez_go (n := 1) (pc' := 17) (L' := [(0, .inl (x))]) (st' := [.inl (0)]) rfl ?_
      exact ez_retZ rfl rfl (by decide) (k0 (fun w => by have w1 := w.1; have w2 := w.2; omega))
    · skip
      refine ez_go (n := 2) (pc' := 17) (L' := [(0, .inl (x))]) (st' := [.inl (1)]) rfl ?_
      exact ez_retZ rfl rfl (by decide) (k1 ⟨by omega, by omega⟩)

theorem rd_sylLen {x : Int} (hx : hz x) (k : Q (.inl (some (ez_v (.inl ((hz_sy x).length : Int)))), h)) : ez_W d cm_130 0 [(0, .inl (x))] [] h Q := by
  have x0 := hx.1
  have x1 := hx.2
  refine ez_go (n := 1) (pc' := 1) (L' := [(0, .inl (x))]) (st' := [.inl (x)]) rfl ?_
  refine ez_ldc (44032) rfl rfl rfl ?_
  refine ez_go (n := 2) (pc' := 6) (L' := [(0, .inl (x))]) (st' := [.inl (28), .inl ((x) - (44032))]) rfl ?_
  refine ez_rem rfl (by omega) (by omega) (by omega) (by omega) ?_
  refine ez_if rfl rfl ⟨by first | omega | exact (sz_i32 _).1, by first | omega | exact (sz_i32 _).2⟩ (fun (c1 : (((x) - (44032)) % (28)) ≠ (0)) => ?_) (fun (c1 : ¬((((x) - (44032)) % (28)) ≠ (0))) => ?_)
  · skip
    refine ez_go (n := 1) (pc' := 15) (L' := [(0, .inl (x))]) (st' := [.inl (3)]) rfl ?_
    have e : ((hz_sy x).length : Int) = 3 := by unfold hz_sy; rw [if_neg (by omega)]; rfl
    rw [e] at k
    exact ez_retI rfl rfl k
  · skip
    refine ez_go (n := 2) (pc' := 15) (L' := [(0, .inl (x))]) (st' := [.inl (2)]) rfl ?_
    have e : ((hz_sy x).length : Int) = 2 := by unfold hz_sy; rw [if_pos (by omega)]; rfl
    rw [e] at k
    exact ez_retI rfl rfl k

theorem rd_sylPart {x i : Int} (hx : hz x) (i0 : 0 ≤ i) (i1 : i < ((hz_sy x).length : Int)) (k : ∀ v, (hz_sy x)[i.toNat]? = some v → Q (.inl (some (ez_v (.inl v))), h)) : ez_W d cm_132 0 [(0, .inl (x)), (1, .inl (i))] [] h Q := by
  have x0 := hx.1
  have x1 := hx.2
  have i3 : i < 3 := by unfold hz_sy at i1; split at i1; (· have i1 : i < 2 := i1; omega); (· have i1 : i < 3 := i1; omega)
  refine ez_go (n := 1) (pc' := 1) (L' := [(0, .inl (x)), (1, .inl (i))]) (st' := [.inl (x)]) rfl ?_
  refine ez_ldc (44032) rfl rfl rfl ?_
  refine ez_go (n := 3) (pc' := 6) (L' := [(2, .inl ((x) - (44032))), (0, .inl (x)), (1, .inl (i))]) (st' := [.inl (i)]) rfl ?_
  refine ez_if rfl rfl ⟨by first | omega | exact (sz_i32 _).1, by first | omega | exact (sz_i32 _).2⟩ (fun (c1 : (i) ≠ (0)) => ?_) (fun (c1 : ¬((i) ≠ (0))) => ?_)
  · skip
    refine ez_go (n := 2) (pc' := 21) (L' := [(2, .inl ((x) - (44032))), (0, .inl (x)), (1, .inl (i))]) (st' := [.inl (1), .inl (i)]) rfl ?_
    refine ez_icmp rfl rfl ⟨by first | omega | exact (sz_i32 _).1, by first | omega | exact (sz_i32 _).2⟩ ⟨by first | omega | exact (sz_i32 _).1, by first | omega | exact (sz_i32 _).2⟩ (fun (c2 : (i) ≠ (1)) => ?_) (fun (c2 : ¬((i) ≠ (1))) => ?_)
    · skip
      refine ez_go (n := 3) (pc' := 45) (L' := [(2, .inl ((x) - (44032))), (0, .inl (x)), (1, .inl (i))]) (st' := [.inl (28), .inl ((x) - (44032)), .inl (4519)]) rfl ?_
      refine ez_rem rfl (by omega) (by omega) (by omega) (by omega) ?_
      refine ez_go (n := 1) (pc' := 47) (L' := [(2, .inl ((x) - (44032))), (0, .inl (x)), (1, .inl (i))]) (st' := [.inl ((4519) + (((x) - (44032)) % (28)))]) rfl ?_
      refine ez_retI rfl rfl (k _ ?_)
      unfold hz_sy at i1 ⊢
      split
      · first | (rw [show i = 0 by omega]; rfl) | (rw [show i = 1 by omega]; rfl) | (rw [show i = 2 by (rename_i e; first | omega | (rw [if_pos e] at i1; have i1 : i < 2 := i1; omega) | (rw [if_neg e] at i1; have i1 : i < 3 := i1; omega))]; first | rfl | (exfalso; rename_i e; rw [if_pos e] at i1; have i1 : i < 2 := i1; omega)) | (exfalso; rename_i e; rw [if_pos e] at i1; have i1 : i < 2 := i1; omega)
      · first | (rw [show i = 0 by omega]; rfl) | (rw [show i = 1 by omega]; rfl) | (rw [show i = 2 by (rename_i e; first | omega | (rw [if_pos e] at i1; have i1 : i < 2 := i1; omega) | (rw [if_neg e] at i1; have i1 : i < 3 := i1; omega))]; first | rfl | (exfalso; rename_i e; rw [if_pos e] at i1; have i1 : i < 2 := i1; omega)) | (exfalso; rename_i e; rw [if_pos e] at i1; have i1 : i < 2 := i1; omega)
    · skip
      refine ez_go (n := 3) (pc' := 31) (L' := [(2, .inl ((x) - (44032))), (0, .inl (x)), (1, .inl (i))]) (st' := [.inl (588), .inl ((x) - (44032)), .inl (4449)]) rfl ?_
      refine ez_rem rfl (by omega) (by omega) (by omega) (by omega) ?_
      refine ez_go (n := 1) (pc' := 34) (L' := [(2, .inl ((x) - (44032))), (0, .inl (x)), (1, .inl (i))]) (st' := [.inl (28), .inl (((x) - (44032)) % (588)), .inl (4449)]) rfl ?_
      refine ez_div rfl (by omega) (by omega) (by omega) (by omega) ?_
      refine ez_go (n := 2) (pc' := 47) (L' := [(2, .inl ((x) - (44032))), (0, .inl (x)), (1, .inl (i))]) (st' := [.inl ((4449) + ((((x) - (44032)) % (588)) / (28)))]) rfl ?_
      refine ez_retI rfl rfl (k _ ?_)
      unfold hz_sy at i1 ⊢
      split
      · first | (rw [show i = 0 by omega]; rfl) | (rw [show i = 1 by omega]; rfl) | (rw [show i = 2 by (rename_i e; first | omega | (rw [if_pos e] at i1; have i1 : i < 2 := i1; omega) | (rw [if_neg e] at i1; have i1 : i < 3 := i1; omega))]; first | rfl | (exfalso; rename_i e; rw [if_pos e] at i1; have i1 : i < 2 := i1; omega)) | (exfalso; rename_i e; rw [if_pos e] at i1; have i1 : i < 2 := i1; omega)
      · first | (rw [show i = 0 by omega]; rfl) | (rw [show i = 1 by omega]; rfl) | (rw [show i = 2 by (rename_i e; first | omega | (rw [if_pos e] at i1; have i1 : i < 2 := i1; omega) | (rw [if_neg e] at i1; have i1 : i < 3 := i1; omega))]; first | rfl | (exfalso; rename_i e; rw [if_pos e] at i1; have i1 : i < 2 := i1; omega)) | (exfalso; rename_i e; rw [if_pos e] at i1; have i1 : i < 2 := i1; omega)
  · skip
    refine ez_go (n := 3) (pc' := 16) (L' := [(2, .inl ((x) - (44032))), (0, .inl (x)), (1, .inl (i))]) (st' := [.inl (588), .inl ((x) - (44032)), .inl (4352)]) rfl ?_
    refine ez_div rfl (by omega) (by omega) (by omega) (by omega) ?_
    refine ez_go (n := 1) (pc' := 18) (L' := [(2, .inl ((x) - (44032))), (0, .inl (x)), (1, .inl (i))]) (st' := [.inl ((4352) + (((x) - (44032)) / (588)))]) rfl ?_
    refine ez_retI rfl rfl (k _ ?_)
    unfold hz_sy at i1 ⊢
    split
    · first | (rw [show i = 0 by omega]; rfl) | (rw [show i = 1 by omega]; rfl) | (rw [show i = 2 by (rename_i e; first | omega | (rw [if_pos e] at i1; have i1 : i < 2 := i1; omega) | (rw [if_neg e] at i1; have i1 : i < 3 := i1; omega))]; first | rfl | (exfalso; rename_i e; rw [if_pos e] at i1; have i1 : i < 2 := i1; omega)) | (exfalso; rename_i e; rw [if_pos e] at i1; have i1 : i < 2 := i1; omega)
    · first | (rw [show i = 0 by omega]; rfl) | (rw [show i = 1 by omega]; rfl) | (rw [show i = 2 by (rename_i e; first | omega | (rw [if_pos e] at i1; have i1 : i < 2 := i1; omega) | (rw [if_neg e] at i1; have i1 : i < 3 := i1; omega))]; first | rfl | (exfalso; rename_i e; rw [if_pos e] at i1; have i1 : i < 2 := i1; omega)) | (exfalso; rename_i e; rw [if_pos e] at i1; have i1 : i < 2 := i1; omega)

theorem rd_poolPoint {p s : Int} (hB : ez_B τ h) (t723 : τ 723 = 55) (p0 : -2147483648 ≤ p) (p1 : p ≤ 2147483647) (s0 : 0 ≤ s) (s1 : s ≤ 20440) (u0 : s ≤ qz_I h 723 2) (u1 : qz_I h 723 2 ≤ s + 40) (k0 : qz_I h 723 2 = s + 40 → Q (.inl (some (ez_v (.inl 0))), h)) (k1 : qz_I h 723 2 < s + 40 → ∀ g, ap τ h g [p] → Q (.inl (some (ez_v (.inl 1))), g)) : ez_W d cm_127 0 [(0, .inr (.inr (some (723)))), (1, .inl (p)), (2, .inl (s))] [] h Q := by
  refine ez_go (n := 1) (pc' := 1) (L' := [(0, .inr (.inr (some (723)))), (1, .inl (p)), (2, .inl (s))]) (st' := [.inr (.inr (some (723)))]) rfl ?_
  refine ez_gI hB t723 rfl rfl tq_55 rfl rfl (fun (b1 : 0 ≤ qz_I h 723 2) (b1' : qz_I h 723 2 ≤ 20480) => ?_)
  refine ez_go (n := 3) (pc' := 8) (L' := [(0, .inr (.inr (some (723)))), (1, .inl (p)), (2, .inl (s))]) (st' := [.inl (40), .inl ((qz_I h 723 2) - (s))]) rfl ?_
  refine ez_icmp rfl rfl ⟨by first | omega | exact (sz_i32 _).1, by first | omega | exact (sz_i32 _).2⟩ ⟨by first | omega | exact (sz_i32 _).1, by first | omega | exact (sz_i32 _).2⟩ (fun (c2 : (40) ≤ ((qz_I h 723 2) - (s))) => ?_) (fun (c2 : ¬((40) ≤ ((qz_I h 723 2) - (s)))) => ?_)
  · skip
    refine ez_go (n := 1) (pc' := 24) (L' := [(0, .inr (.inr (some (723)))), (1, .inl (p)), (2, .inl (s))]) (st' := [.inl (0)]) rfl ?_
    exact ez_retZ rfl rfl (by decide) (k0 (by omega))
  · skip
    refine ez_go (n := 1) (pc' := 12) (L' := [(0, .inr (.inr (some (723)))), (1, .inl (p)), (2, .inl (s))]) (st' := [.inr (.inr (some (723)))]) rfl ?_
    refine ez_gI hB t723 rfl rfl tq_55 rfl rfl (fun (b3 : 0 ≤ qz_I h 723 2) (b3' : qz_I h 723 2 ≤ 20480) => ?_)
    refine ez_go (n := 1) (pc' := 16) (L' := [(0, .inr (.inr (some (723)))), (1, .inl (p)), (2, .inl (s))]) (st' := [.inr (.inr (some (723))), .inl (qz_I h 723 2)]) rfl ?_
    refine ez_gC (p := 724) (tg := 56) hB t723 rfl rfl tq_55 rfl rfl (fun (t724 : _ = 56) => ?_)
    refine ez_al hB t724 rfl tq_56 rfl (fun (b4 : 20480 ≤ qz_N h 724) (b4' : qz_N h 724 ≤ 20480) => ?_)
    refine ez_icmp rfl rfl ⟨by first | omega | exact (sz_i32 _).1, by first | omega | exact (sz_i32 _).2⟩ ⟨by first | omega | exact (sz_i32 _).1, by first | omega | exact (sz_i32 _).2⟩ (fun (c5 : (qz_I h 723 2) < (qz_N h 724)) => ?_) (fun (c5 : ¬((qz_I h 723 2) < (qz_N h 724))) => ?_)
    · skip
      refine ez_go (n := 1) (pc' := 26) (L' := [(0, .inr (.inr (some (723)))), (1, .inl (p)), (2, .inl (s))]) (st' := [.inr (.inr (some (723)))]) rfl ?_
      refine ez_gC (p := 724) (tg := 56) hB t723 rfl rfl tq_55 rfl rfl (fun (t724 : _ = 56) => ?_)
      refine ez_go (n := 1) (pc' := 30) (L' := [(0, .inr (.inr (some (723)))), (1, .inl (p)), (2, .inl (s))]) (st' := [.inr (.inr (some (723))), .inr (.inr (some (724)))]) rfl ?_
      refine ez_gI hB t723 rfl rfl tq_55 rfl rfl (fun (b6 : 0 ≤ qz_I h 723 2) (b6' : qz_I h 723 2 ≤ 20480) => ?_)
      refine ez_go (n := 1) (pc' := 34) (L' := [(0, .inr (.inr (some (723)))), (1, .inl (p)), (2, .inl (s))]) (st' := [.inl (p), .inl (qz_I h 723 2), .inr (.inr (some (724)))]) rfl ?_
      have n9 : 20480 ≤ qz_N h 724 ∧ qz_N h 724 ≤ 20480 := ez_len hB t724 tq_56 rfl
      refine ez_as hB t724 rfl tq_56 rfl rfl (by omega) (by omega) (ez_vdI rfl rfl (by omega) (by omega)) (fun hB7 w8 => ?_)
      refine ez_go (n := 2) (pc' := 37) (L' := [(0, .inr (.inr (some (723)))), (1, .inl (p)), (2, .inl (s))]) (st' := [.inr (.inr (some (723))), .inr (.inr (some (723)))]) rfl ?_
      refine ez_gI hB7 t723 rfl rfl tq_55 rfl rfl (fun (b10 : 0 ≤ qz_I (dz_put h 724 (qz_I h 723 2).toNat (ez_v (.inl (p)))) 723 2) (b10' : qz_I (dz_put h 724 (qz_I h 723 2).toNat (ez_v (.inl (p)))) 723 2 ≤ 20480) => ?_)
      have hu9 : qz_I (dz_put h 724 (qz_I h 723 2).toNat (ez_v (.inl (p)))) 723 2 = qz_I h 723 2 := ez_put_I (by omega)
      refine ez_go (n := 2) (pc' := 42) (L' := [(0, .inr (.inr (some (723)))), (1, .inl (p)), (2, .inl (s))]) (st' := [.inl ((qz_I (dz_put h 724 (qz_I h 723 2).toNat (ez_v (.inl (p)))) 723 2) + (1)), .inr (.inr (some (723)))]) rfl ?_
      refine ez_pf hB7 t723 rfl rfl tq_55 rfl rfl rfl rfl (ez_vdI rfl rfl (by omega) (by omega)) (fun hB11 w12 => ?_)
      refine ez_go (n := 1) (pc' := 46) (L' := [(0, .inr (.inr (some (723)))), (1, .inl (p)), (2, .inl (s))]) (st' := [.inl (1)]) rfl ?_
      have u1 : qz_I (dz_put (dz_put h 724 (qz_I h 723 2).toNat (ez_v (.inl (p)))) 723 2 (ez_v (.inl ((qz_I (dz_put h 724 (qz_I h 723 2).toNat (ez_v (.inl (p)))) 723 2) + (1))))) 723 2 = qz_I h 723 2 + 1 := by rw [w12, rz_rd ⟨by omega, by omega⟩, ez_put_I (by omega)]
      refine ez_retZ rfl rfl (by decide) (k1 (by omega) _ ⟨hB11, (((ez_fr.refl nz_PP h).put (show nz_PP 724 = true from rfl) _ _).put (show nz_PP 723 = true from rfl) _ _), fun j hj => by rw [ez_put_I (fun w => hj w.2), ez_put_I (by omega)], by rw [u1]; rfl, fun j j0 => ?_⟩)
      rw [ez_put_I (by omega)]
      by_cases e : j = qz_I h 723 2
      · rw [if_pos (by simp only [List.length_singleton]; omega), e, w8, rz_rd ⟨by omega, by omega⟩]; rw [show (qz_I h 723 2 - qz_I h 723 2).toNat = 0 by omega]; rfl
      · rw [if_neg (by simp only [List.length_singleton]; omega), ez_put_I (by omega)]
    · skip
      refine ez_go (n := 1) (pc' := 24) (L' := [(0, .inr (.inr (some (723)))), (1, .inl (p)), (2, .inl (s))]) (st' := [.inl (0)]) rfl ?_
      exact ez_retZ rfl rfl (by decide) (k0 (by omega))

theorem hz_sy_bd {x : Int} (hx : hz x) : ∀ (j : Nat) v, (hz_sy x)[j]? = some v → 0 ≤ v ∧ v ≤ 1114111 := by
  have x0 := hx.1
  have x1 := hx.2
  intro j v hv
  unfold hz_sy at hv
  split at hv
  · match j with
    | 0 => cases hv; omega
    | 1 => cases hv; omega
    | j + 2 => cases hv
  · match j with
    | 0 => cases hv; omega
    | 1 => cases hv; omega
    | 2 => cases hv; omega
    | j + 3 => cases hv
theorem hz_sy_len (x : Int) : (hz_sy x).length ≤ 3 := by
  unfold hz_sy
  split
  · show 2 ≤ 3; omega
  · show 3 ≤ 3; omega
theorem ap_snoc {g g1 g2 : cz_H} {l : List Int} {i : Nat} {v : Int} (x : ap τ g g1 (l.take i)) (hv : l[i]? = some v) (y : ap τ g1 g2 [v]) : ap τ g g2 (l.take (i + 1)) := by
  have := x.trans y
  rw [List.take_add_one, hv]
  exact this
theorem rd_poolSyl_l {x s : Int} (t723 : τ 723 = 55) (hx : hz x) (s0 : 0 ≤ s) (s1 : s ≤ 20440) (u0 : s ≤ qz_I h 723 2) (u1 : qz_I h 723 2 ≤ s + 40) (k1 : ∀ g, ap τ h g (hz_sy x) → qz_I h 723 2 + ((hz_sy x).length : Int) ≤ s + 40 → Q (.inl (some (ez_v (.inl 1))), g)) (k0 : ∀ g l2, ap τ h g l2 → s + 40 < qz_I h 723 2 + ((hz_sy x).length : Int) → Q (.inl (some (ez_v (.inl 0))), g)) : ∀ (m : Nat) (i : Int) (g : cz_H), m = (((hz_sy x).length : Int) - i).toNat → 0 ≤ i → i ≤ ((hz_sy x).length : Int) → qz_I h 723 2 + i ≤ s + 40 → ap τ h g ((hz_sy x).take i.toNat) → ez_W (d + 1) cm_128 2 [(3, .inl (i)), (0, .inr (.inr (some (723)))), (1, .inl (x)), (2, .inl (s))] [] g Q := by
  intro m
  induction m with
  | zero =>
    intro i g hm i0 i1 i2 ha
    have hlen := hz_sy_len x
    have ha4 := ha.2.2.2.1
    rw [List.length_take] at ha4
    refine ez_go (n := 2) (pc' := 4) (L' := [(3, .inl (i)), (0, .inr (.inr (some (723)))), (1, .inl (x)), (2, .inl (s))]) (st' := [.inl (x), .inl (i)]) rfl ?_
    refine ez_cs ha.1.2.1 rfl rfl rfl rfl rfl (rd_sylLen hx (ez_K1 ?_))
    refine ez_icmp rfl rfl ⟨by first | omega | exact (sz_i32 _).1, by first | omega | exact (sz_i32 _).2⟩ ⟨by first | omega | exact (sz_i32 _).1, by first | omega | exact (sz_i32 _).2⟩ (fun (c1 : (((hz_sy x).length : Int)) ≤ (i)) => ?_) (fun (c1 : ¬((((hz_sy x).length : Int)) ≤ (i))) => ?_)
    · skip
      refine ez_go (n := 1) (pc' := 32) (L' := [(3, .inl (i)), (0, .inr (.inr (some (723)))), (1, .inl (x)), (2, .inl (s))]) (st' := [.inl (1)]) rfl ?_
      exact ez_retZ rfl rfl (by decide) (k1 g (by rw [List.take_of_length_le (by omega)] at ha; exact ha) (by omega))
    · exfalso; omega
  | succ m ih =>
    intro i g hm i0 i1 i2 ha
    have hlen := hz_sy_len x
    have ha4 := ha.2.2.2.1
    rw [List.length_take] at ha4
    refine ez_go (n := 2) (pc' := 4) (L' := [(3, .inl (i)), (0, .inr (.inr (some (723)))), (1, .inl (x)), (2, .inl (s))]) (st' := [.inl (x), .inl (i)]) rfl ?_
    refine ez_cs ha.1.2.1 rfl rfl rfl rfl rfl (rd_sylLen hx (ez_K1 ?_))
    refine ez_icmp rfl rfl ⟨by first | omega | exact (sz_i32 _).1, by first | omega | exact (sz_i32 _).2⟩ ⟨by first | omega | exact (sz_i32 _).1, by first | omega | exact (sz_i32 _).2⟩ (fun (c1 : (((hz_sy x).length : Int)) ≤ (i)) => ?_) (fun (c1 : ¬((((hz_sy x).length : Int)) ≤ (i))) => ?_)
    · exfalso; omega
    · skip
      refine ez_go (n := 3) (pc' := 13) (L' := [(3, .inl (i)), (0, .inr (.inr (some (723)))), (1, .inl (x)), (2, .inl (s))]) (st' := [.inl (i), .inl (x), .inr (.inr (some (723)))]) rfl ?_
      refine ez_cs ha.1.2.1 rfl rfl rfl rfl rfl (rd_sylPart hx i0 (by omega) (fun v hv => ez_K1 ?_))
      have vb := hz_sy_bd hx _ _ hv
      refine ez_go (n := 1) (pc' := 17) (L' := [(3, .inl (i)), (0, .inr (.inr (some (723)))), (1, .inl (x)), (2, .inl (s))]) (st' := [.inl (s), .inl (v), .inr (.inr (some (723)))]) rfl ?_
      refine ez_cv ha.1 t723 rfl rfl rfl tq_55 rfl rfl rfl (rd_poolPoint ha.1 t723 (by omega) (by omega) s0 s1 (by omega) (by omega) (fun e => ez_K1 ?_) (fun e g2 ha2 => ez_K1 ?_))
      · skip
        refine ez_if rfl rfl ⟨by decide, by decide⟩ (fun (c2 : (0 : Int) ≠ (0)) => absurd c2 (by decide)) (fun _ => ?_)
        refine ez_go (n := 1) (pc' := 24) (L' := [(3, .inl (i)), (0, .inr (.inr (some (723)))), (1, .inl (x)), (2, .inl (s))]) (st' := [.inl (0)]) rfl ?_
        exact ez_retZ rfl rfl (by decide) (k0 g _ ha (by omega))
      · skip
        have hB2 := ha2.1
        have ha3 := ap_snoc ha hv ha2
        have ha5 := ha3.2.2.2.1
        rw [List.length_take] at ha5
        refine ez_if rfl rfl ⟨by decide, by decide⟩ (fun _ => ?_) (fun (c3 : ¬((1 : Int) ≠ (0))) => absurd c3 (by decide))
        refine ez_go (n := 2) (pc' := 2) (L' := [(3, .inl (i + 1)), (0, .inr (.inr (some (723)))), (1, .inl (x)), (2, .inl (s))]) (st' := []) rfl ?_
        refine ez_less [(3, .inl (i + 1)), (0, .inr (.inr (some (723)))), (1, .inl (x)), (2, .inl (s))] rfl ⟨rfl, rfl, rfl, rfl, trivial⟩ ?_
        refine ih (i + 1) g2 (by omega) (by omega) (by omega) (by omega) (by rw [show (i + 1).toNat = i.toNat + 1 by omega]; exact ha3)
theorem rd_poolSyl {x s : Int} (hB : ez_B τ h) (t723 : τ 723 = 55) (hx : hz x) (s0 : 0 ≤ s) (s1 : s ≤ 20440) (u0 : s ≤ qz_I h 723 2) (u1 : qz_I h 723 2 ≤ s + 40) (k1 : ∀ g, ap τ h g (hz_sy x) → qz_I h 723 2 + ((hz_sy x).length : Int) ≤ s + 40 → Q (.inl (some (ez_v (.inl 1))), g)) (k0 : ∀ g l2, ap τ h g l2 → s + 40 < qz_I h 723 2 + ((hz_sy x).length : Int) → Q (.inl (some (ez_v (.inl 0))), g)) : ez_W (d + 1) cm_128 0 [(0, .inr (.inr (some (723)))), (1, .inl (x)), (2, .inl (s))] [] h Q := by
  refine ez_go (n := 2) (pc' := 2) (L' := [(3, .inl (0)), (0, .inr (.inr (some (723)))), (1, .inl (x)), (2, .inl (s))]) (st' := []) rfl ?_
  refine ez_less [(3, .inl (0)), (0, .inr (.inr (some (723)))), (1, .inl (x)), (2, .inl (s))] rfl ⟨rfl, rfl, rfl, rfl, trivial⟩ ?_
  exact rd_poolSyl_l t723 hx s0 s1 u0 u1 k1 k0 _ 0 h rfl (by omega) (by omega) (by omega) (ap.nil hB)

theorem rd_spanOf {x : Int} (hC : pz_C τ h T F E) (x0 : 0 ≤ x) (x1 : x ≤ 1114111) (k : ∀ z, τ z = 4 → qz_I h z 1 = (T x : Int) + 1 → (sz_t0 (qz_I h z 2) ↔ E x) → Q (.inl (some (.inr (.inr (some z)))), h)) : ez_W (d + 1) cm_103 0 [(0, .inr (.inr (some (202)))), (1, .inl (x))] [] h Q := by
  have t202 : τ 202 = 48 := hC.2.1 202 (by decide)
  have t203 : τ 203 = 49 := hC.2.1 203 (by decide)
  refine ez_go (n := 1) (pc' := 1) (L' := [(0, .inr (.inr (some (202)))), (1, .inl (x))]) (st' := [.inr (.inr (some (202)))]) rfl ?_
  refine ez_gC (p := 203) (tg := 49) hC.1 t202 rfl rfl tq_48 rfl rfl (fun (t203 : _ = 49) => ?_)
  refine ez_go (n := 2) (pc' := 6) (L' := [(0, .inr (.inr (some (202)))), (1, .inl (x))]) (st' := [.inl (x), .inr (.inr (some (202))), .inr (.inr (some (203)))]) rfl ?_
  have bn := sz_R_n1 hC.1 t202
  refine ez_cv hC.1 t202 rfl rfl rfl tq_48 rfl rfl rfl (rd_spanIndex hC.1 t202 hC.2.2.1 x0 (by omega) (fun i i0 i1 i2 i3 => ez_K1 ?_))
  have n2 : 513 ≤ qz_N h 203 ∧ qz_N h 203 ≤ 513 := ez_len hC.1 t203 tq_49 rfl
  have y3 : 1 ≤ qz_I h 203 (i).toNat ∧ qz_I h 203 (i).toNat ≤ 1000000 := ez_aB hC.1 t203 tq_49 rfl rfl (by decide) (by omega) (by omega)
  have y3' : ((qz_P h 203 (i).toNat : Nat) : Int) + 1 = qz_I h 203 (i).toNat := by unfold qz_P; omega
  refine ez_aR hC.1 t203 rfl tq_49 rfl rfl (by omega) (by omega) (by omega) (fun (t1 : _ = 4) => ?_)
  obtain ⟨w1, w2⟩ := hC.2.2.2.1 x i x0 x1 ⟨i0, i1, i2, i3⟩
  exact ez_retA rfl rfl rfl (k _ t1 w1 w2)

end EzPo
/-! The class: poolFull, close. (Written by wip/p2/py/pv28.py.) -/
def sa (c : Bool) : Nat := bif c then 11 else 9
def sl (c : Bool) : Nat := bif c then 12 else 10
/-- what lies in the pool for a fact -/
def sg (g : cz_H) (r : Nat) (c : Bool) (l : List Int) : Prop := qz_I g r (sl c) = (l.length : Int) ∧ 0 ≤ qz_I g r (sa c) ∧ qz_I g r (sa c) + (l.length : Int) ≤ qz_I g 723 2 ∧ ∀ (j : Nat) v, l[j]? = some v → qz_I g 724 (qz_I g r (sa c) + (j : Int)).toNat = v
/-- what is pooled for a point -/
def dn (g : cz_H) (T : Int → Nat) (F : rz_W) (c : Bool) (x : Int) (l : List Int) : Prop := (hz x ∧ l = hz_sy x) ∨ (¬ hz x ∧ (F x).2 = none ∧ l = [x]) ∨ (¬ hz x ∧ (F x).2 ≠ none ∧ sg g (T x) c l)
theorem sg_ap {τ : Nat → Nat} {g g2 : cz_H} {r : Nat} {c : Bool} {l l2 : List Int} (tr : τ r = 3) (t723 : τ 723 = 55) (t724 : τ 724 = 56) (h : sg g r c l) (x : ap τ g g2 l2) : sg g2 r c l := by
  obtain ⟨h1, h2, h3, h4⟩ := h
  have hf : ∀ j, qz_I g2 r j = qz_I g r j := fun j => x.2.1.I (by unfold nz_PP; rw [dz_beq_ne (fun e => by rw [e, t723] at tr; cases tr), dz_beq_ne (fun e => by rw [e, t724] at tr; cases tr)]; rfl) j
  refine ⟨by rw [hf]; exact h1, by rw [hf]; exact h2, by rw [hf, x.2.2.2.1]; omega, fun j v hj => ?_⟩
  have hl : j < l.length := (List.getElem?_eq_some_iff.mp hj).1
  rw [hf, x.2.2.2.2 _ (by omega), if_neg (by omega)]
  exact h4 j v hj
theorem dn_ap {τ : Nat → Nat} {g g2 : cz_H} {T : Int → Nat} {F : rz_W} {c : Bool} {v : Int} {l l2 : List Int} (tr : τ (T v) = 3) (t723 : τ 723 = 55) (t724 : τ 724 = 56) (h : dn g T F c v l) (x : ap τ g g2 l2) : dn g2 T F c v l := by
  rcases h with h | h | ⟨h1, h2, h3⟩
  · exact Or.inl h
  · exact Or.inr (Or.inl h)
  · exact Or.inr (Or.inr ⟨h1, h2, sg_ap tr t723 t724 h3 x⟩)
section EzPf
variable {d : Nat} {h : cz_H} {τ : Nat → Nat} {Q : cz_F → Prop} {T : Int → Nat} {F : rz_W} {E : Int → Prop}
theorem rd_poolFull_l1 {x s a m : Int} {r : Nat} {l : List Int} (t723 : τ 723 = 55) (t724 : τ 724 = 56) (s0 : 0 ≤ s) (s1 : s ≤ 20440) (u0 : s ≤ qz_I h 723 2) (u1 : qz_I h 723 2 ≤ s + 40) (hm : m = (l.length : Int)) (a0 : 0 ≤ a) (a1 : a + m ≤ qz_I h 723 2) (hl : ∀ (j : Nat) v, l[j]? = some v → qz_I h 724 (a + (j : Int)).toNat = v) (k1 : ∀ g, ap τ h g l → qz_I h 723 2 + (l.length : Int) ≤ s + 40 → Q (.inl (some (ez_v (.inl 1))), g)) (k0 : ∀ g l2, ap τ h g l2 → s + 40 < qz_I h 723 2 + (l.length : Int) → Q (.inl (some (ez_v (.inl 0))), g)) : ∀ (n : Nat) (i : Int) (g : cz_H), n = (m - i).toNat → 0 ≤ i → i ≤ m → qz_I h 723 2 + i ≤ s + 40 → ap τ h g (l.take i.toNat) → ez_W (d + 1) cm_126 83 [(7, .inl (i)), (6, .inl (m)), (5, .inl (a)), (4, .inr (.inr (some (r)))), (0, .inr (.inr (some (723)))), (1, .inl (x)), (2, .inl (s)), (3, .inl (1))] [] g Q := by
  intro n
  induction n with
  | zero =>
    intro i g hm i0 i1 i2 ha
    have ha4 := ha.2.2.2.1
    rw [List.length_take] at ha4
    refine ez_go (n := 2) (pc' := 87) (L' := [(7, .inl (i)), (6, .inl (m)), (5, .inl (a)), (4, .inr (.inr (some (r)))), (0, .inr (.inr (some (723)))), (1, .inl (x)), (2, .inl (s)), (3, .inl (1))]) (st' := [.inl (m), .inl (i)]) rfl ?_
    refine ez_icmp rfl rfl ⟨by first | omega | exact (sz_i32 _).1, by first | omega | exact (sz_i32 _).2⟩ ⟨by first | omega | exact (sz_i32 _).1, by first | omega | exact (sz_i32 _).2⟩ (fun (c1 : (m) ≤ (i)) => ?_) (fun (c1 : ¬((m) ≤ (i))) => ?_)
    · skip
      refine ez_go (n := 1) (pc' := 117) (L' := [(7, .inl (i)), (6, .inl (m)), (5, .inl (a)), (4, .inr (.inr (some (r)))), (0, .inr (.inr (some (723)))), (1, .inl (x)), (2, .inl (s)), (3, .inl (1))]) (st' := [.inl (1)]) rfl ?_
      exact ez_retZ rfl rfl (by decide) (k1 g (by rw [List.take_of_length_le (by omega)] at ha; exact ha) (by omega))
    · exfalso; omega
  | succ n ih =>
    intro i g hm i0 i1 i2 ha
    have ha4 := ha.2.2.2.1
    rw [List.length_take] at ha4
    refine ez_go (n := 2) (pc' := 87) (L' := [(7, .inl (i)), (6, .inl (m)), (5, .inl (a)), (4, .inr (.inr (some (r)))), (0, .inr (.inr (some (723)))), (1, .inl (x)), (2, .inl (s)), (3, .inl (1))]) (st' := [.inl (m), .inl (i)]) rfl ?_
    refine ez_icmp rfl rfl ⟨by first | omega | exact (sz_i32 _).1, by first | omega | exact (sz_i32 _).2⟩ ⟨by first | omega | exact (sz_i32 _).1, by first | omega | exact (sz_i32 _).2⟩ (fun (c1 : (m) ≤ (i)) => ?_) (fun (c1 : ¬((m) ≤ (i))) => ?_)
    · exfalso; omega
    · skip
      refine ez_go (n := 2) (pc' := 92) (L' := [(7, .inl (i)), (6, .inl (m)), (5, .inl (a)), (4, .inr (.inr (some (r)))), (0, .inr (.inr (some (723)))), (1, .inl (x)), (2, .inl (s)), (3, .inl (1))]) (st' := [.inr (.inr (some (723))), .inr (.inr (some (723)))]) rfl ?_
      refine ez_gC (p := 724) (tg := 56) ha.1 t723 rfl rfl tq_55 rfl rfl (fun (t724 : _ = 56) => ?_)
      refine ez_go (n := 3) (pc' := 100) (L' := [(7, .inl (i)), (6, .inl (m)), (5, .inl (a)), (4, .inr (.inr (some (r)))), (0, .inr (.inr (some (723)))), (1, .inl (x)), (2, .inl (s)), (3, .inl (1))]) (st' := [.inl ((a) + (i)), .inr (.inr (some (724))), .inr (.inr (some (723)))]) rfl ?_
      have n3 : 20480 ≤ qz_N g 724 ∧ qz_N g 724 ≤ 20480 := ez_len ha.1 t724 tq_56 rfl
      refine ez_aI ha.1 t724 rfl tq_56 rfl rfl (by omega) (by omega) (fun (b2 : -2147483648 ≤ qz_I g 724 ((a) + (i)).toNat) (b2' : qz_I g 724 ((a) + (i)).toNat ≤ 2147483647) => ?_)
      have hlt : i.toNat < l.length := by omega
      have hv : qz_I g 724 ((a) + (i)).toNat = l[i.toNat] := by
        rw [ha.2.2.2.2 _ (by omega), if_neg (by rw [List.length_take]; omega)]
        have := hl i.toNat _ (List.getElem?_eq_getElem hlt)
        rw [← this]; congr 2; omega
      have hv2 : l[i.toNat]? = some (qz_I g 724 ((a) + (i)).toNat) := by rw [hv]; exact List.getElem?_eq_getElem hlt
      refine ez_go (n := 1) (pc' := 102) (L' := [(7, .inl (i)), (6, .inl (m)), (5, .inl (a)), (4, .inr (.inr (some (r)))), (0, .inr (.inr (some (723)))), (1, .inl (x)), (2, .inl (s)), (3, .inl (1))]) (st' := [.inl (s), .inl (qz_I g 724 ((a) + (i)).toNat), .inr (.inr (some (723)))]) rfl ?_
      refine ez_cv ha.1 t723 rfl rfl rfl tq_55 rfl rfl rfl (rd_poolPoint ha.1 t723 (by omega) (by omega) s0 s1 (by omega) (by omega) (fun e => ez_K1 ?_) (fun e g2 ha2 => ez_K1 ?_))
      · skip
        refine ez_if rfl rfl ⟨by decide, by decide⟩ (fun (c4 : (0 : Int) ≠ (0)) => absurd c4 (by decide)) (fun _ => ?_)
        refine ez_go (n := 1) (pc' := 109) (L' := [(7, .inl (i)), (6, .inl (m)), (5, .inl (a)), (4, .inr (.inr (some (r)))), (0, .inr (.inr (some (723)))), (1, .inl (x)), (2, .inl (s)), (3, .inl (1))]) (st' := [.inl (0)]) rfl ?_
        exact ez_retZ rfl rfl (by decide) (k0 g _ ha (by omega))
      · skip
        have hB2 := ha2.1
        have ha3 := ap_snoc ha hv2 ha2
        refine ez_if rfl rfl ⟨by decide, by decide⟩ (fun _ => ?_) (fun (c5 : ¬((1 : Int) ≠ (0))) => absurd c5 (by decide))
        refine ez_go (n := 2) (pc' := 83) (L' := [(7, .inl (i + 1)), (6, .inl (m)), (5, .inl (a)), (4, .inr (.inr (some (r)))), (0, .inr (.inr (some (723)))), (1, .inl (x)), (2, .inl (s)), (3, .inl (1))]) (st' := []) rfl ?_
        refine ez_less [(7, .inl (i + 1)), (6, .inl (m)), (5, .inl (a)), (4, .inr (.inr (some (r)))), (0, .inr (.inr (some (723)))), (1, .inl (x)), (2, .inl (s)), (3, .inl (1))] rfl ⟨rfl, rfl, rfl, rfl, rfl, rfl, rfl, rfl, trivial⟩ ?_
        refine ih (i + 1) g2 (by omega) (by omega) (by omega) (by omega) (by rw [show (i + 1).toNat = i.toNat + 1 by omega]; exact ha3)
theorem rd_poolFull1 {x s : Int} {l : List Int} (hC : pz_C τ h T F E) (x0 : 0 ≤ x) (x1 : x ≤ 1114111) (s0 : 0 ≤ s) (s1 : s ≤ 20440) (u0 : s ≤ qz_I h 723 2) (u1 : qz_I h 723 2 ≤ s + 40) (hd : dn h T F true x l) (k1 : ∀ g, ap τ h g l → qz_I h 723 2 + (l.length : Int) ≤ s + 40 → Q (.inl (some (ez_v (.inl 1))), g)) (k0 : ∀ g l2, ap τ h g l2 → s + 40 < qz_I h 723 2 + (l.length : Int) → Q (.inl (some (ez_v (.inl 0))), g)) : ez_W (d + 2) cm_126 0 [(0, .inr (.inr (some (723)))), (1, .inl (x)), (2, .inl (s)), (3, .inl (1))] [] h Q := by
  have t723 : τ 723 = 55 := hC.2.1 723 (by decide)
  have t724 : τ 724 = 56 := hC.2.1 724 (by decide)
  refine ez_go (n := 1) (pc' := 1) (L' := [(0, .inr (.inr (some (723)))), (1, .inl (x)), (2, .inl (s)), (3, .inl (1))]) (st' := [.inl (x)]) rfl ?_
  refine ez_cs hC.1.2.1 rfl rfl rfl rfl rfl (rd_isSyl (by omega) (by omega) (fun e => ez_K1 ?_) (fun e => ez_K1 ?_))
  · skip
    refine ez_if rfl rfl ⟨by decide, by decide⟩ (fun (c1 : (1 : Int) = (0)) => absurd c1 (by decide)) (fun _ => ?_)
    refine ez_go (n := 3) (pc' := 10) (L' := [(0, .inr (.inr (some (723)))), (1, .inl (x)), (2, .inl (s)), (3, .inl (1))]) (st' := [.inl (s), .inl (x), .inr (.inr (some (723)))]) rfl ?_
    have hl : l = hz_sy x := by rcases hd with w | w | w; (· exact w.2); (· exact absurd e w.1); (· exact absurd e w.1)
    subst hl
    refine ez_cv hC.1 t723 rfl rfl rfl tq_55 rfl rfl rfl (rd_poolSyl hC.1 t723 e s0 s1 u0 u1 (fun g w1 w2 => ez_K1 ?_) (fun g l2 w1 w2 => ez_K1 ?_))
    · exact ez_retZ rfl rfl (by decide) (k1 g w1 w2)
    · exact ez_retZ rfl rfl (by decide) (k0 g l2 w1 w2)
  · skip
    refine ez_if rfl rfl ⟨by decide, by decide⟩ (fun _ => ?_) (fun (c2 : ¬((0 : Int) = (0))) => absurd c2 (by decide))
    refine ez_go (n := 1) (pc' := 15) (L' := [(0, .inr (.inr (some (723)))), (1, .inl (x)), (2, .inl (s)), (3, .inl (1))]) (st' := [.inr (.inr (some (723)))]) rfl ?_
    refine ez_gC (p := 202) (tg := 48) hC.1 t723 rfl rfl tq_55 rfl rfl (fun (t202 : _ = 48) => ?_)
    refine ez_go (n := 1) (pc' := 19) (L' := [(0, .inr (.inr (some (723)))), (1, .inl (x)), (2, .inl (s)), (3, .inl (1))]) (st' := [.inl (x), .inr (.inr (some (202)))]) rfl ?_
    refine ez_cv hC.1 t202 rfl rfl rfl tq_48 rfl rfl rfl (rd_spanOf hC x0 x1 (fun z tz z1 _ => ez_KA ?_))
    refine ez_gR hC.1 tz rfl rfl tq_4 rfl rfl (fun (t3 : _ = 3) (t3' : 1 ≤ qz_I h z 1) => ?_)
    have eT : qz_P h z 1 = T x := by unfold qz_P; omega
    rw [eT]
    have tT := (hC.2.2.2.2 x x0 x1).1
    refine ez_go (n := 2) (pc' := 29) (L' := [(4, .inr (.inr (some ((T x))))), (0, .inr (.inr (some (723)))), (1, .inl (x)), (2, .inl (s)), (3, .inl (1))]) (st' := [.inr (.inr (some ((T x))))]) rfl ?_
    refine ez_gN hC.1 tT rfl rfl tq_3 rfl rfl (fun (t4 : qz_I h ((T x)) 3 = 0) => ?_) (fun (t4 : _ = 5) (t4' : 1 ≤ qz_I h ((T x)) 3) => ?_)
    · skip
      refine ez_nonn0 rfl ?_
      refine ez_go (n := 3) (pc' := 38) (L' := [(4, .inr (.inr (some ((T x))))), (0, .inr (.inr (some (723)))), (1, .inl (x)), (2, .inl (s)), (3, .inl (1))]) (st' := [.inl (s), .inl (x), .inr (.inr (some (723)))]) rfl ?_
      have hnone : (F x).2 = none := by
        cases hq : (F x).2 with
        | none => rfl
        | some q => have := ((hC.2.2.2.2 x x0 x1).2.2.2 q.1 q.2 hq).2.2.1; omega
      have hl : l = [x] := by rcases hd with w | w | w; (· exact absurd w.1 e); (· exact w.2.2); (· exact absurd hnone w.2.1)
      subst hl
      refine ez_cv hC.1 t723 rfl rfl rfl tq_55 rfl rfl rfl (rd_poolPoint hC.1 t723 (by omega) (by omega) s0 s1 u0 u1 (fun w => ez_K1 ?_) (fun w g w1 => ez_K1 ?_))
      · exact ez_retZ rfl rfl (by decide) (k0 h [] (ap.nil hC.1) (by simp only [List.length_singleton]; omega))
      · exact ez_retZ rfl rfl (by decide) (k1 g w1 (by simp only [List.length_singleton]; omega))
    · skip
      refine ez_nonn1 rfl rfl ?_
      refine ez_go (n := 1) (pc' := 43) (L' := [(4, .inr (.inr (some ((T x))))), (0, .inr (.inr (some (723)))), (1, .inl (x)), (2, .inl (s)), (3, .inl (1))]) (st' := [.inl (1)]) rfl ?_
      refine ez_if rfl rfl ⟨by decide, by decide⟩ (fun (c5 : (1 : Int) = (0)) => absurd c5 (by decide)) (fun _ => ?_)
      refine ez_go (n := 1) (pc' := 48) (L' := [(4, .inr (.inr (some ((T x))))), (0, .inr (.inr (some (723)))), (1, .inl (x)), (2, .inl (s)), (3, .inl (1))]) (st' := [.inr (.inr (some ((T x))))]) rfl ?_
      refine ez_gI hC.1 tT rfl rfl tq_3 rfl rfl (fun (b6 : 0 ≤ qz_I h ((T x)) 11) (b6' : qz_I h ((T x)) 11 ≤ 20480) => ?_)
      refine ez_go (n := 3) (pc' := 62) (L' := [(5, .inl (qz_I h ((T x)) 11)), (4, .inr (.inr (some ((T x))))), (0, .inr (.inr (some (723)))), (1, .inl (x)), (2, .inl (s)), (3, .inl (1))]) (st' := [.inl (1)]) rfl ?_
      refine ez_if rfl rfl ⟨by decide, by decide⟩ (fun (c7 : (1 : Int) = (0)) => absurd c7 (by decide)) (fun _ => ?_)
      refine ez_go (n := 1) (pc' := 67) (L' := [(5, .inl (qz_I h ((T x)) 11)), (4, .inr (.inr (some ((T x))))), (0, .inr (.inr (some (723)))), (1, .inl (x)), (2, .inl (s)), (3, .inl (1))]) (st' := [.inr (.inr (some ((T x))))]) rfl ?_
      refine ez_gI hC.1 tT rfl rfl tq_3 rfl rfl (fun (b8 : 0 ≤ qz_I h ((T x)) 12) (b8' : qz_I h ((T x)) 12 ≤ 20480) => ?_)
      refine ez_go (n := 4) (pc' := 83) (L' := [(7, .inl (0)), (6, .inl (qz_I h ((T x)) 12)), (5, .inl (qz_I h ((T x)) 11)), (4, .inr (.inr (some ((T x))))), (0, .inr (.inr (some (723)))), (1, .inl (x)), (2, .inl (s)), (3, .inl (1))]) (st' := []) rfl ?_
      refine ez_less [(7, .inl (0)), (6, .inl (qz_I h ((T x)) 12)), (5, .inl (qz_I h ((T x)) 11)), (4, .inr (.inr (some ((T x))))), (0, .inr (.inr (some (723)))), (1, .inl (x)), (2, .inl (s)), (3, .inl (1))] rfl ⟨rfl, rfl, rfl, rfl, rfl, rfl, rfl, rfl, trivial⟩ ?_
      have hsg : sg h (T x) true l := by
        rcases hd with w | w | w
        · exact absurd w.1 e
        · have := (hC.2.2.2.2 x x0 x1).2.2.1 w.2.1; omega
        · exact w.2.2
      obtain ⟨q1, q2, q3, q4⟩ := hsg
      have q1 : qz_I h (T x) 12 = (l.length : Int) := q1
      have q2 : 0 ≤ qz_I h (T x) 11 := q2
      have q3 : qz_I h (T x) 11 + (l.length : Int) ≤ qz_I h 723 2 := q3
      have q4 : ∀ (j : Nat) v, l[j]? = some v → qz_I h 724 (qz_I h (T x) 11 + (j : Int)).toNat = v := q4
      exact rd_poolFull_l1 t723 t724 s0 s1 u0 u1 q1 (by omega) (by omega) q4 k1 k0 _ 0 h rfl (by omega) (by omega) (by omega) (ap.nil hC.1)

theorem rd_poolFull_l0 {x s a m : Int} {r : Nat} {l : List Int} (t723 : τ 723 = 55) (t724 : τ 724 = 56) (s0 : 0 ≤ s) (s1 : s ≤ 20440) (u0 : s ≤ qz_I h 723 2) (u1 : qz_I h 723 2 ≤ s + 40) (hm : m = (l.length : Int)) (a0 : 0 ≤ a) (a1 : a + m ≤ qz_I h 723 2) (hl : ∀ (j : Nat) v, l[j]? = some v → qz_I h 724 (a + (j : Int)).toNat = v) (k1 : ∀ g, ap τ h g l → qz_I h 723 2 + (l.length : Int) ≤ s + 40 → Q (.inl (some (ez_v (.inl 1))), g)) (k0 : ∀ g l2, ap τ h g l2 → s + 40 < qz_I h 723 2 + (l.length : Int) → Q (.inl (some (ez_v (.inl 0))), g)) : ∀ (n : Nat) (i : Int) (g : cz_H), n = (m - i).toNat → 0 ≤ i → i ≤ m → qz_I h 723 2 + i ≤ s + 40 → ap τ h g (l.take i.toNat) → ez_W (d + 1) cm_126 83 [(7, .inl (i)), (6, .inl (m)), (5, .inl (a)), (4, .inr (.inr (some (r)))), (0, .inr (.inr (some (723)))), (1, .inl (x)), (2, .inl (s)), (3, .inl (0))] [] g Q := by
  intro n
  induction n with
  | zero =>
    intro i g hm i0 i1 i2 ha
    have ha4 := ha.2.2.2.1
    rw [List.length_take] at ha4
    refine ez_go (n := 2) (pc' := 87) (L' := [(7, .inl (i)), (6, .inl (m)), (5, .inl (a)), (4, .inr (.inr (some (r)))), (0, .inr (.inr (some (723)))), (1, .inl (x)), (2, .inl (s)), (3, .inl (0))]) (st' := [.inl (m), .inl (i)]) rfl ?_
    refine ez_icmp rfl rfl ⟨by first | omega | exact (sz_i32 _).1, by first | omega | exact (sz_i32 _).2⟩ ⟨by first | omega | exact (sz_i32 _).1, by first | omega | exact (sz_i32 _).2⟩ (fun (c1 : (m) ≤ (i)) => ?_) (fun (c1 : ¬((m) ≤ (i))) => ?_)
    · skip
      refine ez_go (n := 1) (pc' := 117) (L' := [(7, .inl (i)), (6, .inl (m)), (5, .inl (a)), (4, .inr (.inr (some (r)))), (0, .inr (.inr (some (723)))), (1, .inl (x)), (2, .inl (s)), (3, .inl (0))]) (st' := [.inl (1)]) rfl ?_
      exact ez_retZ rfl rfl (by decide) (k1 g (by rw [List.take_of_length_le (by omega)] at ha; exact ha) (by omega))
    · exfalso; omega
  | succ n ih =>
    intro i g hm i0 i1 i2 ha
    have ha4 := ha.2.2.2.1
    rw [List.length_take] at ha4
    refine ez_go (n := 2) (pc' := 87) (L' := [(7, .inl (i)), (6, .inl (m)), (5, .inl (a)), (4, .inr (.inr (some (r)))), (0, .inr (.inr (some (723)))), (1, .inl (x)), (2, .inl (s)), (3, .inl (0))]) (st' := [.inl (m), .inl (i)]) rfl ?_
    refine ez_icmp rfl rfl ⟨by first | omega | exact (sz_i32 _).1, by first | omega | exact (sz_i32 _).2⟩ ⟨by first | omega | exact (sz_i32 _).1, by first | omega | exact (sz_i32 _).2⟩ (fun (c1 : (m) ≤ (i)) => ?_) (fun (c1 : ¬((m) ≤ (i))) => ?_)
    · exfalso; omega
    · skip
      refine ez_go (n := 2) (pc' := 92) (L' := [(7, .inl (i)), (6, .inl (m)), (5, .inl (a)), (4, .inr (.inr (some (r)))), (0, .inr (.inr (some (723)))), (1, .inl (x)), (2, .inl (s)), (3, .inl (0))]) (st' := [.inr (.inr (some (723))), .inr (.inr (some (723)))]) rfl ?_
      refine ez_gC (p := 724) (tg := 56) ha.1 t723 rfl rfl tq_55 rfl rfl (fun (t724 : _ = 56) => ?_)
      refine ez_go (n := 3) (pc' := 100) (L' := [(7, .inl (i)), (6, .inl (m)), (5, .inl (a)), (4, .inr (.inr (some (r)))), (0, .inr (.inr (some (723)))), (1, .inl (x)), (2, .inl (s)), (3, .inl (0))]) (st' := [.inl ((a) + (i)), .inr (.inr (some (724))), .inr (.inr (some (723)))]) rfl ?_
      have n3 : 20480 ≤ qz_N g 724 ∧ qz_N g 724 ≤ 20480 := ez_len ha.1 t724 tq_56 rfl
      refine ez_aI ha.1 t724 rfl tq_56 rfl rfl (by omega) (by omega) (fun (b2 : -2147483648 ≤ qz_I g 724 ((a) + (i)).toNat) (b2' : qz_I g 724 ((a) + (i)).toNat ≤ 2147483647) => ?_)
      have hlt : i.toNat < l.length := by omega
      have hv : qz_I g 724 ((a) + (i)).toNat = l[i.toNat] := by
        rw [ha.2.2.2.2 _ (by omega), if_neg (by rw [List.length_take]; omega)]
        have := hl i.toNat _ (List.getElem?_eq_getElem hlt)
        rw [← this]; congr 2; omega
      have hv2 : l[i.toNat]? = some (qz_I g 724 ((a) + (i)).toNat) := by rw [hv]; exact List.getElem?_eq_getElem hlt
      refine ez_go (n := 1) (pc' := 102) (L' := [(7, .inl (i)), (6, .inl (m)), (5, .inl (a)), (4, .inr (.inr (some (r)))), (0, .inr (.inr (some (723)))), (1, .inl (x)), (2, .inl (s)), (3, .inl (0))]) (st' := [.inl (s), .inl (qz_I g 724 ((a) + (i)).toNat), .inr (.inr (some (723)))]) rfl ?_
      refine ez_cv ha.1 t723 rfl rfl rfl tq_55 rfl rfl rfl (rd_poolPoint ha.1 t723 (by omega) (by omega) s0 s1 (by omega) (by omega) (fun e => ez_K1 ?_) (fun e g2 ha2 => ez_K1 ?_))
      · skip
        refine ez_if rfl rfl ⟨by decide, by decide⟩ (fun (c4 : (0 : Int) ≠ (0)) => absurd c4 (by decide)) (fun _ => ?_)
        refine ez_go (n := 1) (pc' := 109) (L' := [(7, .inl (i)), (6, .inl (m)), (5, .inl (a)), (4, .inr (.inr (some (r)))), (0, .inr (.inr (some (723)))), (1, .inl (x)), (2, .inl (s)), (3, .inl (0))]) (st' := [.inl (0)]) rfl ?_
        exact ez_retZ rfl rfl (by decide) (k0 g _ ha (by omega))
      · skip
        have hB2 := ha2.1
        have ha3 := ap_snoc ha hv2 ha2
        refine ez_if rfl rfl ⟨by decide, by decide⟩ (fun _ => ?_) (fun (c5 : ¬((1 : Int) ≠ (0))) => absurd c5 (by decide))
        refine ez_go (n := 2) (pc' := 83) (L' := [(7, .inl (i + 1)), (6, .inl (m)), (5, .inl (a)), (4, .inr (.inr (some (r)))), (0, .inr (.inr (some (723)))), (1, .inl (x)), (2, .inl (s)), (3, .inl (0))]) (st' := []) rfl ?_
        refine ez_less [(7, .inl (i + 1)), (6, .inl (m)), (5, .inl (a)), (4, .inr (.inr (some (r)))), (0, .inr (.inr (some (723)))), (1, .inl (x)), (2, .inl (s)), (3, .inl (0))] rfl ⟨rfl, rfl, rfl, rfl, rfl, rfl, rfl, rfl, trivial⟩ ?_
        refine ih (i + 1) g2 (by omega) (by omega) (by omega) (by omega) (by rw [show (i + 1).toNat = i.toNat + 1 by omega]; exact ha3)
theorem rd_poolFull0 {x s : Int} {l : List Int} (hC : pz_C τ h T F E) (x0 : 0 ≤ x) (x1 : x ≤ 1114111) (s0 : 0 ≤ s) (s1 : s ≤ 20440) (u0 : s ≤ qz_I h 723 2) (u1 : qz_I h 723 2 ≤ s + 40) (hd : dn h T F false x l) (k1 : ∀ g, ap τ h g l → qz_I h 723 2 + (l.length : Int) ≤ s + 40 → Q (.inl (some (ez_v (.inl 1))), g)) (k0 : ∀ g l2, ap τ h g l2 → s + 40 < qz_I h 723 2 + (l.length : Int) → Q (.inl (some (ez_v (.inl 0))), g)) : ez_W (d + 2) cm_126 0 [(0, .inr (.inr (some (723)))), (1, .inl (x)), (2, .inl (s)), (3, .inl (0))] [] h Q := by
  have t723 : τ 723 = 55 := hC.2.1 723 (by decide)
  have t724 : τ 724 = 56 := hC.2.1 724 (by decide)
  refine ez_go (n := 1) (pc' := 1) (L' := [(0, .inr (.inr (some (723)))), (1, .inl (x)), (2, .inl (s)), (3, .inl (0))]) (st' := [.inl (x)]) rfl ?_
  refine ez_cs hC.1.2.1 rfl rfl rfl rfl rfl (rd_isSyl (by omega) (by omega) (fun e => ez_K1 ?_) (fun e => ez_K1 ?_))
  · skip
    refine ez_if rfl rfl ⟨by decide, by decide⟩ (fun (c1 : (1 : Int) = (0)) => absurd c1 (by decide)) (fun _ => ?_)
    refine ez_go (n := 3) (pc' := 10) (L' := [(0, .inr (.inr (some (723)))), (1, .inl (x)), (2, .inl (s)), (3, .inl (0))]) (st' := [.inl (s), .inl (x), .inr (.inr (some (723)))]) rfl ?_
    have hl : l = hz_sy x := by rcases hd with w | w | w; (· exact w.2); (· exact absurd e w.1); (· exact absurd e w.1)
    subst hl
    refine ez_cv hC.1 t723 rfl rfl rfl tq_55 rfl rfl rfl (rd_poolSyl hC.1 t723 e s0 s1 u0 u1 (fun g w1 w2 => ez_K1 ?_) (fun g l2 w1 w2 => ez_K1 ?_))
    · exact ez_retZ rfl rfl (by decide) (k1 g w1 w2)
    · exact ez_retZ rfl rfl (by decide) (k0 g l2 w1 w2)
  · skip
    refine ez_if rfl rfl ⟨by decide, by decide⟩ (fun _ => ?_) (fun (c2 : ¬((0 : Int) = (0))) => absurd c2 (by decide))
    refine ez_go (n := 1) (pc' := 15) (L' := [(0, .inr (.inr (some (723)))), (1, .inl (x)), (2, .inl (s)), (3, .inl (0))]) (st' := [.inr (.inr (some (723)))]) rfl ?_
    refine ez_gC (p := 202) (tg := 48) hC.1 t723 rfl rfl tq_55 rfl rfl (fun (t202 : _ = 48) => ?_)
    refine ez_go (n := 1) (pc' := 19) (L' := [(0, .inr (.inr (some (723)))), (1, .inl (x)), (2, .inl (s)), (3, .inl (0))]) (st' := [.inl (x), .inr (.inr (some (202)))]) rfl ?_
    refine ez_cv hC.1 t202 rfl rfl rfl tq_48 rfl rfl rfl (rd_spanOf hC x0 x1 (fun z tz z1 _ => ez_KA ?_))
    refine ez_gR hC.1 tz rfl rfl tq_4 rfl rfl (fun (t3 : _ = 3) (t3' : 1 ≤ qz_I h z 1) => ?_)
    have eT : qz_P h z 1 = T x := by unfold qz_P; omega
    rw [eT]
    have tT := (hC.2.2.2.2 x x0 x1).1
    refine ez_go (n := 2) (pc' := 29) (L' := [(4, .inr (.inr (some ((T x))))), (0, .inr (.inr (some (723)))), (1, .inl (x)), (2, .inl (s)), (3, .inl (0))]) (st' := [.inr (.inr (some ((T x))))]) rfl ?_
    refine ez_gN hC.1 tT rfl rfl tq_3 rfl rfl (fun (t4 : qz_I h ((T x)) 3 = 0) => ?_) (fun (t4 : _ = 5) (t4' : 1 ≤ qz_I h ((T x)) 3) => ?_)
    · skip
      refine ez_nonn0 rfl ?_
      refine ez_go (n := 3) (pc' := 38) (L' := [(4, .inr (.inr (some ((T x))))), (0, .inr (.inr (some (723)))), (1, .inl (x)), (2, .inl (s)), (3, .inl (0))]) (st' := [.inl (s), .inl (x), .inr (.inr (some (723)))]) rfl ?_
      have hnone : (F x).2 = none := by
        cases hq : (F x).2 with
        | none => rfl
        | some q => have := ((hC.2.2.2.2 x x0 x1).2.2.2 q.1 q.2 hq).2.2.1; omega
      have hl : l = [x] := by rcases hd with w | w | w; (· exact absurd w.1 e); (· exact w.2.2); (· exact absurd hnone w.2.1)
      subst hl
      refine ez_cv hC.1 t723 rfl rfl rfl tq_55 rfl rfl rfl (rd_poolPoint hC.1 t723 (by omega) (by omega) s0 s1 u0 u1 (fun w => ez_K1 ?_) (fun w g w1 => ez_K1 ?_))
      · exact ez_retZ rfl rfl (by decide) (k0 h [] (ap.nil hC.1) (by simp only [List.length_singleton]; omega))
      · exact ez_retZ rfl rfl (by decide) (k1 g w1 (by simp only [List.length_singleton]; omega))
    · skip
      refine ez_nonn1 rfl rfl ?_
      refine ez_go (n := 1) (pc' := 43) (L' := [(4, .inr (.inr (some ((T x))))), (0, .inr (.inr (some (723)))), (1, .inl (x)), (2, .inl (s)), (3, .inl (0))]) (st' := [.inl (0)]) rfl ?_
      refine ez_if rfl rfl ⟨by decide, by decide⟩ (fun _ => ?_) (fun (c5 : ¬((0 : Int) = (0))) => absurd c5 (by decide))
      refine ez_go (n := 1) (pc' := 56) (L' := [(4, .inr (.inr (some ((T x))))), (0, .inr (.inr (some (723)))), (1, .inl (x)), (2, .inl (s)), (3, .inl (0))]) (st' := [.inr (.inr (some ((T x))))]) rfl ?_
      refine ez_gI hC.1 tT rfl rfl tq_3 rfl rfl (fun (b6 : 0 ≤ qz_I h ((T x)) 9) (b6' : qz_I h ((T x)) 9 ≤ 20480) => ?_)
      refine ez_go (n := 2) (pc' := 62) (L' := [(5, .inl (qz_I h ((T x)) 9)), (4, .inr (.inr (some ((T x))))), (0, .inr (.inr (some (723)))), (1, .inl (x)), (2, .inl (s)), (3, .inl (0))]) (st' := [.inl (0)]) rfl ?_
      refine ez_if rfl rfl ⟨by decide, by decide⟩ (fun _ => ?_) (fun (c7 : ¬((0 : Int) = (0))) => absurd c7 (by decide))
      refine ez_go (n := 1) (pc' := 75) (L' := [(5, .inl (qz_I h ((T x)) 9)), (4, .inr (.inr (some ((T x))))), (0, .inr (.inr (some (723)))), (1, .inl (x)), (2, .inl (s)), (3, .inl (0))]) (st' := [.inr (.inr (some ((T x))))]) rfl ?_
      refine ez_gI hC.1 tT rfl rfl tq_3 rfl rfl (fun (b8 : 0 ≤ qz_I h ((T x)) 10) (b8' : qz_I h ((T x)) 10 ≤ 20480) => ?_)
      refine ez_go (n := 3) (pc' := 83) (L' := [(7, .inl (0)), (6, .inl (qz_I h ((T x)) 10)), (5, .inl (qz_I h ((T x)) 9)), (4, .inr (.inr (some ((T x))))), (0, .inr (.inr (some (723)))), (1, .inl (x)), (2, .inl (s)), (3, .inl (0))]) (st' := []) rfl ?_
      refine ez_less [(7, .inl (0)), (6, .inl (qz_I h ((T x)) 10)), (5, .inl (qz_I h ((T x)) 9)), (4, .inr (.inr (some ((T x))))), (0, .inr (.inr (some (723)))), (1, .inl (x)), (2, .inl (s)), (3, .inl (0))] rfl ⟨rfl, rfl, rfl, rfl, rfl, rfl, rfl, rfl, trivial⟩ ?_
      have hsg : sg h (T x) false l := by
        rcases hd with w | w | w
        · exact absurd w.1 e
        · have := (hC.2.2.2.2 x x0 x1).2.2.1 w.2.1; omega
        · exact w.2.2
      obtain ⟨q1, q2, q3, q4⟩ := hsg
      have q1 : qz_I h (T x) 10 = (l.length : Int) := q1
      have q2 : 0 ≤ qz_I h (T x) 9 := q2
      have q3 : qz_I h (T x) 9 + (l.length : Int) ≤ qz_I h 723 2 := q3
      have q4 : ∀ (j : Nat) v, l[j]? = some v → qz_I h 724 (qz_I h (T x) 9 + (j : Int)).toNat = v := q4
      exact rd_poolFull_l0 t723 t724 s0 s1 u0 u1 q1 (by omega) (by omega) q4 k1 k0 _ 0 h rfl (by omega) (by omega) (by omega) (ap.nil hC.1)

end EzPf
/-! The class: close. (Written by wip/p2/py/pv29.py.) -/
def ct (f : Int → List Int) : List Int → List Int
  | [] => []
  | v :: vs => f v ++ ct f vs
theorem ct_app (f : Int → List Int) : ∀ a b, ct f (a ++ b) = ct f a ++ ct f b
  | [], b => rfl
  | v :: a, b => by show f v ++ ct f (a ++ b) = _; rw [ct_app f a b]; show _ = f v ++ ct f a ++ ct f b; rw [List.append_assoc]
theorem ct_take {f : Int → List Int} {vs : List Int} {k : Nat} {v : Int} (h : vs[k]? = some v) : ct f (vs.take (k + 1)) = ct f (vs.take k) ++ f v := by
  rw [List.take_add_one, h, ct_app]
  show _ ++ (f v ++ []) = _
  rw [List.append_nil]
theorem ct_len {f : Int → List Int} (vs : List Int) (k : Nat) : (ct f (vs.take k)).length ≤ (ct f vs).length := by
  have : ct f vs = ct f (vs.take k) ++ ct f (vs.drop k) := by rw [← ct_app, List.take_append_drop]
  rw [this, List.length_append]
  omega
/-- lists that belong to the children: together they are the whole -/
theorem ct_FL {F : rz_W} {c : Bool} {f : Int → List Int} : ∀ {vs : List Int}, (∀ v ∈ vs, uz_F F c v (f v)) → uz_FL F c vs (ct f vs)
  | [], _ => uz_nil F c
  | v :: vs, h => uz_cons (h v List.mem_cons_self) (ct_FL (fun w hw => h w (List.mem_cons_of_mem _ hw)))
def nz_PR (r q : Nat) : Bool := Nat.beq q r || nz_PP q
theorem nz_PR_ap {τ : Nat → Nat} {r : Nat} {g g2 : cz_H} {l : List Int} (x : ap τ g g2 l) : ez_fr (nz_PR r) g g2 := ⟨x.2.1.1, x.2.1.2.1, fun q hq => x.2.1.2.2 q (by unfold nz_PR at hq; exact (Bool.or_eq_false_iff.mp hq).2)⟩
theorem nz_PR_r (r : Nat) : nz_PR r r = true := by unfold nz_PR; rw [Nat.beq_refl]; rfl
theorem nz_PR_pz {τ : Nat → Nat} {r : Nat} {h g : cz_H} (hX : jz_X τ) (tr : τ r = 3) (hf : ez_fr (nz_PR r) h g) (h8 : ∀ j, j < 8 → qz_I g r j = qz_I h r j) : pz τ h g := by
  refine ⟨⟨hf.1, hf.2.1⟩, fun q q1 q2 => hf.2.2 q ?_, fun q q1 j j8 => ?_⟩
  · unfold nz_PR nz_PP
    rw [dz_beq_ne (fun e => by rw [e] at q1; exact q1 tr), dz_beq_ne (by omega), dz_beq_ne (by omega)]
    rfl
  · by_cases e : q = r
    · rw [e]; exact h8 j j8
    · refine hf.I ?_ j
      unfold nz_PR nz_PP
      rw [dz_beq_ne e, dz_beq_ne (fun e => by rw [e] at q1; exact (pz_X hX (by omega) (by omega)).1 q1), dz_beq_ne (fun e => by rw [e] at q1; exact (pz_X hX (by omega) (by omega)).1 q1)]
      rfl
section EzCl
variable {d : Nat} {h : cz_H} {τ : Nat → Nat} {Q : cz_F → Prop} {T : Int → Nat} {F : rz_W} {E : Int → Prop}
theorem rd_close_l1 {x s cp : Int} {vs : List Int} {f : Int → List Int} (hC : pz_C τ h T F E) (x0 : 0 ≤ x) (x1 : x ≤ 1114111) (hdec : (F x).2 = some (cp, vs)) (hwf : ∀ v ∈ vs, 0 ≤ v ∧ v ≤ 1114111) (s0 : 0 ≤ s) (s1 : s ≤ 20440) (u0 : s ≤ qz_I h 723 2) (hs : qz_I h (T x) 11 = s) (hdn : ∀ v ∈ vs, dn h T F true v (f v)) (kF : ∀ g {l2}, ez_B τ g → ap τ h g l2 → s + 40 < qz_I h 723 2 + ((ct f vs).length : Int) → Q (.inl (some (ez_v (.inl 0))), g)) (kx : ∀ g, ap τ h g (ct f vs) → qz_I h 723 2 + ((ct f vs).length : Int) ≤ s + 40 → ez_W (d + 3) cm_113 45 [(0, .inr (.inr (some (723)))), (1, .inr (.inr (some ((T x)))))] [] g Q) : ∀ (n : Nat) (k : Int) (g : cz_H), n = ((vs.length : Int) - k).toNat → 0 ≤ k → k ≤ (vs.length : Int) → qz_I h 723 2 + ((ct f (vs.take k.toNat)).length : Int) ≤ s + 40 → ap τ h g (ct f (vs.take k.toNat)) → ez_W (d + 3) cm_113 10 [(2, .inl (k)), (0, .inr (.inr (some (723)))), (1, .inr (.inr (some ((T x)))))] [] g Q := by
  intro n
  induction n with
  | zero =>
    intro k g hm k0' k1' k2 ha
    have ha4 := ha.2.2.2.1
    have hCg := hC.fr ha.1 (ha.pz hC.2.1)
    have t723 : τ 723 = 55 := hC.2.1 723 (by decide)
    have t724 : τ 724 = 56 := hC.2.1 724 (by decide)
    obtain ⟨tT, -, -, f4⟩ := hCg.2.2.2.2 x x0 x1
    obtain ⟨f40, f41, f42, f43, f44, f45⟩ := f4 cp vs hdec
    have hs9 : qz_I g (T x) 11 = s := by rw [ha.2.1.I (by unfold nz_PP; rw [dz_beq_ne (fun e => by rw [e, t723] at tT; cases tT), dz_beq_ne (fun e => by rw [e, t724] at tT; cases tT)]; rfl)]; exact hs
    refine ez_go (n := 2) (pc' := 12) (L' := [(2, .inl (k)), (0, .inr (.inr (some (723)))), (1, .inr (.inr (some ((T x)))))]) (st' := [.inr (.inr (some ((T x)))), .inl (k)]) rfl ?_
    refine ez_gN ha.1 tT rfl rfl tq_3 rfl rfl (fun (t1 : qz_I g ((T x)) 3 = 0) => ?_) (fun (t1 : _ = 5) (t1' : 1 ≤ qz_I g ((T x)) 3) => ?_)
    · exfalso; omega
    · skip
      refine ez_al ha.1 t1 rfl tq_5 rfl (fun (b2 : 0 ≤ qz_N g (qz_P g ((T x)) 3)) (b2' : qz_N g (qz_P g ((T x)) 3) ≤ 18) => ?_)
      refine ez_icmp rfl rfl ⟨by first | omega | exact (sz_i32 _).1, by first | omega | exact (sz_i32 _).2⟩ ⟨by first | omega | exact (sz_i32 _).1, by first | omega | exact (sz_i32 _).2⟩ (fun (c3 : (qz_N g (qz_P g ((T x)) 3)) ≤ (k)) => ?_) (fun (c3 : ¬((qz_N g (qz_P g ((T x)) 3)) ≤ (k))) => ?_)
      · skip
        refine ez_less [(0, .inr (.inr (some (723)))), (1, .inr (.inr (some ((T x)))))] rfl ⟨rfl, rfl, trivial⟩ ?_
        rw [List.take_of_length_le (by omega)] at ha k2
        exact kx g ha k2
      · exfalso; omega
  | succ n ih =>
    intro k g hm k0' k1' k2 ha
    have ha4 := ha.2.2.2.1
    have hCg := hC.fr ha.1 (ha.pz hC.2.1)
    have t723 : τ 723 = 55 := hC.2.1 723 (by decide)
    have t724 : τ 724 = 56 := hC.2.1 724 (by decide)
    obtain ⟨tT, -, -, f4⟩ := hCg.2.2.2.2 x x0 x1
    obtain ⟨f40, f41, f42, f43, f44, f45⟩ := f4 cp vs hdec
    have hs9 : qz_I g (T x) 11 = s := by rw [ha.2.1.I (by unfold nz_PP; rw [dz_beq_ne (fun e => by rw [e, t723] at tT; cases tT), dz_beq_ne (fun e => by rw [e, t724] at tT; cases tT)]; rfl)]; exact hs
    refine ez_go (n := 2) (pc' := 12) (L' := [(2, .inl (k)), (0, .inr (.inr (some (723)))), (1, .inr (.inr (some ((T x)))))]) (st' := [.inr (.inr (some ((T x)))), .inl (k)]) rfl ?_
    refine ez_gN ha.1 tT rfl rfl tq_3 rfl rfl (fun (t1 : qz_I g ((T x)) 3 = 0) => ?_) (fun (t1 : _ = 5) (t1' : 1 ≤ qz_I g ((T x)) 3) => ?_)
    · exfalso; omega
    · skip
      refine ez_al ha.1 t1 rfl tq_5 rfl (fun (b2 : 0 ≤ qz_N g (qz_P g ((T x)) 3)) (b2' : qz_N g (qz_P g ((T x)) 3) ≤ 18) => ?_)
      refine ez_icmp rfl rfl ⟨by first | omega | exact (sz_i32 _).1, by first | omega | exact (sz_i32 _).2⟩ ⟨by first | omega | exact (sz_i32 _).1, by first | omega | exact (sz_i32 _).2⟩ (fun (c3 : (qz_N g (qz_P g ((T x)) 3)) ≤ (k)) => ?_) (fun (c3 : ¬((qz_N g (qz_P g ((T x)) 3)) ≤ (k))) => ?_)
      · exfalso; omega
      · skip
        refine ez_go (n := 2) (pc' := 21) (L' := [(2, .inl (k)), (0, .inr (.inr (some (723)))), (1, .inr (.inr (some ((T x)))))]) (st' := [.inr (.inr (some ((T x)))), .inr (.inr (some (723)))]) rfl ?_
        refine ez_gN ha.1 tT rfl rfl tq_3 rfl rfl (fun (t4 : qz_I g ((T x)) 3 = 0) => ?_) (fun (t4 : _ = 5) (t4' : 1 ≤ qz_I g ((T x)) 3) => ?_)
        · exfalso; omega
        · skip
          refine ez_go (n := 1) (pc' := 25) (L' := [(2, .inl (k)), (0, .inr (.inr (some (723)))), (1, .inr (.inr (some ((T x)))))]) (st' := [.inl (k), .inr (.inr (some (qz_P g ((T x)) 3))), .inr (.inr (some (723)))]) rfl ?_
          have n6 : 0 ≤ qz_N g (qz_P g ((T x)) 3) ∧ qz_N g (qz_P g ((T x)) 3) ≤ 18 := ez_len ha.1 t4 tq_5 rfl
          refine ez_aI ha.1 t4 rfl tq_5 rfl rfl (by omega) (by omega) (fun (b5 : -2147483648 ≤ qz_I g (qz_P g ((T x)) 3) (k).toNat) (b5' : qz_I g (qz_P g ((T x)) 3) (k).toNat ≤ 2147483647) => ?_)
          have hlt : k.toNat < vs.length := by omega
          have hv2 := List.getElem?_eq_getElem hlt
          have hv : qz_I g (qz_P g ((T x)) 3) (k).toNat = vs[k.toNat] := f45 _ _ hv2
          have hmem : vs[k.toNat] ∈ vs := List.getElem_mem hlt
          obtain ⟨bv0, bv1⟩ := hwf _ hmem
          rw [hv]
          generalize vs[k.toNat] = v at *
          refine ez_go (n := 1) (pc' := 27) (L' := [(2, .inl (k)), (0, .inr (.inr (some (723)))), (1, .inr (.inr (some ((T x)))))]) (st' := [.inr (.inr (some ((T x)))), .inl (v), .inr (.inr (some (723)))]) rfl ?_
          refine ez_gI ha.1 tT rfl rfl tq_3 rfl rfl (fun (b7 : 0 ≤ qz_I g ((T x)) 11) (b7' : qz_I g ((T x)) 11 ≤ 20480) => ?_)
          refine ez_go (n := 1) (pc' := 31) (L' := [(2, .inl (k)), (0, .inr (.inr (some (723)))), (1, .inr (.inr (some ((T x)))))]) (st' := [.inl (1), .inl (qz_I g ((T x)) 11), .inl (v), .inr (.inr (some (723)))]) rfl ?_
          rw [hs9]
          refine ez_cv ha.1 t723 rfl rfl rfl tq_55 rfl rfl rfl (rd_poolFull1 hCg bv0 bv1 s0 s1 (by omega) (by omega) (dn_ap ((hC.2.2.2.2 v bv0 bv1).1) t723 t724 (hdn v hmem) ha) (fun g2 w1 w2 => ez_K1 ?_) (fun g2 l2 w1 w2 => ez_K1 ?_))
          · skip
            refine ez_if rfl rfl ⟨by decide, by decide⟩ (fun _ => ?_) (fun (c8 : ¬((1 : Int) ≠ (0))) => absurd c8 (by decide))
            refine ez_go (n := 2) (pc' := 10) (L' := [(2, .inl (k + 1)), (0, .inr (.inr (some (723)))), (1, .inr (.inr (some ((T x)))))]) (st' := []) rfl ?_
            refine ez_less [(2, .inl (k + 1)), (0, .inr (.inr (some (723)))), (1, .inr (.inr (some ((T x)))))] rfl ⟨rfl, rfl, rfl, trivial⟩ ?_
            refine ih (k + 1) g2 (by omega) (by omega) (by omega) ?_ ?_
            · rw [show (k + 1).toNat = k.toNat + 1 by omega, ct_take hv2, List.length_append]; omega
            · rw [show (k + 1).toNat = k.toNat + 1 by omega, ct_take hv2]; exact ha.trans w1
          · skip
            refine ez_if rfl rfl ⟨by decide, by decide⟩ (fun (c9 : (0 : Int) ≠ (0)) => absurd c9 (by decide)) (fun _ => ?_)
            refine ez_go (n := 1) (pc' := 38) (L' := [(2, .inl (k)), (0, .inr (.inr (some (723)))), (1, .inr (.inr (some ((T x)))))]) (st' := [.inl (0)]) rfl ?_
            refine ez_retZ rfl rfl (by decide) (kF g2 w1.1 (ha.trans w1) ?_)
            have := ct_len (f := f) vs (k.toNat + 1)
            rw [ct_take hv2, List.length_append] at this
            omega
theorem rd_close_l0 {x s cp : Int} {vs : List Int} {f : Int → List Int} (hC : pz_C τ h T F E) (x0 : 0 ≤ x) (x1 : x ≤ 1114111) (hdec : (F x).2 = some (cp, vs)) (hwf : ∀ v ∈ vs, 0 ≤ v ∧ v ≤ 1114111) (s0 : 0 ≤ s) (s1 : s ≤ 20440) (u0 : s ≤ qz_I h 723 2) (hs : qz_I h (T x) 9 = s) (hdn : ∀ v ∈ vs, dn h T F false v (f v)) (kF : ∀ g {l2}, ez_B τ g → ap τ h g l2 → s + 40 < qz_I h 723 2 + ((ct f vs).length : Int) → Q (.inl (some (ez_v (.inl 0))), g)) (kx : ∀ g, ap τ h g (ct f vs) → qz_I h 723 2 + ((ct f vs).length : Int) ≤ s + 40 → ez_W (d + 3) cm_113 126 [(0, .inr (.inr (some (723)))), (1, .inr (.inr (some ((T x)))))] [] g Q) : ∀ (n : Nat) (k : Int) (g : cz_H), n = ((vs.length : Int) - k).toNat → 0 ≤ k → k ≤ (vs.length : Int) → qz_I h 723 2 + ((ct f (vs.take k.toNat)).length : Int) ≤ s + 40 → ap τ h g (ct f (vs.take k.toNat)) → ez_W (d + 3) cm_113 91 [(2, .inl (k)), (0, .inr (.inr (some (723)))), (1, .inr (.inr (some ((T x)))))] [] g Q := by
  intro n
  induction n with
  | zero =>
    intro k g hm k0' k1' k2 ha
    have ha4 := ha.2.2.2.1
    have hCg := hC.fr ha.1 (ha.pz hC.2.1)
    have t723 : τ 723 = 55 := hC.2.1 723 (by decide)
    have t724 : τ 724 = 56 := hC.2.1 724 (by decide)
    obtain ⟨tT, -, -, f4⟩ := hCg.2.2.2.2 x x0 x1
    obtain ⟨f40, f41, f42, f43, f44, f45⟩ := f4 cp vs hdec
    have hs9 : qz_I g (T x) 9 = s := by rw [ha.2.1.I (by unfold nz_PP; rw [dz_beq_ne (fun e => by rw [e, t723] at tT; cases tT), dz_beq_ne (fun e => by rw [e, t724] at tT; cases tT)]; rfl)]; exact hs
    refine ez_go (n := 2) (pc' := 93) (L' := [(2, .inl (k)), (0, .inr (.inr (some (723)))), (1, .inr (.inr (some ((T x)))))]) (st' := [.inr (.inr (some ((T x)))), .inl (k)]) rfl ?_
    refine ez_gN ha.1 tT rfl rfl tq_3 rfl rfl (fun (t1 : qz_I g ((T x)) 3 = 0) => ?_) (fun (t1 : _ = 5) (t1' : 1 ≤ qz_I g ((T x)) 3) => ?_)
    · exfalso; omega
    · skip
      refine ez_al ha.1 t1 rfl tq_5 rfl (fun (b2 : 0 ≤ qz_N g (qz_P g ((T x)) 3)) (b2' : qz_N g (qz_P g ((T x)) 3) ≤ 18) => ?_)
      refine ez_icmp rfl rfl ⟨by first | omega | exact (sz_i32 _).1, by first | omega | exact (sz_i32 _).2⟩ ⟨by first | omega | exact (sz_i32 _).1, by first | omega | exact (sz_i32 _).2⟩ (fun (c3 : (qz_N g (qz_P g ((T x)) 3)) ≤ (k)) => ?_) (fun (c3 : ¬((qz_N g (qz_P g ((T x)) 3)) ≤ (k))) => ?_)
      · skip
        refine ez_less [(0, .inr (.inr (some (723)))), (1, .inr (.inr (some ((T x)))))] rfl ⟨rfl, rfl, trivial⟩ ?_
        rw [List.take_of_length_le (by omega)] at ha k2
        exact kx g ha k2
      · exfalso; omega
  | succ n ih =>
    intro k g hm k0' k1' k2 ha
    have ha4 := ha.2.2.2.1
    have hCg := hC.fr ha.1 (ha.pz hC.2.1)
    have t723 : τ 723 = 55 := hC.2.1 723 (by decide)
    have t724 : τ 724 = 56 := hC.2.1 724 (by decide)
    obtain ⟨tT, -, -, f4⟩ := hCg.2.2.2.2 x x0 x1
    obtain ⟨f40, f41, f42, f43, f44, f45⟩ := f4 cp vs hdec
    have hs9 : qz_I g (T x) 9 = s := by rw [ha.2.1.I (by unfold nz_PP; rw [dz_beq_ne (fun e => by rw [e, t723] at tT; cases tT), dz_beq_ne (fun e => by rw [e, t724] at tT; cases tT)]; rfl)]; exact hs
    refine ez_go (n := 2) (pc' := 93) (L' := [(2, .inl (k)), (0, .inr (.inr (some (723)))), (1, .inr (.inr (some ((T x)))))]) (st' := [.inr (.inr (some ((T x)))), .inl (k)]) rfl ?_
    refine ez_gN ha.1 tT rfl rfl tq_3 rfl rfl (fun (t1 : qz_I g ((T x)) 3 = 0) => ?_) (fun (t1 : _ = 5) (t1' : 1 ≤ qz_I g ((T x)) 3) => ?_)
    · exfalso; omega
    · skip
      refine ez_al ha.1 t1 rfl tq_5 rfl (fun (b2 : 0 ≤ qz_N g (qz_P g ((T x)) 3)) (b2' : qz_N g (qz_P g ((T x)) 3) ≤ 18) => ?_)
      refine ez_icmp rfl rfl ⟨by first | omega | exact (sz_i32 _).1, by first | omega | exact (sz_i32 _).2⟩ ⟨by first | omega | exact (sz_i32 _).1, by first | omega | exact (sz_i32 _).2⟩ (fun (c3 : (qz_N g (qz_P g ((T x)) 3)) ≤ (k)) => ?_) (fun (c3 : ¬((qz_N g (qz_P g ((T x)) 3)) ≤ (k))) => ?_)
      · exfalso; omega
      · skip
        refine ez_go (n := 2) (pc' := 102) (L' := [(2, .inl (k)), (0, .inr (.inr (some (723)))), (1, .inr (.inr (some ((T x)))))]) (st' := [.inr (.inr (some ((T x)))), .inr (.inr (some (723)))]) rfl ?_
        refine ez_gN ha.1 tT rfl rfl tq_3 rfl rfl (fun (t4 : qz_I g ((T x)) 3 = 0) => ?_) (fun (t4 : _ = 5) (t4' : 1 ≤ qz_I g ((T x)) 3) => ?_)
        · exfalso; omega
        · skip
          refine ez_go (n := 1) (pc' := 106) (L' := [(2, .inl (k)), (0, .inr (.inr (some (723)))), (1, .inr (.inr (some ((T x)))))]) (st' := [.inl (k), .inr (.inr (some (qz_P g ((T x)) 3))), .inr (.inr (some (723)))]) rfl ?_
          have n6 : 0 ≤ qz_N g (qz_P g ((T x)) 3) ∧ qz_N g (qz_P g ((T x)) 3) ≤ 18 := ez_len ha.1 t4 tq_5 rfl
          refine ez_aI ha.1 t4 rfl tq_5 rfl rfl (by omega) (by omega) (fun (b5 : -2147483648 ≤ qz_I g (qz_P g ((T x)) 3) (k).toNat) (b5' : qz_I g (qz_P g ((T x)) 3) (k).toNat ≤ 2147483647) => ?_)
          have hlt : k.toNat < vs.length := by omega
          have hv2 := List.getElem?_eq_getElem hlt
          have hv : qz_I g (qz_P g ((T x)) 3) (k).toNat = vs[k.toNat] := f45 _ _ hv2
          have hmem : vs[k.toNat] ∈ vs := List.getElem_mem hlt
          obtain ⟨bv0, bv1⟩ := hwf _ hmem
          rw [hv]
          generalize vs[k.toNat] = v at *
          refine ez_go (n := 1) (pc' := 108) (L' := [(2, .inl (k)), (0, .inr (.inr (some (723)))), (1, .inr (.inr (some ((T x)))))]) (st' := [.inr (.inr (some ((T x)))), .inl (v), .inr (.inr (some (723)))]) rfl ?_
          refine ez_gI ha.1 tT rfl rfl tq_3 rfl rfl (fun (b7 : 0 ≤ qz_I g ((T x)) 9) (b7' : qz_I g ((T x)) 9 ≤ 20480) => ?_)
          refine ez_go (n := 1) (pc' := 112) (L' := [(2, .inl (k)), (0, .inr (.inr (some (723)))), (1, .inr (.inr (some ((T x)))))]) (st' := [.inl (0), .inl (qz_I g ((T x)) 9), .inl (v), .inr (.inr (some (723)))]) rfl ?_
          rw [hs9]
          refine ez_cv ha.1 t723 rfl rfl rfl tq_55 rfl rfl rfl (rd_poolFull0 hCg bv0 bv1 s0 s1 (by omega) (by omega) (dn_ap ((hC.2.2.2.2 v bv0 bv1).1) t723 t724 (hdn v hmem) ha) (fun g2 w1 w2 => ez_K1 ?_) (fun g2 l2 w1 w2 => ez_K1 ?_))
          · skip
            refine ez_if rfl rfl ⟨by decide, by decide⟩ (fun _ => ?_) (fun (c8 : ¬((1 : Int) ≠ (0))) => absurd c8 (by decide))
            refine ez_go (n := 2) (pc' := 91) (L' := [(2, .inl (k + 1)), (0, .inr (.inr (some (723)))), (1, .inr (.inr (some ((T x)))))]) (st' := []) rfl ?_
            refine ez_less [(2, .inl (k + 1)), (0, .inr (.inr (some (723)))), (1, .inr (.inr (some ((T x)))))] rfl ⟨rfl, rfl, rfl, trivial⟩ ?_
            refine ih (k + 1) g2 (by omega) (by omega) (by omega) ?_ ?_
            · rw [show (k + 1).toNat = k.toNat + 1 by omega, ct_take hv2, List.length_append]; omega
            · rw [show (k + 1).toNat = k.toNat + 1 by omega, ct_take hv2]; exact ha.trans w1
          · skip
            refine ez_if rfl rfl ⟨by decide, by decide⟩ (fun (c9 : (0 : Int) ≠ (0)) => absurd c9 (by decide)) (fun _ => ?_)
            refine ez_go (n := 1) (pc' := 119) (L' := [(2, .inl (k)), (0, .inr (.inr (some (723)))), (1, .inr (.inr (some ((T x)))))]) (st' := [.inl (0)]) rfl ?_
            refine ez_retZ rfl rfl (by decide) (kF g2 w1.1 (ha.trans w1) ?_)
            have := ct_len (f := f) vs (k.toNat + 1)
            rw [ct_take hv2, List.length_append] at this
            omega
end EzCl
/-! The class: close, all of it. (Written by wip/p2/py/pv30.py.) -/
theorem sg_one {g g2 : cz_H} {q r : Nat} {c : Bool} {l : List Int} (h : sg g q c l) (hf : ez_fr (ez_one r) g g2) (h1 : q ≠ r) (h2 : r ≠ 723) (h3 : r ≠ 724) : sg g2 q c l := by
  obtain ⟨a1, a2, a3, a4⟩ := h
  have f1 : ∀ j, qz_I g2 q j = qz_I g q j := fun j => hf.I (dz_beq_ne h1) j
  have f2 : ∀ j, qz_I g2 723 j = qz_I g 723 j := fun j => hf.I (dz_beq_ne (Ne.symm h2)) j
  have f3 : ∀ j, qz_I g2 724 j = qz_I g 724 j := fun j => hf.I (dz_beq_ne (Ne.symm h3)) j
  exact ⟨by rw [f1]; exact a1, by rw [f1]; exact a2, by rw [f1, f2]; exact a3, fun j v hj => by rw [f1, f3]; exact a4 j v hj⟩
theorem dn_one {T : Int → Nat} {F : rz_W} {g g2 : cz_H} {r : Nat} {c : Bool} {v : Int} {l : List Int} (h : dn g T F c v l) (hf : ez_fr (ez_one r) g g2) (h1 : ¬ hz v → (F v).2 ≠ none → T v ≠ r) (h2 : r ≠ 723) (h3 : r ≠ 724) : dn g2 T F c v l := by
  rcases h with h | h | ⟨a1, a2, a3⟩
  · exact Or.inl h
  · exact Or.inr (Or.inl h)
  · exact Or.inr (Or.inr ⟨a1, a2, sg_one a3 hf (h1 a1 a2) h2 h3⟩)
section EzCm
variable {d : Nat} {h : cz_H} {τ : Nat → Nat} {Q : cz_F → Prop} {T : Int → Nat} {F : rz_W} {E : Int → Prop}
theorem rd_close_c {x : Int} (hB : ez_B τ h) (t723 : τ 723 = 55) (tT : τ (T x) = 3) (hl : qz_I h (T x) 9 ≤ qz_I h 723 2) (k : ∀ g, ez_B τ g → ez_fr (ez_one (T x)) h g → qz_I g (T x) 10 = qz_I h 723 2 - qz_I h (T x) 9 → qz_I g (T x) 8 = 2 → (∀ j, j ≠ 10 → j ≠ 8 → qz_I g (T x) j = qz_I h (T x) j) → Q (.inl (some (ez_v (.inl 1))), g)) : ez_W (d + 3) cm_113 126 [(0, .inr (.inr (some (723)))), (1, .inr (.inr (some ((T x)))))] [] h Q := by
  refine ez_go (n := 2) (pc' := 128) (L' := [(0, .inr (.inr (some (723)))), (1, .inr (.inr (some ((T x)))))]) (st' := [.inr (.inr (some (723))), .inr (.inr (some ((T x))))]) rfl ?_
  refine ez_gI hB t723 rfl rfl tq_55 rfl rfl (fun (b1 : 0 ≤ qz_I h 723 2) (b1' : qz_I h 723 2 ≤ 20480) => ?_)
  refine ez_go (n := 1) (pc' := 132) (L' := [(0, .inr (.inr (some (723)))), (1, .inr (.inr (some ((T x)))))]) (st' := [.inr (.inr (some ((T x)))), .inl (qz_I h 723 2), .inr (.inr (some ((T x))))]) rfl ?_
  refine ez_gI hB tT rfl rfl tq_3 rfl rfl (fun (b2 : 0 ≤ qz_I h ((T x)) 9) (b2' : qz_I h ((T x)) 9 ≤ 20480) => ?_)
  refine ez_go (n := 1) (pc' := 136) (L' := [(0, .inr (.inr (some (723)))), (1, .inr (.inr (some ((T x)))))]) (st' := [.inl ((qz_I h 723 2) - (qz_I h ((T x)) 9)), .inr (.inr (some ((T x))))]) rfl ?_
  refine ez_pf hB tT rfl rfl tq_3 rfl rfl rfl rfl (ez_vdI rfl rfl (by omega) (by omega)) (fun hB3 w4 => ?_)
  refine ez_go (n := 2) (pc' := 141) (L' := [(0, .inr (.inr (some (723)))), (1, .inr (.inr (some ((T x)))))]) (st' := [.inl (2), .inr (.inr (some ((T x))))]) rfl ?_
  refine ez_pf hB3 tT rfl rfl tq_3 rfl rfl rfl rfl (ez_vdI rfl rfl (by omega) (by omega)) (fun hB5 w6 => ?_)
  refine ez_go (n := 1) (pc' := 145) (L' := [(0, .inr (.inr (some (723)))), (1, .inr (.inr (some ((T x)))))]) (st' := [.inl (1)]) rfl ?_
  exact ez_retZ rfl rfl (by decide) (k _ hB5 (((ez_fr.refl (ez_one (T x)) h).put (show Nat.beq (T x) (T x) = true from Nat.beq_refl _) _ _).put (show Nat.beq (T x) (T x) = true from Nat.beq_refl _) _ _) (by rw [ez_put_I (by omega), w4, rz_rd ⟨by omega, by omega⟩]) (by rw [w6]; rfl) (fun j j1 j2 => by rw [ez_put_I (by omega), ez_put_I (by omega)]))

theorem rd_close_b {x : Int} (hB : ez_B τ h) (t723 : τ 723 = 55) (t724 : τ 724 = 56) (tT : τ (T x) = 3) (x0 : 0 ≤ x) (x1 : x ≤ 1114111) (hx0 : qz_I h (T x) 0 = x) (hl : 0 ≤ qz_I h (T x) 11) (hl2 : qz_I h (T x) 11 ≤ qz_I h 723 2) (hu : qz_I h 723 2 ≤ 20440) (kA : qz_I h (T x) 4 ≠ 0 → ∀ g g2, ez_B τ g → ez_fr (ez_one (T x)) h g → qz_I g (T x) 12 = qz_I h 723 2 - qz_I h (T x) 11 → qz_I g (T x) 9 = qz_I h 723 2 → (∀ j, j ≠ 12 → j ≠ 9 → qz_I g (T x) j = qz_I h (T x) j) → ap τ g g2 [x] → ez_W (d + 3) cm_113 126 [(0, .inr (.inr (some (723)))), (1, .inr (.inr (some ((T x)))))] [] g2 Q) (kB : qz_I h (T x) 4 = 0 → ∀ g, ez_B τ g → ez_fr (ez_one (T x)) h g → qz_I g (T x) 12 = qz_I h 723 2 - qz_I h (T x) 11 → qz_I g (T x) 9 = qz_I h 723 2 → (∀ j, j ≠ 12 → j ≠ 9 → qz_I g (T x) j = qz_I h (T x) j) → ez_W (d + 3) cm_113 91 [(2, .inl (0)), (0, .inr (.inr (some (723)))), (1, .inr (.inr (some ((T x)))))] [] g Q) : ez_W (d + 3) cm_113 45 [(0, .inr (.inr (some (723)))), (1, .inr (.inr (some ((T x)))))] [] h Q := by
  refine ez_go (n := 2) (pc' := 47) (L' := [(0, .inr (.inr (some (723)))), (1, .inr (.inr (some ((T x)))))]) (st' := [.inr (.inr (some (723))), .inr (.inr (some ((T x))))]) rfl ?_
  refine ez_gI hB t723 rfl rfl tq_55 rfl rfl (fun (b1 : 0 ≤ qz_I h 723 2) (b1' : qz_I h 723 2 ≤ 20480) => ?_)
  refine ez_go (n := 1) (pc' := 51) (L' := [(0, .inr (.inr (some (723)))), (1, .inr (.inr (some ((T x)))))]) (st' := [.inr (.inr (some ((T x)))), .inl (qz_I h 723 2), .inr (.inr (some ((T x))))]) rfl ?_
  refine ez_gI hB tT rfl rfl tq_3 rfl rfl (fun (b2 : 0 ≤ qz_I h ((T x)) 11) (b2' : qz_I h ((T x)) 11 ≤ 20480) => ?_)
  refine ez_go (n := 1) (pc' := 55) (L' := [(0, .inr (.inr (some (723)))), (1, .inr (.inr (some ((T x)))))]) (st' := [.inl ((qz_I h 723 2) - (qz_I h ((T x)) 11)), .inr (.inr (some ((T x))))]) rfl ?_
  refine ez_pf hB tT rfl rfl tq_3 rfl rfl rfl rfl (ez_vdI rfl rfl (by omega) (by omega)) (fun hB3 w4 => ?_)
  refine ez_go (n := 2) (pc' := 60) (L' := [(0, .inr (.inr (some (723)))), (1, .inr (.inr (some ((T x)))))]) (st' := [.inr (.inr (some (723))), .inr (.inr (some ((T x))))]) rfl ?_
  refine ez_gI hB3 t723 rfl rfl tq_55 rfl rfl (fun (b5 : 0 ≤ qz_I (dz_put h ((T x)) 12 (ez_v (.inl ((qz_I h 723 2) - (qz_I h ((T x)) 11))))) 723 2) (b5' : qz_I (dz_put h ((T x)) 12 (ez_v (.inl ((qz_I h 723 2) - (qz_I h ((T x)) 11))))) 723 2 ≤ 20480) => ?_)
  refine ez_pf hB3 tT rfl rfl tq_3 rfl rfl rfl rfl (ez_vdI rfl rfl (by omega) (by omega)) (fun hB6 w7 => ?_)
  refine ez_go (n := 1) (pc' := 67) (L' := [(0, .inr (.inr (some (723)))), (1, .inr (.inr (some ((T x)))))]) (st' := [.inr (.inr (some ((T x))))]) rfl ?_
  refine ez_gI hB6 tT rfl rfl tq_3 rfl rfl (fun (b8 : 0 ≤ qz_I (dz_put (dz_put h ((T x)) 12 (ez_v (.inl ((qz_I h 723 2) - (qz_I h ((T x)) 11))))) ((T x)) 9 (ez_v (.inl (qz_I (dz_put h ((T x)) 12 (ez_v (.inl ((qz_I h 723 2) - (qz_I h ((T x)) 11))))) 723 2)))) ((T x)) 4) (b8' : qz_I (dz_put (dz_put h ((T x)) 12 (ez_v (.inl ((qz_I h 723 2) - (qz_I h ((T x)) 11))))) ((T x)) 9 (ez_v (.inl (qz_I (dz_put h ((T x)) 12 (ez_v (.inl ((qz_I h 723 2) - (qz_I h ((T x)) 11))))) 723 2)))) ((T x)) 4 ≤ 1) => ?_)
  have g9 : ez_fr (ez_one (T x)) h (dz_put (dz_put h ((T x)) 12 (ez_v (.inl ((qz_I h 723 2) - (qz_I h ((T x)) 11))))) ((T x)) 9 (ez_v (.inl (qz_I (dz_put h ((T x)) 12 (ez_v (.inl ((qz_I h 723 2) - (qz_I h ((T x)) 11))))) 723 2)))) := ((ez_fr.refl (ez_one (T x)) h).put (show Nat.beq (T x) (T x) = true from Nat.beq_refl _) _ _).put (show Nat.beq (T x) (T x) = true from Nat.beq_refl _) _ _
  have n723 : T x ≠ 723 := fun e => by rw [e, t723] at tT; cases tT
  have e12 : qz_I (dz_put (dz_put h ((T x)) 12 (ez_v (.inl ((qz_I h 723 2) - (qz_I h ((T x)) 11))))) ((T x)) 9 (ez_v (.inl (qz_I (dz_put h ((T x)) 12 (ez_v (.inl ((qz_I h 723 2) - (qz_I h ((T x)) 11))))) 723 2)))) (T x) 12 = qz_I h 723 2 - qz_I h (T x) 11 := by rw [ez_put_I (by omega), w4, rz_rd ⟨by omega, by omega⟩]
  have e9 : qz_I (dz_put (dz_put h ((T x)) 12 (ez_v (.inl ((qz_I h 723 2) - (qz_I h ((T x)) 11))))) ((T x)) 9 (ez_v (.inl (qz_I (dz_put h ((T x)) 12 (ez_v (.inl ((qz_I h 723 2) - (qz_I h ((T x)) 11))))) 723 2)))) (T x) 9 = qz_I h 723 2 := by rw [w7, rz_rd ⟨by omega, by omega⟩, ez_put_I (by omega)]
  have ej : ∀ j, j ≠ 12 → j ≠ 9 → qz_I (dz_put (dz_put h ((T x)) 12 (ez_v (.inl ((qz_I h 723 2) - (qz_I h ((T x)) 11))))) ((T x)) 9 (ez_v (.inl (qz_I (dz_put h ((T x)) 12 (ez_v (.inl ((qz_I h 723 2) - (qz_I h ((T x)) 11))))) 723 2)))) (T x) j = qz_I h (T x) j := fun j j1 j2 => by rw [ez_put_I (by omega), ez_put_I (by omega)]
  have eu : qz_I (dz_put (dz_put h ((T x)) 12 (ez_v (.inl ((qz_I h 723 2) - (qz_I h ((T x)) 11))))) ((T x)) 9 (ez_v (.inl (qz_I (dz_put h ((T x)) 12 (ez_v (.inl ((qz_I h 723 2) - (qz_I h ((T x)) 11))))) 723 2)))) 723 2 = qz_I h 723 2 := g9.I (dz_beq_ne (Ne.symm n723)) 2
  generalize (dz_put (dz_put h ((T x)) 12 (ez_v (.inl ((qz_I h 723 2) - (qz_I h ((T x)) 11))))) ((T x)) 9 (ez_v (.inl (qz_I (dz_put h ((T x)) 12 (ez_v (.inl ((qz_I h 723 2) - (qz_I h ((T x)) 11))))) 723 2)))) = g at *
  refine ez_if rfl rfl ⟨by first | omega | exact (sz_i32 _).1, by first | omega | exact (sz_i32 _).2⟩ (fun (c9 : (qz_I g (T x) 4) = (0)) => ?_) (fun (c9 : ¬((qz_I g (T x) 4) = (0))) => ?_)
  · skip
    refine ez_go (n := 2) (pc' := 91) (L' := [(2, .inl (0)), (0, .inr (.inr (some (723)))), (1, .inr (.inr (some ((T x)))))]) (st' := []) rfl ?_
    refine ez_less [(2, .inl (0)), (0, .inr (.inr (some (723)))), (1, .inr (.inr (some ((T x)))))] rfl ⟨rfl, rfl, rfl, trivial⟩ ?_
    exact kB (by rw [← ej 4 (by decide) (by decide)]; omega) g hB6 g9 e12 e9 ej
  · skip
    refine ez_go (n := 2) (pc' := 75) (L' := [(0, .inr (.inr (some (723)))), (1, .inr (.inr (some ((T x)))))]) (st' := [.inr (.inr (some ((T x)))), .inr (.inr (some (723)))]) rfl ?_
    refine ez_gI hB6 tT rfl rfl tq_3 rfl rfl (fun (b10 : -2147483648 ≤ qz_I g ((T x)) 0) (b10' : qz_I g ((T x)) 0 ≤ 2147483647) => ?_)
    refine ez_go (n := 1) (pc' := 79) (L' := [(0, .inr (.inr (some (723)))), (1, .inr (.inr (some ((T x)))))]) (st' := [.inr (.inr (some ((T x)))), .inl (qz_I g ((T x)) 0), .inr (.inr (some (723)))]) rfl ?_
    refine ez_gI hB6 tT rfl rfl tq_3 rfl rfl (fun (b11 : 0 ≤ qz_I g ((T x)) 9) (b11' : qz_I g ((T x)) 9 ≤ 20480) => ?_)
    have fst : qz_I g (T x) 0 = x := by rw [ej 0 (by decide) (by decide)]; exact hx0
    rw [fst, e9]
    refine ez_cv hB6 t723 rfl rfl rfl tq_55 rfl rfl rfl (rd_poolPoint hB6 t723 (by omega) (by omega) (by omega) (by omega) (by omega) (by omega) (fun w => by omega) (fun w g2 ha => ez_K1 ?_))
    refine ez_go (n := 2) (pc' := 126) (L' := [(0, .inr (.inr (some (723)))), (1, .inr (.inr (some ((T x)))))]) (st' := []) rfl ?_
    refine ez_less [(0, .inr (.inr (some (723)))), (1, .inr (.inr (some ((T x)))))] rfl ⟨rfl, rfl, trivial⟩ ?_
    exact kA (by rw [← ej 4 (by decide) (by decide)]; omega) g g2 hB6 g9 e12 e9 ej ha

theorem rd_close_a {x : Int} (hB : ez_B τ h) (t723 : τ 723 = 55) (tT : τ (T x) = 3) (k : ∀ g, ez_B τ g → ez_fr (ez_one (T x)) h g → qz_I g (T x) 11 = qz_I h 723 2 → (∀ j, j ≠ 11 → qz_I g (T x) j = qz_I h (T x) j) → ez_W (d + 3) cm_113 10 [(2, .inl (0)), (0, .inr (.inr (some (723)))), (1, .inr (.inr (some ((T x)))))] [] g Q) : ez_W (d + 3) cm_113 0 [(0, .inr (.inr (some (723)))), (1, .inr (.inr (some ((T x)))))] [] h Q := by
  refine ez_go (n := 2) (pc' := 2) (L' := [(0, .inr (.inr (some (723)))), (1, .inr (.inr (some ((T x)))))]) (st' := [.inr (.inr (some (723))), .inr (.inr (some ((T x))))]) rfl ?_
  refine ez_gI hB t723 rfl rfl tq_55 rfl rfl (fun (b1 : 0 ≤ qz_I h 723 2) (b1' : qz_I h 723 2 ≤ 20480) => ?_)
  refine ez_pf hB tT rfl rfl tq_3 rfl rfl rfl rfl (ez_vdI rfl rfl (by omega) (by omega)) (fun hB2 w3 => ?_)
  refine ez_go (n := 2) (pc' := 10) (L' := [(2, .inl (0)), (0, .inr (.inr (some (723)))), (1, .inr (.inr (some ((T x)))))]) (st' := []) rfl ?_
  refine ez_less [(2, .inl (0)), (0, .inr (.inr (some (723)))), (1, .inr (.inr (some ((T x)))))] rfl ⟨rfl, rfl, rfl, trivial⟩ ?_
  exact k _ hB2 ((ez_fr.refl (ez_one (T x)) h).put (show Nat.beq (T x) (T x) = true from Nat.beq_refl _) _ _) (by rw [w3, rz_rd ⟨by omega, by omega⟩]) (fun j hj => ez_put_I (fun w => hj w.2))

theorem pz_one {r : Nat} {g : cz_H} (tr : τ r = 3) (hf : ez_fr (ez_one r) h g) (h8 : ∀ j, j < 8 → qz_I g r j = qz_I h r j) : pz τ h g :=
  ⟨⟨hf.1, hf.2.1⟩, fun q q1 _ => hf.2.2 q (dz_beq_ne (fun e => by rw [e] at q1; exact q1 tr)), fun q _ j j8 => by
    by_cases e : q = r
    · rw [e]; exact h8 j j8
    · exact hf.I (dz_beq_ne e) j⟩
/-- the pool up to what is used -/
def pl_same (h g : cz_H) : Prop := ∀ j : Int, 0 ≤ j → j < qz_I h 723 2 → qz_I g 724 j.toNat = qz_I h 724 j.toNat
theorem pl_ap {g g2 : cz_H} {l : List Int} (x : ap τ g g2 l) : pl_same g g2 := fun j j0 j1 => by rw [x.2.2.2.2 j j0, if_neg (by omega)]
theorem nz_PR_one {r : Nat} {g : cz_H} (hf : ez_fr (ez_one r) h g) : ez_fr (nz_PR r) h g := ⟨hf.1, hf.2.1, fun q hq => hf.2.2 q (by unfold nz_PR at hq; exact (Bool.or_eq_false_iff.mp hq).1)⟩
theorem rd_close {x cp : Int} {vs l2 : List Int} {f1 f2 : Int → List Int} (hC : pz_C τ h T F E) (x0 : 0 ≤ x) (x1 : x ≤ 1114111) (hdec : (F x).2 = some (cp, vs)) (hwf : ∀ v ∈ vs, 0 ≤ v ∧ v ≤ 1114111) (hcp : cp = 0 ∨ cp = 1) (hu : qz_I h 723 2 ≤ 20400) (hd1 : ∀ v ∈ vs, dn h T F true v (f1 v)) (hd2 : ∀ v ∈ vs, dn h T F false v (f2 v)) (hne : ∀ v ∈ vs, ¬ hz v → (F v).2 ≠ none → T v ≠ T x) (hl2 : l2 = if cp = 1 then [x] else ct f2 vs) (k1 : ∀ g, ez_B τ g → ez_fr (nz_PR (T x)) h g → (∀ j, j < 8 → qz_I g (T x) j = qz_I h (T x) j) → (∀ j, j ≠ 2 → qz_I g 723 j = qz_I h 723 j) → pl_same h g → qz_I g 723 2 = qz_I h 723 2 + ((ct f1 vs).length : Int) + (l2.length : Int) → sg g (T x) true (ct f1 vs) → sg g (T x) false l2 → qz_I g (T x) 8 = 2 → (ct f1 vs).length ≤ 40 → l2.length ≤ 40 → Q (.inl (some (ez_v (.inl 1))), g)) (k0 : 40 < (ct f1 vs).length ∨ (cp = 0 ∧ 40 < l2.length) → ∀ g, ez_B τ g → pz τ h g → Q (.inl (some (ez_v (.inl 0))), g)) : ez_W (d + 3) cm_113 0 [(0, .inr (.inr (some (723)))), (1, .inr (.inr (some ((T x)))))] [] h Q := by
  have t723 : τ 723 = 55 := hC.2.1 723 (by decide)
  have t724 : τ 724 = 56 := hC.2.1 724 (by decide)
  obtain ⟨tT, -, -, f4⟩ := hC.2.2.2.2 x x0 x1
  obtain ⟨q0, q4, -⟩ := f4 cp vs hdec
  have n723 : T x ≠ 723 := fun e => by rw [e, t723] at tT; cases tT
  have n724 : T x ≠ 724 := fun e => by rw [e, t724] at tT; cases tT
  have b2 : 0 ≤ qz_I h 723 2 ∧ qz_I h 723 2 ≤ 20480 := ez_fB (cl := 6) hC.1 t723 tq_55 rfl rfl (by decide)
  refine rd_close_a hC.1 t723 tT (fun ga hBa fa ea ja => ?_)
  have ua : qz_I ga 723 2 = qz_I h 723 2 := fa.I (dz_beq_ne (Ne.symm n723)) 2
  have pza : pz τ h ga := pz_one tT fa (fun j j8 => ja j (by omega))
  have hCa := hC.fr hBa pza
  have ppq : nz_PP (T x) = false := by unfold nz_PP; rw [dz_beq_ne n723, dz_beq_ne n724]; rfl
  refine rd_close_l1 hCa x0 x1 hdec hwf (s := qz_I h 723 2) (f := f1) (by omega) (by omega) (by omega) ea (fun v hv => dn_one (hd1 v hv) fa (hne v hv) n723 n724) (fun g l2 hBg hap hlt => ?_) (fun gb apb hb => ?_) _ 0 ga rfl (by omega) (by omega) (by show qz_I ga 723 2 + (((ct f1 ([] : List Int)).length : Nat) : Int) ≤ _; simp only [ct, List.length_nil]; omega) (by show ap τ ga ga (ct f1 (vs.take 0)); rw [List.take_zero]; exact ap.nil hBa)
  · exact k0 (Or.inl (by omega)) g hBg (pza.trans (hap.pz hC.2.1))
  have hCb := hCa.fr apb.1 (apb.pz hC.2.1)
  have ub := apb.2.2.2.1
  have jb : ∀ j, qz_I gb (T x) j = qz_I ga (T x) j := fun j => apb.2.1.I ppq j
  have pzb : pz τ h gb := pza.trans (apb.pz hC.2.1)
  have frb : ez_fr (nz_PR (T x)) h gb := (nz_PR_one fa).trans (nz_PR_ap apb)
  have plb : pl_same h gb := fun j j0 j1 => by rw [pl_ap apb j j0 (by omega)]; exact fa.I (dz_beq_ne (Ne.symm n724)) _
  refine rd_close_b hCb.1 t723 t724 tT x0 x1 (by rw [jb, ja 0 (by decide)]; exact q0) (by rw [jb, ea]; omega) (by rw [jb, ea]; omega) (by omega) (fun hc4 gc gd hBc fc e12 e9 jc apd => ?_) (fun hc4 gc hBc fc e12 e9 jc => ?_)
  · have hc1 : cp = 1 := by rw [jb, ja 4 (by decide), q4] at hc4; omega
    rw [if_pos hc1] at hl2
    have uc : qz_I gc 723 2 = qz_I gb 723 2 := fc.I (dz_beq_ne (Ne.symm n723)) 2
    have ud := apd.2.2.2.1
    have jd : ∀ j, qz_I gd (T x) j = qz_I gc (T x) j := fun j => apd.2.1.I ppq j
    refine rd_close_c apd.1 t723 tT (by rw [jd, e9]; omega) (fun g hBg fg e10 e8 jg => ?_)
    have ug : qz_I g 723 2 = qz_I gd 723 2 := fg.I (dz_beq_ne (Ne.symm n723)) 2
    have pg : ∀ j, qz_I g 724 j = qz_I gd 724 j := fun j => fg.I (dz_beq_ne (Ne.symm n724)) j
    have pc : ∀ j, qz_I gc 724 j = qz_I gb 724 j := fun j => fc.I (dz_beq_ne (Ne.symm n724)) j
    refine k1 g hBg (((frb.trans (nz_PR_one fc)).trans (nz_PR_ap apd)).trans (nz_PR_one fg)) (fun j j8 => by rw [jg j (by omega) (by omega), jd, jc j (by omega) (by omega), jb, ja j (by omega)]) (fun j hj => by rw [fg.I (dz_beq_ne (Ne.symm n723)) j, apd.2.2.1 j hj, fc.I (dz_beq_ne (Ne.symm n723)) j, apb.2.2.1 j hj, fa.I (dz_beq_ne (Ne.symm n723)) j]) (fun j j0 j1 => by rw [pg, pl_ap apd j j0 (by omega), pc, plb j j0 j1]) (by rw [ug, ud, uc, ub, ua, hl2]) ⟨?_, ?_, ?_, ?_⟩ ⟨?_, ?_, ?_, ?_⟩ e8 (by omega) (by rw [hl2]; simp only [List.length_singleton]; omega)
    · show qz_I g (T x) 12 = _; rw [jg 12 (by decide) (by decide), jd, e12, jb, ea]; omega
    · show 0 ≤ qz_I g (T x) 11; rw [jg 11 (by decide) (by decide), jd, jc 11 (by decide) (by decide), jb, ea]; omega
    · show qz_I g (T x) 11 + _ ≤ _; rw [jg 11 (by decide) (by decide), jd, jc 11 (by decide) (by decide), jb, ea, ug, ud, uc, ub]; omega
    · intro j v hj
      have hjl := (List.getElem?_eq_some_iff.mp hj).1
      show qz_I g 724 (qz_I g (T x) 11 + (j : Int)).toNat = v
      rw [jg 11 (by decide) (by decide), jd, jc 11 (by decide) (by decide), jb, ea, pg, pl_ap apd _ (by omega) (by omega), pc, apb.2.2.2.2 _ (by omega), if_pos (by omega), ua, show (qz_I h 723 2 + (j : Int) - qz_I h 723 2).toNat = j by omega, List.getD_eq_getElem?_getD, hj]
      rfl
    · show qz_I g (T x) 10 = _; rw [e10, jd, e9, ud, uc, hl2]; omega
    · show 0 ≤ qz_I g (T x) 9; rw [jg 9 (by decide) (by decide), jd, e9]; omega
    · show qz_I g (T x) 9 + _ ≤ _; rw [jg 9 (by decide) (by decide), jd, e9, ug, ud, uc, hl2]; omega
    · intro j v hj
      rw [hl2] at hj
      have hjl := (List.getElem?_eq_some_iff.mp hj).1
      show qz_I g 724 (qz_I g (T x) 9 + (j : Int)).toNat = v
      rw [jg 9 (by decide) (by decide), jd, e9, pg, apd.2.2.2.2 _ (by omega), if_pos (by omega), uc, show (qz_I gb 723 2 + (j : Int) - qz_I gb 723 2).toNat = j by omega, List.getD_eq_getElem?_getD, hj]
      rfl
  · have hc0 : cp = 0 := by rw [jb, ja 4 (by decide), q4] at hc4; omega
    rw [if_neg (by omega)] at hl2
    have uc : qz_I gc 723 2 = qz_I gb 723 2 := fc.I (dz_beq_ne (Ne.symm n723)) 2
    have pzc : pz τ gb gc := pz_one tT fc (fun j j8 => jc j (by omega) (by omega))
    have hCc := hCb.fr hBc pzc
    refine rd_close_l0 hCc x0 x1 hdec hwf (s := qz_I gb 723 2) (f := f2) (by omega) (by omega) (by omega) e9 (fun v hv => dn_one (dn_ap (hC.2.2.2.2 v (hwf v hv).1 (hwf v hv).2).1 t723 t724 (dn_one (hd2 v hv) fa (hne v hv) n723 n724) apb) fc (hne v hv) n723 n724) (fun g l2' hBg hap hlt => ?_) (fun gd apd hdl => ?_) _ 0 gc rfl (by omega) (by omega) (by show qz_I gc 723 2 + (((ct f2 ([] : List Int)).length : Nat) : Int) ≤ _; simp only [ct, List.length_nil]; omega) (by show ap τ gc gc (ct f2 (vs.take 0)); rw [List.take_zero]; exact ap.nil hBc)
    · exact k0 (Or.inr ⟨hc0, by rw [hl2]; omega⟩) g hBg ((pzb.trans pzc).trans (hap.pz hC.2.1))
    have ud := apd.2.2.2.1
    have jd : ∀ j, qz_I gd (T x) j = qz_I gc (T x) j := fun j => apd.2.1.I ppq j
    refine rd_close_c apd.1 t723 tT (by rw [jd, e9]; omega) (fun g hBg fg e10 e8 jg => ?_)
    have ug : qz_I g 723 2 = qz_I gd 723 2 := fg.I (dz_beq_ne (Ne.symm n723)) 2
    have pg : ∀ j, qz_I g 724 j = qz_I gd 724 j := fun j => fg.I (dz_beq_ne (Ne.symm n724)) j
    have pc : ∀ j, qz_I gc 724 j = qz_I gb 724 j := fun j => fc.I (dz_beq_ne (Ne.symm n724)) j
    refine k1 g hBg (((frb.trans (nz_PR_one fc)).trans (nz_PR_ap apd)).trans (nz_PR_one fg)) (fun j j8 => by rw [jg j (by omega) (by omega), jd, jc j (by omega) (by omega), jb, ja j (by omega)]) (fun j hj => by rw [fg.I (dz_beq_ne (Ne.symm n723)) j, apd.2.2.1 j hj, fc.I (dz_beq_ne (Ne.symm n723)) j, apb.2.2.1 j hj, fa.I (dz_beq_ne (Ne.symm n723)) j]) (fun j j0 j1 => by rw [pg, pl_ap apd j j0 (by omega), pc, plb j j0 j1]) (by rw [ug, ud, uc, ub, ua, hl2]) ⟨?_, ?_, ?_, ?_⟩ ⟨?_, ?_, ?_, ?_⟩ e8 (by omega) (by rw [hl2]; omega)
    · show qz_I g (T x) 12 = _; rw [jg 12 (by decide) (by decide), jd, e12, jb, ea]; omega
    · show 0 ≤ qz_I g (T x) 11; rw [jg 11 (by decide) (by decide), jd, jc 11 (by decide) (by decide), jb, ea]; omega
    · show qz_I g (T x) 11 + _ ≤ _; rw [jg 11 (by decide) (by decide), jd, jc 11 (by decide) (by decide), jb, ea, ug, ud, uc, ub]; omega
    · intro j v hj
      have hjl := (List.getElem?_eq_some_iff.mp hj).1
      show qz_I g 724 (qz_I g (T x) 11 + (j : Int)).toNat = v
      rw [jg 11 (by decide) (by decide), jd, jc 11 (by decide) (by decide), jb, ea, pg, pl_ap apd _ (by omega) (by omega), pc, apb.2.2.2.2 _ (by omega), if_pos (by omega), ua, show (qz_I h 723 2 + (j : Int) - qz_I h 723 2).toNat = j by omega, List.getD_eq_getElem?_getD, hj]
      rfl
    · show qz_I g (T x) 10 = _; rw [e10, jd, e9, ud, uc, hl2]; omega
    · show 0 ≤ qz_I g (T x) 9; rw [jg 9 (by decide) (by decide), jd, e9]; omega
    · show qz_I g (T x) 9 + _ ≤ _; rw [jg 9 (by decide) (by decide), jd, e9, ug, ud, uc, hl2]; omega
    · intro j v hj
      rw [hl2] at hj
      have hjl := (List.getElem?_eq_some_iff.mp hj).1
      show qz_I g 724 (qz_I g (T x) 9 + (j : Int)).toNat = v
      rw [jg 9 (by decide) (by decide), jd, e9, pg, apd.2.2.2.2 _ (by omega), if_pos (by omega), uc, show (qz_I gb 723 2 + (j : Int) - qz_I gb 723 2).toNat = j by omega, List.getD_eq_getElem?_getD, hj]
      rfl
end EzCm
