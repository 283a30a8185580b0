/-! The model: join. (Written by wip/p2/py/pvt11.py.) -/
section EzMj
variable {d : Nat} {h : cz_H} {τ : Nat → Nat} {Q : cz_F → Prop} {X : Nat → List Int}
theorem uz_f_ne {F : rz_W} {c : Bool} (hw : uz_wf F) : ∀ (n : Nat) (x : Int) (l : List Int), uz_f F c n x = some l → 1 ≤ l.length
  | 0, x, l, h => by cases h
  | n + 1, x, l, h => by
    unfold uz_f at h
    split at h
    · cases h
      unfold hz_sy
      split <;> simp
    · split at h
      · cases h; simp
      · rename_i q hq
        split at h
        · have h1 := ((hw x).2 q.1 q.2 hq).2.1.1
          cases hv : q.2 with
          | nil => rw [hv] at h1; simp at h1
          | cons v vs =>
            rw [hv] at h
            unfold uz_L at h
            cases e1 : uz_f F c n v with
            | none => rw [e1] at h; cases h
            | some a =>
              cases e2 : uz_L (uz_f F c n) vs with
              | none => rw [e1, e2] at h; cases h
              | some b =>
                rw [e1, e2] at h
                cases h
                have := uz_f_ne hw n v a e1
                rw [List.length_append]; omega
        · cases h; simp
theorem uz_FL_len {F : rz_W} {c : Bool} (hw : uz_wf F) : ∀ {u l : List Int}, uz_FL F c u l → u.length ≤ l.length
  | [], l, _ => Nat.zero_le _
  | x :: u, l, h => by
    obtain ⟨p, q, ⟨n, p1⟩, p2, rfl⟩ := uz_cons_inv h
    have := uz_f_ne hw n x p p1
    have := uz_FL_len hw p2
    rw [List.length_append, List.length_cons]; omega
theorem mxs.u {t : Nat} (m : mxs h X) (ht : t < 8) {j : Nat} {v : Int} (hv : (X t)[j]? = some v) : qz_I h (774 + t) j = v ∧ 0 ≤ v ∧ v ≤ 1114111 := ⟨(m t ht).1.2 j v hv, ptl_at (m t ht).2.1 hv⟩
theorem rd_mj_u {t u v fm : Int} (hX : jz_X τ) (sl : slt h) (mxh : mxs h X) (t770 : τ 770 = 75) (u0 : 0 ≤ u ∧ u ≤ 7) (v0 : 0 ≤ v ∧ v ≤ 7) (lt : ((X u.toNat).length : Int) + ((X v.toNat).length : Int) ≤ 2000) (kx : ∀ g, ez_B τ g → ez_fr (ez_one 797) h g → (∀ (n : Nat) z, (n : Int) < ((X u.toNat).length : Int) → (X u.toNat ++ X v.toNat)[n]? = some z → qz_I g 797 n = z) → ez_W (d + 8) cm_269 120 [(0, .inr (.inr (some (770)))), (1, .inl (t)), (2, .inl (u)), (3, .inl (v)), (4, .inl (fm))] [] g Q) : ∀ (m : Nat) (k : Int) (g : cz_H), m = (((X u.toNat).length : Int) - k).toNat → 0 ≤ k → k ≤ ((X u.toNat).length : Int) → ez_B τ g → ez_fr (ez_one 797) h g → (∀ (n : Nat) z, (n : Int) < k → (X u.toNat ++ X v.toNat)[n]? = some z → qz_I g 797 n = z) → ez_W (d + 8) cm_269 87 [(5, .inl (k)), (0, .inr (.inr (some (770)))), (1, .inl (t)), (2, .inl (u)), (3, .inl (v)), (4, .inl (fm))] [] g Q := by
  intro m
  induction m with
  | zero =>
    intro k g hm k0 k1 hBg hf hv9
    have c73 : ∀ j, qz_I g 773 j = qz_I h 773 j := fun j => hf.I rfl j
    have c82 : ∀ j, qz_I g 782 j = qz_I h 782 j := fun j => hf.I rfl j
    have cx : ∀ s j, s < 8 → qz_I g (774 + s) j = qz_I h (774 + s) j := fun s j hs => hf.I (dz_beq_ne (by omega)) j
    have lu := (mxh u.toNat (by omega)).2.2
    have lv := (mxh v.toNat (by omega)).2.2
    refine ez_go (n := 2) (pc' := 90) (L' := [(5, .inl (k)), (0, .inr (.inr (some (770)))), (1, .inl (t)), (2, .inl (u)), (3, .inl (v)), (4, .inl (fm))]) (st' := [.inr (.inr (some (770))), .inl (k)]) rfl ?_
    refine ez_gC (p := 782) (tg := 79) hBg t770 rfl rfl tq_75 rfl rfl (fun (t782 : _ = 79) => ?_)
    refine ez_go (n := 1) (pc' := 94) (L' := [(5, .inl (k)), (0, .inr (.inr (some (770)))), (1, .inl (t)), (2, .inl (u)), (3, .inl (v)), (4, .inl (fm))]) (st' := [.inl (u), .inr (.inr (some (782))), .inl (k)]) rfl ?_
    have n2 : 8 ≤ qz_N g 782 ∧ qz_N g 782 ≤ 8 := ez_len hBg t782 tq_79 rfl
    refine ez_aI hBg t782 rfl tq_79 rfl rfl (by omega) (by omega) (fun (b1 : 0 ≤ qz_I g 782 (u).toNat) (b1' : qz_I g 782 (u).toNat ≤ 2000) => ?_)
    rw [show qz_I g 782 (u).toNat = ((X (u).toNat).length : Int) from (c82 _).trans (mxh (u).toNat (by omega)).1.1]
    refine ez_icmp rfl rfl ⟨by first | omega | exact (sz_i32 _).1, by first | omega | exact (sz_i32 _).2⟩ ⟨by first | omega | exact (sz_i32 _).1, by first | omega | exact (sz_i32 _).2⟩ (fun (c3 : (((X (u).toNat).length : Int)) ≤ (k)) => ?_) (fun (c3 : ¬((((X (u).toNat).length : Int)) ≤ (k))) => ?_)
    · skip
      refine ez_less [(0, .inr (.inr (some (770)))), (1, .inl (t)), (2, .inl (u)), (3, .inl (v)), (4, .inl (fm))] rfl ⟨rfl, rfl, rfl, rfl, rfl, trivial⟩ ?_
      exact kx g hBg hf (fun n z hn hz => hv9 n z (by omega) hz)
    · exfalso; omega
  | succ m ih =>
    intro k g hm k0 k1 hBg hf hv9
    have c73 : ∀ j, qz_I g 773 j = qz_I h 773 j := fun j => hf.I rfl j
    have c82 : ∀ j, qz_I g 782 j = qz_I h 782 j := fun j => hf.I rfl j
    have cx : ∀ s j, s < 8 → qz_I g (774 + s) j = qz_I h (774 + s) j := fun s j hs => hf.I (dz_beq_ne (by omega)) j
    have lu := (mxh u.toNat (by omega)).2.2
    have lv := (mxh v.toNat (by omega)).2.2
    refine ez_go (n := 2) (pc' := 90) (L' := [(5, .inl (k)), (0, .inr (.inr (some (770)))), (1, .inl (t)), (2, .inl (u)), (3, .inl (v)), (4, .inl (fm))]) (st' := [.inr (.inr (some (770))), .inl (k)]) rfl ?_
    refine ez_gC (p := 782) (tg := 79) hBg t770 rfl rfl tq_75 rfl rfl (fun (t782 : _ = 79) => ?_)
    refine ez_go (n := 1) (pc' := 94) (L' := [(5, .inl (k)), (0, .inr (.inr (some (770)))), (1, .inl (t)), (2, .inl (u)), (3, .inl (v)), (4, .inl (fm))]) (st' := [.inl (u), .inr (.inr (some (782))), .inl (k)]) rfl ?_
    have n2 : 8 ≤ qz_N g 782 ∧ qz_N g 782 ≤ 8 := ez_len hBg t782 tq_79 rfl
    refine ez_aI hBg t782 rfl tq_79 rfl rfl (by omega) (by omega) (fun (b1 : 0 ≤ qz_I g 782 (u).toNat) (b1' : qz_I g 782 (u).toNat ≤ 2000) => ?_)
    rw [show qz_I g 782 (u).toNat = ((X (u).toNat).length : Int) from (c82 _).trans (mxh (u).toNat (by omega)).1.1]
    refine ez_icmp rfl rfl ⟨by first | omega | exact (sz_i32 _).1, by first | omega | exact (sz_i32 _).2⟩ ⟨by first | omega | exact (sz_i32 _).1, by first | omega | exact (sz_i32 _).2⟩ (fun (c3 : (((X (u).toNat).length : Int)) ≤ (k)) => ?_) (fun (c3 : ¬((((X (u).toNat).length : Int)) ≤ (k))) => ?_)
    · exfalso; omega
    · skip
      refine ez_go (n := 1) (pc' := 99) (L' := [(5, .inl (k)), (0, .inr (.inr (some (770)))), (1, .inl (t)), (2, .inl (u)), (3, .inl (v)), (4, .inl (fm))]) (st' := [.inr (.inr (some (770)))]) rfl ?_
      refine ez_gC (p := 797) (tg := 84) hBg t770 rfl rfl tq_75 rfl rfl (fun (t797 : _ = 84) => ?_)
      refine ez_go (n := 2) (pc' := 105) (L' := [(5, .inl (k)), (0, .inr (.inr (some (770)))), (1, .inl (t)), (2, .inl (u)), (3, .inl (v)), (4, .inl (fm))]) (st' := [.inr (.inr (some (770))), .inl (k), .inr (.inr (some (797)))]) rfl ?_
      refine ez_gC (p := 773) (tg := 78) hBg t770 rfl rfl tq_75 rfl rfl (fun (t773 : _ = 78) => ?_)
      refine ez_go (n := 1) (pc' := 109) (L' := [(5, .inl (k)), (0, .inr (.inr (some (770)))), (1, .inl (t)), (2, .inl (u)), (3, .inl (v)), (4, .inl (fm))]) (st' := [.inl (u), .inr (.inr (some (773))), .inl (k), .inr (.inr (some (797)))]) rfl ?_
      have n5 : 8 ≤ qz_N g 773 ∧ qz_N g 773 ≤ 8 := ez_len hBg t773 tq_78 rfl
      have y6 : 1 ≤ qz_I g 773 (u).toNat := (by have := (sl u.toNat (by omega)).2; rw [c73]; omega)
      have y7 : 1 ≤ qz_I g 773 (u).toNat ∧ qz_I g 773 (u).toNat ≤ 1000000 := ez_aB hBg t773 tq_78 rfl rfl (by decide) (by omega) (by omega)
      have y7' : ((qz_P g 773 (u).toNat : Nat) : Int) + 1 = qz_I g 773 (u).toNat := by unfold qz_P; omega
      refine ez_aR hBg t773 rfl tq_78 rfl rfl (by omega) (by omega) (by omega) (fun (t4 : _ = 37) => ?_)
      rw [show qz_P g 773 (u).toNat = 774 + (u).toNat by unfold qz_P; have := (sl (u).toNat (by omega)).2; rw [show qz_I g 773 (u).toNat = qz_I h 773 (u).toNat from c73 _]; omega]
      refine ez_go (n := 1) (pc' := 112) (L' := [(5, .inl (k)), (0, .inr (.inr (some (770)))), (1, .inl (t)), (2, .inl (u)), (3, .inl (v)), (4, .inl (fm))]) (st' := [.inl (k), .inr (.inr (some (774 + (u).toNat))), .inl (k), .inr (.inr (some (797)))]) rfl ?_
      have n9 : 2000 ≤ qz_N g (774 + (u).toNat) ∧ qz_N g (774 + (u).toNat) ≤ 2000 := ez_len hBg (mx_tag hX (show (u).toNat < 8 by omega)).1 tq_37 rfl
      refine ez_aI hBg (mx_tag hX (show (u).toNat < 8 by omega)).1 rfl tq_37 rfl rfl (by omega) (by omega) (fun (b8 : -2147483648 ≤ qz_I g (774 + (u).toNat) (k).toNat) (b8' : qz_I g (774 + (u).toNat) (k).toNat ≤ 2147483647) => ?_)
      have n12 : 2000 ≤ qz_N g 797 ∧ qz_N g 797 ≤ 2000 := ez_len hBg t797 tq_84 rfl
      refine ez_as hBg t797 rfl tq_84 rfl rfl (by omega) (by omega) (ez_vdI rfl rfl (by omega) (by omega)) (fun hB10 w11 => ?_)
      refine ez_go (n := 2) (pc' := 87) (L' := [(5, .inl (k + 1)), (0, .inr (.inr (some (770)))), (1, .inl (t)), (2, .inl (u)), (3, .inl (v)), (4, .inl (fm))]) (st' := []) rfl ?_
      refine ez_less [(5, .inl (k + 1)), (0, .inr (.inr (some (770)))), (1, .inl (t)), (2, .inl (u)), (3, .inl (v)), (4, .inl (fm))] rfl ⟨rfl, rfl, rfl, rfl, rfl, rfl, trivial⟩ ?_
      have l9 : k.toNat < (X (u).toNat).length := by omega
      have ux := mxh.u (show (u).toNat < 8 by omega) (List.getElem?_eq_getElem l9)
      refine ih (k + 1) _ (by omega) (by omega) (by omega) hB10 (hf.put (show Nat.beq 797 797 = true from rfl) _ _) (fun n z hn hz => ?_)
      by_cases en : (n : Int) = k
      · rw [show n = (k).toNat by omega, w11, show qz_I g (774 + (u).toNat) (k).toNat = (X (u).toNat)[k.toNat] from (cx _ _ (by omega)).trans ux.1, rz_rd ⟨by omega, by omega⟩]
        rw [show n = k.toNat by omega, List.getElem?_append_left l9, List.getElem?_eq_getElem l9] at hz; cases hz; rfl
      · rw [ez_put_I (fun w => by omega)]; exact hv9 n z (by omega) hz

theorem rd_mj_v {t u v fm : Int} (hX : jz_X τ) (sl : slt h) (mxh : mxs h X) (t770 : τ 770 = 75) (u0 : 0 ≤ u ∧ u ≤ 7) (v0 : 0 ≤ v ∧ v ≤ 7) (lt : ((X u.toNat).length : Int) + ((X v.toNat).length : Int) ≤ 2000) (kx : ∀ g, ez_B τ g → ez_fr (ez_one 797) h g → (∀ (n : Nat) z, (n : Int) < ((X u.toNat).length : Int) + ((X v.toNat).length : Int) → (X u.toNat ++ X v.toNat)[n]? = some z → qz_I g 797 n = z) → ez_W (d + 8) cm_269 163 [(0, .inr (.inr (some (770)))), (1, .inl (t)), (2, .inl (u)), (3, .inl (v)), (4, .inl (fm))] [] g Q) : ∀ (m : Nat) (k : Int) (g : cz_H), m = (((X v.toNat).length : Int) - k).toNat → 0 ≤ k → k ≤ ((X v.toNat).length : Int) → ez_B τ g → ez_fr (ez_one 797) h g → (∀ (n : Nat) z, (n : Int) < ((X u.toNat).length : Int) + k → (X u.toNat ++ X v.toNat)[n]? = some z → qz_I g 797 n = z) → ez_W (d + 8) cm_269 123 [(5, .inl (k)), (0, .inr (.inr (some (770)))), (1, .inl (t)), (2, .inl (u)), (3, .inl (v)), (4, .inl (fm))] [] g Q := by
  intro m
  induction m with
  | zero =>
    intro k g hm k0 k1 hBg hf hv9
    have c73 : ∀ j, qz_I g 773 j = qz_I h 773 j := fun j => hf.I rfl j
    have c82 : ∀ j, qz_I g 782 j = qz_I h 782 j := fun j => hf.I rfl j
    have cx : ∀ s j, s < 8 → qz_I g (774 + s) j = qz_I h (774 + s) j := fun s j hs => hf.I (dz_beq_ne (by omega)) j
    have lu := (mxh u.toNat (by omega)).2.2
    have lv := (mxh v.toNat (by omega)).2.2
    refine ez_go (n := 2) (pc' := 126) (L' := [(5, .inl (k)), (0, .inr (.inr (some (770)))), (1, .inl (t)), (2, .inl (u)), (3, .inl (v)), (4, .inl (fm))]) (st' := [.inr (.inr (some (770))), .inl (k)]) rfl ?_
    refine ez_gC (p := 782) (tg := 79) hBg t770 rfl rfl tq_75 rfl rfl (fun (t782 : _ = 79) => ?_)
    refine ez_go (n := 1) (pc' := 130) (L' := [(5, .inl (k)), (0, .inr (.inr (some (770)))), (1, .inl (t)), (2, .inl (u)), (3, .inl (v)), (4, .inl (fm))]) (st' := [.inl (v), .inr (.inr (some (782))), .inl (k)]) rfl ?_
    have n2 : 8 ≤ qz_N g 782 ∧ qz_N g 782 ≤ 8 := ez_len hBg t782 tq_79 rfl
    refine ez_aI hBg t782 rfl tq_79 rfl rfl (by omega) (by omega) (fun (b1 : 0 ≤ qz_I g 782 (v).toNat) (b1' : qz_I g 782 (v).toNat ≤ 2000) => ?_)
    rw [show qz_I g 782 (v).toNat = ((X (v).toNat).length : Int) from (c82 _).trans (mxh (v).toNat (by omega)).1.1]
    refine ez_icmp rfl rfl ⟨by first | omega | exact (sz_i32 _).1, by first | omega | exact (sz_i32 _).2⟩ ⟨by first | omega | exact (sz_i32 _).1, by first | omega | exact (sz_i32 _).2⟩ (fun (c3 : (((X (v).toNat).length : Int)) ≤ (k)) => ?_) (fun (c3 : ¬((((X (v).toNat).length : Int)) ≤ (k))) => ?_)
    · skip
      refine ez_less [(0, .inr (.inr (some (770)))), (1, .inl (t)), (2, .inl (u)), (3, .inl (v)), (4, .inl (fm))] rfl ⟨rfl, rfl, rfl, rfl, rfl, trivial⟩ ?_
      exact kx g hBg hf (fun n z hn hz => hv9 n z (by omega) hz)
    · exfalso; omega
  | succ m ih =>
    intro k g hm k0 k1 hBg hf hv9
    have c73 : ∀ j, qz_I g 773 j = qz_I h 773 j := fun j => hf.I rfl j
    have c82 : ∀ j, qz_I g 782 j = qz_I h 782 j := fun j => hf.I rfl j
    have cx : ∀ s j, s < 8 → qz_I g (774 + s) j = qz_I h (774 + s) j := fun s j hs => hf.I (dz_beq_ne (by omega)) j
    have lu := (mxh u.toNat (by omega)).2.2
    have lv := (mxh v.toNat (by omega)).2.2
    refine ez_go (n := 2) (pc' := 126) (L' := [(5, .inl (k)), (0, .inr (.inr (some (770)))), (1, .inl (t)), (2, .inl (u)), (3, .inl (v)), (4, .inl (fm))]) (st' := [.inr (.inr (some (770))), .inl (k)]) rfl ?_
    refine ez_gC (p := 782) (tg := 79) hBg t770 rfl rfl tq_75 rfl rfl (fun (t782 : _ = 79) => ?_)
    refine ez_go (n := 1) (pc' := 130) (L' := [(5, .inl (k)), (0, .inr (.inr (some (770)))), (1, .inl (t)), (2, .inl (u)), (3, .inl (v)), (4, .inl (fm))]) (st' := [.inl (v), .inr (.inr (some (782))), .inl (k)]) rfl ?_
    have n2 : 8 ≤ qz_N g 782 ∧ qz_N g 782 ≤ 8 := ez_len hBg t782 tq_79 rfl
    refine ez_aI hBg t782 rfl tq_79 rfl rfl (by omega) (by omega) (fun (b1 : 0 ≤ qz_I g 782 (v).toNat) (b1' : qz_I g 782 (v).toNat ≤ 2000) => ?_)
    rw [show qz_I g 782 (v).toNat = ((X (v).toNat).length : Int) from (c82 _).trans (mxh (v).toNat (by omega)).1.1]
    refine ez_icmp rfl rfl ⟨by first | omega | exact (sz_i32 _).1, by first | omega | exact (sz_i32 _).2⟩ ⟨by first | omega | exact (sz_i32 _).1, by first | omega | exact (sz_i32 _).2⟩ (fun (c3 : (((X (v).toNat).length : Int)) ≤ (k)) => ?_) (fun (c3 : ¬((((X (v).toNat).length : Int)) ≤ (k))) => ?_)
    · exfalso; omega
    · skip
      refine ez_go (n := 1) (pc' := 135) (L' := [(5, .inl (k)), (0, .inr (.inr (some (770)))), (1, .inl (t)), (2, .inl (u)), (3, .inl (v)), (4, .inl (fm))]) (st' := [.inr (.inr (some (770)))]) rfl ?_
      refine ez_gC (p := 797) (tg := 84) hBg t770 rfl rfl tq_75 rfl rfl (fun (t797 : _ = 84) => ?_)
      refine ez_go (n := 1) (pc' := 139) (L' := [(5, .inl (k)), (0, .inr (.inr (some (770)))), (1, .inl (t)), (2, .inl (u)), (3, .inl (v)), (4, .inl (fm))]) (st' := [.inr (.inr (some (770))), .inr (.inr (some (797)))]) rfl ?_
      refine ez_gC (p := 782) (tg := 79) hBg t770 rfl rfl tq_75 rfl rfl (fun (t782 : _ = 79) => ?_)
      refine ez_go (n := 1) (pc' := 143) (L' := [(5, .inl (k)), (0, .inr (.inr (some (770)))), (1, .inl (t)), (2, .inl (u)), (3, .inl (v)), (4, .inl (fm))]) (st' := [.inl (u), .inr (.inr (some (782))), .inr (.inr (some (797)))]) rfl ?_
      have n5 : 8 ≤ qz_N g 782 ∧ qz_N g 782 ≤ 8 := ez_len hBg t782 tq_79 rfl
      refine ez_aI hBg t782 rfl tq_79 rfl rfl (by omega) (by omega) (fun (b4 : 0 ≤ qz_I g 782 (u).toNat) (b4' : qz_I g 782 (u).toNat ≤ 2000) => ?_)
      rw [show qz_I g 782 (u).toNat = ((X (u).toNat).length : Int) from (c82 _).trans (mxh (u).toNat (by omega)).1.1]
      refine ez_go (n := 3) (pc' := 148) (L' := [(5, .inl (k)), (0, .inr (.inr (some (770)))), (1, .inl (t)), (2, .inl (u)), (3, .inl (v)), (4, .inl (fm))]) (st' := [.inr (.inr (some (770))), .inl ((((X (u).toNat).length : Int)) + (k)), .inr (.inr (some (797)))]) rfl ?_
      refine ez_gC (p := 773) (tg := 78) hBg t770 rfl rfl tq_75 rfl rfl (fun (t773 : _ = 78) => ?_)
      refine ez_go (n := 1) (pc' := 152) (L' := [(5, .inl (k)), (0, .inr (.inr (some (770)))), (1, .inl (t)), (2, .inl (u)), (3, .inl (v)), (4, .inl (fm))]) (st' := [.inl (v), .inr (.inr (some (773))), .inl ((((X (u).toNat).length : Int)) + (k)), .inr (.inr (some (797)))]) rfl ?_
      have n7 : 8 ≤ qz_N g 773 ∧ qz_N g 773 ≤ 8 := ez_len hBg t773 tq_78 rfl
      have y8 : 1 ≤ qz_I g 773 (v).toNat := (by have := (sl v.toNat (by omega)).2; rw [c73]; omega)
      have y9 : 1 ≤ qz_I g 773 (v).toNat ∧ qz_I g 773 (v).toNat ≤ 1000000 := ez_aB hBg t773 tq_78 rfl rfl (by decide) (by omega) (by omega)
      have y9' : ((qz_P g 773 (v).toNat : Nat) : Int) + 1 = qz_I g 773 (v).toNat := by unfold qz_P; omega
      refine ez_aR hBg t773 rfl tq_78 rfl rfl (by omega) (by omega) (by omega) (fun (t6 : _ = 37) => ?_)
      rw [show qz_P g 773 (v).toNat = 774 + (v).toNat by unfold qz_P; have := (sl (v).toNat (by omega)).2; rw [show qz_I g 773 (v).toNat = qz_I h 773 (v).toNat from c73 _]; omega]
      refine ez_go (n := 1) (pc' := 155) (L' := [(5, .inl (k)), (0, .inr (.inr (some (770)))), (1, .inl (t)), (2, .inl (u)), (3, .inl (v)), (4, .inl (fm))]) (st' := [.inl (k), .inr (.inr (some (774 + (v).toNat))), .inl ((((X (u).toNat).length : Int)) + (k)), .inr (.inr (some (797)))]) rfl ?_
      have n11 : 2000 ≤ qz_N g (774 + (v).toNat) ∧ qz_N g (774 + (v).toNat) ≤ 2000 := ez_len hBg (mx_tag hX (show (v).toNat < 8 by omega)).1 tq_37 rfl
      refine ez_aI hBg (mx_tag hX (show (v).toNat < 8 by omega)).1 rfl tq_37 rfl rfl (by omega) (by omega) (fun (b10 : -2147483648 ≤ qz_I g (774 + (v).toNat) (k).toNat) (b10' : qz_I g (774 + (v).toNat) (k).toNat ≤ 2147483647) => ?_)
      have n14 : 2000 ≤ qz_N g 797 ∧ qz_N g 797 ≤ 2000 := ez_len hBg t797 tq_84 rfl
      refine ez_as hBg t797 rfl tq_84 rfl rfl (by omega) (by omega) (ez_vdI rfl rfl (by omega) (by omega)) (fun hB12 w13 => ?_)
      refine ez_go (n := 2) (pc' := 123) (L' := [(5, .inl (k + 1)), (0, .inr (.inr (some (770)))), (1, .inl (t)), (2, .inl (u)), (3, .inl (v)), (4, .inl (fm))]) (st' := []) rfl ?_
      refine ez_less [(5, .inl (k + 1)), (0, .inr (.inr (some (770)))), (1, .inl (t)), (2, .inl (u)), (3, .inl (v)), (4, .inl (fm))] rfl ⟨rfl, rfl, rfl, rfl, rfl, rfl, trivial⟩ ?_
      have l9 : k.toNat < (X (v).toNat).length := by omega
      have ux := mxh.u (show (v).toNat < 8 by omega) (List.getElem?_eq_getElem l9)
      refine ih (k + 1) _ (by omega) (by omega) (by omega) hB12 (hf.put (show Nat.beq 797 797 = true from rfl) _ _) (fun n z hn hz => ?_)
      by_cases en : (n : Int) = ((X u.toNat).length : Int) + k
      · rw [show n = (((X u.toNat).length : Int) + k).toNat by omega, w13, show qz_I g (774 + (v).toNat) (k).toNat = (X (v).toNat)[k.toNat] from (cx _ _ (by omega)).trans ux.1, rz_rd ⟨by omega, by omega⟩]
        rw [List.getElem?_append_right (by omega), show n - (X (u).toNat).length = k.toNat by omega, List.getElem?_eq_getElem l9] at hz; cases hz; rfl
      · rw [ez_put_I (fun w => by omega)]; exact hv9 n z (by omega) hz

/-- the row that is kept is none of DATA's -/
theorem kptC {g : cz_H} {Ls : List vz} (c : nmC τ h Ls) (hB : ez_B τ g) (f : ez_fr (ez_one 797) h g) : nmC τ g Ls := by
  have t770 : τ 770 = 75 := c.1.2.1 770 (by decide)
  have t797 : τ 797 = 84 := c.1.2.1 797 (by decide)
  have tp := ez_tpq c.1.1 t770
  have td := ez_tdb c.1.1 t770
  have k : ∀ q, τ q ≠ 84 → g.2.2 q = h.2.2 q := fun q hq => f.2.2 q (dz_beq_ne (fun e => hq (by rw [e]; exact t797)))
  have i : ∀ j, qz_I g 770 j = qz_I h 770 j := fun j => f.I rfl j
  exact ⟨c.1.gen hB (fun _ _ => rfl) (fun q q0 => by rw [q0]; decide) (fun q hq => k q (by omega)) (fun j j1 j2 => i j), c.2.1.tr hB (fun _ _ => rfl) (fun q q0 w => by omega) (fun j hj => i j) (fun q hq => k q (by omega)), c.2.2.1.tr (fun j hj => i j) (k _ (by omega)) (k _ (by omega)), c.2.2.2⟩
theorem rd_mjoin {t u v fm : Int} {Ls : List vz} (hB : ez_B τ h) (hX : jz_X τ) (c : qz_I h 770 7 ≠ 0 → nmC τ h Ls) (sl : slt h) (mxh : mxs h X) (tr : ez_rg t) (ur : ez_rg u) (vr : ez_rg v) (fmr : ez_rg fm) (hr1 : h.1 + 1000 ≤ 600192) (hr2 : h.2.1 + 150000 ≤ 7302232) (kA : (t < 0 ∨ 7 < t ∨ u < 0 ∨ 7 < u ∨ v < 0 ∨ 7 < v ∨ fm < 0 ∨ 3 < fm) → ∀ g, ez_B τ g → mF h g 1 → Q (.inl (some (ez_v (.inl 0))), g)) (kS : ((0 ≤ t ∧ t ≤ 7) ∧ (0 ≤ u ∧ u ≤ 7) ∧ (0 ≤ v ∧ v ≤ 7) ∧ 0 ≤ fm ∧ fm ≤ 3) → qz_I h 770 7 = 0 → ∀ g, ez_B τ g → mF h g 2 → Q (.inl (some (ez_v (.inl 0))), g)) (kL : ((0 ≤ t ∧ t ≤ 7) ∧ (0 ≤ u ∧ u ≤ 7) ∧ (0 ≤ v ∧ v ≤ 7) ∧ 0 ≤ fm ∧ fm ≤ 3) → qz_I h 770 7 ≠ 0 → 2000 < (X u.toNat).length + (X v.toNat).length → ∀ g, ez_B τ g → mF h g 3 → Q (.inl (some (ez_v (.inl 0))), g)) (kX : ((0 ≤ t ∧ t ≤ 7) ∧ (0 ≤ u ∧ u ≤ 7) ∧ (0 ≤ v ∧ v ≤ 7) ∧ 0 ≤ fm ∧ fm ≤ 3) → qz_I h 770 7 ≠ 0 → ∀ h1, ez_B τ h1 → mF h h1 0 → ∀ h2, ez_B τ h2 → ez_fr (ez_one 797) h1 h2 → ∀ m, uz_FL (vF Ls) (decide (fm = 1 ∨ fm = 3)) (X u.toNat ++ X v.toNat) m → 2000 < m.length → ∀ g2 τ2, ez_B τ2 g2 → nk τ h2 τ2 g2 → ∀ g, ez_B τ2 g → mF (xc g2 0) g 3 → Q (.inl (some (ez_v (.inl 0))), g)) (k1 : ((0 ≤ t ∧ t ≤ 7) ∧ (0 ≤ u ∧ u ≤ 7) ∧ (0 ≤ v ∧ v ≤ 7) ∧ 0 ≤ fm ∧ fm ≤ 3) → qz_I h 770 7 ≠ 0 → ∀ h1, ez_B τ h1 → mF h h1 0 → ∀ h2, ez_B τ h2 → ez_fr (ez_one 797) h1 h2 → ∀ m res, uz_FL (vF Ls) (decide (fm = 1 ∨ fm = 3)) (X u.toNat ++ X v.toNat) m → m.length ≤ 2000 → nfR (vF Ls) (vE Ls) fm m res → ptl res → ∀ g2 τ2, ez_B τ2 g2 → nk τ h2 τ2 g2 → tm g2 res → ∀ g, ez_B τ2 g → ez_fr (mx_P t.toNat) g2 g → mx g t.toNat res → Q (.inl (some (ez_v (.inl (res.length : Int)))), g)) : ez_W (d + 8) cm_269 0 [(0, .inr (.inr (some (770)))), (1, .inl (t)), (2, .inl (u)), (3, .inl (v)), (4, .inl (fm))] [] h Q := by
  have t770 : τ 770 = 75 := hX 770 (by decide)
  obtain ⟨tr1, tr2⟩ := id tr
  obtain ⟨ur1, ur2⟩ := id ur
  obtain ⟨vr1, vr2⟩ := id vr
  obtain ⟨fmr1, fmr2⟩ := id fmr
  refine ez_go (n := 2) (pc' := 2) (L' := [(0, .inr (.inr (some (770)))), (1, .inl (t)), (2, .inl (u)), (3, .inl (v)), (4, .inl (fm))]) (st' := [.inl (0), .inr (.inr (some (770)))]) rfl ?_
  refine ez_pf hB t770 rfl rfl tq_75 rfl rfl rfl rfl (ez_vdI rfl rfl (by omega) (by omega)) (fun hB1 w2 => ?_)
  have fP : ez_fr (ez_one 770) h (dz_put h 770 0 (ez_v (.inl (0)))) := (ez_fr.refl (ez_one 770) h).put rfl _ _
  have vP : qz_I (dz_put h 770 0 (ez_v (.inl (0)))) 770 0 = 0 := w2.trans (rz_rd ⟨by omega, by omega⟩)
  have iP : ∀ j, j ≠ 0 → qz_I (dz_put h 770 0 (ez_v (.inl (0)))) 770 j = qz_I h 770 j := fun j hj => ez_put_I (fun w => hj w.2)
  have hP := hB1
  generalize (dz_put h 770 0 (ez_v (.inl (0)))) = h1 at *
  have cP1 := fP.1; have cP2 := fP.2.1
  refine ez_go (n := 2) (pc' := 7) (L' := [(0, .inr (.inr (some (770)))), (1, .inl (t)), (2, .inl (u)), (3, .inl (v)), (4, .inl (fm))]) (st' := [.inl (t), .inr (.inr (some (770)))]) rfl ?_
  refine ez_cv hP t770 rfl rfl rfl tq_75 rfl rfl rfl (rd_mout (show ez_rg (t) by assumption) (fun o6 => ez_K1 ?_) (fun o6 => ez_K1 ?_))
  · skip
    refine ez_if rfl rfl ⟨by decide, by decide⟩ (fun _ => ?_) (fun (c3 : ¬((1 : Int) ≠ (0))) => absurd c3 (by decide))
    refine ez_go (n := 2) (pc' := 42) (L' := [(0, .inr (.inr (some (770)))), (1, .inl (t)), (2, .inl (u)), (3, .inl (v)), (4, .inl (fm))]) (st' := [.inl (1), .inr (.inr (some (770)))]) rfl ?_
    refine ez_cv hP t770 rfl rfl rfl tq_75 rfl rfl rfl (rd_mfail hP t770 (by omega) (by omega) (fun gf hBf ff jf vf0 => ez_K1 ?_))
    exact ez_retI rfl rfl (kA (by omega) gf hBf (mF.trans ⟨fP, iP, vP⟩ ⟨ff, jf, vf0⟩))
  · skip
    refine ez_if rfl rfl ⟨by decide, by decide⟩ (fun (c4 : (0 : Int) ≠ (0)) => absurd c4 (by decide)) (fun _ => ?_)
    refine ez_go (n := 2) (pc' := 15) (L' := [(0, .inr (.inr (some (770)))), (1, .inl (t)), (2, .inl (u)), (3, .inl (v)), (4, .inl (fm))]) (st' := [.inl (u), .inr (.inr (some (770)))]) rfl ?_
    refine ez_cv hP t770 rfl rfl rfl tq_75 rfl rfl rfl (rd_mout (show ez_rg (u) by assumption) (fun o7 => ez_K1 ?_) (fun o7 => ez_K1 ?_))
    · skip
      refine ez_if rfl rfl ⟨by decide, by decide⟩ (fun _ => ?_) (fun (c5 : ¬((1 : Int) ≠ (0))) => absurd c5 (by decide))
      refine ez_go (n := 2) (pc' := 42) (L' := [(0, .inr (.inr (some (770)))), (1, .inl (t)), (2, .inl (u)), (3, .inl (v)), (4, .inl (fm))]) (st' := [.inl (1), .inr (.inr (some (770)))]) rfl ?_
      refine ez_cv hP t770 rfl rfl rfl tq_75 rfl rfl rfl (rd_mfail hP t770 (by omega) (by omega) (fun gf hBf ff jf vf0 => ez_K1 ?_))
      exact ez_retI rfl rfl (kA (by omega) gf hBf (mF.trans ⟨fP, iP, vP⟩ ⟨ff, jf, vf0⟩))
    · skip
      refine ez_if rfl rfl ⟨by decide, by decide⟩ (fun (c6 : (0 : Int) ≠ (0)) => absurd c6 (by decide)) (fun _ => ?_)
      refine ez_go (n := 2) (pc' := 23) (L' := [(0, .inr (.inr (some (770)))), (1, .inl (t)), (2, .inl (u)), (3, .inl (v)), (4, .inl (fm))]) (st' := [.inl (v), .inr (.inr (some (770)))]) rfl ?_
      refine ez_cv hP t770 rfl rfl rfl tq_75 rfl rfl rfl (rd_mout (show ez_rg (v) by assumption) (fun o8 => ez_K1 ?_) (fun o8 => ez_K1 ?_))
      · skip
        refine ez_if rfl rfl ⟨by decide, by decide⟩ (fun _ => ?_) (fun (c7 : ¬((1 : Int) ≠ (0))) => absurd c7 (by decide))
        refine ez_go (n := 2) (pc' := 42) (L' := [(0, .inr (.inr (some (770)))), (1, .inl (t)), (2, .inl (u)), (3, .inl (v)), (4, .inl (fm))]) (st' := [.inl (1), .inr (.inr (some (770)))]) rfl ?_
        refine ez_cv hP t770 rfl rfl rfl tq_75 rfl rfl rfl (rd_mfail hP t770 (by omega) (by omega) (fun gf hBf ff jf vf0 => ez_K1 ?_))
        exact ez_retI rfl rfl (kA (by omega) gf hBf (mF.trans ⟨fP, iP, vP⟩ ⟨ff, jf, vf0⟩))
      · skip
        refine ez_if rfl rfl ⟨by decide, by decide⟩ (fun (c8 : (0 : Int) ≠ (0)) => absurd c8 (by decide)) (fun _ => ?_)
        refine ez_go (n := 1) (pc' := 31) (L' := [(0, .inr (.inr (some (770)))), (1, .inl (t)), (2, .inl (u)), (3, .inl (v)), (4, .inl (fm))]) (st' := [.inl (fm)]) rfl ?_
        refine ez_if rfl rfl ⟨by first | omega | exact (sz_i32 _).1, by first | omega | exact (sz_i32 _).2⟩ (fun (c9 : (fm) < (0)) => ?_) (fun (c9 : ¬((fm) < (0))) => ?_)
        · skip
          refine ez_go (n := 2) (pc' := 42) (L' := [(0, .inr (.inr (some (770)))), (1, .inl (t)), (2, .inl (u)), (3, .inl (v)), (4, .inl (fm))]) (st' := [.inl (1), .inr (.inr (some (770)))]) rfl ?_
          refine ez_cv hP t770 rfl rfl rfl tq_75 rfl rfl rfl (rd_mfail hP t770 (by omega) (by omega) (fun gf hBf ff jf vf0 => ez_K1 ?_))
          exact ez_retI rfl rfl (kA (by omega) gf hBf (mF.trans ⟨fP, iP, vP⟩ ⟨ff, jf, vf0⟩))
        · skip
          refine ez_go (n := 2) (pc' := 37) (L' := [(0, .inr (.inr (some (770)))), (1, .inl (t)), (2, .inl (u)), (3, .inl (v)), (4, .inl (fm))]) (st' := [.inl (3), .inl (fm)]) rfl ?_
          refine ez_icmp rfl rfl ⟨by first | omega | exact (sz_i32 _).1, by first | omega | exact (sz_i32 _).2⟩ ⟨by first | omega | exact (sz_i32 _).1, by first | omega | exact (sz_i32 _).2⟩ (fun (c10 : (fm) ≤ (3)) => ?_) (fun (c10 : ¬((fm) ≤ (3))) => ?_)
          · skip
            refine ez_go (n := 1) (pc' := 47) (L' := [(0, .inr (.inr (some (770)))), (1, .inl (t)), (2, .inl (u)), (3, .inl (v)), (4, .inl (fm))]) (st' := [.inr (.inr (some (770)))]) rfl ?_
            refine ez_gI hP t770 rfl rfl tq_75 rfl rfl (fun (b11 : 0 ≤ qz_I h1 770 7) (b11' : qz_I h1 770 7 ≤ 1) => ?_)
            refine ez_if rfl rfl ⟨by first | omega | exact (sz_i32 _).1, by first | omega | exact (sz_i32 _).2⟩ (fun (c12 : (qz_I h1 770 7) ≠ (0)) => ?_) (fun (c12 : ¬((qz_I h1 770 7) ≠ (0))) => ?_)
            · skip
              have c1 := f7C (c (by rw [← iP 7 (by decide)]; assumption)) hP fP iP
              have k1P : ∀ q, q ≠ 770 → h1.2.2 q = h.2.2 q := fun q hq => fP.2.2 q (dz_beq_ne hq)
              have c82 : ∀ j, qz_I h1 782 j = qz_I h 782 j := fun j => fP.I rfl j
              have mx1 : mxs h1 X := mxh.k (fun q hq => k1P q (by omega))
              have sl1 : slt h1 := fun s hs => by unfold qz_I; rw [k1P 195 (by decide), k1P 773 (by decide)]; exact sl s hs
              have lu := (mxh u.toNat (by omega)).2.2
              have lv := (mxh v.toNat (by omega)).2.2
              refine ez_go (n := 1) (pc' := 60) (L' := [(0, .inr (.inr (some (770)))), (1, .inl (t)), (2, .inl (u)), (3, .inl (v)), (4, .inl (fm))]) (st' := [.inr (.inr (some (770)))]) rfl ?_
              refine ez_gC (p := 782) (tg := 79) hP t770 rfl rfl tq_75 rfl rfl (fun (t782 : _ = 79) => ?_)
              refine ez_go (n := 1) (pc' := 64) (L' := [(0, .inr (.inr (some (770)))), (1, .inl (t)), (2, .inl (u)), (3, .inl (v)), (4, .inl (fm))]) (st' := [.inl (u), .inr (.inr (some (782)))]) rfl ?_
              have n14 : 8 ≤ qz_N h1 782 ∧ qz_N h1 782 ≤ 8 := ez_len hP t782 tq_79 rfl
              refine ez_aI hP t782 rfl tq_79 rfl rfl (by omega) (by omega) (fun (b13 : 0 ≤ qz_I h1 782 (u).toNat) (b13' : qz_I h1 782 (u).toNat ≤ 2000) => ?_)
              rw [show qz_I h1 782 (u).toNat = ((X (u).toNat).length : Int) from (c82 _).trans (mxh (u).toNat (by omega)).1.1]
              refine ez_go (n := 1) (pc' := 66) (L' := [(0, .inr (.inr (some (770)))), (1, .inl (t)), (2, .inl (u)), (3, .inl (v)), (4, .inl (fm))]) (st' := [.inr (.inr (some (770))), .inl (((X (u).toNat).length : Int))]) rfl ?_
              refine ez_gC (p := 782) (tg := 79) hP t770 rfl rfl tq_75 rfl rfl (fun (t782 : _ = 79) => ?_)
              refine ez_go (n := 1) (pc' := 70) (L' := [(0, .inr (.inr (some (770)))), (1, .inl (t)), (2, .inl (u)), (3, .inl (v)), (4, .inl (fm))]) (st' := [.inl (v), .inr (.inr (some (782))), .inl (((X (u).toNat).length : Int))]) rfl ?_
              have n16 : 8 ≤ qz_N h1 782 ∧ qz_N h1 782 ≤ 8 := ez_len hP t782 tq_79 rfl
              refine ez_aI hP t782 rfl tq_79 rfl rfl (by omega) (by omega) (fun (b15 : 0 ≤ qz_I h1 782 (v).toNat) (b15' : qz_I h1 782 (v).toNat ≤ 2000) => ?_)
              rw [show qz_I h1 782 (v).toNat = ((X (v).toNat).length : Int) from (c82 _).trans (mxh (v).toNat (by omega)).1.1]
              refine ez_go (n := 2) (pc' := 75) (L' := [(0, .inr (.inr (some (770)))), (1, .inl (t)), (2, .inl (u)), (3, .inl (v)), (4, .inl (fm))]) (st' := [.inl (2000), .inl ((((X (u).toNat).length : Int)) + (((X (v).toNat).length : Int)))]) rfl ?_
              refine ez_icmp rfl rfl ⟨by first | omega | exact (sz_i32 _).1, by first | omega | exact (sz_i32 _).2⟩ ⟨by first | omega | exact (sz_i32 _).1, by first | omega | exact (sz_i32 _).2⟩ (fun (c17 : ((((X (u).toNat).length : Int)) + (((X (v).toNat).length : Int))) ≤ (2000)) => ?_) (fun (c17 : ¬(((((X (u).toNat).length : Int)) + (((X (v).toNat).length : Int))) ≤ (2000))) => ?_)
              · skip
                refine ez_go (n := 2) (pc' := 87) (L' := [(5, .inl (0)), (0, .inr (.inr (some (770)))), (1, .inl (t)), (2, .inl (u)), (3, .inl (v)), (4, .inl (fm))]) (st' := []) rfl ?_
                refine ez_less [(5, .inl (0)), (0, .inr (.inr (some (770)))), (1, .inl (t)), (2, .inl (u)), (3, .inl (v)), (4, .inl (fm))] rfl ⟨rfl, rfl, rfl, rfl, rfl, rfl, trivial⟩ ?_
                refine rd_mj_u (h := h1) hX sl1 mx1 t770 ⟨by omega, by omega⟩ ⟨by omega, by omega⟩ (by omega) (fun g1 hB1 f1 v1 => ?_) _ 0 h1 rfl (by omega) (by omega) hP (ez_fr.refl _ _) (fun n z hn => by omega)
                refine ez_go (n := 2) (pc' := 123) (L' := [(5, .inl (0)), (0, .inr (.inr (some (770)))), (1, .inl (t)), (2, .inl (u)), (3, .inl (v)), (4, .inl (fm))]) (st' := []) rfl ?_
                refine ez_less [(5, .inl (0)), (0, .inr (.inr (some (770)))), (1, .inl (t)), (2, .inl (u)), (3, .inl (v)), (4, .inl (fm))] rfl ⟨rfl, rfl, rfl, rfl, rfl, rfl, trivial⟩ ?_
                have mx2 : mxs g1 X := mx1.k (fun q hq => f1.2.2 q (dz_beq_ne (by omega)))
                have sl2 : slt g1 := sl1.k (f1.2.2 195 rfl) (f1.2.2 773 rfl)
                refine rd_mj_v (h := g1) hX sl2 mx2 t770 ⟨by omega, by omega⟩ ⟨by omega, by omega⟩ (by omega) (fun h2 hB2 f2 v2 => ?_) _ 0 g1 rfl (by omega) (by omega) hB1 (ez_fr.refl _ _) (fun n z hn hz => v1 n z (by omega) hz)
                have f12 := f1.trans f2
                have c82 : ∀ j, qz_I h2 782 j = qz_I h 782 j := fun j => (f12.I rfl j).trans (fP.I rfl j)
                have c2 := kptC c1 hB2 f12
                have t797 : τ 797 = 84 := hX 797 (by decide)
                have rm1 := f12.1; have rm2 := f12.2.1
                refine ez_go (n := 2) (pc' := 165) (L' := [(0, .inr (.inr (some (770)))), (1, .inl (t)), (2, .inl (u)), (3, .inl (v)), (4, .inl (fm))]) (st' := [.inr (.inr (some (770))), .inr (.inr (some (770)))]) rfl ?_
                refine ez_gC (p := 797) (tg := 84) hB2 t770 rfl rfl tq_75 rfl rfl (fun (t797 : _ = 84) => ?_)
                refine ez_go (n := 1) (pc' := 169) (L' := [(0, .inr (.inr (some (770)))), (1, .inl (t)), (2, .inl (u)), (3, .inl (v)), (4, .inl (fm))]) (st' := [.inr (.inr (some (770))), .inr (.inr (some (797))), .inr (.inr (some (770)))]) rfl ?_
                refine ez_gC (p := 782) (tg := 79) hB2 t770 rfl rfl tq_75 rfl rfl (fun (t782 : _ = 79) => ?_)
                refine ez_go (n := 1) (pc' := 173) (L' := [(0, .inr (.inr (some (770)))), (1, .inl (t)), (2, .inl (u)), (3, .inl (v)), (4, .inl (fm))]) (st' := [.inl (u), .inr (.inr (some (782))), .inr (.inr (some (797))), .inr (.inr (some (770)))]) rfl ?_
                have n19 : 8 ≤ qz_N h2 782 ∧ qz_N h2 782 ≤ 8 := ez_len hB2 t782 tq_79 rfl
                refine ez_aI hB2 t782 rfl tq_79 rfl rfl (by omega) (by omega) (fun (b18 : 0 ≤ qz_I h2 782 (u).toNat) (b18' : qz_I h2 782 (u).toNat ≤ 2000) => ?_)
                rw [show qz_I h2 782 (u).toNat = ((X (u).toNat).length : Int) from (c82 _).trans (mxh (u).toNat (by omega)).1.1]
                refine ez_go (n := 1) (pc' := 175) (L' := [(0, .inr (.inr (some (770)))), (1, .inl (t)), (2, .inl (u)), (3, .inl (v)), (4, .inl (fm))]) (st' := [.inr (.inr (some (770))), .inl (((X (u).toNat).length : Int)), .inr (.inr (some (797))), .inr (.inr (some (770)))]) rfl ?_
                refine ez_gC (p := 782) (tg := 79) hB2 t770 rfl rfl tq_75 rfl rfl (fun (t782 : _ = 79) => ?_)
                refine ez_go (n := 1) (pc' := 179) (L' := [(0, .inr (.inr (some (770)))), (1, .inl (t)), (2, .inl (u)), (3, .inl (v)), (4, .inl (fm))]) (st' := [.inl (v), .inr (.inr (some (782))), .inl (((X (u).toNat).length : Int)), .inr (.inr (some (797))), .inr (.inr (some (770)))]) rfl ?_
                have n21 : 8 ≤ qz_N h2 782 ∧ qz_N h2 782 ≤ 8 := ez_len hB2 t782 tq_79 rfl
                refine ez_aI hB2 t782 rfl tq_79 rfl rfl (by omega) (by omega) (fun (b20 : 0 ≤ qz_I h2 782 (v).toNat) (b20' : qz_I h2 782 (v).toNat ≤ 2000) => ?_)
                rw [show qz_I h2 782 (v).toNat = ((X (v).toNat).length : Int) from (c82 _).trans (mxh (v).toNat (by omega)).1.1]
                refine ez_go (n := 2) (pc' := 183) (L' := [(0, .inr (.inr (some (770)))), (1, .inl (t)), (2, .inl (u)), (3, .inl (v)), (4, .inl (fm))]) (st' := [.inl (fm), .inl ((((X (u).toNat).length : Int)) + (((X (v).toNat).length : Int))), .inr (.inr (some (797))), .inr (.inr (some (770)))]) rfl ?_
                have al := List.length_append (as := X u.toNat) (bs := X v.toNat)
                have pu := ptl_app (mxh u.toNat (by omega)).2.1 (mxh v.toNat (by omega)).2.1
                refine ez_cv hB2 t770 rfl rfl rfl tq_75 rfl rfl rfl (rd_mnorm_k (u := X u.toNat ++ X v.toNat) c2 t797 (by omega) (by omega) (fun n z hz => v2 n z (by have := (List.getElem?_eq_some_iff.mp hz).1; omega) hz) pu ⟨by omega, by omega⟩ (by omega) (by omega) (fun m res um lt nf pr g2 τ2 hB2 nk2 tm2 => ez_K0 ?_) (fun m um lt g2 τ2 hB2 nk2 => ez_Kc (xc_exc hB2 rfl) rfl ?_))
                · have u770 : τ2 770 = 75 := nk2.X hX 770 (by decide)
                  refine ez_go (n := 3) (pc' := 199) (L' := [(0, .inr (.inr (some (770)))), (1, .inl (t)), (2, .inl (u)), (3, .inl (v)), (4, .inl (fm))]) (st' := [.inl (t), .inr (.inr (some (770)))]) rfl ?_
                  have X2 := nk2.X hX
                  have rl : res.length ≤ 2000 := by have := tm2.1; have : 0 ≤ qz_I g2 770 30 ∧ qz_I g2 770 30 ≤ 2000 := ez_fB (cl := 11) (k := 30) hB2 u770 tq_75 rfl rfl (by decide); omega
                  have sl3 : slt g2 := (sl1.k (f12.2.2 195 rfl) (f12.2.2 773 rfl)).k (nk2.C hX (by rw [hX 195 (by decide)]; decide) (by rw [hX 195 (by decide)]; decide) (by rw [hX 195 (by decide)]; decide) (by rw [hX 195 (by decide)]; decide) (by rw [hX 195 (by decide)]; decide) (by rw [hX 195 (by decide)]; decide)) (nk2.C hX (by rw [hX 773 (by decide)]; decide) (by rw [hX 773 (by decide)]; decide) (by rw [hX 773 (by decide)]; decide) (by rw [hX 773 (by decide)]; decide) (by rw [hX 773 (by decide)]; decide) (by rw [hX 773 (by decide)]; decide))
                  refine ez_cv hB2 u770 rfl rfl rfl tq_75 rfl rfl rfl (rd_mtk hB2 X2 sl3 tm2 (fun j v hv => ⟨by have := ptl_at pr hv; omega, by have := ptl_at pr hv; omega⟩) rl (by omega) (by omega) (fun g3 hB3 f3 mx3 => ez_K1 ?_))
                  exact ez_retI rfl rfl (k1 (by omega) (by rw [← iP 7 (by decide)]; assumption) h1 hP ⟨fP, iP, vP⟩ h2 c2.1.1 f12 m res um lt nf pr g2 τ2 hB2 nk2 tm2 g3 hB3 f3 mx3)
                · have u770 : τ2 770 = 75 := nk2.X hX 770 (by decide)
                  have rm2 := nk2.rm c2.1.1 hB2 (hX 770 (by decide)) u770
                  have hBx : ez_B τ2 (xc g2 0) := xc_B hB2 (by omega) (by omega)
                  refine ez_go (n := 3) (pc' := 193) (L' := [(5, .inr (.inr (some (g2.1)))), (0, .inr (.inr (some (770)))), (1, .inl (t)), (2, .inl (u)), (3, .inl (v)), (4, .inl (fm))]) (st' := [.inl (3), .inr (.inr (some (770)))]) rfl ?_
                  refine ez_cv hBx u770 rfl rfl rfl tq_75 rfl rfl rfl (rd_mfail hBx u770 (by omega) (by omega) (fun gf hBf ff jf vf0 => ez_K1 ?_))
                  exact ez_retI rfl rfl (kX (by omega) (by rw [← iP 7 (by decide)]; assumption) h1 hP ⟨fP, iP, vP⟩ h2 c2.1.1 f12 m um lt g2 τ2 hB2 nk2 gf hBf ⟨ff, jf, vf0⟩)
              · skip
                refine ez_go (n := 2) (pc' := 80) (L' := [(0, .inr (.inr (some (770)))), (1, .inl (t)), (2, .inl (u)), (3, .inl (v)), (4, .inl (fm))]) (st' := [.inl (3), .inr (.inr (some (770)))]) rfl ?_
                refine ez_cv hP t770 rfl rfl rfl tq_75 rfl rfl rfl (rd_mfail hP t770 (by omega) (by omega) (fun gf hBf ff jf vf0 => ez_K1 ?_))
                exact ez_retI rfl rfl (kL (by omega) (by rw [← iP 7 (by decide)]; assumption) (by omega) gf hBf (mF.trans ⟨fP, iP, vP⟩ ⟨ff, jf, vf0⟩))
            · skip
              refine ez_go (n := 2) (pc' := 55) (L' := [(0, .inr (.inr (some (770)))), (1, .inl (t)), (2, .inl (u)), (3, .inl (v)), (4, .inl (fm))]) (st' := [.inl (2), .inr (.inr (some (770)))]) rfl ?_
              refine ez_cv hP t770 rfl rfl rfl tq_75 rfl rfl rfl (rd_mfail hP t770 (by omega) (by omega) (fun gf hBf ff jf vf0 => ez_K1 ?_))
              exact ez_retI rfl rfl (kS (by omega) (by rw [← iP 7 (by decide)]; omega) gf hBf (mF.trans ⟨fP, iP, vP⟩ ⟨ff, jf, vf0⟩))
          · skip
            refine ez_go (n := 2) (pc' := 42) (L' := [(0, .inr (.inr (some (770)))), (1, .inl (t)), (2, .inl (u)), (3, .inl (v)), (4, .inl (fm))]) (st' := [.inl (1), .inr (.inr (some (770)))]) rfl ?_
            refine ez_cv hP t770 rfl rfl rfl tq_75 rfl rfl rfl (rd_mfail hP t770 (by omega) (by omega) (fun gf hBf ff jf vf0 => ez_K1 ?_))
            exact ez_retI rfl rfl (kA (by omega) gf hBf (mF.trans ⟨fP, iP, vP⟩ ⟨ff, jf, vf0⟩))

end EzMj
