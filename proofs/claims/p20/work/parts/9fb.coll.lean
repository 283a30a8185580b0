/-! COLLATION: the class, keys. (Written by wip/p2/py/pvk6.py.) -/
def lsum (W : List eL) : Nat → Nat
  | 0 => 0
  | n + 1 => lsum W n + (lev W n).length
theorem KY_len (W : List eL) : ∀ n, (KY W (n + 1)).length = n + lsum W (n + 1)
  | 0 => by show (lev W 0).length = 0 + (0 + (lev W 0).length); omega
  | n + 1 => by
    show (KY W (n + 1) ++ 0 :: lev W (n + 1)).length = n + 1 + (lsum W (n + 1) + (lev W (n + 1)).length)
    rw [List.length_append, List.length_cons, KY_len W n]; omega
/-- what comes behind the first levels -/
def tlv (W : List eL) : Nat → Nat → List Int
  | 0, _ => []
  | n + 1, s => 0 :: lev W s ++ tlv W n (s + 1)
theorem KY_tlv (W : List eL) : ∀ (n s : Nat), KY W (s + 1) ++ tlv W n (s + 1) = KY W (s + 1 + n)
  | 0, s => List.append_nil _
  | n + 1, s => by
    show KY W (s + 1) ++ (0 :: lev W (s + 1) ++ tlv W n (s + 1 + 1)) = _
    rw [← List.append_assoc, show KY W (s + 1) ++ (0 :: lev W (s + 1)) = KY W (s + 1 + 1) from rfl, KY_tlv W n (s + 1), show s + 1 + 1 + n = s + 1 + (n + 1) by omega]
theorem lev_tk {W : List eL} {i k : Nat} {w : eL} (h : W[i]? = some w) : lev (W.take (i + 1)) k = lev (W.take i) k ++ (if wk w k = 0 then [] else [wk w k]) := by
  rw [List.take_add_one, h, Option.toList_some, lev_app, lev_1]
theorem lev_dr {W : List eL} {i k : Nat} {w : eL} (h : W[i]? = some w) : lev (W.drop i) k = (if wk w k = 0 then [] else [wk w k]) ++ lev (W.drop (i + 1)) k := by
  have hl := (List.getElem?_eq_some_iff.mp h).1
  have e : W.drop i = w :: W.drop (i + 1) := by
    rw [List.drop_eq_getElem_cons hl]
    rw [List.getElem?_eq_getElem hl] at h
    cases h; rfl
  rw [e, show w :: W.drop (i + 1) = [w] ++ W.drop (i + 1) from rfl, lev_app, lev_1]
theorem lev_td (W : List eL) (i k : Nat) : lev (W.take i) k ++ lev (W.drop i) k = lev W k := by rw [← lev_app, List.take_append_drop]
theorem lev_end {W : List eL} {i k : Nat} (h : W.length ≤ i) : lev (W.drop i) k = [] := by rw [List.drop_eq_nil_of_le h]; rfl
/-- a byte, as it is kept -/
def sgb (n : Int) : Int := (Int32.ofInt n).toInt8.toInt32.toInt
def byS : List Int → List Int
  | [] => []
  | w :: t => sgb (w / 256) :: sgb w :: byS t
theorem byS_app : ∀ (A B : List Int), byS (A ++ B) = byS A ++ byS B
  | [], _ => rfl
  | w :: t, B => by show sgb (w / 256) :: sgb w :: byS (t ++ B) = _; rw [byS_app t]; rfl
theorem byS_len : ∀ (A : List Int), (byS A).length = 2 * A.length
  | [] => rfl
  | w :: t => by show (byS t).length + 1 + 1 = 2 * (t.length + 1); rw [byS_len t]; omega
theorem l2i_of {n : Int} (h0 : 0 ≤ n) (h1 : n ≤ 2147483647) : (Int64.ofInt n).toInt32.toInt = n := by
  rw [Int64.toInt32_ofInt]; exact dz_toInt_i (by omega) h1
theorem lsr8_of {v : Int} (h0 : 0 ≤ v) (h1 : v ≤ 65535) : lsr (Int64.ofInt v) 8 = Int64.ofInt (v / 256) := by
  apply uv_inj
  rw [uv_lsr8, uv_of h0 (by omega), uv_of (by omega) (by omega)]; omega
section EzKe
variable {d : Nat} {h : cz_H} {τ : Nat → Nat} {P Q : cz_F → Prop} {W V : List eL} {sh b sh2 b2 : Bool}
theorem i8_rd (n : Int) : dz_n (ez_v (.inl ((Int32.ofInt n).toInt8.toInt32.toInt))) = sgb n := rz_rd ⟨by have := (i8_bd (Int32.ofInt n)).1; omega, by have := (i8_bd (Int32.ofInt n)).2; omega⟩
theorem rd_wrW {a v : Int} (hB : ez_B τ h) (hX : jz_X τ) (a0 : 0 ≤ a) (a1 : a + 1 < 65536) (v0 : 0 ≤ v) (v1 : v ≤ 65535) (k : ∀ g, ez_B τ g → ez_fr (ez_one 194) h g → (∀ j, j ≠ a.toNat → j ≠ (a + 1).toNat → qz_I g 194 j = qz_I h 194 j) → qz_I g 194 a.toNat = sgb (v / 256) → qz_I g 194 (a + 1).toNat = sgb v → Q (.inl (some (ez_v (.inl ((a) + (2))))), g)) : ez_W d cm_93 0 [(0, .inr (.inr (some (194)))), (1, .inl (a)), (2, .inr (.inl (Int64.ofInt v)))] [] h Q := by
  have t194 : τ 194 = 46 := hX 194 (by decide)
  refine ez_go (n := 4) (pc' := 4) (L' := [(0, .inr (.inr (some (194)))), (1, .inl (a)), (2, .inr (.inl (Int64.ofInt v)))]) (st' := [.inr (.inr (some (194))), .inl ((a) + (1))]) rfl ?_
  refine ez_al hB t194 rfl tq_46 rfl (fun (b1 : 65536 ≤ qz_N h 194) (b1' : qz_N h 194 ≤ 65536) => ?_)
  refine ez_icmp rfl rfl ⟨by first | omega | exact (sz_i32 _).1, by first | omega | exact (sz_i32 _).2⟩ ⟨by first | omega | exact (sz_i32 _).1, by first | omega | exact (sz_i32 _).2⟩ (fun (c2 : (qz_N h 194) ≤ ((a) + (1))) => ?_) (fun (c2 : ¬((qz_N h 194) ≤ ((a) + (1)))) => ?_)
  · skip
    refine ez_go (n := 3) (pc' := 28) (L' := [(0, .inr (.inr (some (194)))), (1, .inl (a)), (2, .inr (.inl (Int64.ofInt v)))]) (st' := [.inl ((a) + (2))]) rfl ?_
    exfalso; omega
  · skip
    refine ez_go (n := 7) (pc' := 16) (L' := [(0, .inr (.inr (some (194)))), (1, .inl (a)), (2, .inr (.inl (Int64.ofInt v)))]) (st' := [.inl ((Int32.ofInt ((lsr (Int64.ofInt v) (8)).toInt32.toInt)).toInt8.toInt32.toInt), .inl (a), .inr (.inr (some (194)))]) rfl ?_
    have n5 : 65536 ≤ qz_N h 194 ∧ qz_N h 194 ≤ 65536 := ez_len hB t194 tq_46 rfl
    refine ez_ab hB t194 rfl tq_46 rfl rfl (by omega) (by omega) (by first | omega | exact (i8_bd _).1) (by first | omega | exact (i8_bd _).2) (fun hB3 w4 => ?_)
    refine ez_go (n := 7) (pc' := 24) (L' := [(0, .inr (.inr (some (194)))), (1, .inl (a)), (2, .inr (.inl (Int64.ofInt v)))]) (st' := [.inl ((Int32.ofInt ((Int64.ofInt v).toInt32.toInt)).toInt8.toInt32.toInt), .inl ((a) + (1)), .inr (.inr (some (194)))]) rfl ?_
    have n8 : 65536 ≤ qz_N (dz_put h 194 (a).toNat (ez_v (.inl ((Int32.ofInt ((lsr (Int64.ofInt v) (8)).toInt32.toInt)).toInt8.toInt32.toInt)))) 194 ∧ qz_N (dz_put h 194 (a).toNat (ez_v (.inl ((Int32.ofInt ((lsr (Int64.ofInt v) (8)).toInt32.toInt)).toInt8.toInt32.toInt)))) 194 ≤ 65536 := ez_len hB3 t194 tq_46 rfl
    refine ez_ab hB3 t194 rfl tq_46 rfl rfl (by omega) (by omega) (by first | omega | exact (i8_bd _).1) (by first | omega | exact (i8_bd _).2) (fun hB6 w7 => ?_)
    refine ez_go (n := 3) (pc' := 28) (L' := [(0, .inr (.inr (some (194)))), (1, .inl (a)), (2, .inr (.inl (Int64.ofInt v)))]) (st' := [.inl ((a) + (2))]) rfl ?_
    have e1 : ∀ q j, ¬ (q = 194 ∧ j = (a).toNat) → ¬ (q = 194 ∧ j = ((a) + (1)).toNat) → qz_I (dz_put (dz_put h 194 (a).toNat (ez_v (.inl ((Int32.ofInt ((lsr (Int64.ofInt v) (8)).toInt32.toInt)).toInt8.toInt32.toInt)))) 194 ((a) + (1)).toNat (ez_v (.inl ((Int32.ofInt ((Int64.ofInt v).toInt32.toInt)).toInt8.toInt32.toInt)))) q j = qz_I h q j := fun q j x y => (ez_put_I y).trans (ez_put_I x)
    have va : qz_I (dz_put (dz_put h 194 (a).toNat (ez_v (.inl ((Int32.ofInt ((lsr (Int64.ofInt v) (8)).toInt32.toInt)).toInt8.toInt32.toInt)))) 194 ((a) + (1)).toNat (ez_v (.inl ((Int32.ofInt ((Int64.ofInt v).toInt32.toInt)).toInt8.toInt32.toInt)))) 194 (a).toNat = sgb (v / 256) := (ez_put_I (fun y => by omega)).trans (w4.trans (by rw [lsr8_of v0 v1, l2i_of (by omega) (by omega)]; exact i8_rd _))
    have vb : qz_I (dz_put (dz_put h 194 (a).toNat (ez_v (.inl ((Int32.ofInt ((lsr (Int64.ofInt v) (8)).toInt32.toInt)).toInt8.toInt32.toInt)))) 194 ((a) + (1)).toNat (ez_v (.inl ((Int32.ofInt ((Int64.ofInt v).toInt32.toInt)).toInt8.toInt32.toInt)))) 194 ((a) + (1)).toNat = sgb v := w7.trans (by rw [l2i_of (by omega) (by omega)]; exact i8_rd _)
    exact ez_retI rfl rfl (k _ hB6 (((ez_fr.refl (ez_one 194) h).put rfl _ _).put rfl _ _) (fun j x y => e1 194 j (fun q => x q.2) (fun q => y q.2)) va (by rw [show (a + 1).toNat = ((a) + (1)).toNat from rfl]; exact vb))

theorem rd_kli_l {lv lvs base : Int} (hB : ez_B τ h) (hX : jz_X τ) (cl : clr h 744) (cs : cts h 744 sh b W) (W9 : wps W) (W2 : W.length ≤ 36000) (lv0 : 0 ≤ lv) (lv3 : lv ≤ 3) (kx : ez_W (d + 1) cm_81 49 [(3, .inl (lv)), (2, .inl (base + ((lev W lv.toNat).length : Int))), (0, .inr (.inr (some (744)))), (1, .inl (lvs))] [] h Q) : ∀ (n : Nat) (i acc : Int), n = ((W.length : Int) - i).toNat → 0 ≤ i → i ≤ (W.length : Int) → (0 ≤ base ∧ base ≤ 200000) → acc = base + ((lev (W.take i.toNat) lv.toNat).length : Int) → ez_W (d + 1) cm_81 14 [(4, .inl (i)), (3, .inl (lv)), (2, .inl (acc)), (0, .inr (.inr (some (744)))), (1, .inl (lvs))] [] h Q := by
  have tc : τ 744 = 10 := hX 744 (by decide)
  have lb : ∀ i : Nat, (lev (W.take i) lv.toNat).length ≤ W.length := fun i => by unfold lev; refine Nat.le_trans (List.length_filter_le _ _) ?_; rw [List.length_map, List.length_take]; omega
  intro n
  induction n with
  | zero =>
    intro i acc hn0 i0 i1 bb hA
    have lbi := lb i.toNat
    refine ez_go (n := 2) (pc' := 17) (L' := [(4, .inl (i)), (3, .inl (lv)), (2, .inl (acc)), (0, .inr (.inr (some (744)))), (1, .inl (lvs))]) (st' := [.inr (.inr (some (744))), .inl (i)]) rfl ?_
    refine ez_gI hB tc rfl rfl tq_10 rfl rfl (fun (b1 : 0 ≤ qz_I h 744 5) (b1' : qz_I h 744 5 ≤ 36000) => ?_)
    rw [cs.1.1]
    refine ez_icmp rfl rfl ⟨by first | omega | exact (sz_i32 _).1, by first | omega | exact (sz_i32 _).2⟩ ⟨by first | omega | exact (sz_i32 _).1, by first | omega | exact (sz_i32 _).2⟩ (fun (c2 : ((W.length : Int)) ≤ (i)) => ?_) (fun (c2 : ¬(((W.length : Int)) ≤ (i))) => ?_)
    · skip
      refine ez_less [(3, .inl (lv)), (2, .inl (acc)), (0, .inr (.inr (some (744)))), (1, .inl (lvs))] rfl ⟨rfl, rfl, rfl, rfl, trivial⟩ ?_
      have ea : acc = base + ((lev W lv.toNat).length : Int) := by rw [hA, List.take_of_length_le (by omega)]
      rw [ea]; exact kx
    · exfalso; omega
  | succ n ih =>
    intro i acc hn0 i0 i1 bb hA
    have lbi := lb i.toNat
    refine ez_go (n := 2) (pc' := 17) (L' := [(4, .inl (i)), (3, .inl (lv)), (2, .inl (acc)), (0, .inr (.inr (some (744)))), (1, .inl (lvs))]) (st' := [.inr (.inr (some (744))), .inl (i)]) rfl ?_
    refine ez_gI hB tc rfl rfl tq_10 rfl rfl (fun (b1 : 0 ≤ qz_I h 744 5) (b1' : qz_I h 744 5 ≤ 36000) => ?_)
    rw [cs.1.1]
    refine ez_icmp rfl rfl ⟨by first | omega | exact (sz_i32 _).1, by first | omega | exact (sz_i32 _).2⟩ ⟨by first | omega | exact (sz_i32 _).1, by first | omega | exact (sz_i32 _).2⟩ (fun (c2 : ((W.length : Int)) ≤ (i)) => ?_) (fun (c2 : ¬(((W.length : Int)) ≤ (i))) => ?_)
    · skip
      refine ez_less [(3, .inl (lv)), (2, .inl (acc)), (0, .inr (.inr (some (744)))), (1, .inl (lvs))] rfl ⟨rfl, rfl, rfl, rfl, trivial⟩ ?_
      have ea : acc = base + ((lev W lv.toNat).length : Int) := by rw [hA, List.take_of_length_le (by omega)]
      rw [ea]; exact kx
    · skip
      refine ez_go (n := 4) (pc' := 28) (L' := [(4, .inl (i)), (3, .inl (lv)), (2, .inl (acc)), (0, .inr (.inr (some (744)))), (1, .inl (lvs))]) (st' := [.inl (lv), .inl (i), .inr (.inr (some (744))), .inl (acc)]) rfl ?_
      have l9 : (i).toNat < W.length := by omega
      have hw := List.getElem?_eq_getElem l9
      have wb := wk_bd (W9 _ (List.getElem_mem l9)) (lv).toNat
      refine ez_cv hB tc rfl rfl rfl tq_10 rfl rfl rfl (rd_wgt_l hB hX cl cs W9 W2 (by omega) hw (by omega) (by omega) (ez_KL ?_))
      have z9 := of_z (a := wk W[(i).toNat] (lv).toNat) (by omega) (by omega)
      refine ez_go (n := 2) (pc' := 33) (L' := [(4, .inl (i)), (3, .inl (lv)), (2, .inl (acc)), (0, .inr (.inr (some (744)))), (1, .inl (lvs))]) (st' := [.inl ((lg_cmp (Int64.ofInt (wk W[(i).toNat] (lv).toNat)) (Int64.ofInt (0 : Nat))).toInt), .inl (acc)]) rfl ?_
      refine ez_if rfl rfl ⟨by first | omega | exact (sz_i32 _).1, by first | omega | exact (sz_i32 _).2⟩ (fun (c3 : ((lg_cmp (Int64.ofInt (wk W[(i).toNat] (lv).toNat)) (Int64.ofInt (0 : Nat))).toInt) = (0)) => ?_) (fun (c3 : ¬(((lg_cmp (Int64.ofInt (wk W[(i).toNat] (lv).toNat)) (Int64.ofInt (0 : Nat))).toInt) = (0))) => ?_)
      · skip
        refine ez_go (n := 5) (pc' := 14) (L' := [(4, .inl (i + 1)), (2, .inl ((acc) + (0))), (3, .inl (lv)), (0, .inr (.inr (some (744)))), (1, .inl (lvs))]) (st' := []) rfl ?_
        refine ez_less [(4, .inl (i + 1)), (3, .inl (lv)), (2, .inl ((acc) + (0))), (0, .inr (.inr (some (744)))), (1, .inl (lvs))] rfl ⟨rfl, rfl, rfl, rfl, rfl, trivial⟩ ?_
        refine ih (i + 1) _ (by omega) (by omega) (by omega) (by omega) ?_
        rw [show (i + 1).toNat = i.toNat + 1 by omega, lev_tk hw, List.length_append]
        first | (rw [if_neg (by omega)]; show _ = base + ((_ + 1 : Nat) : Int); omega) | (rw [if_pos (by omega)]; show _ = base + ((_ + 0 : Nat) : Int); omega)
      · skip
        refine ez_go (n := 6) (pc' := 14) (L' := [(4, .inl (i + 1)), (2, .inl ((acc) + (1))), (3, .inl (lv)), (0, .inr (.inr (some (744)))), (1, .inl (lvs))]) (st' := []) rfl ?_
        refine ez_less [(4, .inl (i + 1)), (3, .inl (lv)), (2, .inl ((acc) + (1))), (0, .inr (.inr (some (744)))), (1, .inl (lvs))] rfl ⟨rfl, rfl, rfl, rfl, rfl, trivial⟩ ?_
        refine ih (i + 1) _ (by omega) (by omega) (by omega) (by omega) ?_
        rw [show (i + 1).toNat = i.toNat + 1 by omega, lev_tk hw, List.length_append]
        first | (rw [if_neg (by omega)]; show _ = base + ((_ + 1 : Nat) : Int); omega) | (rw [if_pos (by omega)]; show _ = base + ((_ + 0 : Nat) : Int); omega)

theorem rd_klo_l {lvs : Int} (hB : ez_B τ h) (hX : jz_X τ) (cl : clr h 744) (cs : cts h 744 sh b W) (W9 : wps W) (W2 : W.length ≤ 36000) (l1 : 1 ≤ lvs) (l4 : lvs ≤ 4) (k : Q (.inl (some (ez_v (.inl (2 * ((KY W lvs.toNat).length : Int))))), h)) : ∀ (n : Nat) (lv acc : Int), n = (lvs - lv).toNat → 0 ≤ lv → lv ≤ lvs → acc = lvs - 1 + (lsum W lv.toNat : Int) → ez_W (d + 1) cm_81 6 [(3, .inl (lv)), (2, .inl (acc)), (0, .inr (.inr (some (744)))), (1, .inl (lvs))] [] h Q := by
  have tc : τ 744 = 10 := hX 744 (by decide)
  have ls : ∀ n : Nat, lsum W n ≤ n * W.length := fun n => by
    induction n with
    | zero => exact Nat.zero_le _
    | succ n ih =>
      have : (lev W n).length ≤ W.length := by unfold lev; refine Nat.le_trans (List.length_filter_le _ _) ?_; rw [List.length_map]; exact Nat.le_refl _
      show lsum W n + (lev W n).length ≤ (n + 1) * W.length
      rw [Nat.add_mul]; omega
  intro n
  induction n with
  | zero =>
    intro lv acc hn0 v0 v1 hA
    have lsi : lsum W lv.toNat ≤ 4 * W.length := Nat.le_trans (ls _) (Nat.mul_le_mul_right _ (by omega))
    refine ez_go (n := 2) (pc' := 8) (L' := [(3, .inl (lv)), (2, .inl (acc)), (0, .inr (.inr (some (744)))), (1, .inl (lvs))]) (st' := [.inl (lvs), .inl (lv)]) rfl ?_
    refine ez_icmp rfl rfl ⟨by first | omega | exact (sz_i32 _).1, by first | omega | exact (sz_i32 _).2⟩ ⟨by first | omega | exact (sz_i32 _).1, by first | omega | exact (sz_i32 _).2⟩ (fun (c1 : (lvs) ≤ (lv)) => ?_) (fun (c1 : ¬((lvs) ≤ (lv))) => ?_)
    · skip
      refine ez_go (n := 3) (pc' := 58) (L' := [(3, .inl (lv)), (2, .inl (acc)), (0, .inr (.inr (some (744)))), (1, .inl (lvs))]) (st' := [.inl ((2) * (acc))]) rfl ?_
      have el : lv = lvs := by omega
      subst el
      have kl := KY_len W (lv.toNat - 1)
      rw [show lv.toNat - 1 + 1 = lv.toNat by omega] at kl
      rw [show (2) * (acc) = 2 * ((KY W lv.toNat).length : Int) by omega]
      exact ez_retI rfl rfl k
    · exfalso; omega
  | succ n ih =>
    intro lv acc hn0 v0 v1 hA
    have lsi : lsum W lv.toNat ≤ 4 * W.length := Nat.le_trans (ls _) (Nat.mul_le_mul_right _ (by omega))
    have lwi : (lev W lv.toNat).length ≤ W.length := by unfold lev; refine Nat.le_trans (List.length_filter_le _ _) ?_; rw [List.length_map]; exact Nat.le_refl _
    refine ez_go (n := 2) (pc' := 8) (L' := [(3, .inl (lv)), (2, .inl (acc)), (0, .inr (.inr (some (744)))), (1, .inl (lvs))]) (st' := [.inl (lvs), .inl (lv)]) rfl ?_
    refine ez_icmp rfl rfl ⟨by first | omega | exact (sz_i32 _).1, by first | omega | exact (sz_i32 _).2⟩ ⟨by first | omega | exact (sz_i32 _).1, by first | omega | exact (sz_i32 _).2⟩ (fun (c1 : (lvs) ≤ (lv)) => ?_) (fun (c1 : ¬((lvs) ≤ (lv))) => ?_)
    · skip
      refine ez_go (n := 3) (pc' := 58) (L' := [(3, .inl (lv)), (2, .inl (acc)), (0, .inr (.inr (some (744)))), (1, .inl (lvs))]) (st' := [.inl ((2) * (acc))]) rfl ?_
      have el : lv = lvs := by omega
      subst el
      have kl := KY_len W (lv.toNat - 1)
      rw [show lv.toNat - 1 + 1 = lv.toNat by omega] at kl
      rw [show (2) * (acc) = 2 * ((KY W lv.toNat).length : Int) by omega]
      exact ez_retI rfl rfl k
    · skip
      refine ez_go (n := 2) (pc' := 14) (L' := [(4, .inl (0)), (3, .inl (lv)), (2, .inl (acc)), (0, .inr (.inr (some (744)))), (1, .inl (lvs))]) (st' := []) rfl ?_
      refine ez_less [(4, .inl (0)), (3, .inl (lv)), (2, .inl (acc)), (0, .inr (.inr (some (744)))), (1, .inl (lvs))] rfl ⟨rfl, rfl, rfl, rfl, rfl, trivial⟩ ?_
      refine rd_kli_l (base := acc) hB hX cl cs W9 W2 (by omega) (by omega) ?_ _ 0 acc rfl (by omega) (by omega) (by omega) (by show acc = acc + ((0 : Nat) : Int); omega)
      refine ez_go (n := 2) (pc' := 6) (L' := [(3, .inl (lv + 1)), (2, .inl (acc + ((lev W lv.toNat).length : Int))), (0, .inr (.inr (some (744)))), (1, .inl (lvs))]) (st' := []) rfl ?_
      refine ez_less [(3, .inl (lv + 1)), (2, .inl (acc + ((lev W lv.toNat).length : Int))), (0, .inr (.inr (some (744)))), (1, .inl (lvs))] rfl ⟨rfl, rfl, rfl, rfl, trivial⟩ ?_
      refine ih (lv + 1) _ (by omega) (by omega) (by omega) ?_
      rw [hA, show (lv + 1).toNat = lv.toNat + 1 by omega]; show _ = lvs - 1 + ((lsum W lv.toNat + (lev W lv.toNat).length : Nat) : Int); omega

theorem rd_keyLen_l {lvs : Int} (hB : ez_B τ h) (hX : jz_X τ) (cl : clr h 744) (cs : cts h 744 sh b W) (W9 : wps W) (W2 : W.length ≤ 36000) (l1 : 1 ≤ lvs) (l4 : lvs ≤ 4) (k : Q (.inl (some (ez_v (.inl (2 * ((KY W lvs.toNat).length : Int))))), h)) : ez_W (d + 1) cm_81 0 [(0, .inr (.inr (some (744)))), (1, .inl (lvs))] [] h Q := by
  have tc : τ 744 = 10 := hX 744 (by decide)
  refine ez_go (n := 6) (pc' := 6) (L' := [(3, .inl (0)), (2, .inl ((lvs) - (1))), (0, .inr (.inr (some (744)))), (1, .inl (lvs))]) (st' := []) rfl ?_
  refine ez_less [(3, .inl (0)), (2, .inl ((lvs) - (1))), (0, .inr (.inr (some (744)))), (1, .inl (lvs))] rfl ⟨rfl, rfl, rfl, rfl, trivial⟩ ?_
  exact rd_klo_l hB hX cl cs W9 W2 l1 l4 k _ 0 _ rfl (by omega) (by omega) (by show _ = lvs - 1 + ((0 : Nat) : Int); omega)

theorem rd_skz_ll {f lv : Int} (hB : ez_B τ h) (hX : jz_X τ) (cl : clr h 744) (cs : cts h 744 sh b W) (W9 : wps W) (W2 : W.length ≤ 36000) (f0 : 0 ≤ f) (f1 : f ≤ 36001) (lv0 : 0 ≤ lv) (lv3 : lv ≤ 3) (k : ∀ i : Int, f ≤ i → i ≤ (W.length : Int) ∨ i = f → lev (W.drop f.toNat) lv.toNat = lev (W.drop i.toNat) lv.toNat → ((W.length : Int) ≤ i ∨ ∃ w, W[i.toNat]? = some w ∧ wk w lv.toNat ≠ 0) → Q (.inl (some (ez_v (.inl i))), h)) : ∀ (n : Nat) (i : Int), n = ((W.length : Int) - i).toNat → f ≤ i → (i ≤ (W.length : Int) ∨ i = f) → lev (W.drop f.toNat) lv.toNat = lev (W.drop i.toNat) lv.toNat → ez_W (d + 1) cm_89 2 [(3, .inl (i)), (0, .inr (.inr (some (744)))), (1, .inl (f)), (2, .inl (lv))] [] h Q := by
  have tc : τ 744 = 10 := hX 744 (by decide)
  intro n
  induction n with
  | zero =>
    intro i hn0 i0 i1 hE
    refine ez_go (n := 2) (pc' := 4) (L' := [(3, .inl (i)), (0, .inr (.inr (some (744)))), (1, .inl (f)), (2, .inl (lv))]) (st' := [.inr (.inr (some (744))), .inl (i)]) rfl ?_
    refine ez_gI hB tc rfl rfl tq_10 rfl rfl (fun (b1 : 0 ≤ qz_I h 744 5) (b1' : qz_I h 744 5 ≤ 36000) => ?_)
    rw [cs.1.1]
    refine ez_icmp rfl rfl ⟨by first | omega | exact (sz_i32 _).1, by first | omega | exact (sz_i32 _).2⟩ ⟨by first | omega | exact (sz_i32 _).1, by first | omega | exact (sz_i32 _).2⟩ (fun (c2 : ((W.length : Int)) ≤ (i)) => ?_) (fun (c2 : ¬(((W.length : Int)) ≤ (i))) => ?_)
    · skip
      refine ez_go (n := 1) (pc' := 28) (L' := [(3, .inl (i)), (0, .inr (.inr (some (744)))), (1, .inl (f)), (2, .inl (lv))]) (st' := [.inl (i)]) rfl ?_
      exact ez_retI rfl rfl (k i (by omega) (by omega) hE (by first | exact Or.inl (by omega) | exact Or.inr ⟨_, hw, by omega⟩))
    · exfalso; omega
  | succ n ih =>
    intro i hn0 i0 i1 hE
    refine ez_go (n := 2) (pc' := 4) (L' := [(3, .inl (i)), (0, .inr (.inr (some (744)))), (1, .inl (f)), (2, .inl (lv))]) (st' := [.inr (.inr (some (744))), .inl (i)]) rfl ?_
    refine ez_gI hB tc rfl rfl tq_10 rfl rfl (fun (b1 : 0 ≤ qz_I h 744 5) (b1' : qz_I h 744 5 ≤ 36000) => ?_)
    rw [cs.1.1]
    refine ez_icmp rfl rfl ⟨by first | omega | exact (sz_i32 _).1, by first | omega | exact (sz_i32 _).2⟩ ⟨by first | omega | exact (sz_i32 _).1, by first | omega | exact (sz_i32 _).2⟩ (fun (c2 : ((W.length : Int)) ≤ (i)) => ?_) (fun (c2 : ¬(((W.length : Int)) ≤ (i))) => ?_)
    · skip
      refine ez_go (n := 1) (pc' := 28) (L' := [(3, .inl (i)), (0, .inr (.inr (some (744)))), (1, .inl (f)), (2, .inl (lv))]) (st' := [.inl (i)]) rfl ?_
      exact ez_retI rfl rfl (k i (by omega) (by omega) hE (by first | exact Or.inl (by omega) | exact Or.inr ⟨_, hw, by omega⟩))
    · skip
      refine ez_go (n := 3) (pc' := 13) (L' := [(3, .inl (i)), (0, .inr (.inr (some (744)))), (1, .inl (f)), (2, .inl (lv))]) (st' := [.inl (lv), .inl (i), .inr (.inr (some (744)))]) rfl ?_
      have l9 : (i).toNat < W.length := by omega
      have hw := List.getElem?_eq_getElem l9
      have wb := wk_bd (W9 _ (List.getElem_mem l9)) (lv).toNat
      refine ez_cv hB tc rfl rfl rfl tq_10 rfl rfl rfl (rd_wgt_l hB hX cl cs W9 W2 (by omega) hw (by omega) (by omega) (ez_KL ?_))
      have z9 := of_z (a := wk W[(i).toNat] (lv).toNat) (by omega) (by omega)
      refine ez_go (n := 2) (pc' := 18) (L' := [(3, .inl (i)), (0, .inr (.inr (some (744)))), (1, .inl (f)), (2, .inl (lv))]) (st' := [.inl ((lg_cmp (Int64.ofInt (wk W[(i).toNat] (lv).toNat)) (Int64.ofInt (0 : Nat))).toInt)]) rfl ?_
      refine ez_if rfl rfl ⟨by first | omega | exact (sz_i32 _).1, by first | omega | exact (sz_i32 _).2⟩ (fun (c3 : ((lg_cmp (Int64.ofInt (wk W[(i).toNat] (lv).toNat)) (Int64.ofInt (0 : Nat))).toInt) ≠ (0)) => ?_) (fun (c3 : ¬(((lg_cmp (Int64.ofInt (wk W[(i).toNat] (lv).toNat)) (Int64.ofInt (0 : Nat))).toInt) ≠ (0))) => ?_)
      · skip
        refine ez_go (n := 1) (pc' := 28) (L' := [(3, .inl (i)), (0, .inr (.inr (some (744)))), (1, .inl (f)), (2, .inl (lv))]) (st' := [.inl (i)]) rfl ?_
        exact ez_retI rfl rfl (k i (by omega) (by omega) hE (by first | exact Or.inl (by omega) | exact Or.inr ⟨_, hw, by omega⟩))
      · skip
        refine ez_go (n := 2) (pc' := 2) (L' := [(3, .inl (i + 1)), (0, .inr (.inr (some (744)))), (1, .inl (f)), (2, .inl (lv))]) (st' := []) rfl ?_
        refine ez_less [(3, .inl (i + 1)), (0, .inr (.inr (some (744)))), (1, .inl (f)), (2, .inl (lv))] rfl ⟨rfl, rfl, rfl, rfl, trivial⟩ ?_
        refine ih (i + 1) (by omega) (by omega) (by omega) ?_
        rw [hE, lev_dr hw, if_pos (by omega), show (i + 1).toNat = i.toNat + 1 by omega]; rfl

theorem rd_skz_l {f lv : Int} (hB : ez_B τ h) (hX : jz_X τ) (cl : clr h 744) (cs : cts h 744 sh b W) (W9 : wps W) (W2 : W.length ≤ 36000) (f0 : 0 ≤ f) (f1 : f ≤ 36001) (lv0 : 0 ≤ lv) (lv3 : lv ≤ 3) (k : ∀ i : Int, f ≤ i → i ≤ (W.length : Int) ∨ i = f → lev (W.drop f.toNat) lv.toNat = lev (W.drop i.toNat) lv.toNat → ((W.length : Int) ≤ i ∨ ∃ w, W[i.toNat]? = some w ∧ wk w lv.toNat ≠ 0) → Q (.inl (some (ez_v (.inl i))), h)) : ez_W (d + 1) cm_89 0 [(0, .inr (.inr (some (744)))), (1, .inl (f)), (2, .inl (lv))] [] h Q := by
  have tc : τ 744 = 10 := hX 744 (by decide)
  refine ez_go (n := 2) (pc' := 2) (L' := [(3, .inl (f)), (0, .inr (.inr (some (744)))), (1, .inl (f)), (2, .inl (lv))]) (st' := []) rfl ?_
  refine ez_less [(3, .inl (f)), (0, .inr (.inr (some (744)))), (1, .inl (f)), (2, .inl (lv))] rfl ⟨rfl, rfl, rfl, rfl, trivial⟩ ?_
  exact rd_skz_ll hB hX cl cs W9 W2 f0 f1 lv0 lv3 k _ f rfl (by omega) (Or.inr rfl) rfl

theorem rd_kli_r {lv lvs base : Int} (hB : ez_B τ h) (hX : jz_X τ) (cl : clr h 749) (cs : cts h 749 sh b W) (W9 : wps W) (W2 : W.length ≤ 36000) (lv0 : 0 ≤ lv) (lv3 : lv ≤ 3) (kx : ez_W (d + 1) cm_81 49 [(3, .inl (lv)), (2, .inl (base + ((lev W lv.toNat).length : Int))), (0, .inr (.inr (some (749)))), (1, .inl (lvs))] [] h Q) : ∀ (n : Nat) (i acc : Int), n = ((W.length : Int) - i).toNat → 0 ≤ i → i ≤ (W.length : Int) → (0 ≤ base ∧ base ≤ 200000) → acc = base + ((lev (W.take i.toNat) lv.toNat).length : Int) → ez_W (d + 1) cm_81 14 [(4, .inl (i)), (3, .inl (lv)), (2, .inl (acc)), (0, .inr (.inr (some (749)))), (1, .inl (lvs))] [] h Q := by
  have tc : τ 749 = 10 := hX 749 (by decide)
  have lb : ∀ i : Nat, (lev (W.take i) lv.toNat).length ≤ W.length := fun i => by unfold lev; refine Nat.le_trans (List.length_filter_le _ _) ?_; rw [List.length_map, List.length_take]; omega
  intro n
  induction n with
  | zero =>
    intro i acc hn0 i0 i1 bb hA
    have lbi := lb i.toNat
    refine ez_go (n := 2) (pc' := 17) (L' := [(4, .inl (i)), (3, .inl (lv)), (2, .inl (acc)), (0, .inr (.inr (some (749)))), (1, .inl (lvs))]) (st' := [.inr (.inr (some (749))), .inl (i)]) rfl ?_
    refine ez_gI hB tc rfl rfl tq_10 rfl rfl (fun (b1 : 0 ≤ qz_I h 749 5) (b1' : qz_I h 749 5 ≤ 36000) => ?_)
    rw [cs.1.1]
    refine ez_icmp rfl rfl ⟨by first | omega | exact (sz_i32 _).1, by first | omega | exact (sz_i32 _).2⟩ ⟨by first | omega | exact (sz_i32 _).1, by first | omega | exact (sz_i32 _).2⟩ (fun (c2 : ((W.length : Int)) ≤ (i)) => ?_) (fun (c2 : ¬(((W.length : Int)) ≤ (i))) => ?_)
    · skip
      refine ez_less [(3, .inl (lv)), (2, .inl (acc)), (0, .inr (.inr (some (749)))), (1, .inl (lvs))] rfl ⟨rfl, rfl, rfl, rfl, trivial⟩ ?_
      have ea : acc = base + ((lev W lv.toNat).length : Int) := by rw [hA, List.take_of_length_le (by omega)]
      rw [ea]; exact kx
    · exfalso; omega
  | succ n ih =>
    intro i acc hn0 i0 i1 bb hA
    have lbi := lb i.toNat
    refine ez_go (n := 2) (pc' := 17) (L' := [(4, .inl (i)), (3, .inl (lv)), (2, .inl (acc)), (0, .inr (.inr (some (749)))), (1, .inl (lvs))]) (st' := [.inr (.inr (some (749))), .inl (i)]) rfl ?_
    refine ez_gI hB tc rfl rfl tq_10 rfl rfl (fun (b1 : 0 ≤ qz_I h 749 5) (b1' : qz_I h 749 5 ≤ 36000) => ?_)
    rw [cs.1.1]
    refine ez_icmp rfl rfl ⟨by first | omega | exact (sz_i32 _).1, by first | omega | exact (sz_i32 _).2⟩ ⟨by first | omega | exact (sz_i32 _).1, by first | omega | exact (sz_i32 _).2⟩ (fun (c2 : ((W.length : Int)) ≤ (i)) => ?_) (fun (c2 : ¬(((W.length : Int)) ≤ (i))) => ?_)
    · skip
      refine ez_less [(3, .inl (lv)), (2, .inl (acc)), (0, .inr (.inr (some (749)))), (1, .inl (lvs))] rfl ⟨rfl, rfl, rfl, rfl, trivial⟩ ?_
      have ea : acc = base + ((lev W lv.toNat).length : Int) := by rw [hA, List.take_of_length_le (by omega)]
      rw [ea]; exact kx
    · skip
      refine ez_go (n := 4) (pc' := 28) (L' := [(4, .inl (i)), (3, .inl (lv)), (2, .inl (acc)), (0, .inr (.inr (some (749)))), (1, .inl (lvs))]) (st' := [.inl (lv), .inl (i), .inr (.inr (some (749))), .inl (acc)]) rfl ?_
      have l9 : (i).toNat < W.length := by omega
      have hw := List.getElem?_eq_getElem l9
      have wb := wk_bd (W9 _ (List.getElem_mem l9)) (lv).toNat
      refine ez_cv hB tc rfl rfl rfl tq_10 rfl rfl rfl (rd_wgt_r hB hX cl cs W9 W2 (by omega) hw (by omega) (by omega) (ez_KL ?_))
      have z9 := of_z (a := wk W[(i).toNat] (lv).toNat) (by omega) (by omega)
      refine ez_go (n := 2) (pc' := 33) (L' := [(4, .inl (i)), (3, .inl (lv)), (2, .inl (acc)), (0, .inr (.inr (some (749)))), (1, .inl (lvs))]) (st' := [.inl ((lg_cmp (Int64.ofInt (wk W[(i).toNat] (lv).toNat)) (Int64.ofInt (0 : Nat))).toInt), .inl (acc)]) rfl ?_
      refine ez_if rfl rfl ⟨by first | omega | exact (sz_i32 _).1, by first | omega | exact (sz_i32 _).2⟩ (fun (c3 : ((lg_cmp (Int64.ofInt (wk W[(i).toNat] (lv).toNat)) (Int64.ofInt (0 : Nat))).toInt) = (0)) => ?_) (fun (c3 : ¬(((lg_cmp (Int64.ofInt (wk W[(i).toNat] (lv).toNat)) (Int64.ofInt (0 : Nat))).toInt) = (0))) => ?_)
      · skip
        refine ez_go (n := 5) (pc' := 14) (L' := [(4, .inl (i + 1)), (2, .inl ((acc) + (0))), (3, .inl (lv)), (0, .inr (.inr (some (749)))), (1, .inl (lvs))]) (st' := []) rfl ?_
        refine ez_less [(4, .inl (i + 1)), (3, .inl (lv)), (2, .inl ((acc) + (0))), (0, .inr (.inr (some (749)))), (1, .inl (lvs))] rfl ⟨rfl, rfl, rfl, rfl, rfl, trivial⟩ ?_
        refine ih (i + 1) _ (by omega) (by omega) (by omega) (by omega) ?_
        rw [show (i + 1).toNat = i.toNat + 1 by omega, lev_tk hw, List.length_append]
        first | (rw [if_neg (by omega)]; show _ = base + ((_ + 1 : Nat) : Int); omega) | (rw [if_pos (by omega)]; show _ = base + ((_ + 0 : Nat) : Int); omega)
      · skip
        refine ez_go (n := 6) (pc' := 14) (L' := [(4, .inl (i + 1)), (2, .inl ((acc) + (1))), (3, .inl (lv)), (0, .inr (.inr (some (749)))), (1, .inl (lvs))]) (st' := []) rfl ?_
        refine ez_less [(4, .inl (i + 1)), (3, .inl (lv)), (2, .inl ((acc) + (1))), (0, .inr (.inr (some (749)))), (1, .inl (lvs))] rfl ⟨rfl, rfl, rfl, rfl, rfl, trivial⟩ ?_
        refine ih (i + 1) _ (by omega) (by omega) (by omega) (by omega) ?_
        rw [show (i + 1).toNat = i.toNat + 1 by omega, lev_tk hw, List.length_append]
        first | (rw [if_neg (by omega)]; show _ = base + ((_ + 1 : Nat) : Int); omega) | (rw [if_pos (by omega)]; show _ = base + ((_ + 0 : Nat) : Int); omega)

theorem rd_klo_r {lvs : Int} (hB : ez_B τ h) (hX : jz_X τ) (cl : clr h 749) (cs : cts h 749 sh b W) (W9 : wps W) (W2 : W.length ≤ 36000) (l1 : 1 ≤ lvs) (l4 : lvs ≤ 4) (k : Q (.inl (some (ez_v (.inl (2 * ((KY W lvs.toNat).length : Int))))), h)) : ∀ (n : Nat) (lv acc : Int), n = (lvs - lv).toNat → 0 ≤ lv → lv ≤ lvs → acc = lvs - 1 + (lsum W lv.toNat : Int) → ez_W (d + 1) cm_81 6 [(3, .inl (lv)), (2, .inl (acc)), (0, .inr (.inr (some (749)))), (1, .inl (lvs))] [] h Q := by
  have tc : τ 749 = 10 := hX 749 (by decide)
  have ls : ∀ n : Nat, lsum W n ≤ n * W.length := fun n => by
    induction n with
    | zero => exact Nat.zero_le _
    | succ n ih =>
      have : (lev W n).length ≤ W.length := by unfold lev; refine Nat.le_trans (List.length_filter_le _ _) ?_; rw [List.length_map]; exact Nat.le_refl _
      show lsum W n + (lev W n).length ≤ (n + 1) * W.length
      rw [Nat.add_mul]; omega
  intro n
  induction n with
  | zero =>
    intro lv acc hn0 v0 v1 hA
    have lsi : lsum W lv.toNat ≤ 4 * W.length := Nat.le_trans (ls _) (Nat.mul_le_mul_right _ (by omega))
    refine ez_go (n := 2) (pc' := 8) (L' := [(3, .inl (lv)), (2, .inl (acc)), (0, .inr (.inr (some (749)))), (1, .inl (lvs))]) (st' := [.inl (lvs), .inl (lv)]) rfl ?_
    refine ez_icmp rfl rfl ⟨by first | omega | exact (sz_i32 _).1, by first | omega | exact (sz_i32 _).2⟩ ⟨by first | omega | exact (sz_i32 _).1, by first | omega | exact (sz_i32 _).2⟩ (fun (c1 : (lvs) ≤ (lv)) => ?_) (fun (c1 : ¬((lvs) ≤ (lv))) => ?_)
    · skip
      refine ez_go (n := 3) (pc' := 58) (L' := [(3, .inl (lv)), (2, .inl (acc)), (0, .inr (.inr (some (749)))), (1, .inl (lvs))]) (st' := [.inl ((2) * (acc))]) rfl ?_
      have el : lv = lvs := by omega
      subst el
      have kl := KY_len W (lv.toNat - 1)
      rw [show lv.toNat - 1 + 1 = lv.toNat by omega] at kl
      rw [show (2) * (acc) = 2 * ((KY W lv.toNat).length : Int) by omega]
      exact ez_retI rfl rfl k
    · exfalso; omega
  | succ n ih =>
    intro lv acc hn0 v0 v1 hA
    have lsi : lsum W lv.toNat ≤ 4 * W.length := Nat.le_trans (ls _) (Nat.mul_le_mul_right _ (by omega))
    have lwi : (lev W lv.toNat).length ≤ W.length := by unfold lev; refine Nat.le_trans (List.length_filter_le _ _) ?_; rw [List.length_map]; exact Nat.le_refl _
    refine ez_go (n := 2) (pc' := 8) (L' := [(3, .inl (lv)), (2, .inl (acc)), (0, .inr (.inr (some (749)))), (1, .inl (lvs))]) (st' := [.inl (lvs), .inl (lv)]) rfl ?_
    refine ez_icmp rfl rfl ⟨by first | omega | exact (sz_i32 _).1, by first | omega | exact (sz_i32 _).2⟩ ⟨by first | omega | exact (sz_i32 _).1, by first | omega | exact (sz_i32 _).2⟩ (fun (c1 : (lvs) ≤ (lv)) => ?_) (fun (c1 : ¬((lvs) ≤ (lv))) => ?_)
    · skip
      refine ez_go (n := 3) (pc' := 58) (L' := [(3, .inl (lv)), (2, .inl (acc)), (0, .inr (.inr (some (749)))), (1, .inl (lvs))]) (st' := [.inl ((2) * (acc))]) rfl ?_
      have el : lv = lvs := by omega
      subst el
      have kl := KY_len W (lv.toNat - 1)
      rw [show lv.toNat - 1 + 1 = lv.toNat by omega] at kl
      rw [show (2) * (acc) = 2 * ((KY W lv.toNat).length : Int) by omega]
      exact ez_retI rfl rfl k
    · skip
      refine ez_go (n := 2) (pc' := 14) (L' := [(4, .inl (0)), (3, .inl (lv)), (2, .inl (acc)), (0, .inr (.inr (some (749)))), (1, .inl (lvs))]) (st' := []) rfl ?_
      refine ez_less [(4, .inl (0)), (3, .inl (lv)), (2, .inl (acc)), (0, .inr (.inr (some (749)))), (1, .inl (lvs))] rfl ⟨rfl, rfl, rfl, rfl, rfl, trivial⟩ ?_
      refine rd_kli_r (base := acc) hB hX cl cs W9 W2 (by omega) (by omega) ?_ _ 0 acc rfl (by omega) (by omega) (by omega) (by show acc = acc + ((0 : Nat) : Int); omega)
      refine ez_go (n := 2) (pc' := 6) (L' := [(3, .inl (lv + 1)), (2, .inl (acc + ((lev W lv.toNat).length : Int))), (0, .inr (.inr (some (749)))), (1, .inl (lvs))]) (st' := []) rfl ?_
      refine ez_less [(3, .inl (lv + 1)), (2, .inl (acc + ((lev W lv.toNat).length : Int))), (0, .inr (.inr (some (749)))), (1, .inl (lvs))] rfl ⟨rfl, rfl, rfl, rfl, trivial⟩ ?_
      refine ih (lv + 1) _ (by omega) (by omega) (by omega) ?_
      rw [hA, show (lv + 1).toNat = lv.toNat + 1 by omega]; show _ = lvs - 1 + ((lsum W lv.toNat + (lev W lv.toNat).length : Nat) : Int); omega

theorem rd_keyLen_r {lvs : Int} (hB : ez_B τ h) (hX : jz_X τ) (cl : clr h 749) (cs : cts h 749 sh b W) (W9 : wps W) (W2 : W.length ≤ 36000) (l1 : 1 ≤ lvs) (l4 : lvs ≤ 4) (k : Q (.inl (some (ez_v (.inl (2 * ((KY W lvs.toNat).length : Int))))), h)) : ez_W (d + 1) cm_81 0 [(0, .inr (.inr (some (749)))), (1, .inl (lvs))] [] h Q := by
  have tc : τ 749 = 10 := hX 749 (by decide)
  refine ez_go (n := 6) (pc' := 6) (L' := [(3, .inl (0)), (2, .inl ((lvs) - (1))), (0, .inr (.inr (some (749)))), (1, .inl (lvs))]) (st' := []) rfl ?_
  refine ez_less [(3, .inl (0)), (2, .inl ((lvs) - (1))), (0, .inr (.inr (some (749)))), (1, .inl (lvs))] rfl ⟨rfl, rfl, rfl, rfl, trivial⟩ ?_
  exact rd_klo_r hB hX cl cs W9 W2 l1 l4 k _ 0 _ rfl (by omega) (by omega) (by show _ = lvs - 1 + ((0 : Nat) : Int); omega)

theorem rd_skz_rl {f lv : Int} (hB : ez_B τ h) (hX : jz_X τ) (cl : clr h 749) (cs : cts h 749 sh b W) (W9 : wps W) (W2 : W.length ≤ 36000) (f0 : 0 ≤ f) (f1 : f ≤ 36001) (lv0 : 0 ≤ lv) (lv3 : lv ≤ 3) (k : ∀ i : Int, f ≤ i → i ≤ (W.length : Int) ∨ i = f → lev (W.drop f.toNat) lv.toNat = lev (W.drop i.toNat) lv.toNat → ((W.length : Int) ≤ i ∨ ∃ w, W[i.toNat]? = some w ∧ wk w lv.toNat ≠ 0) → Q (.inl (some (ez_v (.inl i))), h)) : ∀ (n : Nat) (i : Int), n = ((W.length : Int) - i).toNat → f ≤ i → (i ≤ (W.length : Int) ∨ i = f) → lev (W.drop f.toNat) lv.toNat = lev (W.drop i.toNat) lv.toNat → ez_W (d + 1) cm_89 2 [(3, .inl (i)), (0, .inr (.inr (some (749)))), (1, .inl (f)), (2, .inl (lv))] [] h Q := by
  have tc : τ 749 = 10 := hX 749 (by decide)
  intro n
  induction n with
  | zero =>
    intro i hn0 i0 i1 hE
    refine ez_go (n := 2) (pc' := 4) (L' := [(3, .inl (i)), (0, .inr (.inr (some (749)))), (1, .inl (f)), (2, .inl (lv))]) (st' := [.inr (.inr (some (749))), .inl (i)]) rfl ?_
    refine ez_gI hB tc rfl rfl tq_10 rfl rfl (fun (b1 : 0 ≤ qz_I h 749 5) (b1' : qz_I h 749 5 ≤ 36000) => ?_)
    rw [cs.1.1]
    refine ez_icmp rfl rfl ⟨by first | omega | exact (sz_i32 _).1, by first | omega | exact (sz_i32 _).2⟩ ⟨by first | omega | exact (sz_i32 _).1, by first | omega | exact (sz_i32 _).2⟩ (fun (c2 : ((W.length : Int)) ≤ (i)) => ?_) (fun (c2 : ¬(((W.length : Int)) ≤ (i))) => ?_)
    · skip
      refine ez_go (n := 1) (pc' := 28) (L' := [(3, .inl (i)), (0, .inr (.inr (some (749)))), (1, .inl (f)), (2, .inl (lv))]) (st' := [.inl (i)]) rfl ?_
      exact ez_retI rfl rfl (k i (by omega) (by omega) hE (by first | exact Or.inl (by omega) | exact Or.inr ⟨_, hw, by omega⟩))
    · exfalso; omega
  | succ n ih =>
    intro i hn0 i0 i1 hE
    refine ez_go (n := 2) (pc' := 4) (L' := [(3, .inl (i)), (0, .inr (.inr (some (749)))), (1, .inl (f)), (2, .inl (lv))]) (st' := [.inr (.inr (some (749))), .inl (i)]) rfl ?_
    refine ez_gI hB tc rfl rfl tq_10 rfl rfl (fun (b1 : 0 ≤ qz_I h 749 5) (b1' : qz_I h 749 5 ≤ 36000) => ?_)
    rw [cs.1.1]
    refine ez_icmp rfl rfl ⟨by first | omega | exact (sz_i32 _).1, by first | omega | exact (sz_i32 _).2⟩ ⟨by first | omega | exact (sz_i32 _).1, by first | omega | exact (sz_i32 _).2⟩ (fun (c2 : ((W.length : Int)) ≤ (i)) => ?_) (fun (c2 : ¬(((W.length : Int)) ≤ (i))) => ?_)
    · skip
      refine ez_go (n := 1) (pc' := 28) (L' := [(3, .inl (i)), (0, .inr (.inr (some (749)))), (1, .inl (f)), (2, .inl (lv))]) (st' := [.inl (i)]) rfl ?_
      exact ez_retI rfl rfl (k i (by omega) (by omega) hE (by first | exact Or.inl (by omega) | exact Or.inr ⟨_, hw, by omega⟩))
    · skip
      refine ez_go (n := 3) (pc' := 13) (L' := [(3, .inl (i)), (0, .inr (.inr (some (749)))), (1, .inl (f)), (2, .inl (lv))]) (st' := [.inl (lv), .inl (i), .inr (.inr (some (749)))]) rfl ?_
      have l9 : (i).toNat < W.length := by omega
      have hw := List.getElem?_eq_getElem l9
      have wb := wk_bd (W9 _ (List.getElem_mem l9)) (lv).toNat
      refine ez_cv hB tc rfl rfl rfl tq_10 rfl rfl rfl (rd_wgt_r hB hX cl cs W9 W2 (by omega) hw (by omega) (by omega) (ez_KL ?_))
      have z9 := of_z (a := wk W[(i).toNat] (lv).toNat) (by omega) (by omega)
      refine ez_go (n := 2) (pc' := 18) (L' := [(3, .inl (i)), (0, .inr (.inr (some (749)))), (1, .inl (f)), (2, .inl (lv))]) (st' := [.inl ((lg_cmp (Int64.ofInt (wk W[(i).toNat] (lv).toNat)) (Int64.ofInt (0 : Nat))).toInt)]) rfl ?_
      refine ez_if rfl rfl ⟨by first | omega | exact (sz_i32 _).1, by first | omega | exact (sz_i32 _).2⟩ (fun (c3 : ((lg_cmp (Int64.ofInt (wk W[(i).toNat] (lv).toNat)) (Int64.ofInt (0 : Nat))).toInt) ≠ (0)) => ?_) (fun (c3 : ¬(((lg_cmp (Int64.ofInt (wk W[(i).toNat] (lv).toNat)) (Int64.ofInt (0 : Nat))).toInt) ≠ (0))) => ?_)
      · skip
        refine ez_go (n := 1) (pc' := 28) (L' := [(3, .inl (i)), (0, .inr (.inr (some (749)))), (1, .inl (f)), (2, .inl (lv))]) (st' := [.inl (i)]) rfl ?_
        exact ez_retI rfl rfl (k i (by omega) (by omega) hE (by first | exact Or.inl (by omega) | exact Or.inr ⟨_, hw, by omega⟩))
      · skip
        refine ez_go (n := 2) (pc' := 2) (L' := [(3, .inl (i + 1)), (0, .inr (.inr (some (749)))), (1, .inl (f)), (2, .inl (lv))]) (st' := []) rfl ?_
        refine ez_less [(3, .inl (i + 1)), (0, .inr (.inr (some (749)))), (1, .inl (f)), (2, .inl (lv))] rfl ⟨rfl, rfl, rfl, rfl, trivial⟩ ?_
        refine ih (i + 1) (by omega) (by omega) (by omega) ?_
        rw [hE, lev_dr hw, if_pos (by omega), show (i + 1).toNat = i.toNat + 1 by omega]; rfl

theorem rd_skz_r {f lv : Int} (hB : ez_B τ h) (hX : jz_X τ) (cl : clr h 749) (cs : cts h 749 sh b W) (W9 : wps W) (W2 : W.length ≤ 36000) (f0 : 0 ≤ f) (f1 : f ≤ 36001) (lv0 : 0 ≤ lv) (lv3 : lv ≤ 3) (k : ∀ i : Int, f ≤ i → i ≤ (W.length : Int) ∨ i = f → lev (W.drop f.toNat) lv.toNat = lev (W.drop i.toNat) lv.toNat → ((W.length : Int) ≤ i ∨ ∃ w, W[i.toNat]? = some w ∧ wk w lv.toNat ≠ 0) → Q (.inl (some (ez_v (.inl i))), h)) : ez_W (d + 1) cm_89 0 [(0, .inr (.inr (some (749)))), (1, .inl (f)), (2, .inl (lv))] [] h Q := by
  have tc : τ 749 = 10 := hX 749 (by decide)
  refine ez_go (n := 2) (pc' := 2) (L' := [(3, .inl (f)), (0, .inr (.inr (some (749)))), (1, .inl (f)), (2, .inl (lv))]) (st' := []) rfl ?_
  refine ez_less [(3, .inl (f)), (0, .inr (.inr (some (749)))), (1, .inl (f)), (2, .inl (lv))] rfl ⟨rfl, rfl, rfl, rfl, trivial⟩ ?_
  exact rd_skz_rl hB hX cl cs W9 W2 f0 f1 lv0 lv3 k _ f rfl (by omega) (Or.inr rfl) rfl

end EzKe

/-! COLLATION: the class, key and compare. (Written by wip/p2/py/pvk7.py.) -/
theorem lsum_mono (W : List eL) {m n : Nat} (h : m ≤ n) : lsum W m ≤ lsum W n := by
  induction n with
  | zero => rw [show m = 0 by omega]; exact Nat.le_refl _
  | succ n ih =>
    by_cases e : m = n + 1
    · rw [e]; exact Nat.le_refl _
    · have := ih (by omega)
      show lsum W m ≤ lsum W n + (lev W n).length; omega
theorem KY_mono (W : List eL) {m n : Nat} (h : m ≤ n) : (KY W m).length ≤ (KY W n).length := by
  match m, n, h with
  | 0, _, _ => exact Nat.zero_le _
  | m + 1, 0, h => exact absurd h (by omega)
  | m + 1, n + 1, h => have := lsum_mono W h; rw [KY_len, KY_len]; omega
/-- bytes put down -/
def rsb (h : cz_H) (q : Nat) (l : List Int) : Prop := ∀ (j : Nat) v, l[j]? = some v → qz_I h q j = v
theorem rsb_app {h g : cz_H} {q : Nat} {pre : List Int} {w a : Int} (x : rsb h q (byS pre)) (ha : a = 2 * (pre.length : Int)) (e : ∀ j, j ≠ a.toNat → j ≠ (a + 1).toNat → qz_I g q j = qz_I h q j) (e1 : qz_I g q a.toNat = sgb (w / 256)) (e2 : qz_I g q (a + 1).toNat = sgb w) : rsb g q (byS (pre ++ [w])) := by
  intro j v hv
  rw [byS_app] at hv
  have bl := byS_len pre
  by_cases c : j < (byS pre).length
  · rw [List.getElem?_append_left c] at hv
    rw [e j (by omega) (by omega)]; exact x j v hv
  · rw [List.getElem?_append_right (by omega)] at hv
    have hv : [sgb (w / 256), sgb w][j - (byS pre).length]? = some v := hv
    have : j - (byS pre).length = 0 ∨ j - (byS pre).length = 1 := by
      by_cases q : j - (byS pre).length < 2
      · omega
      · rw [List.getElem?_eq_none (by show 2 ≤ _; omega)] at hv; cases hv
    rcases this with q | q
    · rw [q] at hv; cases hv; rw [show j = a.toNat by omega]; exact e1
    · rw [q] at hv; cases hv; rw [show j = (a + 1).toNat by omega]; exact e2
theorem lg_cs {x y : Int} (x0 : 0 ≤ x) (x1 : x ≤ 65535) (y0 : 0 ≤ y) (y1 : y ≤ 65535) : ((lg_cmp (Int64.ofInt x) (Int64.ofInt y)).toInt = 0 ↔ x = y) ∧ ((lg_cmp (Int64.ofInt x) (Int64.ofInt y)).toInt < 0 ↔ x < y) := by
  have ex : (Int64.ofInt x).toInt = x := Int64.toInt_ofInt_of_le (by omega) (by omega)
  have ey : (Int64.ofInt y).toInt = y := Int64.toInt_ofInt_of_le (by omega) (by omega)
  have eq : Int64.ofInt x = Int64.ofInt y ↔ x = y := ⟨fun w => by rw [w] at ex; omega, fun w => by rw [w]⟩
  refine ⟨(nz_ceq _ _).trans eq, ?_⟩
  unfold lg_cmp
  by_cases h1 : Int64.ofInt x > Int64.ofInt y
  · rw [if_pos h1]
    have := Int64.lt_iff_toInt_lt.mp h1
    rw [ex, ey] at this
    exact ⟨fun w => absurd w (by decide), fun w => by omega⟩
  · rw [if_neg h1]
    by_cases h2 : Int64.ofInt x = Int64.ofInt y
    · rw [if_pos h2]
      have := eq.mp h2
      exact ⟨fun w => absurd w (by decide), fun w => by omega⟩
    · rw [if_neg h2]
      refine ⟨fun _ => ?_, fun _ => by decide⟩
      have n1 : ¬ y < x := fun w => h1 (Int64.lt_iff_toInt_lt.mpr (by rw [ex, ey]; exact w))
      have n2 : x ≠ y := fun w => h2 (eq.mpr w)
      omega
section EzKf
variable {d : Nat} {h : cz_H} {τ : Nat → Nat} {P Q : cz_F → Prop} {W V : List eL} {sh b sh2 b2 : Bool} {LK : List Int → Option (List eL)} {R : List (List Int × List eL)} {F : rz_W} {E : Int → Prop} {T : Int → Nat} {D : Int → xD} {O : Nat → Int} {X : Nat → List Int}
theorem cts.tr {g : cz_H} {r : Nat} (x : cts h r sh b W) (e : ∀ j, qz_I g r j = qz_I h r j) (e4 : ∀ j, qz_I g (r + 4) j = qz_I h (r + 4) j) : cts g r sh b W := ⟨⟨(e 5).trans x.1.1, by rw [e 6]; exact x.1.2.1, by rw [e 7]; exact x.1.2.2⟩, fun j w hw => (e4 j).trans (x.2 j w hw)⟩
theorem clr.e {g : cz_H} {r : Nat} (x : clr h r) (e : ∀ j, qz_I g r j = qz_I h r j) : clr g r := x.k (fun j _ _ _ => e j)
theorem rd_wki {lv lvs : Int} {base : List Int} (hX : jz_X τ) (cl : clr h 744) (cs : cts h 744 sh b W) (W9 : wps W) (W2 : W.length ≤ 36000) (lv0 : 0 ≤ lv) (lv3 : lv ≤ 3) (bl : base.length + (lev W lv.toNat).length ≤ 32768) (kx : ∀ g a, ez_B τ g → ez_fr (ez_one 194) h g → a = 2 * ((base ++ lev W lv.toNat).length : Int) → rsb g 194 (byS (base ++ lev W lv.toNat)) → ez_W (d + 1) cm_92 66 [(4, .inl (lv)), (3, .inl (a)), (0, .inr (.inr (some (744)))), (1, .inr (.inr (some (194)))), (2, .inl (lvs))] [] g Q) : ∀ (n : Nat) (i a : Int) (g : cz_H), n = ((W.length : Int) - i).toNat → 0 ≤ i → i ≤ (W.length : Int) → ez_B τ g → ez_fr (ez_one 194) h g → a = 2 * ((base ++ lev (W.take i.toNat) lv.toNat).length : Int) → rsb g 194 (byS (base ++ lev (W.take i.toNat) lv.toNat)) → ez_W (d + 1) cm_92 26 [(5, .inl (i)), (4, .inl (lv)), (3, .inl (a)), (0, .inr (.inr (some (744)))), (1, .inr (.inr (some (194)))), (2, .inl (lvs))] [] g Q := by
  have tc : τ 744 = 10 := hX 744 (by decide)
  have t194 : τ 194 = 46 := hX 194 (by decide)
  intro n
  induction n with
  | zero =>
    intro i a g hn0 i0 i1 hBg hf ha rx
    have csg := cs.tr (fun j => hf.I rfl j) (fun j => hf.I rfl j)
    have clg := cl.e (fun j => hf.I rfl j)
    refine ez_go (n := 2) (pc' := 29) (L' := [(5, .inl (i)), (4, .inl (lv)), (3, .inl (a)), (0, .inr (.inr (some (744)))), (1, .inr (.inr (some (194)))), (2, .inl (lvs))]) (st' := [.inr (.inr (some (744))), .inl (i)]) rfl ?_
    refine ez_gI hBg tc rfl rfl tq_10 rfl rfl (fun (b1 : 0 ≤ qz_I g 744 5) (b1' : qz_I g 744 5 ≤ 36000) => ?_)
    rw [csg.1.1]
    refine ez_icmp rfl rfl ⟨by first | omega | exact (sz_i32 _).1, by first | omega | exact (sz_i32 _).2⟩ ⟨by first | omega | exact (sz_i32 _).1, by first | omega | exact (sz_i32 _).2⟩ (fun (c2 : ((W.length : Int)) ≤ (i)) => ?_) (fun (c2 : ¬(((W.length : Int)) ≤ (i))) => ?_)
    · skip
      refine ez_less [(4, .inl (lv)), (3, .inl (a)), (0, .inr (.inr (some (744)))), (1, .inr (.inr (some (194)))), (2, .inl (lvs))] rfl ⟨rfl, rfl, rfl, rfl, rfl, trivial⟩ ?_
      rw [List.take_of_length_le (by omega)] at ha rx
      exact kx g a hBg hf ha rx
    · exfalso; omega
  | succ n ih =>
    intro i a g hn0 i0 i1 hBg hf ha rx
    have csg := cs.tr (fun j => hf.I rfl j) (fun j => hf.I rfl j)
    have clg := cl.e (fun j => hf.I rfl j)
    refine ez_go (n := 2) (pc' := 29) (L' := [(5, .inl (i)), (4, .inl (lv)), (3, .inl (a)), (0, .inr (.inr (some (744)))), (1, .inr (.inr (some (194)))), (2, .inl (lvs))]) (st' := [.inr (.inr (some (744))), .inl (i)]) rfl ?_
    refine ez_gI hBg tc rfl rfl tq_10 rfl rfl (fun (b1 : 0 ≤ qz_I g 744 5) (b1' : qz_I g 744 5 ≤ 36000) => ?_)
    rw [csg.1.1]
    refine ez_icmp rfl rfl ⟨by first | omega | exact (sz_i32 _).1, by first | omega | exact (sz_i32 _).2⟩ ⟨by first | omega | exact (sz_i32 _).1, by first | omega | exact (sz_i32 _).2⟩ (fun (c2 : ((W.length : Int)) ≤ (i)) => ?_) (fun (c2 : ¬(((W.length : Int)) ≤ (i))) => ?_)
    · skip
      refine ez_less [(4, .inl (lv)), (3, .inl (a)), (0, .inr (.inr (some (744)))), (1, .inr (.inr (some (194)))), (2, .inl (lvs))] rfl ⟨rfl, rfl, rfl, rfl, rfl, trivial⟩ ?_
      rw [List.take_of_length_le (by omega)] at ha rx
      exact kx g a hBg hf ha rx
    · skip
      refine ez_go (n := 3) (pc' := 40) (L' := [(5, .inl (i)), (4, .inl (lv)), (3, .inl (a)), (0, .inr (.inr (some (744)))), (1, .inr (.inr (some (194)))), (2, .inl (lvs))]) (st' := [.inl (lv), .inl (i), .inr (.inr (some (744)))]) rfl ?_
      have l9 : (i).toNat < W.length := by omega
      have hw := List.getElem?_eq_getElem l9
      have wb := wk_bd (W9 _ (List.getElem_mem l9)) (lv).toNat
      refine ez_cv hBg tc rfl rfl rfl tq_10 rfl rfl rfl (rd_wgt_l hBg hX clg csg W9 W2 (by omega) hw (by omega) (by omega) (ez_KL ?_))
      have z9 := of_z (a := wk W[(i).toNat] (lv).toNat) (by omega) (by omega)
      have td := congrArg List.length (lev_td W ((i).toNat + 1) (lv).toNat)
      rw [List.length_append, lev_tk hw, List.length_append] at td
      refine ez_go (n := 4) (pc' := 49) (L' := [(6, .inr (.inl (Int64.ofInt (wk W[(i).toNat] (lv).toNat)))), (5, .inl (i)), (4, .inl (lv)), (3, .inl (a)), (0, .inr (.inr (some (744)))), (1, .inr (.inr (some (194)))), (2, .inl (lvs))]) (st' := [.inl ((lg_cmp (Int64.ofInt (wk W[(i).toNat] (lv).toNat)) (Int64.ofInt (0 : Nat))).toInt)]) rfl ?_
      refine ez_if rfl rfl ⟨by first | omega | exact (sz_i32 _).1, by first | omega | exact (sz_i32 _).2⟩ (fun (c3 : ((lg_cmp (Int64.ofInt (wk W[(i).toNat] (lv).toNat)) (Int64.ofInt (0 : Nat))).toInt) = (0)) => ?_) (fun (c3 : ¬(((lg_cmp (Int64.ofInt (wk W[(i).toNat] (lv).toNat)) (Int64.ofInt (0 : Nat))).toInt) = (0))) => ?_)
      · skip
        refine ez_go (n := 2) (pc' := 26) (L' := [(5, .inl (i + 1)), (6, .inr (.inl (Int64.ofInt (wk W[(i).toNat] (lv).toNat)))), (4, .inl (lv)), (3, .inl (a)), (0, .inr (.inr (some (744)))), (1, .inr (.inr (some (194)))), (2, .inl (lvs))]) (st' := []) rfl ?_
        refine ez_less [(5, .inl (i + 1)), (4, .inl (lv)), (3, .inl (a)), (0, .inr (.inr (some (744)))), (1, .inr (.inr (some (194)))), (2, .inl (lvs))] rfl ⟨rfl, rfl, rfl, rfl, rfl, rfl, trivial⟩ ?_
        refine ih (i + 1) _ g (by omega) (by omega) (by omega) hBg hf ?_ ?_
        · rw [show (i + 1).toNat = i.toNat + 1 by omega, lev_tk hw, if_pos (by omega)]; rw [List.append_nil]; exact ha
        · rw [show (i + 1).toNat = i.toNat + 1 by omega, lev_tk hw, if_pos (by omega)]; rw [List.append_nil]; exact rx
      · skip
        refine ez_go (n := 3) (pc' := 56) (L' := [(6, .inr (.inl (Int64.ofInt (wk W[(i).toNat] (lv).toNat)))), (5, .inl (i)), (4, .inl (lv)), (3, .inl (a)), (0, .inr (.inr (some (744)))), (1, .inr (.inr (some (194)))), (2, .inl (lvs))]) (st' := [.inr (.inl (Int64.ofInt (wk W[(i).toNat] (lv).toNat))), .inl (a), .inr (.inr (some (194)))]) rfl ?_
        rw [if_neg (by omega)] at td
        have td : _ + 1 + _ = _ := td
        refine ez_cs hBg.2.1 rfl rfl rfl rfl rfl (rd_wrW hBg hX (by omega) (by rw [List.length_append] at ha; omega) (by omega) (by omega) (fun g2 B2 f2 o2 v1 v2 => ez_K1 ?_))
        refine ez_go (n := 3) (pc' := 26) (L' := [(5, .inl (i + 1)), (3, .inl ((a) + (2))), (6, .inr (.inl (Int64.ofInt (wk W[(i).toNat] (lv).toNat)))), (4, .inl (lv)), (0, .inr (.inr (some (744)))), (1, .inr (.inr (some (194)))), (2, .inl (lvs))]) (st' := []) rfl ?_
        refine ez_less [(5, .inl (i + 1)), (4, .inl (lv)), (3, .inl ((a) + (2))), (0, .inr (.inr (some (744)))), (1, .inr (.inr (some (194)))), (2, .inl (lvs))] rfl ⟨rfl, rfl, rfl, rfl, rfl, rfl, trivial⟩ ?_
        refine ih (i + 1) _ g2 (by omega) (by omega) (by omega) B2 (hf.trans f2) ?_ ?_
        · rw [show (i + 1).toNat = i.toNat + 1 by omega, lev_tk hw, if_neg (by omega)]; rw [← List.append_assoc, List.length_append, List.length_singleton, ha]; omega
        · rw [show (i + 1).toNat = i.toNat + 1 by omega, lev_tk hw, if_neg (by omega)]; rw [← List.append_assoc]; exact rsb_app rx ha o2 v1 v2

theorem rd_wko {lvs : Int} (hX : jz_X τ) (cl : clr h 744) (cs : cts h 744 sh b W) (W9 : wps W) (W2 : W.length ≤ 36000) (l1 : 1 ≤ lvs) (l4 : lvs ≤ 4) (kl : (KY W lvs.toNat).length ≤ 32768) (k : ∀ g, ez_B τ g → ez_fr (ez_one 194) h g → rsb g 194 (byS (KY W lvs.toNat)) → Q (.inl none, g)) : ∀ (n : Nat) (lv a : Int) (g : cz_H), n = (lvs - lv).toNat → 0 ≤ lv → lv ≤ lvs → ez_B τ g → ez_fr (ez_one 194) h g → a = 2 * ((KY W lv.toNat).length : Int) → rsb g 194 (byS (KY W lv.toNat)) → ez_W (d + 1) cm_92 5 [(4, .inl (lv)), (3, .inl (a)), (0, .inr (.inr (some (744)))), (1, .inr (.inr (some (194)))), (2, .inl (lvs))] [] g Q := by
  have tc : τ 744 = 10 := hX 744 (by decide)
  have t194 : τ 194 = 46 := hX 194 (by decide)
  intro n
  induction n with
  | zero =>
    intro lv a g hn0 v0 v9 hBg hf ha rx
    have kl0 : (KY W lv.toNat).length ≤ (KY W lvs.toNat).length := KY_mono W (by omega)
    refine ez_go (n := 2) (pc' := 8) (L' := [(4, .inl (lv)), (3, .inl (a)), (0, .inr (.inr (some (744)))), (1, .inr (.inr (some (194)))), (2, .inl (lvs))]) (st' := [.inl (lvs), .inl (lv)]) rfl ?_
    refine ez_icmp rfl rfl ⟨by first | omega | exact (sz_i32 _).1, by first | omega | exact (sz_i32 _).2⟩ ⟨by first | omega | exact (sz_i32 _).1, by first | omega | exact (sz_i32 _).2⟩ (fun (c1 : (lvs) ≤ (lv)) => ?_) (fun (c1 : ¬((lvs) ≤ (lv))) => ?_)
    · skip
      have el : lv = lvs := by omega
      subst el
      exact ez_ret0 rfl rfl (k g hBg hf rx)
    · exfalso; omega
  | succ n ih =>
    intro lv a g hn0 v0 v9 hBg hf ha rx
    have kl0 : (KY W lv.toNat).length ≤ (KY W lvs.toNat).length := KY_mono W (by omega)
    have kl1 : 0 < lv → lv < lvs → (KY W lv.toNat).length + 1 ≤ (KY W lvs.toNat).length := fun q q2 => by have e1 := KY_len W (lv.toNat - 1); have e2 := KY_len W lv.toNat; have e3 := KY_mono W (show lv.toNat + 1 ≤ lvs.toNat by omega); rw [show lv.toNat - 1 + 1 = lv.toNat by omega] at e1; have e4 : lsum W (lv.toNat + 1) = lsum W lv.toNat + (lev W lv.toNat).length := rfl; omega
    refine ez_go (n := 2) (pc' := 8) (L' := [(4, .inl (lv)), (3, .inl (a)), (0, .inr (.inr (some (744)))), (1, .inr (.inr (some (194)))), (2, .inl (lvs))]) (st' := [.inl (lvs), .inl (lv)]) rfl ?_
    refine ez_icmp rfl rfl ⟨by first | omega | exact (sz_i32 _).1, by first | omega | exact (sz_i32 _).2⟩ ⟨by first | omega | exact (sz_i32 _).1, by first | omega | exact (sz_i32 _).2⟩ (fun (c1 : (lvs) ≤ (lv)) => ?_) (fun (c1 : ¬((lvs) ≤ (lv))) => ?_)
    · skip
      have el : lv = lvs := by omega
      subst el
      exact ez_ret0 rfl rfl (k g hBg hf rx)
    · skip
      refine ez_go (n := 1) (pc' := 13) (L' := [(4, .inl (lv)), (3, .inl (a)), (0, .inr (.inr (some (744)))), (1, .inr (.inr (some (194)))), (2, .inl (lvs))]) (st' := [.inl (lv)]) rfl ?_
      refine ez_if rfl rfl ⟨by first | omega | exact (sz_i32 _).1, by first | omega | exact (sz_i32 _).2⟩ (fun (c2 : (lv) ≤ (0)) => ?_) (fun (c2 : ¬((lv) ≤ (0))) => ?_)
      · skip
        refine ez_go (n := 2) (pc' := 26) (L' := [(5, .inl (0)), (4, .inl (lv)), (3, .inl (a)), (0, .inr (.inr (some (744)))), (1, .inr (.inr (some (194)))), (2, .inl (lvs))]) (st' := []) rfl ?_
        refine ez_less [(5, .inl (0)), (4, .inl (lv)), (3, .inl (a)), (0, .inr (.inr (some (744)))), (1, .inr (.inr (some (194)))), (2, .inl (lvs))] rfl ⟨rfl, rfl, rfl, rfl, rfl, rfl, trivial⟩ ?_
        have e0 : lv = 0 := by omega
        subst e0
        have eK : KY W ((0 : Int).toNat + 1) = [] ++ lev W (0 : Int).toNat := rfl
        have kl : (KY W (((0 : Int)).toNat + 1)).length ≤ (KY W lvs.toNat).length := KY_mono W (by omega)
        rw [eK, List.length_append] at kl
        refine rd_wki (h := h) (base := ([] : List Int)) (lv := (0 : Int)) hX cl cs W9 W2 (by omega) (by omega) (by omega) (fun g3 a3 B3 f3 ha3 rx3 => ?_) _ 0 _ g rfl (by omega) (by omega) hBg hf ?_ ?_
        · skip
          refine ez_go (n := 2) (pc' := 5) (L' := [(4, .inl (0 + 1)), (3, .inl (a3)), (0, .inr (.inr (some (744)))), (1, .inr (.inr (some (194)))), (2, .inl (lvs))]) (st' := []) rfl ?_
          refine ez_less [(4, .inl (0 + 1)), (3, .inl (a3)), (0, .inr (.inr (some (744)))), (1, .inr (.inr (some (194)))), (2, .inl (lvs))] rfl ⟨rfl, rfl, rfl, rfl, rfl, trivial⟩ ?_
          rw [← eK] at ha3 rx3
          exact ih (0 + 1) a3 g3 (by omega) (by omega) (by omega) B3 f3 (by rw [ha3]; rfl) (by exact rx3)
        · exact ha
        · exact rx
      · skip
        refine ez_go (n := 3) (pc' := 19) (L' := [(4, .inl (lv)), (3, .inl (a)), (0, .inr (.inr (some (744)))), (1, .inr (.inr (some (194)))), (2, .inl (lvs))]) (st' := [.inr (.inl (Int64.ofInt (0 : Nat))), .inl (a), .inr (.inr (some (194)))]) rfl ?_
        rw [show Int64.ofInt (0 : Nat) = Int64.ofInt (0 : Int) from rfl]
        refine ez_cs hBg.2.1 rfl rfl rfl rfl rfl (rd_wrW hBg hX (by omega) (by omega) (by decide) (by decide) (fun g2 B2 f2 o2 v1 v2 => ez_K1 ?_))
        refine ez_go (n := 3) (pc' := 26) (L' := [(5, .inl (0)), (3, .inl ((a) + (2))), (4, .inl (lv)), (0, .inr (.inr (some (744)))), (1, .inr (.inr (some (194)))), (2, .inl (lvs))]) (st' := []) rfl ?_
        refine ez_less [(5, .inl (0)), (4, .inl (lv)), (3, .inl ((a) + (2))), (0, .inr (.inr (some (744)))), (1, .inr (.inr (some (194)))), (2, .inl (lvs))] rfl ⟨rfl, rfl, rfl, rfl, rfl, rfl, trivial⟩ ?_
        have eK : KY W (lv.toNat + 1) = (KY W lv.toNat ++ [0]) ++ lev W lv.toNat := by
          obtain ⟨m, em⟩ : ∃ m, lv.toNat = m + 1 := ⟨lv.toNat - 1, by omega⟩
          rw [em, List.append_assoc]; rfl
        have kl : (KY W ((lv).toNat + 1)).length ≤ (KY W lvs.toNat).length := KY_mono W (by omega)
        rw [eK, List.length_append] at kl
        refine rd_wki (h := h) (base := (KY W lv.toNat ++ [0])) (lv := lv) hX cl cs W9 W2 (by omega) (by omega) (by omega) (fun g3 a3 B3 f3 ha3 rx3 => ?_) _ 0 _ g2 rfl (by omega) (by omega) B2 (hf.trans f2) ?_ ?_
        · skip
          refine ez_go (n := 2) (pc' := 5) (L' := [(4, .inl (lv + 1)), (3, .inl (a3)), (0, .inr (.inr (some (744)))), (1, .inr (.inr (some (194)))), (2, .inl (lvs))]) (st' := []) rfl ?_
          refine ez_less [(4, .inl (lv + 1)), (3, .inl (a3)), (0, .inr (.inr (some (744)))), (1, .inr (.inr (some (194)))), (2, .inl (lvs))] rfl ⟨rfl, rfl, rfl, rfl, rfl, trivial⟩ ?_
          rw [← eK] at ha3 rx3
          exact ih (lv + 1) a3 g3 (by omega) (by omega) (by omega) B3 f3 (by rw [ha3]; rw [show (lv + 1).toNat = lv.toNat + 1 by omega]) (by rw [show (lv + 1).toNat = lv.toNat + 1 by omega]; exact rx3)
        · show _ = 2 * (((KY W lv.toNat ++ [0]) ++ lev [] lv.toNat).length : Int); rw [lev_nil, List.append_nil, List.length_append, List.length_singleton, ha]; omega
        · show rsb _ 194 (byS ((KY W lv.toNat ++ [0]) ++ lev [] lv.toNat)); rw [lev_nil, List.append_nil]; exact rsb_app rx ha o2 v1 v2

theorem rd_wrKey {lvs : Int} (hB : ez_B τ h) (hX : jz_X τ) (cl : clr h 744) (cs : cts h 744 sh b W) (W9 : wps W) (W2 : W.length ≤ 36000) (l1 : 1 ≤ lvs) (l4 : lvs ≤ 4) (kl : (KY W lvs.toNat).length ≤ 32768) (k : ∀ g, ez_B τ g → ez_fr (ez_one 194) h g → rsb g 194 (byS (KY W lvs.toNat)) → Q (.inl none, g)) : ez_W (d + 1) cm_92 0 [(0, .inr (.inr (some (744)))), (1, .inr (.inr (some (194)))), (2, .inl (lvs))] [] h Q := by
  have tc : τ 744 = 10 := hX 744 (by decide)
  have t194 : τ 194 = 46 := hX 194 (by decide)
  refine ez_go (n := 4) (pc' := 5) (L' := [(4, .inl (0)), (3, .inl (0)), (0, .inr (.inr (some (744)))), (1, .inr (.inr (some (194)))), (2, .inl (lvs))]) (st' := []) rfl ?_
  refine ez_less [(4, .inl (0)), (3, .inl (0)), (0, .inr (.inr (some (744)))), (1, .inr (.inr (some (194)))), (2, .inl (lvs))] rfl ⟨rfl, rfl, rfl, rfl, rfl, trivial⟩ ?_
  exact rd_wko hX cl cs W9 W2 l1 l4 kl k _ 0 0 h rfl (by omega) (by omega) hB (ez_fr.refl _ h) rfl (fun j v hv => by cases hv)

/-- not for omega -/
def hid7 (p : Prop) : Prop := p
theorem hid7_i {p : Prop} (h : p) : hid7 p := h
theorem hid7_o {p : Prop} (h : hid7 p) : p := h
theorem rd_lvo_l {lv : Int} (hB : ez_B τ h) (hX : jz_X τ) (cl : clr h 744) (cs : cts h 744 sh b W) (W9 : wps W) (W2 : W.length ≤ 36000) (cl2 : clr h 749) (cs2 : cts h 749 sh2 b2 V) (V9 : wps V) (V2 : V.length ≤ 36000) (lv0 : 0 ≤ lv) (lv3 : lv ≤ 3) (k : Q (.inl (some (ez_v (.inl (lcp (lev W lv.toNat) (lev V lv.toNat))))), h)) : ∀ (n : Nat) (j i : Int), ((W.length : Int) - i).toNat + ((V.length : Int) - j).toNat ≤ n → 0 ≤ i → i ≤ 36001 → 0 ≤ j → j ≤ 36001 → ((i ≤ (W.length : Int) ∧ j ≤ (V.length : Int)) ∨ ((W.length : Int) ≤ i ∧ (V.length : Int) ≤ j)) → lcp (lev W lv.toNat) (lev V lv.toNat) = lcp (lev (W.drop i.toNat) lv.toNat) (lev (V.drop j.toNat) lv.toNat) → ez_W (d + 2) cm_82 5 [(4, .inl (j)), (3, .inl (i)), (0, .inr (.inr (some (744)))), (1, .inr (.inr (some (749)))), (2, .inl (lv))] [] h Q := by
  have tc : τ 744 = 10 := hX 744 (by decide)
  have tc2 : τ 749 = 10 := hX 749 (by decide)
  intro n
  induction n with
  | zero =>
    intro j i hn0 i0 i1 j0 j1 hij hL
    refine ez_go (n := 2) (pc' := 7) (L' := [(4, .inl (j)), (3, .inl (i)), (0, .inr (.inr (some (744)))), (1, .inr (.inr (some (749)))), (2, .inl (lv))]) (st' := [.inr (.inr (some (744))), .inl (i)]) rfl ?_
    refine ez_gI hB tc rfl rfl tq_10 rfl rfl (fun (b1 : 0 ≤ qz_I h 744 5) (b1' : qz_I h 744 5 ≤ 36000) => ?_)
    rw [cs.1.1]
    refine ez_icmp rfl rfl ⟨by first | omega | exact (sz_i32 _).1, by first | omega | exact (sz_i32 _).2⟩ ⟨by first | omega | exact (sz_i32 _).1, by first | omega | exact (sz_i32 _).2⟩ (fun (c2 : (i) < ((W.length : Int))) => ?_) (fun (c2 : ¬((i) < ((W.length : Int)))) => ?_)
    · skip
      refine ez_go (n := 3) (pc' := 25) (L' := [(4, .inl (j)), (3, .inl (i)), (0, .inr (.inr (some (744)))), (1, .inr (.inr (some (749)))), (2, .inl (lv))]) (st' := [.inl (lv), .inl (i), .inr (.inr (some (744)))]) rfl ?_
      refine ez_cv hB tc rfl rfl rfl tq_10 rfl rfl rfl (rd_skz_l hB hX cl cs W9 W2 (by omega) (by omega) lv0 lv3 (fun x ax bbx ex sx => ez_K1 ?_))
      replace sx := hid7_i sx
      refine ez_go (n := 4) (pc' := 33) (L' := [(3, .inl (x)), (4, .inl (j)), (0, .inr (.inr (some (744)))), (1, .inr (.inr (some (749)))), (2, .inl (lv))]) (st' := [.inl (lv), .inl (j), .inr (.inr (some (749)))]) rfl ?_
      refine ez_cv hB tc2 rfl rfl rfl tq_10 rfl rfl rfl (rd_skz_r hB hX cl2 cs2 V9 V2 (by omega) (by omega) lv0 lv3 (fun y ay bby ey sy => ez_K1 ?_))
      replace sy := hid7_i sy
      refine ez_go (n := 3) (pc' := 40) (L' := [(4, .inl (y)), (3, .inl (x)), (0, .inr (.inr (some (744)))), (1, .inr (.inr (some (749)))), (2, .inl (lv))]) (st' := [.inr (.inr (some (744))), .inl (x)]) rfl ?_
      refine ez_gI hB tc rfl rfl tq_10 rfl rfl (fun (b3 : 0 ≤ qz_I h 744 5) (b3' : qz_I h 744 5 ≤ 36000) => ?_)
      rw [cs.1.1]
      refine ez_icmp rfl rfl ⟨by first | omega | exact (sz_i32 _).1, by first | omega | exact (sz_i32 _).2⟩ ⟨by first | omega | exact (sz_i32 _).1, by first | omega | exact (sz_i32 _).2⟩ (fun (c4 : ((W.length : Int)) ≤ (x)) => ?_) (fun (c4 : ¬(((W.length : Int)) ≤ (x))) => ?_)
      · skip
        refine ez_go (n := 4) (pc' := 61) (L' := [(5, .inr (.inl (Int64.ofInt (0 : Nat)))), (4, .inl (y)), (3, .inl (x)), (0, .inr (.inr (some (744)))), (1, .inr (.inr (some (749)))), (2, .inl (lv))]) (st' := [.inr (.inr (some (749))), .inl (y)]) rfl ?_
        refine ez_gI hB tc2 rfl rfl tq_10 rfl rfl (fun (b5 : 0 ≤ qz_I h 749 5) (b5' : qz_I h 749 5 ≤ 36000) => ?_)
        rw [cs2.1.1]
        refine ez_icmp rfl rfl ⟨by first | omega | exact (sz_i32 _).1, by first | omega | exact (sz_i32 _).2⟩ ⟨by first | omega | exact (sz_i32 _).1, by first | omega | exact (sz_i32 _).2⟩ (fun (c6 : ((V.length : Int)) ≤ (y)) => ?_) (fun (c6 : ¬(((V.length : Int)) ≤ (y))) => ?_)
        · skip
          refine ez_go (n := 5) (pc' := 85) (L' := [(7, .inr (.inl (Int64.ofInt (0 : Nat)))), (5, .inr (.inl (Int64.ofInt (0 : Nat)))), (4, .inl (y)), (3, .inl (x)), (0, .inr (.inr (some (744)))), (1, .inr (.inr (some (749)))), (2, .inl (lv))]) (st' := [.inl ((lg_cmp (Int64.ofInt (0 : Nat)) (Int64.ofInt (0 : Nat))).toInt)]) rfl ?_
          have dx := lev_end (W := W) (i := (x).toNat) (k := lv.toNat) (by omega)
          have dy := lev_end (W := V) (i := (y).toNat) (k := lv.toNat) (by omega)
          have cz : ((lg_cmp (Int64.ofInt (0 : Nat)) (Int64.ofInt (0 : Nat))).toInt = 0 ↔ (0 : Int) = (0 : Int)) ∧ ((lg_cmp (Int64.ofInt (0 : Nat)) (Int64.ofInt (0 : Nat))).toInt < 0 ↔ (0 : Int) < (0 : Int)) := lg_cs (x := (0 : Int)) (y := (0 : Int)) (by omega) (by omega) (by omega) (by omega)
          obtain ⟨cz1, cz2⟩ := cz
          refine ez_if rfl rfl ⟨by first | omega | exact (sz_i32 _).1, by first | omega | exact (sz_i32 _).2⟩ (fun (c7 : ((lg_cmp (Int64.ofInt (0 : Nat)) (Int64.ofInt (0 : Nat))).toInt) = (0)) => ?_) (fun (c7 : ¬(((lg_cmp (Int64.ofInt (0 : Nat)) (Int64.ofInt (0 : Nat))).toInt) = (0))) => ?_)
          · skip
            refine ez_go (n := 3) (pc' := 5) (L' := [(4, .inl (y + 1)), (3, .inl (x + 1)), (7, .inr (.inl (Int64.ofInt (0 : Nat)))), (5, .inr (.inl (Int64.ofInt (0 : Nat)))), (0, .inr (.inr (some (744)))), (1, .inr (.inr (some (749)))), (2, .inl (lv))]) (st' := []) rfl ?_
            exfalso; omega
          · skip
            refine ez_go (n := 3) (pc' := 93) (L' := [(7, .inr (.inl (Int64.ofInt (0 : Nat)))), (5, .inr (.inl (Int64.ofInt (0 : Nat)))), (4, .inl (y)), (3, .inl (x)), (0, .inr (.inr (some (744)))), (1, .inr (.inr (some (749)))), (2, .inl (lv))]) (st' := [.inl ((lg_cmp (Int64.ofInt (0 : Nat)) (Int64.ofInt (0 : Nat))).toInt)]) rfl ?_
            refine ez_if rfl rfl ⟨by first | omega | exact (sz_i32 _).1, by first | omega | exact (sz_i32 _).2⟩ (fun (c8 : (0) ≤ ((lg_cmp (Int64.ofInt (0 : Nat)) (Int64.ofInt (0 : Nat))).toInt)) => ?_) (fun (c8 : ¬((0) ≤ ((lg_cmp (Int64.ofInt (0 : Nat)) (Int64.ofInt (0 : Nat))).toInt))) => ?_)
            · skip
              refine ez_go (n := 1) (pc' := 101) (L' := [(7, .inr (.inl (Int64.ofInt (0 : Nat)))), (5, .inr (.inl (Int64.ofInt (0 : Nat)))), (4, .inl (y)), (3, .inl (x)), (0, .inr (.inr (some (744)))), (1, .inr (.inr (some (749)))), (2, .inl (lv))]) (st' := [.inl (1)]) rfl ?_
              exfalso; omega
            · skip
              refine ez_go (n := 2) (pc' := 101) (L' := [(7, .inr (.inl (Int64.ofInt (0 : Nat)))), (5, .inr (.inl (Int64.ofInt (0 : Nat)))), (4, .inl (y)), (3, .inl (x)), (0, .inr (.inr (some (744)))), (1, .inr (.inr (some (749)))), (2, .inl (lv))]) (st' := [.inl (-1)]) rfl ?_
              exfalso; omega
        · skip
          refine ez_go (n := 3) (pc' := 71) (L' := [(5, .inr (.inl (Int64.ofInt (0 : Nat)))), (4, .inl (y)), (3, .inl (x)), (0, .inr (.inr (some (744)))), (1, .inr (.inr (some (749)))), (2, .inl (lv))]) (st' := [.inl (lv), .inl (y), .inr (.inr (some (749)))]) rfl ?_
          obtain ⟨wy, hwy, nzy⟩ := (hid7_o sy).resolve_left (by omega)
          have wby := wk_bd (V9 _ (List.mem_of_getElem? hwy)) (lv).toNat
          have dry := lev_dr (k := lv.toNat) hwy
          rw [if_neg nzy] at dry
          refine ez_cv hB tc2 rfl rfl rfl tq_10 rfl rfl rfl (rd_wgt_r hB hX cl2 cs2 V9 V2 (by omega) hwy lv0 lv3 (ez_KL ?_))
          refine ez_go (n := 5) (pc' := 85) (L' := [(7, .inr (.inl (Int64.ofInt (wk wy (lv).toNat)))), (5, .inr (.inl (Int64.ofInt (0 : Nat)))), (4, .inl (y)), (3, .inl (x)), (0, .inr (.inr (some (744)))), (1, .inr (.inr (some (749)))), (2, .inl (lv))]) (st' := [.inl ((lg_cmp (Int64.ofInt (0 : Nat)) (Int64.ofInt (wk wy (lv).toNat))).toInt)]) rfl ?_
          have dx := lev_end (W := W) (i := (x).toNat) (k := lv.toNat) (by omega)
          have cz : ((lg_cmp (Int64.ofInt (0 : Nat)) (Int64.ofInt (wk wy (lv).toNat))).toInt = 0 ↔ (0 : Int) = wk wy (lv).toNat) ∧ ((lg_cmp (Int64.ofInt (0 : Nat)) (Int64.ofInt (wk wy (lv).toNat))).toInt < 0 ↔ (0 : Int) < wk wy (lv).toNat) := lg_cs (x := (0 : Int)) (y := wk wy (lv).toNat) (by omega) (by omega) (by omega) (by omega)
          obtain ⟨cz1, cz2⟩ := cz
          refine ez_if rfl rfl ⟨by first | omega | exact (sz_i32 _).1, by first | omega | exact (sz_i32 _).2⟩ (fun (c9 : ((lg_cmp (Int64.ofInt (0 : Nat)) (Int64.ofInt (wk wy (lv).toNat))).toInt) = (0)) => ?_) (fun (c9 : ¬(((lg_cmp (Int64.ofInt (0 : Nat)) (Int64.ofInt (wk wy (lv).toNat))).toInt) = (0))) => ?_)
          · skip
            refine ez_go (n := 3) (pc' := 5) (L' := [(4, .inl (y + 1)), (3, .inl (x + 1)), (7, .inr (.inl (Int64.ofInt (wk wy (lv).toNat)))), (5, .inr (.inl (Int64.ofInt (0 : Nat)))), (0, .inr (.inr (some (744)))), (1, .inr (.inr (some (749)))), (2, .inl (lv))]) (st' := []) rfl ?_
            exfalso; omega
          · skip
            refine ez_go (n := 3) (pc' := 93) (L' := [(7, .inr (.inl (Int64.ofInt (wk wy (lv).toNat)))), (5, .inr (.inl (Int64.ofInt (0 : Nat)))), (4, .inl (y)), (3, .inl (x)), (0, .inr (.inr (some (744)))), (1, .inr (.inr (some (749)))), (2, .inl (lv))]) (st' := [.inl ((lg_cmp (Int64.ofInt (0 : Nat)) (Int64.ofInt (wk wy (lv).toNat))).toInt)]) rfl ?_
            refine ez_if rfl rfl ⟨by first | omega | exact (sz_i32 _).1, by first | omega | exact (sz_i32 _).2⟩ (fun (c10 : (0) ≤ ((lg_cmp (Int64.ofInt (0 : Nat)) (Int64.ofInt (wk wy (lv).toNat))).toInt)) => ?_) (fun (c10 : ¬((0) ≤ ((lg_cmp (Int64.ofInt (0 : Nat)) (Int64.ofInt (wk wy (lv).toNat))).toInt))) => ?_)
            · skip
              refine ez_go (n := 1) (pc' := 101) (L' := [(7, .inr (.inl (Int64.ofInt (wk wy (lv).toNat)))), (5, .inr (.inl (Int64.ofInt (0 : Nat)))), (4, .inl (y)), (3, .inl (x)), (0, .inr (.inr (some (744)))), (1, .inr (.inr (some (749)))), (2, .inl (lv))]) (st' := [.inl (1)]) rfl ?_
              exfalso; omega
            · skip
              refine ez_go (n := 2) (pc' := 101) (L' := [(7, .inr (.inl (Int64.ofInt (wk wy (lv).toNat)))), (5, .inr (.inl (Int64.ofInt (0 : Nat)))), (4, .inl (y)), (3, .inl (x)), (0, .inr (.inr (some (744)))), (1, .inr (.inr (some (749)))), (2, .inl (lv))]) (st' := [.inl (-1)]) rfl ?_
              have e9 : lcp (lev W lv.toNat) (lev V lv.toNat) = -1 := by rw [hL, ex, ey, dx, dry]; exact rfl
              rw [e9] at k
              exact ez_retI rfl rfl k
      · skip
        refine ez_go (n := 3) (pc' := 49) (L' := [(4, .inl (y)), (3, .inl (x)), (0, .inr (.inr (some (744)))), (1, .inr (.inr (some (749)))), (2, .inl (lv))]) (st' := [.inl (lv), .inl (x), .inr (.inr (some (744)))]) rfl ?_
        obtain ⟨wx, hwx, nzx⟩ := (hid7_o sx).resolve_left (by omega)
        have wbx := wk_bd (W9 _ (List.mem_of_getElem? hwx)) (lv).toNat
        have drx := lev_dr (k := lv.toNat) hwx
        rw [if_neg nzx] at drx
        refine ez_cv hB tc rfl rfl rfl tq_10 rfl rfl rfl (rd_wgt_l hB hX cl cs W9 W2 (by omega) hwx lv0 lv3 (ez_KL ?_))
        refine ez_go (n := 4) (pc' := 61) (L' := [(5, .inr (.inl (Int64.ofInt (wk wx (lv).toNat)))), (4, .inl (y)), (3, .inl (x)), (0, .inr (.inr (some (744)))), (1, .inr (.inr (some (749)))), (2, .inl (lv))]) (st' := [.inr (.inr (some (749))), .inl (y)]) rfl ?_
        refine ez_gI hB tc2 rfl rfl tq_10 rfl rfl (fun (b11 : 0 ≤ qz_I h 749 5) (b11' : qz_I h 749 5 ≤ 36000) => ?_)
        rw [cs2.1.1]
        refine ez_icmp rfl rfl ⟨by first | omega | exact (sz_i32 _).1, by first | omega | exact (sz_i32 _).2⟩ ⟨by first | omega | exact (sz_i32 _).1, by first | omega | exact (sz_i32 _).2⟩ (fun (c12 : ((V.length : Int)) ≤ (y)) => ?_) (fun (c12 : ¬(((V.length : Int)) ≤ (y))) => ?_)
        · skip
          refine ez_go (n := 5) (pc' := 85) (L' := [(7, .inr (.inl (Int64.ofInt (0 : Nat)))), (5, .inr (.inl (Int64.ofInt (wk wx (lv).toNat)))), (4, .inl (y)), (3, .inl (x)), (0, .inr (.inr (some (744)))), (1, .inr (.inr (some (749)))), (2, .inl (lv))]) (st' := [.inl ((lg_cmp (Int64.ofInt (wk wx (lv).toNat)) (Int64.ofInt (0 : Nat))).toInt)]) rfl ?_
          have dy := lev_end (W := V) (i := (y).toNat) (k := lv.toNat) (by omega)
          have cz : ((lg_cmp (Int64.ofInt (wk wx (lv).toNat)) (Int64.ofInt (0 : Nat))).toInt = 0 ↔ wk wx (lv).toNat = (0 : Int)) ∧ ((lg_cmp (Int64.ofInt (wk wx (lv).toNat)) (Int64.ofInt (0 : Nat))).toInt < 0 ↔ wk wx (lv).toNat < (0 : Int)) := lg_cs (x := wk wx (lv).toNat) (y := (0 : Int)) (by omega) (by omega) (by omega) (by omega)
          obtain ⟨cz1, cz2⟩ := cz
          refine ez_if rfl rfl ⟨by first | omega | exact (sz_i32 _).1, by first | omega | exact (sz_i32 _).2⟩ (fun (c13 : ((lg_cmp (Int64.ofInt (wk wx (lv).toNat)) (Int64.ofInt (0 : Nat))).toInt) = (0)) => ?_) (fun (c13 : ¬(((lg_cmp (Int64.ofInt (wk wx (lv).toNat)) (Int64.ofInt (0 : Nat))).toInt) = (0))) => ?_)
          · skip
            refine ez_go (n := 3) (pc' := 5) (L' := [(4, .inl (y + 1)), (3, .inl (x + 1)), (7, .inr (.inl (Int64.ofInt (0 : Nat)))), (5, .inr (.inl (Int64.ofInt (wk wx (lv).toNat)))), (0, .inr (.inr (some (744)))), (1, .inr (.inr (some (749)))), (2, .inl (lv))]) (st' := []) rfl ?_
            exfalso; omega
          · skip
            refine ez_go (n := 3) (pc' := 93) (L' := [(7, .inr (.inl (Int64.ofInt (0 : Nat)))), (5, .inr (.inl (Int64.ofInt (wk wx (lv).toNat)))), (4, .inl (y)), (3, .inl (x)), (0, .inr (.inr (some (744)))), (1, .inr (.inr (some (749)))), (2, .inl (lv))]) (st' := [.inl ((lg_cmp (Int64.ofInt (wk wx (lv).toNat)) (Int64.ofInt (0 : Nat))).toInt)]) rfl ?_
            refine ez_if rfl rfl ⟨by first | omega | exact (sz_i32 _).1, by first | omega | exact (sz_i32 _).2⟩ (fun (c14 : (0) ≤ ((lg_cmp (Int64.ofInt (wk wx (lv).toNat)) (Int64.ofInt (0 : Nat))).toInt)) => ?_) (fun (c14 : ¬((0) ≤ ((lg_cmp (Int64.ofInt (wk wx (lv).toNat)) (Int64.ofInt (0 : Nat))).toInt))) => ?_)
            · skip
              refine ez_go (n := 1) (pc' := 101) (L' := [(7, .inr (.inl (Int64.ofInt (0 : Nat)))), (5, .inr (.inl (Int64.ofInt (wk wx (lv).toNat)))), (4, .inl (y)), (3, .inl (x)), (0, .inr (.inr (some (744)))), (1, .inr (.inr (some (749)))), (2, .inl (lv))]) (st' := [.inl (1)]) rfl ?_
              have e9 : lcp (lev W lv.toNat) (lev V lv.toNat) = 1 := by rw [hL, ex, ey, drx, dy]; exact rfl
              rw [e9] at k
              exact ez_retI rfl rfl k
            · skip
              refine ez_go (n := 2) (pc' := 101) (L' := [(7, .inr (.inl (Int64.ofInt (0 : Nat)))), (5, .inr (.inl (Int64.ofInt (wk wx (lv).toNat)))), (4, .inl (y)), (3, .inl (x)), (0, .inr (.inr (some (744)))), (1, .inr (.inr (some (749)))), (2, .inl (lv))]) (st' := [.inl (-1)]) rfl ?_
              exfalso; omega
        · skip
          refine ez_go (n := 3) (pc' := 71) (L' := [(5, .inr (.inl (Int64.ofInt (wk wx (lv).toNat)))), (4, .inl (y)), (3, .inl (x)), (0, .inr (.inr (some (744)))), (1, .inr (.inr (some (749)))), (2, .inl (lv))]) (st' := [.inl (lv), .inl (y), .inr (.inr (some (749)))]) rfl ?_
          obtain ⟨wy, hwy, nzy⟩ := (hid7_o sy).resolve_left (by omega)
          have wby := wk_bd (V9 _ (List.mem_of_getElem? hwy)) (lv).toNat
          have dry := lev_dr (k := lv.toNat) hwy
          rw [if_neg nzy] at dry
          refine ez_cv hB tc2 rfl rfl rfl tq_10 rfl rfl rfl (rd_wgt_r hB hX cl2 cs2 V9 V2 (by omega) hwy lv0 lv3 (ez_KL ?_))
          refine ez_go (n := 5) (pc' := 85) (L' := [(7, .inr (.inl (Int64.ofInt (wk wy (lv).toNat)))), (5, .inr (.inl (Int64.ofInt (wk wx (lv).toNat)))), (4, .inl (y)), (3, .inl (x)), (0, .inr (.inr (some (744)))), (1, .inr (.inr (some (749)))), (2, .inl (lv))]) (st' := [.inl ((lg_cmp (Int64.ofInt (wk wx (lv).toNat)) (Int64.ofInt (wk wy (lv).toNat))).toInt)]) rfl ?_
          have cz : ((lg_cmp (Int64.ofInt (wk wx (lv).toNat)) (Int64.ofInt (wk wy (lv).toNat))).toInt = 0 ↔ wk wx (lv).toNat = wk wy (lv).toNat) ∧ ((lg_cmp (Int64.ofInt (wk wx (lv).toNat)) (Int64.ofInt (wk wy (lv).toNat))).toInt < 0 ↔ wk wx (lv).toNat < wk wy (lv).toNat) := lg_cs (x := wk wx (lv).toNat) (y := wk wy (lv).toNat) (by omega) (by omega) (by omega) (by omega)
          obtain ⟨cz1, cz2⟩ := cz
          refine ez_if rfl rfl ⟨by first | omega | exact (sz_i32 _).1, by first | omega | exact (sz_i32 _).2⟩ (fun (c15 : ((lg_cmp (Int64.ofInt (wk wx (lv).toNat)) (Int64.ofInt (wk wy (lv).toNat))).toInt) = (0)) => ?_) (fun (c15 : ¬(((lg_cmp (Int64.ofInt (wk wx (lv).toNat)) (Int64.ofInt (wk wy (lv).toNat))).toInt) = (0))) => ?_)
          · skip
            refine ez_go (n := 3) (pc' := 5) (L' := [(4, .inl (y + 1)), (3, .inl (x + 1)), (7, .inr (.inl (Int64.ofInt (wk wy (lv).toNat)))), (5, .inr (.inl (Int64.ofInt (wk wx (lv).toNat)))), (0, .inr (.inr (some (744)))), (1, .inr (.inr (some (749)))), (2, .inl (lv))]) (st' := []) rfl ?_
            exfalso; omega
          · skip
            refine ez_go (n := 3) (pc' := 93) (L' := [(7, .inr (.inl (Int64.ofInt (wk wy (lv).toNat)))), (5, .inr (.inl (Int64.ofInt (wk wx (lv).toNat)))), (4, .inl (y)), (3, .inl (x)), (0, .inr (.inr (some (744)))), (1, .inr (.inr (some (749)))), (2, .inl (lv))]) (st' := [.inl ((lg_cmp (Int64.ofInt (wk wx (lv).toNat)) (Int64.ofInt (wk wy (lv).toNat))).toInt)]) rfl ?_
            refine ez_if rfl rfl ⟨by first | omega | exact (sz_i32 _).1, by first | omega | exact (sz_i32 _).2⟩ (fun (c16 : (0) ≤ ((lg_cmp (Int64.ofInt (wk wx (lv).toNat)) (Int64.ofInt (wk wy (lv).toNat))).toInt)) => ?_) (fun (c16 : ¬((0) ≤ ((lg_cmp (Int64.ofInt (wk wx (lv).toNat)) (Int64.ofInt (wk wy (lv).toNat))).toInt))) => ?_)
            · skip
              refine ez_go (n := 1) (pc' := 101) (L' := [(7, .inr (.inl (Int64.ofInt (wk wy (lv).toNat)))), (5, .inr (.inl (Int64.ofInt (wk wx (lv).toNat)))), (4, .inl (y)), (3, .inl (x)), (0, .inr (.inr (some (744)))), (1, .inr (.inr (some (749)))), (2, .inl (lv))]) (st' := [.inl (1)]) rfl ?_
              have e9 : lcp (lev W lv.toNat) (lev V lv.toNat) = 1 := by rw [hL, ex, ey, drx, dry]; exact lcp_g (by omega)
              rw [e9] at k
              exact ez_retI rfl rfl k
            · skip
              refine ez_go (n := 2) (pc' := 101) (L' := [(7, .inr (.inl (Int64.ofInt (wk wy (lv).toNat)))), (5, .inr (.inl (Int64.ofInt (wk wx (lv).toNat)))), (4, .inl (y)), (3, .inl (x)), (0, .inr (.inr (some (744)))), (1, .inr (.inr (some (749)))), (2, .inl (lv))]) (st' := [.inl (-1)]) rfl ?_
              have e9 : lcp (lev W lv.toNat) (lev V lv.toNat) = -1 := by rw [hL, ex, ey, drx, dry]; exact lcp_l (by omega)
              rw [e9] at k
              exact ez_retI rfl rfl k
    · skip
      refine ez_go (n := 2) (pc' := 16) (L' := [(4, .inl (j)), (3, .inl (i)), (0, .inr (.inr (some (744)))), (1, .inr (.inr (some (749)))), (2, .inl (lv))]) (st' := [.inr (.inr (some (749))), .inl (j)]) rfl ?_
      refine ez_gI hB tc2 rfl rfl tq_10 rfl rfl (fun (b17 : 0 ≤ qz_I h 749 5) (b17' : qz_I h 749 5 ≤ 36000) => ?_)
      rw [cs2.1.1]
      refine ez_icmp rfl rfl ⟨by first | omega | exact (sz_i32 _).1, by first | omega | exact (sz_i32 _).2⟩ ⟨by first | omega | exact (sz_i32 _).1, by first | omega | exact (sz_i32 _).2⟩ (fun (c18 : ((V.length : Int)) ≤ (j)) => ?_) (fun (c18 : ¬(((V.length : Int)) ≤ (j))) => ?_)
      · skip
        refine ez_go (n := 1) (pc' := 112) (L' := [(4, .inl (j)), (3, .inl (i)), (0, .inr (.inr (some (744)))), (1, .inr (.inr (some (749)))), (2, .inl (lv))]) (st' := [.inl (0)]) rfl ?_
        have e9 : lcp (lev W lv.toNat) (lev V lv.toNat) = 0 := by rw [hL, lev_end (by omega), lev_end (by omega)]; rfl
        rw [e9] at k
        exact ez_retI rfl rfl k
      · skip
        refine ez_go (n := 3) (pc' := 25) (L' := [(4, .inl (j)), (3, .inl (i)), (0, .inr (.inr (some (744)))), (1, .inr (.inr (some (749)))), (2, .inl (lv))]) (st' := [.inl (lv), .inl (i), .inr (.inr (some (744)))]) rfl ?_
        refine ez_cv hB tc rfl rfl rfl tq_10 rfl rfl rfl (rd_skz_l hB hX cl cs W9 W2 (by omega) (by omega) lv0 lv3 (fun x ax bbx ex sx => ez_K1 ?_))
        replace sx := hid7_i sx
        refine ez_go (n := 4) (pc' := 33) (L' := [(3, .inl (x)), (4, .inl (j)), (0, .inr (.inr (some (744)))), (1, .inr (.inr (some (749)))), (2, .inl (lv))]) (st' := [.inl (lv), .inl (j), .inr (.inr (some (749)))]) rfl ?_
        refine ez_cv hB tc2 rfl rfl rfl tq_10 rfl rfl rfl (rd_skz_r hB hX cl2 cs2 V9 V2 (by omega) (by omega) lv0 lv3 (fun y ay bby ey sy => ez_K1 ?_))
        replace sy := hid7_i sy
        refine ez_go (n := 3) (pc' := 40) (L' := [(4, .inl (y)), (3, .inl (x)), (0, .inr (.inr (some (744)))), (1, .inr (.inr (some (749)))), (2, .inl (lv))]) (st' := [.inr (.inr (some (744))), .inl (x)]) rfl ?_
        refine ez_gI hB tc rfl rfl tq_10 rfl rfl (fun (b19 : 0 ≤ qz_I h 744 5) (b19' : qz_I h 744 5 ≤ 36000) => ?_)
        rw [cs.1.1]
        refine ez_icmp rfl rfl ⟨by first | omega | exact (sz_i32 _).1, by first | omega | exact (sz_i32 _).2⟩ ⟨by first | omega | exact (sz_i32 _).1, by first | omega | exact (sz_i32 _).2⟩ (fun (c20 : ((W.length : Int)) ≤ (x)) => ?_) (fun (c20 : ¬(((W.length : Int)) ≤ (x))) => ?_)
        · skip
          refine ez_go (n := 4) (pc' := 61) (L' := [(5, .inr (.inl (Int64.ofInt (0 : Nat)))), (4, .inl (y)), (3, .inl (x)), (0, .inr (.inr (some (744)))), (1, .inr (.inr (some (749)))), (2, .inl (lv))]) (st' := [.inr (.inr (some (749))), .inl (y)]) rfl ?_
          refine ez_gI hB tc2 rfl rfl tq_10 rfl rfl (fun (b21 : 0 ≤ qz_I h 749 5) (b21' : qz_I h 749 5 ≤ 36000) => ?_)
          rw [cs2.1.1]
          refine ez_icmp rfl rfl ⟨by first | omega | exact (sz_i32 _).1, by first | omega | exact (sz_i32 _).2⟩ ⟨by first | omega | exact (sz_i32 _).1, by first | omega | exact (sz_i32 _).2⟩ (fun (c22 : ((V.length : Int)) ≤ (y)) => ?_) (fun (c22 : ¬(((V.length : Int)) ≤ (y))) => ?_)
          · skip
            refine ez_go (n := 5) (pc' := 85) (L' := [(7, .inr (.inl (Int64.ofInt (0 : Nat)))), (5, .inr (.inl (Int64.ofInt (0 : Nat)))), (4, .inl (y)), (3, .inl (x)), (0, .inr (.inr (some (744)))), (1, .inr (.inr (some (749)))), (2, .inl (lv))]) (st' := [.inl ((lg_cmp (Int64.ofInt (0 : Nat)) (Int64.ofInt (0 : Nat))).toInt)]) rfl ?_
            have dx := lev_end (W := W) (i := (x).toNat) (k := lv.toNat) (by omega)
            have dy := lev_end (W := V) (i := (y).toNat) (k := lv.toNat) (by omega)
            have cz : ((lg_cmp (Int64.ofInt (0 : Nat)) (Int64.ofInt (0 : Nat))).toInt = 0 ↔ (0 : Int) = (0 : Int)) ∧ ((lg_cmp (Int64.ofInt (0 : Nat)) (Int64.ofInt (0 : Nat))).toInt < 0 ↔ (0 : Int) < (0 : Int)) := lg_cs (x := (0 : Int)) (y := (0 : Int)) (by omega) (by omega) (by omega) (by omega)
            obtain ⟨cz1, cz2⟩ := cz
            refine ez_if rfl rfl ⟨by first | omega | exact (sz_i32 _).1, by first | omega | exact (sz_i32 _).2⟩ (fun (c23 : ((lg_cmp (Int64.ofInt (0 : Nat)) (Int64.ofInt (0 : Nat))).toInt) = (0)) => ?_) (fun (c23 : ¬(((lg_cmp (Int64.ofInt (0 : Nat)) (Int64.ofInt (0 : Nat))).toInt) = (0))) => ?_)
            · skip
              refine ez_go (n := 3) (pc' := 5) (L' := [(4, .inl (y + 1)), (3, .inl (x + 1)), (7, .inr (.inl (Int64.ofInt (0 : Nat)))), (5, .inr (.inl (Int64.ofInt (0 : Nat)))), (0, .inr (.inr (some (744)))), (1, .inr (.inr (some (749)))), (2, .inl (lv))]) (st' := []) rfl ?_
              exfalso; omega
            · skip
              refine ez_go (n := 3) (pc' := 93) (L' := [(7, .inr (.inl (Int64.ofInt (0 : Nat)))), (5, .inr (.inl (Int64.ofInt (0 : Nat)))), (4, .inl (y)), (3, .inl (x)), (0, .inr (.inr (some (744)))), (1, .inr (.inr (some (749)))), (2, .inl (lv))]) (st' := [.inl ((lg_cmp (Int64.ofInt (0 : Nat)) (Int64.ofInt (0 : Nat))).toInt)]) rfl ?_
              refine ez_if rfl rfl ⟨by first | omega | exact (sz_i32 _).1, by first | omega | exact (sz_i32 _).2⟩ (fun (c24 : (0) ≤ ((lg_cmp (Int64.ofInt (0 : Nat)) (Int64.ofInt (0 : Nat))).toInt)) => ?_) (fun (c24 : ¬((0) ≤ ((lg_cmp (Int64.ofInt (0 : Nat)) (Int64.ofInt (0 : Nat))).toInt))) => ?_)
              · skip
                refine ez_go (n := 1) (pc' := 101) (L' := [(7, .inr (.inl (Int64.ofInt (0 : Nat)))), (5, .inr (.inl (Int64.ofInt (0 : Nat)))), (4, .inl (y)), (3, .inl (x)), (0, .inr (.inr (some (744)))), (1, .inr (.inr (some (749)))), (2, .inl (lv))]) (st' := [.inl (1)]) rfl ?_
                exfalso; omega
              · skip
                refine ez_go (n := 2) (pc' := 101) (L' := [(7, .inr (.inl (Int64.ofInt (0 : Nat)))), (5, .inr (.inl (Int64.ofInt (0 : Nat)))), (4, .inl (y)), (3, .inl (x)), (0, .inr (.inr (some (744)))), (1, .inr (.inr (some (749)))), (2, .inl (lv))]) (st' := [.inl (-1)]) rfl ?_
                exfalso; omega
          · skip
            refine ez_go (n := 3) (pc' := 71) (L' := [(5, .inr (.inl (Int64.ofInt (0 : Nat)))), (4, .inl (y)), (3, .inl (x)), (0, .inr (.inr (some (744)))), (1, .inr (.inr (some (749)))), (2, .inl (lv))]) (st' := [.inl (lv), .inl (y), .inr (.inr (some (749)))]) rfl ?_
            obtain ⟨wy, hwy, nzy⟩ := (hid7_o sy).resolve_left (by omega)
            have wby := wk_bd (V9 _ (List.mem_of_getElem? hwy)) (lv).toNat
            have dry := lev_dr (k := lv.toNat) hwy
            rw [if_neg nzy] at dry
            refine ez_cv hB tc2 rfl rfl rfl tq_10 rfl rfl rfl (rd_wgt_r hB hX cl2 cs2 V9 V2 (by omega) hwy lv0 lv3 (ez_KL ?_))
            refine ez_go (n := 5) (pc' := 85) (L' := [(7, .inr (.inl (Int64.ofInt (wk wy (lv).toNat)))), (5, .inr (.inl (Int64.ofInt (0 : Nat)))), (4, .inl (y)), (3, .inl (x)), (0, .inr (.inr (some (744)))), (1, .inr (.inr (some (749)))), (2, .inl (lv))]) (st' := [.inl ((lg_cmp (Int64.ofInt (0 : Nat)) (Int64.ofInt (wk wy (lv).toNat))).toInt)]) rfl ?_
            have dx := lev_end (W := W) (i := (x).toNat) (k := lv.toNat) (by omega)
            have cz : ((lg_cmp (Int64.ofInt (0 : Nat)) (Int64.ofInt (wk wy (lv).toNat))).toInt = 0 ↔ (0 : Int) = wk wy (lv).toNat) ∧ ((lg_cmp (Int64.ofInt (0 : Nat)) (Int64.ofInt (wk wy (lv).toNat))).toInt < 0 ↔ (0 : Int) < wk wy (lv).toNat) := lg_cs (x := (0 : Int)) (y := wk wy (lv).toNat) (by omega) (by omega) (by omega) (by omega)
            obtain ⟨cz1, cz2⟩ := cz
            refine ez_if rfl rfl ⟨by first | omega | exact (sz_i32 _).1, by first | omega | exact (sz_i32 _).2⟩ (fun (c25 : ((lg_cmp (Int64.ofInt (0 : Nat)) (Int64.ofInt (wk wy (lv).toNat))).toInt) = (0)) => ?_) (fun (c25 : ¬(((lg_cmp (Int64.ofInt (0 : Nat)) (Int64.ofInt (wk wy (lv).toNat))).toInt) = (0))) => ?_)
            · skip
              refine ez_go (n := 3) (pc' := 5) (L' := [(4, .inl (y + 1)), (3, .inl (x + 1)), (7, .inr (.inl (Int64.ofInt (wk wy (lv).toNat)))), (5, .inr (.inl (Int64.ofInt (0 : Nat)))), (0, .inr (.inr (some (744)))), (1, .inr (.inr (some (749)))), (2, .inl (lv))]) (st' := []) rfl ?_
              exfalso; omega
            · skip
              refine ez_go (n := 3) (pc' := 93) (L' := [(7, .inr (.inl (Int64.ofInt (wk wy (lv).toNat)))), (5, .inr (.inl (Int64.ofInt (0 : Nat)))), (4, .inl (y)), (3, .inl (x)), (0, .inr (.inr (some (744)))), (1, .inr (.inr (some (749)))), (2, .inl (lv))]) (st' := [.inl ((lg_cmp (Int64.ofInt (0 : Nat)) (Int64.ofInt (wk wy (lv).toNat))).toInt)]) rfl ?_
              refine ez_if rfl rfl ⟨by first | omega | exact (sz_i32 _).1, by first | omega | exact (sz_i32 _).2⟩ (fun (c26 : (0) ≤ ((lg_cmp (Int64.ofInt (0 : Nat)) (Int64.ofInt (wk wy (lv).toNat))).toInt)) => ?_) (fun (c26 : ¬((0) ≤ ((lg_cmp (Int64.ofInt (0 : Nat)) (Int64.ofInt (wk wy (lv).toNat))).toInt))) => ?_)
              · skip
                refine ez_go (n := 1) (pc' := 101) (L' := [(7, .inr (.inl (Int64.ofInt (wk wy (lv).toNat)))), (5, .inr (.inl (Int64.ofInt (0 : Nat)))), (4, .inl (y)), (3, .inl (x)), (0, .inr (.inr (some (744)))), (1, .inr (.inr (some (749)))), (2, .inl (lv))]) (st' := [.inl (1)]) rfl ?_
                exfalso; omega
              · skip
                refine ez_go (n := 2) (pc' := 101) (L' := [(7, .inr (.inl (Int64.ofInt (wk wy (lv).toNat)))), (5, .inr (.inl (Int64.ofInt (0 : Nat)))), (4, .inl (y)), (3, .inl (x)), (0, .inr (.inr (some (744)))), (1, .inr (.inr (some (749)))), (2, .inl (lv))]) (st' := [.inl (-1)]) rfl ?_
                have e9 : lcp (lev W lv.toNat) (lev V lv.toNat) = -1 := by rw [hL, ex, ey, dx, dry]; exact rfl
                rw [e9] at k
                exact ez_retI rfl rfl k
        · skip
          refine ez_go (n := 3) (pc' := 49) (L' := [(4, .inl (y)), (3, .inl (x)), (0, .inr (.inr (some (744)))), (1, .inr (.inr (some (749)))), (2, .inl (lv))]) (st' := [.inl (lv), .inl (x), .inr (.inr (some (744)))]) rfl ?_
          obtain ⟨wx, hwx, nzx⟩ := (hid7_o sx).resolve_left (by omega)
          have wbx := wk_bd (W9 _ (List.mem_of_getElem? hwx)) (lv).toNat
          have drx := lev_dr (k := lv.toNat) hwx
          rw [if_neg nzx] at drx
          refine ez_cv hB tc rfl rfl rfl tq_10 rfl rfl rfl (rd_wgt_l hB hX cl cs W9 W2 (by omega) hwx lv0 lv3 (ez_KL ?_))
          refine ez_go (n := 4) (pc' := 61) (L' := [(5, .inr (.inl (Int64.ofInt (wk wx (lv).toNat)))), (4, .inl (y)), (3, .inl (x)), (0, .inr (.inr (some (744)))), (1, .inr (.inr (some (749)))), (2, .inl (lv))]) (st' := [.inr (.inr (some (749))), .inl (y)]) rfl ?_
          refine ez_gI hB tc2 rfl rfl tq_10 rfl rfl (fun (b27 : 0 ≤ qz_I h 749 5) (b27' : qz_I h 749 5 ≤ 36000) => ?_)
          rw [cs2.1.1]
          refine ez_icmp rfl rfl ⟨by first | omega | exact (sz_i32 _).1, by first | omega | exact (sz_i32 _).2⟩ ⟨by first | omega | exact (sz_i32 _).1, by first | omega | exact (sz_i32 _).2⟩ (fun (c28 : ((V.length : Int)) ≤ (y)) => ?_) (fun (c28 : ¬(((V.length : Int)) ≤ (y))) => ?_)
          · skip
            refine ez_go (n := 5) (pc' := 85) (L' := [(7, .inr (.inl (Int64.ofInt (0 : Nat)))), (5, .inr (.inl (Int64.ofInt (wk wx (lv).toNat)))), (4, .inl (y)), (3, .inl (x)), (0, .inr (.inr (some (744)))), (1, .inr (.inr (some (749)))), (2, .inl (lv))]) (st' := [.inl ((lg_cmp (Int64.ofInt (wk wx (lv).toNat)) (Int64.ofInt (0 : Nat))).toInt)]) rfl ?_
            have dy := lev_end (W := V) (i := (y).toNat) (k := lv.toNat) (by omega)
            have cz : ((lg_cmp (Int64.ofInt (wk wx (lv).toNat)) (Int64.ofInt (0 : Nat))).toInt = 0 ↔ wk wx (lv).toNat = (0 : Int)) ∧ ((lg_cmp (Int64.ofInt (wk wx (lv).toNat)) (Int64.ofInt (0 : Nat))).toInt < 0 ↔ wk wx (lv).toNat < (0 : Int)) := lg_cs (x := wk wx (lv).toNat) (y := (0 : Int)) (by omega) (by omega) (by omega) (by omega)
            obtain ⟨cz1, cz2⟩ := cz
            refine ez_if rfl rfl ⟨by first | omega | exact (sz_i32 _).1, by first | omega | exact (sz_i32 _).2⟩ (fun (c29 : ((lg_cmp (Int64.ofInt (wk wx (lv).toNat)) (Int64.ofInt (0 : Nat))).toInt) = (0)) => ?_) (fun (c29 : ¬(((lg_cmp (Int64.ofInt (wk wx (lv).toNat)) (Int64.ofInt (0 : Nat))).toInt) = (0))) => ?_)
            · skip
              refine ez_go (n := 3) (pc' := 5) (L' := [(4, .inl (y + 1)), (3, .inl (x + 1)), (7, .inr (.inl (Int64.ofInt (0 : Nat)))), (5, .inr (.inl (Int64.ofInt (wk wx (lv).toNat)))), (0, .inr (.inr (some (744)))), (1, .inr (.inr (some (749)))), (2, .inl (lv))]) (st' := []) rfl ?_
              exfalso; omega
            · skip
              refine ez_go (n := 3) (pc' := 93) (L' := [(7, .inr (.inl (Int64.ofInt (0 : Nat)))), (5, .inr (.inl (Int64.ofInt (wk wx (lv).toNat)))), (4, .inl (y)), (3, .inl (x)), (0, .inr (.inr (some (744)))), (1, .inr (.inr (some (749)))), (2, .inl (lv))]) (st' := [.inl ((lg_cmp (Int64.ofInt (wk wx (lv).toNat)) (Int64.ofInt (0 : Nat))).toInt)]) rfl ?_
              refine ez_if rfl rfl ⟨by first | omega | exact (sz_i32 _).1, by first | omega | exact (sz_i32 _).2⟩ (fun (c30 : (0) ≤ ((lg_cmp (Int64.ofInt (wk wx (lv).toNat)) (Int64.ofInt (0 : Nat))).toInt)) => ?_) (fun (c30 : ¬((0) ≤ ((lg_cmp (Int64.ofInt (wk wx (lv).toNat)) (Int64.ofInt (0 : Nat))).toInt))) => ?_)
              · skip
                refine ez_go (n := 1) (pc' := 101) (L' := [(7, .inr (.inl (Int64.ofInt (0 : Nat)))), (5, .inr (.inl (Int64.ofInt (wk wx (lv).toNat)))), (4, .inl (y)), (3, .inl (x)), (0, .inr (.inr (some (744)))), (1, .inr (.inr (some (749)))), (2, .inl (lv))]) (st' := [.inl (1)]) rfl ?_
                have e9 : lcp (lev W lv.toNat) (lev V lv.toNat) = 1 := by rw [hL, ex, ey, drx, dy]; exact rfl
                rw [e9] at k
                exact ez_retI rfl rfl k
              · skip
                refine ez_go (n := 2) (pc' := 101) (L' := [(7, .inr (.inl (Int64.ofInt (0 : Nat)))), (5, .inr (.inl (Int64.ofInt (wk wx (lv).toNat)))), (4, .inl (y)), (3, .inl (x)), (0, .inr (.inr (some (744)))), (1, .inr (.inr (some (749)))), (2, .inl (lv))]) (st' := [.inl (-1)]) rfl ?_
                exfalso; omega
          · skip
            refine ez_go (n := 3) (pc' := 71) (L' := [(5, .inr (.inl (Int64.ofInt (wk wx (lv).toNat)))), (4, .inl (y)), (3, .inl (x)), (0, .inr (.inr (some (744)))), (1, .inr (.inr (some (749)))), (2, .inl (lv))]) (st' := [.inl (lv), .inl (y), .inr (.inr (some (749)))]) rfl ?_
            obtain ⟨wy, hwy, nzy⟩ := (hid7_o sy).resolve_left (by omega)
            have wby := wk_bd (V9 _ (List.mem_of_getElem? hwy)) (lv).toNat
            have dry := lev_dr (k := lv.toNat) hwy
            rw [if_neg nzy] at dry
            refine ez_cv hB tc2 rfl rfl rfl tq_10 rfl rfl rfl (rd_wgt_r hB hX cl2 cs2 V9 V2 (by omega) hwy lv0 lv3 (ez_KL ?_))
            refine ez_go (n := 5) (pc' := 85) (L' := [(7, .inr (.inl (Int64.ofInt (wk wy (lv).toNat)))), (5, .inr (.inl (Int64.ofInt (wk wx (lv).toNat)))), (4, .inl (y)), (3, .inl (x)), (0, .inr (.inr (some (744)))), (1, .inr (.inr (some (749)))), (2, .inl (lv))]) (st' := [.inl ((lg_cmp (Int64.ofInt (wk wx (lv).toNat)) (Int64.ofInt (wk wy (lv).toNat))).toInt)]) rfl ?_
            have cz : ((lg_cmp (Int64.ofInt (wk wx (lv).toNat)) (Int64.ofInt (wk wy (lv).toNat))).toInt = 0 ↔ wk wx (lv).toNat = wk wy (lv).toNat) ∧ ((lg_cmp (Int64.ofInt (wk wx (lv).toNat)) (Int64.ofInt (wk wy (lv).toNat))).toInt < 0 ↔ wk wx (lv).toNat < wk wy (lv).toNat) := lg_cs (x := wk wx (lv).toNat) (y := wk wy (lv).toNat) (by omega) (by omega) (by omega) (by omega)
            obtain ⟨cz1, cz2⟩ := cz
            refine ez_if rfl rfl ⟨by first | omega | exact (sz_i32 _).1, by first | omega | exact (sz_i32 _).2⟩ (fun (c31 : ((lg_cmp (Int64.ofInt (wk wx (lv).toNat)) (Int64.ofInt (wk wy (lv).toNat))).toInt) = (0)) => ?_) (fun (c31 : ¬(((lg_cmp (Int64.ofInt (wk wx (lv).toNat)) (Int64.ofInt (wk wy (lv).toNat))).toInt) = (0))) => ?_)
            · skip
              refine ez_go (n := 3) (pc' := 5) (L' := [(4, .inl (y + 1)), (3, .inl (x + 1)), (7, .inr (.inl (Int64.ofInt (wk wy (lv).toNat)))), (5, .inr (.inl (Int64.ofInt (wk wx (lv).toNat)))), (0, .inr (.inr (some (744)))), (1, .inr (.inr (some (749)))), (2, .inl (lv))]) (st' := []) rfl ?_
              exfalso; omega
            · skip
              refine ez_go (n := 3) (pc' := 93) (L' := [(7, .inr (.inl (Int64.ofInt (wk wy (lv).toNat)))), (5, .inr (.inl (Int64.ofInt (wk wx (lv).toNat)))), (4, .inl (y)), (3, .inl (x)), (0, .inr (.inr (some (744)))), (1, .inr (.inr (some (749)))), (2, .inl (lv))]) (st' := [.inl ((lg_cmp (Int64.ofInt (wk wx (lv).toNat)) (Int64.ofInt (wk wy (lv).toNat))).toInt)]) rfl ?_
              refine ez_if rfl rfl ⟨by first | omega | exact (sz_i32 _).1, by first | omega | exact (sz_i32 _).2⟩ (fun (c32 : (0) ≤ ((lg_cmp (Int64.ofInt (wk wx (lv).toNat)) (Int64.ofInt (wk wy (lv).toNat))).toInt)) => ?_) (fun (c32 : ¬((0) ≤ ((lg_cmp (Int64.ofInt (wk wx (lv).toNat)) (Int64.ofInt (wk wy (lv).toNat))).toInt))) => ?_)
              · skip
                refine ez_go (n := 1) (pc' := 101) (L' := [(7, .inr (.inl (Int64.ofInt (wk wy (lv).toNat)))), (5, .inr (.inl (Int64.ofInt (wk wx (lv).toNat)))), (4, .inl (y)), (3, .inl (x)), (0, .inr (.inr (some (744)))), (1, .inr (.inr (some (749)))), (2, .inl (lv))]) (st' := [.inl (1)]) rfl ?_
                have e9 : lcp (lev W lv.toNat) (lev V lv.toNat) = 1 := by rw [hL, ex, ey, drx, dry]; exact lcp_g (by omega)
                rw [e9] at k
                exact ez_retI rfl rfl k
              · skip
                refine ez_go (n := 2) (pc' := 101) (L' := [(7, .inr (.inl (Int64.ofInt (wk wy (lv).toNat)))), (5, .inr (.inl (Int64.ofInt (wk wx (lv).toNat)))), (4, .inl (y)), (3, .inl (x)), (0, .inr (.inr (some (744)))), (1, .inr (.inr (some (749)))), (2, .inl (lv))]) (st' := [.inl (-1)]) rfl ?_
                have e9 : lcp (lev W lv.toNat) (lev V lv.toNat) = -1 := by rw [hL, ex, ey, drx, dry]; exact lcp_l (by omega)
                rw [e9] at k
                exact ez_retI rfl rfl k
  | succ n ih =>
    intro j i hn0 i0 i1 j0 j1 hij hL
    refine ez_go (n := 2) (pc' := 7) (L' := [(4, .inl (j)), (3, .inl (i)), (0, .inr (.inr (some (744)))), (1, .inr (.inr (some (749)))), (2, .inl (lv))]) (st' := [.inr (.inr (some (744))), .inl (i)]) rfl ?_
    refine ez_gI hB tc rfl rfl tq_10 rfl rfl (fun (b1 : 0 ≤ qz_I h 744 5) (b1' : qz_I h 744 5 ≤ 36000) => ?_)
    rw [cs.1.1]
    refine ez_icmp rfl rfl ⟨by first | omega | exact (sz_i32 _).1, by first | omega | exact (sz_i32 _).2⟩ ⟨by first | omega | exact (sz_i32 _).1, by first | omega | exact (sz_i32 _).2⟩ (fun (c2 : (i) < ((W.length : Int))) => ?_) (fun (c2 : ¬((i) < ((W.length : Int)))) => ?_)
    · skip
      refine ez_go (n := 3) (pc' := 25) (L' := [(4, .inl (j)), (3, .inl (i)), (0, .inr (.inr (some (744)))), (1, .inr (.inr (some (749)))), (2, .inl (lv))]) (st' := [.inl (lv), .inl (i), .inr (.inr (some (744)))]) rfl ?_
      refine ez_cv hB tc rfl rfl rfl tq_10 rfl rfl rfl (rd_skz_l hB hX cl cs W9 W2 (by omega) (by omega) lv0 lv3 (fun x ax bbx ex sx => ez_K1 ?_))
      replace sx := hid7_i sx
      refine ez_go (n := 4) (pc' := 33) (L' := [(3, .inl (x)), (4, .inl (j)), (0, .inr (.inr (some (744)))), (1, .inr (.inr (some (749)))), (2, .inl (lv))]) (st' := [.inl (lv), .inl (j), .inr (.inr (some (749)))]) rfl ?_
      refine ez_cv hB tc2 rfl rfl rfl tq_10 rfl rfl rfl (rd_skz_r hB hX cl2 cs2 V9 V2 (by omega) (by omega) lv0 lv3 (fun y ay bby ey sy => ez_K1 ?_))
      replace sy := hid7_i sy
      refine ez_go (n := 3) (pc' := 40) (L' := [(4, .inl (y)), (3, .inl (x)), (0, .inr (.inr (some (744)))), (1, .inr (.inr (some (749)))), (2, .inl (lv))]) (st' := [.inr (.inr (some (744))), .inl (x)]) rfl ?_
      refine ez_gI hB tc rfl rfl tq_10 rfl rfl (fun (b3 : 0 ≤ qz_I h 744 5) (b3' : qz_I h 744 5 ≤ 36000) => ?_)
      rw [cs.1.1]
      refine ez_icmp rfl rfl ⟨by first | omega | exact (sz_i32 _).1, by first | omega | exact (sz_i32 _).2⟩ ⟨by first | omega | exact (sz_i32 _).1, by first | omega | exact (sz_i32 _).2⟩ (fun (c4 : ((W.length : Int)) ≤ (x)) => ?_) (fun (c4 : ¬(((W.length : Int)) ≤ (x))) => ?_)
      · skip
        refine ez_go (n := 4) (pc' := 61) (L' := [(5, .inr (.inl (Int64.ofInt (0 : Nat)))), (4, .inl (y)), (3, .inl (x)), (0, .inr (.inr (some (744)))), (1, .inr (.inr (some (749)))), (2, .inl (lv))]) (st' := [.inr (.inr (some (749))), .inl (y)]) rfl ?_
        refine ez_gI hB tc2 rfl rfl tq_10 rfl rfl (fun (b5 : 0 ≤ qz_I h 749 5) (b5' : qz_I h 749 5 ≤ 36000) => ?_)
        rw [cs2.1.1]
        refine ez_icmp rfl rfl ⟨by first | omega | exact (sz_i32 _).1, by first | omega | exact (sz_i32 _).2⟩ ⟨by first | omega | exact (sz_i32 _).1, by first | omega | exact (sz_i32 _).2⟩ (fun (c6 : ((V.length : Int)) ≤ (y)) => ?_) (fun (c6 : ¬(((V.length : Int)) ≤ (y))) => ?_)
        · skip
          refine ez_go (n := 5) (pc' := 85) (L' := [(7, .inr (.inl (Int64.ofInt (0 : Nat)))), (5, .inr (.inl (Int64.ofInt (0 : Nat)))), (4, .inl (y)), (3, .inl (x)), (0, .inr (.inr (some (744)))), (1, .inr (.inr (some (749)))), (2, .inl (lv))]) (st' := [.inl ((lg_cmp (Int64.ofInt (0 : Nat)) (Int64.ofInt (0 : Nat))).toInt)]) rfl ?_
          have dx := lev_end (W := W) (i := (x).toNat) (k := lv.toNat) (by omega)
          have dy := lev_end (W := V) (i := (y).toNat) (k := lv.toNat) (by omega)
          have cz : ((lg_cmp (Int64.ofInt (0 : Nat)) (Int64.ofInt (0 : Nat))).toInt = 0 ↔ (0 : Int) = (0 : Int)) ∧ ((lg_cmp (Int64.ofInt (0 : Nat)) (Int64.ofInt (0 : Nat))).toInt < 0 ↔ (0 : Int) < (0 : Int)) := lg_cs (x := (0 : Int)) (y := (0 : Int)) (by omega) (by omega) (by omega) (by omega)
          obtain ⟨cz1, cz2⟩ := cz
          refine ez_if rfl rfl ⟨by first | omega | exact (sz_i32 _).1, by first | omega | exact (sz_i32 _).2⟩ (fun (c7 : ((lg_cmp (Int64.ofInt (0 : Nat)) (Int64.ofInt (0 : Nat))).toInt) = (0)) => ?_) (fun (c7 : ¬(((lg_cmp (Int64.ofInt (0 : Nat)) (Int64.ofInt (0 : Nat))).toInt) = (0))) => ?_)
          · skip
            refine ez_go (n := 3) (pc' := 5) (L' := [(4, .inl (y + 1)), (3, .inl (x + 1)), (7, .inr (.inl (Int64.ofInt (0 : Nat)))), (5, .inr (.inl (Int64.ofInt (0 : Nat)))), (0, .inr (.inr (some (744)))), (1, .inr (.inr (some (749)))), (2, .inl (lv))]) (st' := []) rfl ?_
            refine ez_less [(4, .inl (y + 1)), (3, .inl (x + 1)), (0, .inr (.inr (some (744)))), (1, .inr (.inr (some (749)))), (2, .inl (lv))] rfl ⟨rfl, rfl, rfl, rfl, rfl, trivial⟩ ?_
            refine ih (y + 1) (x + 1) (by omega) (by omega) (by omega) (by omega) (by omega) (by omega) ?_
            rw [hL, ex, ey, dx, dy, lev_end (by omega), lev_end (by omega)]
          · skip
            refine ez_go (n := 3) (pc' := 93) (L' := [(7, .inr (.inl (Int64.ofInt (0 : Nat)))), (5, .inr (.inl (Int64.ofInt (0 : Nat)))), (4, .inl (y)), (3, .inl (x)), (0, .inr (.inr (some (744)))), (1, .inr (.inr (some (749)))), (2, .inl (lv))]) (st' := [.inl ((lg_cmp (Int64.ofInt (0 : Nat)) (Int64.ofInt (0 : Nat))).toInt)]) rfl ?_
            refine ez_if rfl rfl ⟨by first | omega | exact (sz_i32 _).1, by first | omega | exact (sz_i32 _).2⟩ (fun (c8 : (0) ≤ ((lg_cmp (Int64.ofInt (0 : Nat)) (Int64.ofInt (0 : Nat))).toInt)) => ?_) (fun (c8 : ¬((0) ≤ ((lg_cmp (Int64.ofInt (0 : Nat)) (Int64.ofInt (0 : Nat))).toInt))) => ?_)
            · skip
              refine ez_go (n := 1) (pc' := 101) (L' := [(7, .inr (.inl (Int64.ofInt (0 : Nat)))), (5, .inr (.inl (Int64.ofInt (0 : Nat)))), (4, .inl (y)), (3, .inl (x)), (0, .inr (.inr (some (744)))), (1, .inr (.inr (some (749)))), (2, .inl (lv))]) (st' := [.inl (1)]) rfl ?_
              exfalso; omega
            · skip
              refine ez_go (n := 2) (pc' := 101) (L' := [(7, .inr (.inl (Int64.ofInt (0 : Nat)))), (5, .inr (.inl (Int64.ofInt (0 : Nat)))), (4, .inl (y)), (3, .inl (x)), (0, .inr (.inr (some (744)))), (1, .inr (.inr (some (749)))), (2, .inl (lv))]) (st' := [.inl (-1)]) rfl ?_
              exfalso; omega
        · skip
          refine ez_go (n := 3) (pc' := 71) (L' := [(5, .inr (.inl (Int64.ofInt (0 : Nat)))), (4, .inl (y)), (3, .inl (x)), (0, .inr (.inr (some (744)))), (1, .inr (.inr (some (749)))), (2, .inl (lv))]) (st' := [.inl (lv), .inl (y), .inr (.inr (some (749)))]) rfl ?_
          obtain ⟨wy, hwy, nzy⟩ := (hid7_o sy).resolve_left (by omega)
          have wby := wk_bd (V9 _ (List.mem_of_getElem? hwy)) (lv).toNat
          have dry := lev_dr (k := lv.toNat) hwy
          rw [if_neg nzy] at dry
          refine ez_cv hB tc2 rfl rfl rfl tq_10 rfl rfl rfl (rd_wgt_r hB hX cl2 cs2 V9 V2 (by omega) hwy lv0 lv3 (ez_KL ?_))
          refine ez_go (n := 5) (pc' := 85) (L' := [(7, .inr (.inl (Int64.ofInt (wk wy (lv).toNat)))), (5, .inr (.inl (Int64.ofInt (0 : Nat)))), (4, .inl (y)), (3, .inl (x)), (0, .inr (.inr (some (744)))), (1, .inr (.inr (some (749)))), (2, .inl (lv))]) (st' := [.inl ((lg_cmp (Int64.ofInt (0 : Nat)) (Int64.ofInt (wk wy (lv).toNat))).toInt)]) rfl ?_
          have dx := lev_end (W := W) (i := (x).toNat) (k := lv.toNat) (by omega)
          have cz : ((lg_cmp (Int64.ofInt (0 : Nat)) (Int64.ofInt (wk wy (lv).toNat))).toInt = 0 ↔ (0 : Int) = wk wy (lv).toNat) ∧ ((lg_cmp (Int64.ofInt (0 : Nat)) (Int64.ofInt (wk wy (lv).toNat))).toInt < 0 ↔ (0 : Int) < wk wy (lv).toNat) := lg_cs (x := (0 : Int)) (y := wk wy (lv).toNat) (by omega) (by omega) (by omega) (by omega)
          obtain ⟨cz1, cz2⟩ := cz
          refine ez_if rfl rfl ⟨by first | omega | exact (sz_i32 _).1, by first | omega | exact (sz_i32 _).2⟩ (fun (c9 : ((lg_cmp (Int64.ofInt (0 : Nat)) (Int64.ofInt (wk wy (lv).toNat))).toInt) = (0)) => ?_) (fun (c9 : ¬(((lg_cmp (Int64.ofInt (0 : Nat)) (Int64.ofInt (wk wy (lv).toNat))).toInt) = (0))) => ?_)
          · skip
            refine ez_go (n := 3) (pc' := 5) (L' := [(4, .inl (y + 1)), (3, .inl (x + 1)), (7, .inr (.inl (Int64.ofInt (wk wy (lv).toNat)))), (5, .inr (.inl (Int64.ofInt (0 : Nat)))), (0, .inr (.inr (some (744)))), (1, .inr (.inr (some (749)))), (2, .inl (lv))]) (st' := []) rfl ?_
            exfalso; omega
          · skip
            refine ez_go (n := 3) (pc' := 93) (L' := [(7, .inr (.inl (Int64.ofInt (wk wy (lv).toNat)))), (5, .inr (.inl (Int64.ofInt (0 : Nat)))), (4, .inl (y)), (3, .inl (x)), (0, .inr (.inr (some (744)))), (1, .inr (.inr (some (749)))), (2, .inl (lv))]) (st' := [.inl ((lg_cmp (Int64.ofInt (0 : Nat)) (Int64.ofInt (wk wy (lv).toNat))).toInt)]) rfl ?_
            refine ez_if rfl rfl ⟨by first | omega | exact (sz_i32 _).1, by first | omega | exact (sz_i32 _).2⟩ (fun (c10 : (0) ≤ ((lg_cmp (Int64.ofInt (0 : Nat)) (Int64.ofInt (wk wy (lv).toNat))).toInt)) => ?_) (fun (c10 : ¬((0) ≤ ((lg_cmp (Int64.ofInt (0 : Nat)) (Int64.ofInt (wk wy (lv).toNat))).toInt))) => ?_)
            · skip
              refine ez_go (n := 1) (pc' := 101) (L' := [(7, .inr (.inl (Int64.ofInt (wk wy (lv).toNat)))), (5, .inr (.inl (Int64.ofInt (0 : Nat)))), (4, .inl (y)), (3, .inl (x)), (0, .inr (.inr (some (744)))), (1, .inr (.inr (some (749)))), (2, .inl (lv))]) (st' := [.inl (1)]) rfl ?_
              exfalso; omega
            · skip
              refine ez_go (n := 2) (pc' := 101) (L' := [(7, .inr (.inl (Int64.ofInt (wk wy (lv).toNat)))), (5, .inr (.inl (Int64.ofInt (0 : Nat)))), (4, .inl (y)), (3, .inl (x)), (0, .inr (.inr (some (744)))), (1, .inr (.inr (some (749)))), (2, .inl (lv))]) (st' := [.inl (-1)]) rfl ?_
              have e9 : lcp (lev W lv.toNat) (lev V lv.toNat) = -1 := by rw [hL, ex, ey, dx, dry]; exact rfl
              rw [e9] at k
              exact ez_retI rfl rfl k
      · skip
        refine ez_go (n := 3) (pc' := 49) (L' := [(4, .inl (y)), (3, .inl (x)), (0, .inr (.inr (some (744)))), (1, .inr (.inr (some (749)))), (2, .inl (lv))]) (st' := [.inl (lv), .inl (x), .inr (.inr (some (744)))]) rfl ?_
        obtain ⟨wx, hwx, nzx⟩ := (hid7_o sx).resolve_left (by omega)
        have wbx := wk_bd (W9 _ (List.mem_of_getElem? hwx)) (lv).toNat
        have drx := lev_dr (k := lv.toNat) hwx
        rw [if_neg nzx] at drx
        refine ez_cv hB tc rfl rfl rfl tq_10 rfl rfl rfl (rd_wgt_l hB hX cl cs W9 W2 (by omega) hwx lv0 lv3 (ez_KL ?_))
        refine ez_go (n := 4) (pc' := 61) (L' := [(5, .inr (.inl (Int64.ofInt (wk wx (lv).toNat)))), (4, .inl (y)), (3, .inl (x)), (0, .inr (.inr (some (744)))), (1, .inr (.inr (some (749)))), (2, .inl (lv))]) (st' := [.inr (.inr (some (749))), .inl (y)]) rfl ?_
        refine ez_gI hB tc2 rfl rfl tq_10 rfl rfl (fun (b11 : 0 ≤ qz_I h 749 5) (b11' : qz_I h 749 5 ≤ 36000) => ?_)
        rw [cs2.1.1]
        refine ez_icmp rfl rfl ⟨by first | omega | exact (sz_i32 _).1, by first | omega | exact (sz_i32 _).2⟩ ⟨by first | omega | exact (sz_i32 _).1, by first | omega | exact (sz_i32 _).2⟩ (fun (c12 : ((V.length : Int)) ≤ (y)) => ?_) (fun (c12 : ¬(((V.length : Int)) ≤ (y))) => ?_)
        · skip
          refine ez_go (n := 5) (pc' := 85) (L' := [(7, .inr (.inl (Int64.ofInt (0 : Nat)))), (5, .inr (.inl (Int64.ofInt (wk wx (lv).toNat)))), (4, .inl (y)), (3, .inl (x)), (0, .inr (.inr (some (744)))), (1, .inr (.inr (some (749)))), (2, .inl (lv))]) (st' := [.inl ((lg_cmp (Int64.ofInt (wk wx (lv).toNat)) (Int64.ofInt (0 : Nat))).toInt)]) rfl ?_
          have dy := lev_end (W := V) (i := (y).toNat) (k := lv.toNat) (by omega)
          have cz : ((lg_cmp (Int64.ofInt (wk wx (lv).toNat)) (Int64.ofInt (0 : Nat))).toInt = 0 ↔ wk wx (lv).toNat = (0 : Int)) ∧ ((lg_cmp (Int64.ofInt (wk wx (lv).toNat)) (Int64.ofInt (0 : Nat))).toInt < 0 ↔ wk wx (lv).toNat < (0 : Int)) := lg_cs (x := wk wx (lv).toNat) (y := (0 : Int)) (by omega) (by omega) (by omega) (by omega)
          obtain ⟨cz1, cz2⟩ := cz
          refine ez_if rfl rfl ⟨by first | omega | exact (sz_i32 _).1, by first | omega | exact (sz_i32 _).2⟩ (fun (c13 : ((lg_cmp (Int64.ofInt (wk wx (lv).toNat)) (Int64.ofInt (0 : Nat))).toInt) = (0)) => ?_) (fun (c13 : ¬(((lg_cmp (Int64.ofInt (wk wx (lv).toNat)) (Int64.ofInt (0 : Nat))).toInt) = (0))) => ?_)
          · skip
            refine ez_go (n := 3) (pc' := 5) (L' := [(4, .inl (y + 1)), (3, .inl (x + 1)), (7, .inr (.inl (Int64.ofInt (0 : Nat)))), (5, .inr (.inl (Int64.ofInt (wk wx (lv).toNat)))), (0, .inr (.inr (some (744)))), (1, .inr (.inr (some (749)))), (2, .inl (lv))]) (st' := []) rfl ?_
            exfalso; omega
          · skip
            refine ez_go (n := 3) (pc' := 93) (L' := [(7, .inr (.inl (Int64.ofInt (0 : Nat)))), (5, .inr (.inl (Int64.ofInt (wk wx (lv).toNat)))), (4, .inl (y)), (3, .inl (x)), (0, .inr (.inr (some (744)))), (1, .inr (.inr (some (749)))), (2, .inl (lv))]) (st' := [.inl ((lg_cmp (Int64.ofInt (wk wx (lv).toNat)) (Int64.ofInt (0 : Nat))).toInt)]) rfl ?_
            refine ez_if rfl rfl ⟨by first | omega | exact (sz_i32 _).1, by first | omega | exact (sz_i32 _).2⟩ (fun (c14 : (0) ≤ ((lg_cmp (Int64.ofInt (wk wx (lv).toNat)) (Int64.ofInt (0 : Nat))).toInt)) => ?_) (fun (c14 : ¬((0) ≤ ((lg_cmp (Int64.ofInt (wk wx (lv).toNat)) (Int64.ofInt (0 : Nat))).toInt))) => ?_)
            · skip
              refine ez_go (n := 1) (pc' := 101) (L' := [(7, .inr (.inl (Int64.ofInt (0 : Nat)))), (5, .inr (.inl (Int64.ofInt (wk wx (lv).toNat)))), (4, .inl (y)), (3, .inl (x)), (0, .inr (.inr (some (744)))), (1, .inr (.inr (some (749)))), (2, .inl (lv))]) (st' := [.inl (1)]) rfl ?_
              have e9 : lcp (lev W lv.toNat) (lev V lv.toNat) = 1 := by rw [hL, ex, ey, drx, dy]; exact rfl
              rw [e9] at k
              exact ez_retI rfl rfl k
            · skip
              refine ez_go (n := 2) (pc' := 101) (L' := [(7, .inr (.inl (Int64.ofInt (0 : Nat)))), (5, .inr (.inl (Int64.ofInt (wk wx (lv).toNat)))), (4, .inl (y)), (3, .inl (x)), (0, .inr (.inr (some (744)))), (1, .inr (.inr (some (749)))), (2, .inl (lv))]) (st' := [.inl (-1)]) rfl ?_
              exfalso; omega
        · skip
          refine ez_go (n := 3) (pc' := 71) (L' := [(5, .inr (.inl (Int64.ofInt (wk wx (lv).toNat)))), (4, .inl (y)), (3, .inl (x)), (0, .inr (.inr (some (744)))), (1, .inr (.inr (some (749)))), (2, .inl (lv))]) (st' := [.inl (lv), .inl (y), .inr (.inr (some (749)))]) rfl ?_
          obtain ⟨wy, hwy, nzy⟩ := (hid7_o sy).resolve_left (by omega)
          have wby := wk_bd (V9 _ (List.mem_of_getElem? hwy)) (lv).toNat
          have dry := lev_dr (k := lv.toNat) hwy
          rw [if_neg nzy] at dry
          refine ez_cv hB tc2 rfl rfl rfl tq_10 rfl rfl rfl (rd_wgt_r hB hX cl2 cs2 V9 V2 (by omega) hwy lv0 lv3 (ez_KL ?_))
          refine ez_go (n := 5) (pc' := 85) (L' := [(7, .inr (.inl (Int64.ofInt (wk wy (lv).toNat)))), (5, .inr (.inl (Int64.ofInt (wk wx (lv).toNat)))), (4, .inl (y)), (3, .inl (x)), (0, .inr (.inr (some (744)))), (1, .inr (.inr (some (749)))), (2, .inl (lv))]) (st' := [.inl ((lg_cmp (Int64.ofInt (wk wx (lv).toNat)) (Int64.ofInt (wk wy (lv).toNat))).toInt)]) rfl ?_
          have cz : ((lg_cmp (Int64.ofInt (wk wx (lv).toNat)) (Int64.ofInt (wk wy (lv).toNat))).toInt = 0 ↔ wk wx (lv).toNat = wk wy (lv).toNat) ∧ ((lg_cmp (Int64.ofInt (wk wx (lv).toNat)) (Int64.ofInt (wk wy (lv).toNat))).toInt < 0 ↔ wk wx (lv).toNat < wk wy (lv).toNat) := lg_cs (x := wk wx (lv).toNat) (y := wk wy (lv).toNat) (by omega) (by omega) (by omega) (by omega)
          obtain ⟨cz1, cz2⟩ := cz
          refine ez_if rfl rfl ⟨by first | omega | exact (sz_i32 _).1, by first | omega | exact (sz_i32 _).2⟩ (fun (c15 : ((lg_cmp (Int64.ofInt (wk wx (lv).toNat)) (Int64.ofInt (wk wy (lv).toNat))).toInt) = (0)) => ?_) (fun (c15 : ¬(((lg_cmp (Int64.ofInt (wk wx (lv).toNat)) (Int64.ofInt (wk wy (lv).toNat))).toInt) = (0))) => ?_)
          · skip
            refine ez_go (n := 3) (pc' := 5) (L' := [(4, .inl (y + 1)), (3, .inl (x + 1)), (7, .inr (.inl (Int64.ofInt (wk wy (lv).toNat)))), (5, .inr (.inl (Int64.ofInt (wk wx (lv).toNat)))), (0, .inr (.inr (some (744)))), (1, .inr (.inr (some (749)))), (2, .inl (lv))]) (st' := []) rfl ?_
            refine ez_less [(4, .inl (y + 1)), (3, .inl (x + 1)), (0, .inr (.inr (some (744)))), (1, .inr (.inr (some (749)))), (2, .inl (lv))] rfl ⟨rfl, rfl, rfl, rfl, rfl, trivial⟩ ?_
            have xl := (List.getElem?_eq_some_iff.mp hwx).1; have yl := (List.getElem?_eq_some_iff.mp hwy).1
            refine ih (y + 1) (x + 1) (by omega) (by omega) (by omega) (by omega) (by omega) (by omega) ?_
            rw [hL, ex, ey, drx, dry, show (x + 1).toNat = x.toNat + 1 by omega, show (y + 1).toNat = y.toNat + 1 by omega]; exact lcp_e (by omega)
          · skip
            refine ez_go (n := 3) (pc' := 93) (L' := [(7, .inr (.inl (Int64.ofInt (wk wy (lv).toNat)))), (5, .inr (.inl (Int64.ofInt (wk wx (lv).toNat)))), (4, .inl (y)), (3, .inl (x)), (0, .inr (.inr (some (744)))), (1, .inr (.inr (some (749)))), (2, .inl (lv))]) (st' := [.inl ((lg_cmp (Int64.ofInt (wk wx (lv).toNat)) (Int64.ofInt (wk wy (lv).toNat))).toInt)]) rfl ?_
            refine ez_if rfl rfl ⟨by first | omega | exact (sz_i32 _).1, by first | omega | exact (sz_i32 _).2⟩ (fun (c16 : (0) ≤ ((lg_cmp (Int64.ofInt (wk wx (lv).toNat)) (Int64.ofInt (wk wy (lv).toNat))).toInt)) => ?_) (fun (c16 : ¬((0) ≤ ((lg_cmp (Int64.ofInt (wk wx (lv).toNat)) (Int64.ofInt (wk wy (lv).toNat))).toInt))) => ?_)
            · skip
              refine ez_go (n := 1) (pc' := 101) (L' := [(7, .inr (.inl (Int64.ofInt (wk wy (lv).toNat)))), (5, .inr (.inl (Int64.ofInt (wk wx (lv).toNat)))), (4, .inl (y)), (3, .inl (x)), (0, .inr (.inr (some (744)))), (1, .inr (.inr (some (749)))), (2, .inl (lv))]) (st' := [.inl (1)]) rfl ?_
              have e9 : lcp (lev W lv.toNat) (lev V lv.toNat) = 1 := by rw [hL, ex, ey, drx, dry]; exact lcp_g (by omega)
              rw [e9] at k
              exact ez_retI rfl rfl k
            · skip
              refine ez_go (n := 2) (pc' := 101) (L' := [(7, .inr (.inl (Int64.ofInt (wk wy (lv).toNat)))), (5, .inr (.inl (Int64.ofInt (wk wx (lv).toNat)))), (4, .inl (y)), (3, .inl (x)), (0, .inr (.inr (some (744)))), (1, .inr (.inr (some (749)))), (2, .inl (lv))]) (st' := [.inl (-1)]) rfl ?_
              have e9 : lcp (lev W lv.toNat) (lev V lv.toNat) = -1 := by rw [hL, ex, ey, drx, dry]; exact lcp_l (by omega)
              rw [e9] at k
              exact ez_retI rfl rfl k
    · skip
      refine ez_go (n := 2) (pc' := 16) (L' := [(4, .inl (j)), (3, .inl (i)), (0, .inr (.inr (some (744)))), (1, .inr (.inr (some (749)))), (2, .inl (lv))]) (st' := [.inr (.inr (some (749))), .inl (j)]) rfl ?_
      refine ez_gI hB tc2 rfl rfl tq_10 rfl rfl (fun (b17 : 0 ≤ qz_I h 749 5) (b17' : qz_I h 749 5 ≤ 36000) => ?_)
      rw [cs2.1.1]
      refine ez_icmp rfl rfl ⟨by first | omega | exact (sz_i32 _).1, by first | omega | exact (sz_i32 _).2⟩ ⟨by first | omega | exact (sz_i32 _).1, by first | omega | exact (sz_i32 _).2⟩ (fun (c18 : ((V.length : Int)) ≤ (j)) => ?_) (fun (c18 : ¬(((V.length : Int)) ≤ (j))) => ?_)
      · skip
        refine ez_go (n := 1) (pc' := 112) (L' := [(4, .inl (j)), (3, .inl (i)), (0, .inr (.inr (some (744)))), (1, .inr (.inr (some (749)))), (2, .inl (lv))]) (st' := [.inl (0)]) rfl ?_
        have e9 : lcp (lev W lv.toNat) (lev V lv.toNat) = 0 := by rw [hL, lev_end (by omega), lev_end (by omega)]; rfl
        rw [e9] at k
        exact ez_retI rfl rfl k
      · skip
        refine ez_go (n := 3) (pc' := 25) (L' := [(4, .inl (j)), (3, .inl (i)), (0, .inr (.inr (some (744)))), (1, .inr (.inr (some (749)))), (2, .inl (lv))]) (st' := [.inl (lv), .inl (i), .inr (.inr (some (744)))]) rfl ?_
        refine ez_cv hB tc rfl rfl rfl tq_10 rfl rfl rfl (rd_skz_l hB hX cl cs W9 W2 (by omega) (by omega) lv0 lv3 (fun x ax bbx ex sx => ez_K1 ?_))
        replace sx := hid7_i sx
        refine ez_go (n := 4) (pc' := 33) (L' := [(3, .inl (x)), (4, .inl (j)), (0, .inr (.inr (some (744)))), (1, .inr (.inr (some (749)))), (2, .inl (lv))]) (st' := [.inl (lv), .inl (j), .inr (.inr (some (749)))]) rfl ?_
        refine ez_cv hB tc2 rfl rfl rfl tq_10 rfl rfl rfl (rd_skz_r hB hX cl2 cs2 V9 V2 (by omega) (by omega) lv0 lv3 (fun y ay bby ey sy => ez_K1 ?_))
        replace sy := hid7_i sy
        refine ez_go (n := 3) (pc' := 40) (L' := [(4, .inl (y)), (3, .inl (x)), (0, .inr (.inr (some (744)))), (1, .inr (.inr (some (749)))), (2, .inl (lv))]) (st' := [.inr (.inr (some (744))), .inl (x)]) rfl ?_
        refine ez_gI hB tc rfl rfl tq_10 rfl rfl (fun (b19 : 0 ≤ qz_I h 744 5) (b19' : qz_I h 744 5 ≤ 36000) => ?_)
        rw [cs.1.1]
        refine ez_icmp rfl rfl ⟨by first | omega | exact (sz_i32 _).1, by first | omega | exact (sz_i32 _).2⟩ ⟨by first | omega | exact (sz_i32 _).1, by first | omega | exact (sz_i32 _).2⟩ (fun (c20 : ((W.length : Int)) ≤ (x)) => ?_) (fun (c20 : ¬(((W.length : Int)) ≤ (x))) => ?_)
        · skip
          refine ez_go (n := 4) (pc' := 61) (L' := [(5, .inr (.inl (Int64.ofInt (0 : Nat)))), (4, .inl (y)), (3, .inl (x)), (0, .inr (.inr (some (744)))), (1, .inr (.inr (some (749)))), (2, .inl (lv))]) (st' := [.inr (.inr (some (749))), .inl (y)]) rfl ?_
          refine ez_gI hB tc2 rfl rfl tq_10 rfl rfl (fun (b21 : 0 ≤ qz_I h 749 5) (b21' : qz_I h 749 5 ≤ 36000) => ?_)
          rw [cs2.1.1]
          refine ez_icmp rfl rfl ⟨by first | omega | exact (sz_i32 _).1, by first | omega | exact (sz_i32 _).2⟩ ⟨by first | omega | exact (sz_i32 _).1, by first | omega | exact (sz_i32 _).2⟩ (fun (c22 : ((V.length : Int)) ≤ (y)) => ?_) (fun (c22 : ¬(((V.length : Int)) ≤ (y))) => ?_)
          · skip
            refine ez_go (n := 5) (pc' := 85) (L' := [(7, .inr (.inl (Int64.ofInt (0 : Nat)))), (5, .inr (.inl (Int64.ofInt (0 : Nat)))), (4, .inl (y)), (3, .inl (x)), (0, .inr (.inr (some (744)))), (1, .inr (.inr (some (749)))), (2, .inl (lv))]) (st' := [.inl ((lg_cmp (Int64.ofInt (0 : Nat)) (Int64.ofInt (0 : Nat))).toInt)]) rfl ?_
            have dx := lev_end (W := W) (i := (x).toNat) (k := lv.toNat) (by omega)
            have dy := lev_end (W := V) (i := (y).toNat) (k := lv.toNat) (by omega)
            have cz : ((lg_cmp (Int64.ofInt (0 : Nat)) (Int64.ofInt (0 : Nat))).toInt = 0 ↔ (0 : Int) = (0 : Int)) ∧ ((lg_cmp (Int64.ofInt (0 : Nat)) (Int64.ofInt (0 : Nat))).toInt < 0 ↔ (0 : Int) < (0 : Int)) := lg_cs (x := (0 : Int)) (y := (0 : Int)) (by omega) (by omega) (by omega) (by omega)
            obtain ⟨cz1, cz2⟩ := cz
            refine ez_if rfl rfl ⟨by first | omega | exact (sz_i32 _).1, by first | omega | exact (sz_i32 _).2⟩ (fun (c23 : ((lg_cmp (Int64.ofInt (0 : Nat)) (Int64.ofInt (0 : Nat))).toInt) = (0)) => ?_) (fun (c23 : ¬(((lg_cmp (Int64.ofInt (0 : Nat)) (Int64.ofInt (0 : Nat))).toInt) = (0))) => ?_)
            · skip
              refine ez_go (n := 3) (pc' := 5) (L' := [(4, .inl (y + 1)), (3, .inl (x + 1)), (7, .inr (.inl (Int64.ofInt (0 : Nat)))), (5, .inr (.inl (Int64.ofInt (0 : Nat)))), (0, .inr (.inr (some (744)))), (1, .inr (.inr (some (749)))), (2, .inl (lv))]) (st' := []) rfl ?_
              refine ez_less [(4, .inl (y + 1)), (3, .inl (x + 1)), (0, .inr (.inr (some (744)))), (1, .inr (.inr (some (749)))), (2, .inl (lv))] rfl ⟨rfl, rfl, rfl, rfl, rfl, trivial⟩ ?_
              refine ih (y + 1) (x + 1) (by omega) (by omega) (by omega) (by omega) (by omega) (by omega) ?_
              rw [hL, ex, ey, dx, dy, lev_end (by omega), lev_end (by omega)]
            · skip
              refine ez_go (n := 3) (pc' := 93) (L' := [(7, .inr (.inl (Int64.ofInt (0 : Nat)))), (5, .inr (.inl (Int64.ofInt (0 : Nat)))), (4, .inl (y)), (3, .inl (x)), (0, .inr (.inr (some (744)))), (1, .inr (.inr (some (749)))), (2, .inl (lv))]) (st' := [.inl ((lg_cmp (Int64.ofInt (0 : Nat)) (Int64.ofInt (0 : Nat))).toInt)]) rfl ?_
              refine ez_if rfl rfl ⟨by first | omega | exact (sz_i32 _).1, by first | omega | exact (sz_i32 _).2⟩ (fun (c24 : (0) ≤ ((lg_cmp (Int64.ofInt (0 : Nat)) (Int64.ofInt (0 : Nat))).toInt)) => ?_) (fun (c24 : ¬((0) ≤ ((lg_cmp (Int64.ofInt (0 : Nat)) (Int64.ofInt (0 : Nat))).toInt))) => ?_)
              · skip
                refine ez_go (n := 1) (pc' := 101) (L' := [(7, .inr (.inl (Int64.ofInt (0 : Nat)))), (5, .inr (.inl (Int64.ofInt (0 : Nat)))), (4, .inl (y)), (3, .inl (x)), (0, .inr (.inr (some (744)))), (1, .inr (.inr (some (749)))), (2, .inl (lv))]) (st' := [.inl (1)]) rfl ?_
                exfalso; omega
              · skip
                refine ez_go (n := 2) (pc' := 101) (L' := [(7, .inr (.inl (Int64.ofInt (0 : Nat)))), (5, .inr (.inl (Int64.ofInt (0 : Nat)))), (4, .inl (y)), (3, .inl (x)), (0, .inr (.inr (some (744)))), (1, .inr (.inr (some (749)))), (2, .inl (lv))]) (st' := [.inl (-1)]) rfl ?_
                exfalso; omega
          · skip
            refine ez_go (n := 3) (pc' := 71) (L' := [(5, .inr (.inl (Int64.ofInt (0 : Nat)))), (4, .inl (y)), (3, .inl (x)), (0, .inr (.inr (some (744)))), (1, .inr (.inr (some (749)))), (2, .inl (lv))]) (st' := [.inl (lv), .inl (y), .inr (.inr (some (749)))]) rfl ?_
            obtain ⟨wy, hwy, nzy⟩ := (hid7_o sy).resolve_left (by omega)
            have wby := wk_bd (V9 _ (List.mem_of_getElem? hwy)) (lv).toNat
            have dry := lev_dr (k := lv.toNat) hwy
            rw [if_neg nzy] at dry
            refine ez_cv hB tc2 rfl rfl rfl tq_10 rfl rfl rfl (rd_wgt_r hB hX cl2 cs2 V9 V2 (by omega) hwy lv0 lv3 (ez_KL ?_))
            refine ez_go (n := 5) (pc' := 85) (L' := [(7, .inr (.inl (Int64.ofInt (wk wy (lv).toNat)))), (5, .inr (.inl (Int64.ofInt (0 : Nat)))), (4, .inl (y)), (3, .inl (x)), (0, .inr (.inr (some (744)))), (1, .inr (.inr (some (749)))), (2, .inl (lv))]) (st' := [.inl ((lg_cmp (Int64.ofInt (0 : Nat)) (Int64.ofInt (wk wy (lv).toNat))).toInt)]) rfl ?_
            have dx := lev_end (W := W) (i := (x).toNat) (k := lv.toNat) (by omega)
            have cz : ((lg_cmp (Int64.ofInt (0 : Nat)) (Int64.ofInt (wk wy (lv).toNat))).toInt = 0 ↔ (0 : Int) = wk wy (lv).toNat) ∧ ((lg_cmp (Int64.ofInt (0 : Nat)) (Int64.ofInt (wk wy (lv).toNat))).toInt < 0 ↔ (0 : Int) < wk wy (lv).toNat) := lg_cs (x := (0 : Int)) (y := wk wy (lv).toNat) (by omega) (by omega) (by omega) (by omega)
            obtain ⟨cz1, cz2⟩ := cz
            refine ez_if rfl rfl ⟨by first | omega | exact (sz_i32 _).1, by first | omega | exact (sz_i32 _).2⟩ (fun (c25 : ((lg_cmp (Int64.ofInt (0 : Nat)) (Int64.ofInt (wk wy (lv).toNat))).toInt) = (0)) => ?_) (fun (c25 : ¬(((lg_cmp (Int64.ofInt (0 : Nat)) (Int64.ofInt (wk wy (lv).toNat))).toInt) = (0))) => ?_)
            · skip
              refine ez_go (n := 3) (pc' := 5) (L' := [(4, .inl (y + 1)), (3, .inl (x + 1)), (7, .inr (.inl (Int64.ofInt (wk wy (lv).toNat)))), (5, .inr (.inl (Int64.ofInt (0 : Nat)))), (0, .inr (.inr (some (744)))), (1, .inr (.inr (some (749)))), (2, .inl (lv))]) (st' := []) rfl ?_
              exfalso; omega
            · skip
              refine ez_go (n := 3) (pc' := 93) (L' := [(7, .inr (.inl (Int64.ofInt (wk wy (lv).toNat)))), (5, .inr (.inl (Int64.ofInt (0 : Nat)))), (4, .inl (y)), (3, .inl (x)), (0, .inr (.inr (some (744)))), (1, .inr (.inr (some (749)))), (2, .inl (lv))]) (st' := [.inl ((lg_cmp (Int64.ofInt (0 : Nat)) (Int64.ofInt (wk wy (lv).toNat))).toInt)]) rfl ?_
              refine ez_if rfl rfl ⟨by first | omega | exact (sz_i32 _).1, by first | omega | exact (sz_i32 _).2⟩ (fun (c26 : (0) ≤ ((lg_cmp (Int64.ofInt (0 : Nat)) (Int64.ofInt (wk wy (lv).toNat))).toInt)) => ?_) (fun (c26 : ¬((0) ≤ ((lg_cmp (Int64.ofInt (0 : Nat)) (Int64.ofInt (wk wy (lv).toNat))).toInt))) => ?_)
              · skip
                refine ez_go (n := 1) (pc' := 101) (L' := [(7, .inr (.inl (Int64.ofInt (wk wy (lv).toNat)))), (5, .inr (.inl (Int64.ofInt (0 : Nat)))), (4, .inl (y)), (3, .inl (x)), (0, .inr (.inr (some (744)))), (1, .inr (.inr (some (749)))), (2, .inl (lv))]) (st' := [.inl (1)]) rfl ?_
                exfalso; omega
              · skip
                refine ez_go (n := 2) (pc' := 101) (L' := [(7, .inr (.inl (Int64.ofInt (wk wy (lv).toNat)))), (5, .inr (.inl (Int64.ofInt (0 : Nat)))), (4, .inl (y)), (3, .inl (x)), (0, .inr (.inr (some (744)))), (1, .inr (.inr (some (749)))), (2, .inl (lv))]) (st' := [.inl (-1)]) rfl ?_
                have e9 : lcp (lev W lv.toNat) (lev V lv.toNat) = -1 := by rw [hL, ex, ey, dx, dry]; exact rfl
                rw [e9] at k
                exact ez_retI rfl rfl k
        · skip
          refine ez_go (n := 3) (pc' := 49) (L' := [(4, .inl (y)), (3, .inl (x)), (0, .inr (.inr (some (744)))), (1, .inr (.inr (some (749)))), (2, .inl (lv))]) (st' := [.inl (lv), .inl (x), .inr (.inr (some (744)))]) rfl ?_
          obtain ⟨wx, hwx, nzx⟩ := (hid7_o sx).resolve_left (by omega)
          have wbx := wk_bd (W9 _ (List.mem_of_getElem? hwx)) (lv).toNat
          have drx := lev_dr (k := lv.toNat) hwx
          rw [if_neg nzx] at drx
          refine ez_cv hB tc rfl rfl rfl tq_10 rfl rfl rfl (rd_wgt_l hB hX cl cs W9 W2 (by omega) hwx lv0 lv3 (ez_KL ?_))
          refine ez_go (n := 4) (pc' := 61) (L' := [(5, .inr (.inl (Int64.ofInt (wk wx (lv).toNat)))), (4, .inl (y)), (3, .inl (x)), (0, .inr (.inr (some (744)))), (1, .inr (.inr (some (749)))), (2, .inl (lv))]) (st' := [.inr (.inr (some (749))), .inl (y)]) rfl ?_
          refine ez_gI hB tc2 rfl rfl tq_10 rfl rfl (fun (b27 : 0 ≤ qz_I h 749 5) (b27' : qz_I h 749 5 ≤ 36000) => ?_)
          rw [cs2.1.1]
          refine ez_icmp rfl rfl ⟨by first | omega | exact (sz_i32 _).1, by first | omega | exact (sz_i32 _).2⟩ ⟨by first | omega | exact (sz_i32 _).1, by first | omega | exact (sz_i32 _).2⟩ (fun (c28 : ((V.length : Int)) ≤ (y)) => ?_) (fun (c28 : ¬(((V.length : Int)) ≤ (y))) => ?_)
          · skip
            refine ez_go (n := 5) (pc' := 85) (L' := [(7, .inr (.inl (Int64.ofInt (0 : Nat)))), (5, .inr (.inl (Int64.ofInt (wk wx (lv).toNat)))), (4, .inl (y)), (3, .inl (x)), (0, .inr (.inr (some (744)))), (1, .inr (.inr (some (749)))), (2, .inl (lv))]) (st' := [.inl ((lg_cmp (Int64.ofInt (wk wx (lv).toNat)) (Int64.ofInt (0 : Nat))).toInt)]) rfl ?_
            have dy := lev_end (W := V) (i := (y).toNat) (k := lv.toNat) (by omega)
            have cz : ((lg_cmp (Int64.ofInt (wk wx (lv).toNat)) (Int64.ofInt (0 : Nat))).toInt = 0 ↔ wk wx (lv).toNat = (0 : Int)) ∧ ((lg_cmp (Int64.ofInt (wk wx (lv).toNat)) (Int64.ofInt (0 : Nat))).toInt < 0 ↔ wk wx (lv).toNat < (0 : Int)) := lg_cs (x := wk wx (lv).toNat) (y := (0 : Int)) (by omega) (by omega) (by omega) (by omega)
            obtain ⟨cz1, cz2⟩ := cz
            refine ez_if rfl rfl ⟨by first | omega | exact (sz_i32 _).1, by first | omega | exact (sz_i32 _).2⟩ (fun (c29 : ((lg_cmp (Int64.ofInt (wk wx (lv).toNat)) (Int64.ofInt (0 : Nat))).toInt) = (0)) => ?_) (fun (c29 : ¬(((lg_cmp (Int64.ofInt (wk wx (lv).toNat)) (Int64.ofInt (0 : Nat))).toInt) = (0))) => ?_)
            · skip
              refine ez_go (n := 3) (pc' := 5) (L' := [(4, .inl (y + 1)), (3, .inl (x + 1)), (7, .inr (.inl (Int64.ofInt (0 : Nat)))), (5, .inr (.inl (Int64.ofInt (wk wx (lv).toNat)))), (0, .inr (.inr (some (744)))), (1, .inr (.inr (some (749)))), (2, .inl (lv))]) (st' := []) rfl ?_
              exfalso; omega
            · skip
              refine ez_go (n := 3) (pc' := 93) (L' := [(7, .inr (.inl (Int64.ofInt (0 : Nat)))), (5, .inr (.inl (Int64.ofInt (wk wx (lv).toNat)))), (4, .inl (y)), (3, .inl (x)), (0, .inr (.inr (some (744)))), (1, .inr (.inr (some (749)))), (2, .inl (lv))]) (st' := [.inl ((lg_cmp (Int64.ofInt (wk wx (lv).toNat)) (Int64.ofInt (0 : Nat))).toInt)]) rfl ?_
              refine ez_if rfl rfl ⟨by first | omega | exact (sz_i32 _).1, by first | omega | exact (sz_i32 _).2⟩ (fun (c30 : (0) ≤ ((lg_cmp (Int64.ofInt (wk wx (lv).toNat)) (Int64.ofInt (0 : Nat))).toInt)) => ?_) (fun (c30 : ¬((0) ≤ ((lg_cmp (Int64.ofInt (wk wx (lv).toNat)) (Int64.ofInt (0 : Nat))).toInt))) => ?_)
              · skip
                refine ez_go (n := 1) (pc' := 101) (L' := [(7, .inr (.inl (Int64.ofInt (0 : Nat)))), (5, .inr (.inl (Int64.ofInt (wk wx (lv).toNat)))), (4, .inl (y)), (3, .inl (x)), (0, .inr (.inr (some (744)))), (1, .inr (.inr (some (749)))), (2, .inl (lv))]) (st' := [.inl (1)]) rfl ?_
                have e9 : lcp (lev W lv.toNat) (lev V lv.toNat) = 1 := by rw [hL, ex, ey, drx, dy]; exact rfl
                rw [e9] at k
                exact ez_retI rfl rfl k
              · skip
                refine ez_go (n := 2) (pc' := 101) (L' := [(7, .inr (.inl (Int64.ofInt (0 : Nat)))), (5, .inr (.inl (Int64.ofInt (wk wx (lv).toNat)))), (4, .inl (y)), (3, .inl (x)), (0, .inr (.inr (some (744)))), (1, .inr (.inr (some (749)))), (2, .inl (lv))]) (st' := [.inl (-1)]) rfl ?_
                exfalso; omega
          · skip
            refine ez_go (n := 3) (pc' := 71) (L' := [(5, .inr (.inl (Int64.ofInt (wk wx (lv).toNat)))), (4, .inl (y)), (3, .inl (x)), (0, .inr (.inr (some (744)))), (1, .inr (.inr (some (749)))), (2, .inl (lv))]) (st' := [.inl (lv), .inl (y), .inr (.inr (some (749)))]) rfl ?_
            obtain ⟨wy, hwy, nzy⟩ := (hid7_o sy).resolve_left (by omega)
            have wby := wk_bd (V9 _ (List.mem_of_getElem? hwy)) (lv).toNat
            have dry := lev_dr (k := lv.toNat) hwy
            rw [if_neg nzy] at dry
            refine ez_cv hB tc2 rfl rfl rfl tq_10 rfl rfl rfl (rd_wgt_r hB hX cl2 cs2 V9 V2 (by omega) hwy lv0 lv3 (ez_KL ?_))
            refine ez_go (n := 5) (pc' := 85) (L' := [(7, .inr (.inl (Int64.ofInt (wk wy (lv).toNat)))), (5, .inr (.inl (Int64.ofInt (wk wx (lv).toNat)))), (4, .inl (y)), (3, .inl (x)), (0, .inr (.inr (some (744)))), (1, .inr (.inr (some (749)))), (2, .inl (lv))]) (st' := [.inl ((lg_cmp (Int64.ofInt (wk wx (lv).toNat)) (Int64.ofInt (wk wy (lv).toNat))).toInt)]) rfl ?_
            have cz : ((lg_cmp (Int64.ofInt (wk wx (lv).toNat)) (Int64.ofInt (wk wy (lv).toNat))).toInt = 0 ↔ wk wx (lv).toNat = wk wy (lv).toNat) ∧ ((lg_cmp (Int64.ofInt (wk wx (lv).toNat)) (Int64.ofInt (wk wy (lv).toNat))).toInt < 0 ↔ wk wx (lv).toNat < wk wy (lv).toNat) := lg_cs (x := wk wx (lv).toNat) (y := wk wy (lv).toNat) (by omega) (by omega) (by omega) (by omega)
            obtain ⟨cz1, cz2⟩ := cz
            refine ez_if rfl rfl ⟨by first | omega | exact (sz_i32 _).1, by first | omega | exact (sz_i32 _).2⟩ (fun (c31 : ((lg_cmp (Int64.ofInt (wk wx (lv).toNat)) (Int64.ofInt (wk wy (lv).toNat))).toInt) = (0)) => ?_) (fun (c31 : ¬(((lg_cmp (Int64.ofInt (wk wx (lv).toNat)) (Int64.ofInt (wk wy (lv).toNat))).toInt) = (0))) => ?_)
            · skip
              refine ez_go (n := 3) (pc' := 5) (L' := [(4, .inl (y + 1)), (3, .inl (x + 1)), (7, .inr (.inl (Int64.ofInt (wk wy (lv).toNat)))), (5, .inr (.inl (Int64.ofInt (wk wx (lv).toNat)))), (0, .inr (.inr (some (744)))), (1, .inr (.inr (some (749)))), (2, .inl (lv))]) (st' := []) rfl ?_
              refine ez_less [(4, .inl (y + 1)), (3, .inl (x + 1)), (0, .inr (.inr (some (744)))), (1, .inr (.inr (some (749)))), (2, .inl (lv))] rfl ⟨rfl, rfl, rfl, rfl, rfl, trivial⟩ ?_
              have xl := (List.getElem?_eq_some_iff.mp hwx).1; have yl := (List.getElem?_eq_some_iff.mp hwy).1
              refine ih (y + 1) (x + 1) (by omega) (by omega) (by omega) (by omega) (by omega) (by omega) ?_
              rw [hL, ex, ey, drx, dry, show (x + 1).toNat = x.toNat + 1 by omega, show (y + 1).toNat = y.toNat + 1 by omega]; exact lcp_e (by omega)
            · skip
              refine ez_go (n := 3) (pc' := 93) (L' := [(7, .inr (.inl (Int64.ofInt (wk wy (lv).toNat)))), (5, .inr (.inl (Int64.ofInt (wk wx (lv).toNat)))), (4, .inl (y)), (3, .inl (x)), (0, .inr (.inr (some (744)))), (1, .inr (.inr (some (749)))), (2, .inl (lv))]) (st' := [.inl ((lg_cmp (Int64.ofInt (wk wx (lv).toNat)) (Int64.ofInt (wk wy (lv).toNat))).toInt)]) rfl ?_
              refine ez_if rfl rfl ⟨by first | omega | exact (sz_i32 _).1, by first | omega | exact (sz_i32 _).2⟩ (fun (c32 : (0) ≤ ((lg_cmp (Int64.ofInt (wk wx (lv).toNat)) (Int64.ofInt (wk wy (lv).toNat))).toInt)) => ?_) (fun (c32 : ¬((0) ≤ ((lg_cmp (Int64.ofInt (wk wx (lv).toNat)) (Int64.ofInt (wk wy (lv).toNat))).toInt))) => ?_)
              · skip
                refine ez_go (n := 1) (pc' := 101) (L' := [(7, .inr (.inl (Int64.ofInt (wk wy (lv).toNat)))), (5, .inr (.inl (Int64.ofInt (wk wx (lv).toNat)))), (4, .inl (y)), (3, .inl (x)), (0, .inr (.inr (some (744)))), (1, .inr (.inr (some (749)))), (2, .inl (lv))]) (st' := [.inl (1)]) rfl ?_
                have e9 : lcp (lev W lv.toNat) (lev V lv.toNat) = 1 := by rw [hL, ex, ey, drx, dry]; exact lcp_g (by omega)
                rw [e9] at k
                exact ez_retI rfl rfl k
              · skip
                refine ez_go (n := 2) (pc' := 101) (L' := [(7, .inr (.inl (Int64.ofInt (wk wy (lv).toNat)))), (5, .inr (.inl (Int64.ofInt (wk wx (lv).toNat)))), (4, .inl (y)), (3, .inl (x)), (0, .inr (.inr (some (744)))), (1, .inr (.inr (some (749)))), (2, .inl (lv))]) (st' := [.inl (-1)]) rfl ?_
                have e9 : lcp (lev W lv.toNat) (lev V lv.toNat) = -1 := by rw [hL, ex, ey, drx, dry]; exact lcp_l (by omega)
                rw [e9] at k
                exact ez_retI rfl rfl k

theorem rd_lvo {lv : Int} (hB : ez_B τ h) (hX : jz_X τ) (cl : clr h 744) (cs : cts h 744 sh b W) (W9 : wps W) (W2 : W.length ≤ 36000) (cl2 : clr h 749) (cs2 : cts h 749 sh2 b2 V) (V9 : wps V) (V2 : V.length ≤ 36000) (lv0 : 0 ≤ lv) (lv3 : lv ≤ 3) (k : Q (.inl (some (ez_v (.inl (lcp (lev W lv.toNat) (lev V lv.toNat))))), h)) : ez_W (d + 2) cm_82 0 [(0, .inr (.inr (some (744)))), (1, .inr (.inr (some (749)))), (2, .inl (lv))] [] h Q := by
  have tc : τ 744 = 10 := hX 744 (by decide)
  have tc2 : τ 749 = 10 := hX 749 (by decide)
  refine ez_go (n := 4) (pc' := 5) (L' := [(4, .inl (0)), (3, .inl (0)), (0, .inr (.inr (some (744)))), (1, .inr (.inr (some (749)))), (2, .inl (lv))]) (st' := []) rfl ?_
  refine ez_less [(4, .inl (0)), (3, .inl (0)), (0, .inr (.inr (some (744)))), (1, .inr (.inr (some (749)))), (2, .inl (lv))] rfl ⟨rfl, rfl, rfl, rfl, rfl, trivial⟩ ?_
  exact rd_lvo_l hB hX cl cs W9 W2 cl2 cs2 V9 V2 lv0 lv3 k _ 0 0 (Nat.le_refl _) (by omega) (by omega) (by omega) (by omega) (by omega) rfl

theorem lvc_st {W V : List eL} : ∀ (n m : Nat), m ≤ n → lvc W V m ≠ 0 → lvc W V n = lvc W V m
  | 0, m, h, _ => by rw [show m = 0 by omega]
  | n + 1, m, h, hn => by
    by_cases e : m = n + 1
    · rw [e]
    · have := lvc_st n m (by omega) hn
      show (if lvc W V n ≠ 0 then lvc W V n else lcp (lev W n) (lev V n)) = _
      rw [this, if_pos hn]
theorem rd_ord_l {lvs : Int} (hB : ez_B τ h) (hX : jz_X τ) (cl : clr h 744) (cs : cts h 744 sh b W) (W9 : wps W) (W2 : W.length ≤ 36000) (cl2 : clr h 749) (cs2 : cts h 749 sh2 b2 V) (V9 : wps V) (V2 : V.length ≤ 36000) (l1 : 1 ≤ lvs) (l4 : lvs ≤ 4) (k : Q (.inl (some (ez_v (.inl (lvc W V lvs.toNat)))), h)) : ∀ (n : Nat) (lv : Int), n = (lvs - lv).toNat → 0 ≤ lv → lv ≤ lvs → lvc W V lv.toNat = 0 → (∀ m v, m + 1 ≤ lvs.toNat → lvc W V (m + 1) = v → v ≠ 0 → lvc W V lvs.toNat = v) → ez_W (d + 3) cm_85 2 [(3, .inl (lv)), (0, .inr (.inr (some (744)))), (1, .inr (.inr (some (749)))), (2, .inl (lvs))] [] h Q := by
  have tc : τ 744 = 10 := hX 744 (by decide)
  have tc2 : τ 749 = 10 := hX 749 (by decide)
  intro n
  induction n with
  | zero =>
    intro lv hn0 v0 v1 hz hs
    refine ez_go (n := 2) (pc' := 4) (L' := [(3, .inl (lv)), (0, .inr (.inr (some (744)))), (1, .inr (.inr (some (749)))), (2, .inl (lvs))]) (st' := [.inl (lvs), .inl (lv)]) rfl ?_
    refine ez_icmp rfl rfl ⟨by first | omega | exact (sz_i32 _).1, by first | omega | exact (sz_i32 _).2⟩ ⟨by first | omega | exact (sz_i32 _).1, by first | omega | exact (sz_i32 _).2⟩ (fun (c1 : (lvs) ≤ (lv)) => ?_) (fun (c1 : ¬((lvs) ≤ (lv))) => ?_)
    · skip
      refine ez_go (n := 1) (pc' := 30) (L' := [(3, .inl (lv)), (0, .inr (.inr (some (744)))), (1, .inr (.inr (some (749)))), (2, .inl (lvs))]) (st' := [.inl (0)]) rfl ?_
      have el : lv = lvs := by omega
      subst el
      rw [hz] at k
      exact ez_retI rfl rfl k
    · exfalso; omega
  | succ n ih =>
    intro lv hn0 v0 v1 hz hs
    refine ez_go (n := 2) (pc' := 4) (L' := [(3, .inl (lv)), (0, .inr (.inr (some (744)))), (1, .inr (.inr (some (749)))), (2, .inl (lvs))]) (st' := [.inl (lvs), .inl (lv)]) rfl ?_
    refine ez_icmp rfl rfl ⟨by first | omega | exact (sz_i32 _).1, by first | omega | exact (sz_i32 _).2⟩ ⟨by first | omega | exact (sz_i32 _).1, by first | omega | exact (sz_i32 _).2⟩ (fun (c1 : (lvs) ≤ (lv)) => ?_) (fun (c1 : ¬((lvs) ≤ (lv))) => ?_)
    · skip
      refine ez_go (n := 1) (pc' := 30) (L' := [(3, .inl (lv)), (0, .inr (.inr (some (744)))), (1, .inr (.inr (some (749)))), (2, .inl (lvs))]) (st' := [.inl (0)]) rfl ?_
      have el : lv = lvs := by omega
      subst el
      rw [hz] at k
      exact ez_retI rfl rfl k
    · skip
      refine ez_go (n := 3) (pc' := 10) (L' := [(3, .inl (lv)), (0, .inr (.inr (some (744)))), (1, .inr (.inr (some (749)))), (2, .inl (lvs))]) (st' := [.inl (lv), .inr (.inr (some (749))), .inr (.inr (some (744)))]) rfl ?_
      have lb := lcp_bd (lev W lv.toNat) (lev V lv.toNat)
      refine ez_cv hB tc rfl rfl rfl tq_10 rfl rfl rfl (rd_lvo hB hX cl cs W9 W2 cl2 cs2 V9 V2 (by omega) (by omega) (ez_K1 ?_))
      refine ez_go (n := 2) (pc' := 17) (L' := [(4, .inl (lcp (lev W lv.toNat) (lev V lv.toNat))), (3, .inl (lv)), (0, .inr (.inr (some (744)))), (1, .inr (.inr (some (749)))), (2, .inl (lvs))]) (st' := [.inl (lcp (lev W lv.toNat) (lev V lv.toNat))]) rfl ?_
      refine ez_if rfl rfl ⟨by first | omega | exact (sz_i32 _).1, by first | omega | exact (sz_i32 _).2⟩ (fun (c2 : (lcp (lev W lv.toNat) (lev V lv.toNat)) = (0)) => ?_) (fun (c2 : ¬((lcp (lev W lv.toNat) (lev V lv.toNat)) = (0))) => ?_)
      · skip
        refine ez_go (n := 2) (pc' := 2) (L' := [(3, .inl (lv + 1)), (4, .inl (lcp (lev W lv.toNat) (lev V lv.toNat))), (0, .inr (.inr (some (744)))), (1, .inr (.inr (some (749)))), (2, .inl (lvs))]) (st' := []) rfl ?_
        refine ez_less [(3, .inl (lv + 1)), (0, .inr (.inr (some (744)))), (1, .inr (.inr (some (749)))), (2, .inl (lvs))] rfl ⟨rfl, rfl, rfl, rfl, trivial⟩ ?_
        refine ih (lv + 1) (by omega) (by omega) (by omega) ?_ ?_
        · rw [show (lv + 1).toNat = lv.toNat + 1 by omega]; show (if lvc W V lv.toNat ≠ 0 then lvc W V lv.toNat else lcp (lev W lv.toNat) (lev V lv.toNat)) = 0; rw [if_neg (fun q => q hz)]; omega
        · exact hs
      · skip
        refine ez_go (n := 1) (pc' := 22) (L' := [(4, .inl (lcp (lev W lv.toNat) (lev V lv.toNat))), (3, .inl (lv)), (0, .inr (.inr (some (744)))), (1, .inr (.inr (some (749)))), (2, .inl (lvs))]) (st' := [.inl (lcp (lev W lv.toNat) (lev V lv.toNat))]) rfl ?_
        have e9 : lvc W V lvs.toNat = lcp (lev W lv.toNat) (lev V lv.toNat) := hs lv.toNat (lcp (lev W lv.toNat) (lev V lv.toNat)) (by omega) (by show (if lvc W V lv.toNat ≠ 0 then lvc W V lv.toNat else lcp (lev W lv.toNat) (lev V lv.toNat)) = _; rw [if_neg (fun q => q hz)]) (by omega)
        rw [e9] at k
        exact ez_retI rfl rfl k

theorem rd_ord {lvs : Int} (hB : ez_B τ h) (hX : jz_X τ) (cl : clr h 744) (cs : cts h 744 sh b W) (W9 : wps W) (W2 : W.length ≤ 36000) (cl2 : clr h 749) (cs2 : cts h 749 sh2 b2 V) (V9 : wps V) (V2 : V.length ≤ 36000) (l1 : 1 ≤ lvs) (l4 : lvs ≤ 4) (k : Q (.inl (some (ez_v (.inl (lvc W V lvs.toNat)))), h)) : ez_W (d + 3) cm_85 0 [(0, .inr (.inr (some (744)))), (1, .inr (.inr (some (749)))), (2, .inl (lvs))] [] h Q := by
  have tc : τ 744 = 10 := hX 744 (by decide)
  have tc2 : τ 749 = 10 := hX 749 (by decide)
  refine ez_go (n := 2) (pc' := 2) (L' := [(3, .inl (0)), (0, .inr (.inr (some (744)))), (1, .inr (.inr (some (749)))), (2, .inl (lvs))]) (st' := []) rfl ?_
  refine ez_less [(3, .inl (0)), (0, .inr (.inr (some (744)))), (1, .inr (.inr (some (749)))), (2, .inl (lvs))] rfl ⟨rfl, rfl, rfl, rfl, trivial⟩ ?_
  exact rd_ord_l hB hX cl cs W9 W2 cl2 cs2 V9 V2 l1 l4 k _ 0 rfl (by omega) (by omega) rfl (fun m v hm e nz => (lvc_st _ _ hm (by rw [e]; exact nz)).trans e)

end EzKf

/-! COLLATION: the class: key, compare. (Written by wip/p2/py/pvk8.py.) -/
def lvl (sh : Bool) (st : Int) : Int := if sh = true then st else min st 3
theorem lvl_bd {sh : Bool} {st : Int} (h1 : 1 ≤ st) (h4 : st ≤ 4) : 1 ≤ lvl sh st ∧ lvl sh st ≤ 4 := by unfold lvl; cases sh <;> simp <;> omega
/-- the weights of a text; no room for its NFD -/
def kyR (F : rz_W) (E : Int → Prop) (LK : List Int → Option (List eL)) (D : Int → xD) (sh : Bool) (u : List Int) (W : List eL) : Prop := ∃ m res, uz_FL F (decide ((0 : Int) = 1 ∨ (0 : Int) = 3)) u m ∧ m.length ≤ 2000 ∧ nfR F E 0 m res ∧ W = wts sh false (els LK (fun x => (F x).1) (UBd D) 2000 res)
def kyN (F : rz_W) (u : List Int) : Prop := ∃ m, uz_FL F (decide ((0 : Int) = 1 ∨ (0 : Int) = 3)) u m ∧ 2000 < m.length
theorem kyR_u {F : rz_W} {E : Int → Prop} {LK : List Int → Option (List eL)} {D : Int → xD} {sh : Bool} {u : List Int} {W V : List eL} (s4 : uz_S4 F E) (a : kyR F E LK D sh u W) (b : kyR F E LK D sh u V) : W = V := by
  obtain ⟨m, r, a1, a2, a3, a4⟩ := a
  obtain ⟨n, s, b1, b2, b3, b4⟩ := b
  have e := uz_L_uniq a1 b1
  subst e
  have e := nfR_u s4 a3 b3
  subst e
  rw [a4, b4]
theorem kyR_N {F : rz_W} {E : Int → Prop} {LK : List Int → Option (List eL)} {D : Int → xD} {sh : Bool} {u : List Int} {W : List eL} (a : kyR F E LK D sh u W) (b : kyN F u) : False := by
  obtain ⟨m, r, a1, a2, -⟩ := a
  obtain ⟨n, b1, b2⟩ := b
  have e := uz_L_uniq a1 b1
  subst e; omega
/-- all its elements are of the right size -/
theorem els_ok {LK : List Int → Option (List eL)} {K UB : Int → Int} (hL : ∀ row e, LK row = some e → (∀ x ∈ e, eok x) ∧ e.length ≤ 18) (hU : ∀ x, UB x = 64320 ∨ UB x = 64448) : ∀ (f : Nat) (l : List Int), ptl l → (∀ e ∈ els LK K UB f l, eok e) ∧ (els LK K UB f l).length ≤ 18 * l.length
  | 0, l, _ => ⟨fun e he => (by cases he), Nat.zero_le _⟩
  | f + 1, [], _ => ⟨fun e he => (by cases he), Nat.zero_le _⟩
  | f + 1, p :: t, hp => by
    have st : ∃ es l9, stE LK K UB (p :: t) es l9 := by
      cases lo : lon LK (p :: t) with
      | none => exact ⟨_, _, Or.inl ⟨lo, p, t, rfl, rfl, rfl⟩⟩
      | some x => exact ⟨_, _, Or.inr ⟨x.1, x.2, lo, rfl⟩⟩
    obtain ⟨es, l9, st⟩ := st
    obtain ⟨s1, s2⟩ := stE_els st f
    obtain ⟨o1, o2⟩ := stE_ok hL hU hp st
    have pl9 : ptl l9 := by
      rcases st with ⟨lo, p2, t2, e1, e2, e3⟩ | ⟨n, e0, lo, e1⟩
      · cases e1; subst e3; exact fun v hv => hp v (List.mem_cons_of_mem _ hv)
      · have key : ∀ (xs row : List Int) (best : List eL) (most : Int) (ps : List Int), ptl ps → ptl xs → ptl (sca LK K xs row best most ps).2 := by
          intro xs
          induction xs with
          | nil => intro row best most ps h1 _; exact h1
          | cons x xs ih =>
            intro row best most ps h1 h2
            have h2x := h2 x List.mem_cons_self
            have h2s : ptl xs := fun v hv => h2 v (List.mem_cons_of_mem _ hv)
            by_cases h0 : 0 < K x
            · cases hl : LK (row ++ [x]) with
              | none => rw [sca_n h0 (Or.inr hl)]; exact ih _ _ _ _ (ptl_app h1 (ptl1 h2x)) h2s
              | some e =>
                by_cases h3 : most < K x ∧ row.length < 3
                · rw [sca_y h0 h3.1 h3.2 hl]; exact ih _ _ _ _ h1 h2s
                · rw [sca_n h0 (Or.inl h3)]; exact ih _ _ _ _ (ptl_app h1 (ptl1 h2x)) h2s
            · rw [sca_z h0]; exact ptl_app h1 h2
        have := key ((p :: t).drop n) ((p :: t).take n) e0 0 [] (fun v hv => by cases hv) (fun v hv => hp v (List.mem_of_mem_drop hv))
        rw [← e1] at this; exact this
    obtain ⟨i1, i2⟩ := els_ok hL hU f l9 pl9
    rw [s1]
    refine ⟨fun e he => (List.mem_append.mp he).elim (o1 e) (i1 e), ?_⟩
    rw [List.length_append]
    omega
/-- what key writes in the class -/
def kk_P (z : Nat) : Bool := kb_P 744 z || nz_P2 192 194 z
def kc_P (z : Nat) : Bool := kb_P 744 z || kb_P 749 z
theorem kk_b {z : Nat} (h : kb_P 744 z = true) : kk_P z = true := by unfold kk_P; rw [h]; rfl
theorem kk_2 {z : Nat} (h : nz_P2 192 194 z = true) : kk_P z = true := by unfold kk_P; rw [h]; exact Bool.or_true _
theorem kc_l {z : Nat} (h : kb_P 744 z = true) : kc_P z = true := by unfold kc_P; rw [h]; rfl
theorem kc_r {z : Nat} (h : kb_P 749 z = true) : kc_P z = true := by unfold kc_P; rw [h]; exact Bool.or_true _
section EzKg
variable {d : Nat} {h : cz_H} {τ : Nat → Nat} {P Q : cz_F → Prop} {W V : List eL} {LK : List Int → Option (List eL)} {R : List (List Int × List eL)} {F : rz_W} {E : Int → Prop} {T : Int → Nat} {D : Int → xD} {O : Nat → Int} {X : Nat → List Int}
theorem rd_lvsOf1 {st : Int} (hB : ez_B τ h) (s1 : 1 ≤ st) (s4 : st ≤ 4) (k : Q (.inl (some (ez_v (.inl (lvl true st)))), h)) : ez_W (d + 1) cm_20 0 [(0, .inl (st)), (1, .inl (1))] [] h Q := by
  have e9 : lvl true st = st := rfl
  rw [e9] at k
  refine ez_go (n := 1) (pc' := 1) (L' := [(0, .inl (st)), (1, .inl (1))]) (st' := [.inl (1)]) rfl ?_
  refine ez_if rfl rfl ⟨by decide, by decide⟩ (fun (c1 : (1 : Int) = (0)) => absurd c1 (by decide)) (fun _ => ?_)
  refine ez_go (n := 2) (pc' := 13) (L' := [(0, .inl (st)), (1, .inl (1))]) (st' := [.inl (st)]) rfl ?_
  exact ez_retI rfl rfl k

theorem rd_lvsOf0 {st : Int} (hB : ez_B τ h) (s1 : 1 ≤ st) (s4 : st ≤ 4) (k : Q (.inl (some (ez_v (.inl (lvl false st)))), h)) : ez_W (d + 1) cm_20 0 [(0, .inl (st)), (1, .inl (0))] [] h Q := by
  have e9 : lvl false st = min st 3 := rfl
  rw [e9] at k
  refine ez_go (n := 1) (pc' := 1) (L' := [(0, .inl (st)), (1, .inl (0))]) (st' := [.inl (0)]) rfl ?_
  refine ez_if rfl rfl ⟨by decide, by decide⟩ (fun _ => ?_) (fun (c1 : ¬((0 : Int) = (0))) => absurd c1 (by decide))
  refine ez_go (n := 2) (pc' := 10) (L' := [(0, .inl (st)), (1, .inl (0))]) (st' := [.inl (3), .inl (st)]) rfl ?_
  refine ez_cs hB.2.1 rfl rfl rfl rfl rfl (rd_minE ⟨by omega, by omega⟩ ⟨by decide, by decide⟩ (ez_K1 ?_))
  exact ez_retI rfl rfl k

theorem KY_bd {W : List eL} {n : Nat} (hn : n ≤ 4) (hW : W.length ≤ 36000) : (KY W n).length ≤ 200000 := by
  have ls : ∀ n : Nat, lsum W n ≤ n * W.length := fun n => by
    induction n with
    | zero => exact Nat.zero_le _
    | succ n ih =>
      have : (lev W n).length ≤ W.length := by unfold lev; refine Nat.le_trans (List.length_filter_le _ _) ?_; rw [List.length_map]; exact Nat.le_refl _
      show lsum W n + (lev W n).length ≤ (n + 1) * W.length
      rw [Nat.add_mul]; omega
  match n, hn with
  | 0, _ => exact Nat.zero_le _
  | n + 1, hn =>
    have a := KY_len W n
    have b := ls (n + 1)
    have c : (n + 1) * W.length ≤ 4 * W.length := Nat.mul_le_mul_right _ hn
    omega
theorem rd_ckey1 {t st : Int} (hX : jz_X τ) (kc : qz_I h 202 6 ≠ 0 → kC τ h T F E O D LK R) (hB : ez_B τ h) (hw : uz_wf F) (hK : ∀ x, (0 ≤ x ∧ x ≤ 1114111) → 0 ≤ (F x).1 ∧ (F x).1 ≤ 254) (hL : ∀ row e, LK row = some e → (∀ x ∈ e, eok x) ∧ e.length ≤ 18) (sl : slt h) (txh : txs h X) (cl : clr h 744) (tr : ez_rg t) (str : ez_rg st) (hr1 : h.1 + 1 ≤ 600192) (hr2 : h.2.1 + 6 ≤ 7302232) (kA : (t < 0 ∨ 7 < t ∨ st < 1 ∨ 4 < st) → Q (.inr h.1, xc h 1)) (kS : ((0 ≤ t ∧ t ≤ 7) ∧ 1 ≤ st ∧ st ≤ 4) → qz_I h 202 6 = 0 → Q (.inr h.1, xc h 2)) (kX : ((0 ≤ t ∧ t ≤ 7) ∧ 1 ≤ st ∧ st ≤ 4) → qz_I h 202 6 ≠ 0 → (kyN F (X t.toNat) ∨ ∃ W, kyR F E LK D true (X (t).toNat) W ∧ 32768 < (KY W (lvl true st).toNat).length) → ∀ g, ez_B τ g → ez_fr (kb_P 744) h g → clr g 744 → Q (.inr g.1, xc g 0)) (k1 : ((0 ≤ t ∧ t ≤ 7) ∧ 1 ≤ st ∧ st ≤ 4) → qz_I h 202 6 ≠ 0 → ∀ W, kyR F E LK D true (X (t).toNat) W → (KY W (lvl true st).toNat).length ≤ 32768 → ∀ g, ez_B τ g → ez_fr kk_P h g → clr g 744 → (∀ j, j ≠ 3 → qz_I g 192 j = qz_I h 192 j) → qz_I g 192 3 = 2 * ((KY W (lvl true st).toNat).length : Int) → rsb g 194 (byS (KY W (lvl true st).toNat)) → Q (.inl (some (ez_v (.inl (2 * ((KY W (lvl true st).toNat).length : Int))))), g)) : ez_W (d + 8) cm_19 0 [(0, .inr (.inr (some (192)))), (1, .inl (t)), (2, .inl (st)), (3, .inl (1))] [] h Q := by
  have t192 : τ 192 = 44 := hX 192 (by decide)
  obtain ⟨tr1, tr2⟩ := id tr
  obtain ⟨str1, str2⟩ := id str
  refine ez_go (n := 1) (pc' := 1) (L' := [(0, .inr (.inr (some (192)))), (1, .inl (t)), (2, .inl (st)), (3, .inl (1))]) (st' := [.inl (t)]) rfl ?_
  refine ez_cs hB.2.1 rfl rfl rfl rfl rfl (rd_reqSlot hB (show ez_rg (t) by assumption) (by omega) (by omega) (fun a1 b1 => ez_K0 ?_) (fun w => ez_Kp (xc_exc hB rfl) rfl (kA (by omega))))
  refine ez_go (n := 3) (pc' := 7) (L' := [(0, .inr (.inr (some (192)))), (1, .inl (t)), (2, .inl (st)), (3, .inl (1))]) (st' := [.inl (4), .inl (1), .inl (st)]) rfl ?_
  refine ez_cs hB.2.1 rfl rfl rfl rfl rfl (rd_reqRange ⟨by omega, by omega⟩ ⟨by omega, by omega⟩ ⟨by omega, by omega⟩ (by omega) (by omega) (fun a2 b2 => ez_K0 ?_) (fun w => ez_Kp (xc_exc hB rfl) rfl (kA (by omega))))
  refine ez_go (n := 1) (pc' := 11) (L' := [(0, .inr (.inr (some (192)))), (1, .inl (t)), (2, .inl (st)), (3, .inl (1))]) (st' := [.inr (.inr (some (192)))]) rfl ?_
  refine ez_cv hB t192 rfl rfl rfl tq_44 rfl rfl rfl (rd_reqSealed hB t192 (by omega) (by omega) (fun hsd => ez_K0 ?_) (fun w => ez_Kp (xc_exc hB rfl) rfl (kS (by omega) w)))
  refine ez_go (n := 1) (pc' := 15) (L' := [(0, .inr (.inr (some (192)))), (1, .inl (t)), (2, .inl (st)), (3, .inl (1))]) (st' := [.inr (.inr (some (192)))]) rfl ?_
  refine ez_gC (p := 744) (tg := 10) hB t192 rfl rfl tq_44 rfl rfl (fun (t744 : _ = 10) => ?_)
  refine ez_go (n := 1) (pc' := 19) (L' := [(0, .inr (.inr (some (192)))), (1, .inl (t)), (2, .inl (st)), (3, .inl (1))]) (st' := [.inr (.inr (some (192))), .inr (.inr (some (744)))]) rfl ?_
  refine ez_gC (p := 195) (tg := 47) hB t192 rfl rfl tq_44 rfl rfl (fun (t195 : _ = 47) => ?_)
  refine ez_go (n := 1) (pc' := 23) (L' := [(0, .inr (.inr (some (192)))), (1, .inl (t)), (2, .inl (st)), (3, .inl (1))]) (st' := [.inl (t), .inr (.inr (some (195))), .inr (.inr (some (744)))]) rfl ?_
  have n2 : 8 ≤ qz_N h 195 ∧ qz_N h 195 ≤ 8 := ez_len hB t195 tq_47 rfl
  have y3 : 1 ≤ qz_I h 195 (t).toNat ∧ qz_I h 195 (t).toNat ≤ 1000000 := ez_aB hB t195 tq_47 rfl rfl (by decide) (by omega) (by omega)
  have y3' : ((qz_P h 195 (t).toNat : Nat) : Int) + 1 = qz_I h 195 (t).toNat := by unfold qz_P; omega
  refine ez_aR hB t195 rfl tq_47 rfl rfl (by omega) (by omega) (by omega) (fun (t1 : _ = 88) => ?_)
  rw [show qz_P h 195 (t).toNat = 754 + 2 * (t).toNat by unfold qz_P; have := (sl (t).toNat (by omega)).1; omega]
  refine ez_go (n := 1) (pc' := 25) (L' := [(0, .inr (.inr (some (192)))), (1, .inl (t)), (2, .inl (st)), (3, .inl (1))]) (st' := [.inl (1), .inr (.inr (some (754 + 2 * (t).toNat))), .inr (.inr (some (744)))]) rfl ?_
  have tu := txh (t).toNat (by omega)
  refine ez_cv hB t744 rfl rfl rfl tq_10 rfl rfl rfl (rd_build_l (sh := true) hX (kc hsd) hw hK hL cl (mx_tag hX (show (t).toNat < 8 by omega)).2.1 tu.1 tu.2.1 (Or.inl ⟨rfl, rfl⟩) (fun m1 res1 um1 lt1 nf1 pr1 rl1 g2 B2 f2 cl2 cs1 => ez_K1 ?_) (fun m1 um1 lt1 g2 B2 f2 cl2 => ez_K1 ?_))
  · have rm1 := f2.1; have rm2 := f2.2.1
    obtain ⟨b1, c1⟩ := cs1
    have ok1 := els_ok (K := fun x => (F x).1) hL (UBd_bd D) 2000 res1 pr1
    have W91 : wps (wts true false (els LK (fun x => (F x).1) (UBd D) 2000 res1)) := wts_ok false ok1.1
    have ln1 : (wts true false (els LK (fun x => (F x).1) (UBd D) 2000 res1)).length ≤ 36000 := by rw [wts_len]; have := ok1.2; omega
    have ky1 : kyR F E LK D true (X (t).toNat) (wts true false (els LK (fun x => (F x).1) (UBd D) 2000 res1)) := ⟨m1, res1, um1, lt1, nf1, rfl⟩
    refine ez_cs B2.2.1 rfl rfl rfl rfl rfl (rd_reqRoom1 (ez_K0 ?_))
    refine ez_go (n := 2) (pc' := 33) (L' := [(0, .inr (.inr (some (192)))), (1, .inl (t)), (2, .inl (st)), (3, .inl (1))]) (st' := [.inl (1), .inl (st)]) rfl ?_
    have lb := lvl_bd (sh := true) (st := st) (by omega) (by omega)
    refine ez_cs B2.2.1 rfl rfl rfl rfl rfl (rd_lvsOf1 B2 (by omega) (by omega) (ez_K1 ?_))
    refine ez_go (n := 2) (pc' := 39) (L' := [(4, .inl (lvl true st)), (0, .inr (.inr (some (192)))), (1, .inl (t)), (2, .inl (st)), (3, .inl (1))]) (st' := [.inr (.inr (some (192)))]) rfl ?_
    refine ez_gC (p := 744) (tg := 10) B2 t192 rfl rfl tq_44 rfl rfl (fun (t744 : _ = 10) => ?_)
    refine ez_go (n := 1) (pc' := 44) (L' := [(4, .inl (lvl true st)), (0, .inr (.inr (some (192)))), (1, .inl (t)), (2, .inl (st)), (3, .inl (1))]) (st' := [.inl (lvl true st), .inr (.inr (some (744)))]) rfl ?_
    have kb9 : (KY (wts true false (els LK (fun x => (F x).1) (UBd D) 2000 res1)) (lvl true st).toNat).length ≤ 200000 := KY_bd (by omega) ln1
    refine ez_cv B2 t744 rfl rfl rfl tq_10 rfl rfl rfl (rd_keyLen_l B2 hX cl2 c1 W91 ln1 (by omega) (by omega) (ez_K1 ?_))
    refine ez_go (n := 2) (pc' := 51) (L' := [(5, .inl (2 * ((KY (wts true false (els LK (fun x => (F x).1) (UBd D) 2000 res1)) (lvl true st).toNat).length : Int))), (4, .inl (lvl true st)), (0, .inr (.inr (some (192)))), (1, .inl (t)), (2, .inl (st)), (3, .inl (1))]) (st' := [.inl (2 * ((KY (wts true false (els LK (fun x => (F x).1) (UBd D) 2000 res1)) (lvl true st).toNat).length : Int))]) rfl ?_
    refine ez_ldc (65536) rfl rfl rfl ?_
    refine ez_icmp rfl rfl ⟨by first | omega | exact (sz_i32 _).1, by first | omega | exact (sz_i32 _).2⟩ ⟨by first | omega | exact (sz_i32 _).1, by first | omega | exact (sz_i32 _).2⟩ (fun (c4 : (65536) < (2 * ((KY (wts true false (els LK (fun x => (F x).1) (UBd D) 2000 res1)) (lvl true st).toNat).length : Int))) => ?_) (fun (c4 : ¬((65536) < (2 * ((KY (wts true false (els LK (fun x => (F x).1) (UBd D) 2000 res1)) (lvl true st).toNat).length : Int)))) => ?_)
    · skip
      refine ez_go (n := 1) (pc' := 61) (L' := [(5, .inl (2 * ((KY (wts true false (els LK (fun x => (F x).1) (UBd D) 2000 res1)) (lvl true st).toNat).length : Int))), (4, .inl (lvl true st)), (0, .inr (.inr (some (192)))), (1, .inl (t)), (2, .inl (st)), (3, .inl (1))]) (st' := [.inl (0)]) rfl ?_
      exact ez_cs B2.2.1 rfl rfl rfl rfl rfl (rd_reqRoom0 (by omega) (by omega) (ez_Kp (xc_exc B2 rfl) rfl (kX (by omega) hsd (Or.inr ⟨_, ky1, by omega⟩) g2 B2 f2 cl2)))
    · skip
      refine ez_go (n := 2) (pc' := 61) (L' := [(5, .inl (2 * ((KY (wts true false (els LK (fun x => (F x).1) (UBd D) 2000 res1)) (lvl true st).toNat).length : Int))), (4, .inl (lvl true st)), (0, .inr (.inr (some (192)))), (1, .inl (t)), (2, .inl (st)), (3, .inl (1))]) (st' := [.inl (1)]) rfl ?_
      refine ez_cs B2.2.1 rfl rfl rfl rfl rfl (rd_reqRoom1 (ez_K0 ?_))
      refine ez_go (n := 1) (pc' := 65) (L' := [(5, .inl (2 * ((KY (wts true false (els LK (fun x => (F x).1) (UBd D) 2000 res1)) (lvl true st).toNat).length : Int))), (4, .inl (lvl true st)), (0, .inr (.inr (some (192)))), (1, .inl (t)), (2, .inl (st)), (3, .inl (1))]) (st' := [.inr (.inr (some (192)))]) rfl ?_
      refine ez_gC (p := 744) (tg := 10) B2 t192 rfl rfl tq_44 rfl rfl (fun (t744 : _ = 10) => ?_)
      refine ez_go (n := 1) (pc' := 69) (L' := [(5, .inl (2 * ((KY (wts true false (els LK (fun x => (F x).1) (UBd D) 2000 res1)) (lvl true st).toNat).length : Int))), (4, .inl (lvl true st)), (0, .inr (.inr (some (192)))), (1, .inl (t)), (2, .inl (st)), (3, .inl (1))]) (st' := [.inr (.inr (some (192))), .inr (.inr (some (744)))]) rfl ?_
      refine ez_gC (p := 194) (tg := 46) B2 t192 rfl rfl tq_44 rfl rfl (fun (t194 : _ = 46) => ?_)
      refine ez_go (n := 1) (pc' := 74) (L' := [(5, .inl (2 * ((KY (wts true false (els LK (fun x => (F x).1) (UBd D) 2000 res1)) (lvl true st).toNat).length : Int))), (4, .inl (lvl true st)), (0, .inr (.inr (some (192)))), (1, .inl (t)), (2, .inl (st)), (3, .inl (1))]) (st' := [.inl (lvl true st), .inr (.inr (some (194))), .inr (.inr (some (744)))]) rfl ?_
      refine ez_cv B2 t744 rfl rfl rfl tq_10 rfl rfl rfl (rd_wrKey B2 hX cl2 c1 W91 ln1 (by omega) (by omega) (by omega) (fun g3 B3 f3 rb3 => ez_K0 ?_))
      refine ez_go (n := 2) (pc' := 80) (L' := [(5, .inl (2 * ((KY (wts true false (els LK (fun x => (F x).1) (UBd D) 2000 res1)) (lvl true st).toNat).length : Int))), (4, .inl (lvl true st)), (0, .inr (.inr (some (192)))), (1, .inl (t)), (2, .inl (st)), (3, .inl (1))]) (st' := [.inl (2 * ((KY (wts true false (els LK (fun x => (F x).1) (UBd D) 2000 res1)) (lvl true st).toNat).length : Int)), .inr (.inr (some (192)))]) rfl ?_
      refine ez_pf B3 t192 rfl rfl tq_44 rfl rfl rfl rfl (ez_vdI rfl rfl (by omega) (by omega)) (fun hB5 w6 => ?_)
      refine ez_go (n := 1) (pc' := 85) (L' := [(5, .inl (2 * ((KY (wts true false (els LK (fun x => (F x).1) (UBd D) 2000 res1)) (lvl true st).toNat).length : Int))), (4, .inl (lvl true st)), (0, .inr (.inr (some (192)))), (1, .inl (t)), (2, .inl (st)), (3, .inl (1))]) (st' := [.inl (2 * ((KY (wts true false (els LK (fun x => (F x).1) (UBd D) 2000 res1)) (lvl true st).toNat).length : Int))]) rfl ?_
      have v3 : qz_I (dz_put g3 192 3 (ez_v (.inl (2 * ((KY (wts true false (els LK (fun x => (F x).1) (UBd D) 2000 res1)) (lvl true st).toNat).length : Int))))) 192 3 = 2 * ((KY (wts true false (els LK (fun x => (F x).1) (UBd D) 2000 res1)) (lvl true st).toNat).length : Int) := w6.trans (rz_rd ⟨by omega, by omega⟩)
      have o3 : ∀ j, j ≠ 3 → qz_I (dz_put g3 192 3 (ez_v (.inl (2 * ((KY (wts true false (els LK (fun x => (F x).1) (UBd D) 2000 res1)) (lvl true st).toNat).length : Int))))) 192 j = qz_I h 192 j := fun j hj => (ez_put_I (fun q => hj q.2)).trans ((f3.I rfl j).trans (f2.I (kb_n (by decide) (by decide)) j))
      have r3 : rsb (dz_put g3 192 3 (ez_v (.inl (2 * ((KY (wts true false (els LK (fun x => (F x).1) (UBd D) 2000 res1)) (lvl true st).toNat).length : Int))))) 194 (byS (KY (wts true false (els LK (fun x => (F x).1) (UBd D) 2000 res1)) (lvl true st).toNat)) := fun j v hv => (ez_put_I (fun q => absurd q.1 (by decide))).trans (rb3 j v hv)
      exact ez_retI rfl rfl (k1 (by omega) hsd _ ky1 (by omega) _ hB5 (((ez_fr_mono f2 (fun z hz => kk_b hz)).trans (ez_fr_mono f3 (fun z hz => kk_2 (by unfold ez_one at hz; unfold nz_P2; rw [hz]; exact Bool.or_true _)))).put rfl _ _) (cl2.e (fun j => (ez_put_I (fun q => absurd q.1 (by decide))).trans (f3.I rfl j))) o3 v3 r3)
  · have rm1 := f2.1; have rm2 := f2.2.1
    exact ez_cs B2.2.1 rfl rfl rfl rfl rfl (rd_reqRoom0 (by omega) (by omega) (ez_Kp (xc_exc B2 rfl) rfl (kX (by omega) hsd (Or.inl ⟨m1, um1, lt1⟩) g2 B2 f2 cl2)))

theorem rd_ckey0 {t st : Int} (hX : jz_X τ) (kc : qz_I h 202 6 ≠ 0 → kC τ h T F E O D LK R) (hB : ez_B τ h) (hw : uz_wf F) (hK : ∀ x, (0 ≤ x ∧ x ≤ 1114111) → 0 ≤ (F x).1 ∧ (F x).1 ≤ 254) (hL : ∀ row e, LK row = some e → (∀ x ∈ e, eok x) ∧ e.length ≤ 18) (sl : slt h) (txh : txs h X) (cl : clr h 744) (tr : ez_rg t) (str : ez_rg st) (hr1 : h.1 + 1 ≤ 600192) (hr2 : h.2.1 + 6 ≤ 7302232) (kA : (t < 0 ∨ 7 < t ∨ st < 1 ∨ 4 < st) → Q (.inr h.1, xc h 1)) (kS : ((0 ≤ t ∧ t ≤ 7) ∧ 1 ≤ st ∧ st ≤ 4) → qz_I h 202 6 = 0 → Q (.inr h.1, xc h 2)) (kX : ((0 ≤ t ∧ t ≤ 7) ∧ 1 ≤ st ∧ st ≤ 4) → qz_I h 202 6 ≠ 0 → (kyN F (X t.toNat) ∨ ∃ W, kyR F E LK D false (X (t).toNat) W ∧ 32768 < (KY W (lvl false st).toNat).length) → ∀ g, ez_B τ g → ez_fr (kb_P 744) h g → clr g 744 → Q (.inr g.1, xc g 0)) (k1 : ((0 ≤ t ∧ t ≤ 7) ∧ 1 ≤ st ∧ st ≤ 4) → qz_I h 202 6 ≠ 0 → ∀ W, kyR F E LK D false (X (t).toNat) W → (KY W (lvl false st).toNat).length ≤ 32768 → ∀ g, ez_B τ g → ez_fr kk_P h g → clr g 744 → (∀ j, j ≠ 3 → qz_I g 192 j = qz_I h 192 j) → qz_I g 192 3 = 2 * ((KY W (lvl false st).toNat).length : Int) → rsb g 194 (byS (KY W (lvl false st).toNat)) → Q (.inl (some (ez_v (.inl (2 * ((KY W (lvl false st).toNat).length : Int))))), g)) : ez_W (d + 8) cm_19 0 [(0, .inr (.inr (some (192)))), (1, .inl (t)), (2, .inl (st)), (3, .inl (0))] [] h Q := by
  have t192 : τ 192 = 44 := hX 192 (by decide)
  obtain ⟨tr1, tr2⟩ := id tr
  obtain ⟨str1, str2⟩ := id str
  refine ez_go (n := 1) (pc' := 1) (L' := [(0, .inr (.inr (some (192)))), (1, .inl (t)), (2, .inl (st)), (3, .inl (0))]) (st' := [.inl (t)]) rfl ?_
  refine ez_cs hB.2.1 rfl rfl rfl rfl rfl (rd_reqSlot hB (show ez_rg (t) by assumption) (by omega) (by omega) (fun a1 b1 => ez_K0 ?_) (fun w => ez_Kp (xc_exc hB rfl) rfl (kA (by omega))))
  refine ez_go (n := 3) (pc' := 7) (L' := [(0, .inr (.inr (some (192)))), (1, .inl (t)), (2, .inl (st)), (3, .inl (0))]) (st' := [.inl (4), .inl (1), .inl (st)]) rfl ?_
  refine ez_cs hB.2.1 rfl rfl rfl rfl rfl (rd_reqRange ⟨by omega, by omega⟩ ⟨by omega, by omega⟩ ⟨by omega, by omega⟩ (by omega) (by omega) (fun a2 b2 => ez_K0 ?_) (fun w => ez_Kp (xc_exc hB rfl) rfl (kA (by omega))))
  refine ez_go (n := 1) (pc' := 11) (L' := [(0, .inr (.inr (some (192)))), (1, .inl (t)), (2, .inl (st)), (3, .inl (0))]) (st' := [.inr (.inr (some (192)))]) rfl ?_
  refine ez_cv hB t192 rfl rfl rfl tq_44 rfl rfl rfl (rd_reqSealed hB t192 (by omega) (by omega) (fun hsd => ez_K0 ?_) (fun w => ez_Kp (xc_exc hB rfl) rfl (kS (by omega) w)))
  refine ez_go (n := 1) (pc' := 15) (L' := [(0, .inr (.inr (some (192)))), (1, .inl (t)), (2, .inl (st)), (3, .inl (0))]) (st' := [.inr (.inr (some (192)))]) rfl ?_
  refine ez_gC (p := 744) (tg := 10) hB t192 rfl rfl tq_44 rfl rfl (fun (t744 : _ = 10) => ?_)
  refine ez_go (n := 1) (pc' := 19) (L' := [(0, .inr (.inr (some (192)))), (1, .inl (t)), (2, .inl (st)), (3, .inl (0))]) (st' := [.inr (.inr (some (192))), .inr (.inr (some (744)))]) rfl ?_
  refine ez_gC (p := 195) (tg := 47) hB t192 rfl rfl tq_44 rfl rfl (fun (t195 : _ = 47) => ?_)
  refine ez_go (n := 1) (pc' := 23) (L' := [(0, .inr (.inr (some (192)))), (1, .inl (t)), (2, .inl (st)), (3, .inl (0))]) (st' := [.inl (t), .inr (.inr (some (195))), .inr (.inr (some (744)))]) rfl ?_
  have n2 : 8 ≤ qz_N h 195 ∧ qz_N h 195 ≤ 8 := ez_len hB t195 tq_47 rfl
  have y3 : 1 ≤ qz_I h 195 (t).toNat ∧ qz_I h 195 (t).toNat ≤ 1000000 := ez_aB hB t195 tq_47 rfl rfl (by decide) (by omega) (by omega)
  have y3' : ((qz_P h 195 (t).toNat : Nat) : Int) + 1 = qz_I h 195 (t).toNat := by unfold qz_P; omega
  refine ez_aR hB t195 rfl tq_47 rfl rfl (by omega) (by omega) (by omega) (fun (t1 : _ = 88) => ?_)
  rw [show qz_P h 195 (t).toNat = 754 + 2 * (t).toNat by unfold qz_P; have := (sl (t).toNat (by omega)).1; omega]
  refine ez_go (n := 1) (pc' := 25) (L' := [(0, .inr (.inr (some (192)))), (1, .inl (t)), (2, .inl (st)), (3, .inl (0))]) (st' := [.inl (0), .inr (.inr (some (754 + 2 * (t).toNat))), .inr (.inr (some (744)))]) rfl ?_
  have tu := txh (t).toNat (by omega)
  refine ez_cv hB t744 rfl rfl rfl tq_10 rfl rfl rfl (rd_build_l (sh := false) hX (kc hsd) hw hK hL cl (mx_tag hX (show (t).toNat < 8 by omega)).2.1 tu.1 tu.2.1 (Or.inr ⟨rfl, rfl⟩) (fun m1 res1 um1 lt1 nf1 pr1 rl1 g2 B2 f2 cl2 cs1 => ez_K1 ?_) (fun m1 um1 lt1 g2 B2 f2 cl2 => ez_K1 ?_))
  · have rm1 := f2.1; have rm2 := f2.2.1
    obtain ⟨b1, c1⟩ := cs1
    have ok1 := els_ok (K := fun x => (F x).1) hL (UBd_bd D) 2000 res1 pr1
    have W91 : wps (wts false false (els LK (fun x => (F x).1) (UBd D) 2000 res1)) := wts_ok false ok1.1
    have ln1 : (wts false false (els LK (fun x => (F x).1) (UBd D) 2000 res1)).length ≤ 36000 := by rw [wts_len]; have := ok1.2; omega
    have ky1 : kyR F E LK D false (X (t).toNat) (wts false false (els LK (fun x => (F x).1) (UBd D) 2000 res1)) := ⟨m1, res1, um1, lt1, nf1, rfl⟩
    refine ez_cs B2.2.1 rfl rfl rfl rfl rfl (rd_reqRoom1 (ez_K0 ?_))
    refine ez_go (n := 2) (pc' := 33) (L' := [(0, .inr (.inr (some (192)))), (1, .inl (t)), (2, .inl (st)), (3, .inl (0))]) (st' := [.inl (0), .inl (st)]) rfl ?_
    have lb := lvl_bd (sh := false) (st := st) (by omega) (by omega)
    refine ez_cs B2.2.1 rfl rfl rfl rfl rfl (rd_lvsOf0 B2 (by omega) (by omega) (ez_K1 ?_))
    refine ez_go (n := 2) (pc' := 39) (L' := [(4, .inl (lvl false st)), (0, .inr (.inr (some (192)))), (1, .inl (t)), (2, .inl (st)), (3, .inl (0))]) (st' := [.inr (.inr (some (192)))]) rfl ?_
    refine ez_gC (p := 744) (tg := 10) B2 t192 rfl rfl tq_44 rfl rfl (fun (t744 : _ = 10) => ?_)
    refine ez_go (n := 1) (pc' := 44) (L' := [(4, .inl (lvl false st)), (0, .inr (.inr (some (192)))), (1, .inl (t)), (2, .inl (st)), (3, .inl (0))]) (st' := [.inl (lvl false st), .inr (.inr (some (744)))]) rfl ?_
    have kb9 : (KY (wts false false (els LK (fun x => (F x).1) (UBd D) 2000 res1)) (lvl false st).toNat).length ≤ 200000 := KY_bd (by omega) ln1
    refine ez_cv B2 t744 rfl rfl rfl tq_10 rfl rfl rfl (rd_keyLen_l B2 hX cl2 c1 W91 ln1 (by omega) (by omega) (ez_K1 ?_))
    refine ez_go (n := 2) (pc' := 51) (L' := [(5, .inl (2 * ((KY (wts false false (els LK (fun x => (F x).1) (UBd D) 2000 res1)) (lvl false st).toNat).length : Int))), (4, .inl (lvl false st)), (0, .inr (.inr (some (192)))), (1, .inl (t)), (2, .inl (st)), (3, .inl (0))]) (st' := [.inl (2 * ((KY (wts false false (els LK (fun x => (F x).1) (UBd D) 2000 res1)) (lvl false st).toNat).length : Int))]) rfl ?_
    refine ez_ldc (65536) rfl rfl rfl ?_
    refine ez_icmp rfl rfl ⟨by first | omega | exact (sz_i32 _).1, by first | omega | exact (sz_i32 _).2⟩ ⟨by first | omega | exact (sz_i32 _).1, by first | omega | exact (sz_i32 _).2⟩ (fun (c4 : (65536) < (2 * ((KY (wts false false (els LK (fun x => (F x).1) (UBd D) 2000 res1)) (lvl false st).toNat).length : Int))) => ?_) (fun (c4 : ¬((65536) < (2 * ((KY (wts false false (els LK (fun x => (F x).1) (UBd D) 2000 res1)) (lvl false st).toNat).length : Int)))) => ?_)
    · skip
      refine ez_go (n := 1) (pc' := 61) (L' := [(5, .inl (2 * ((KY (wts false false (els LK (fun x => (F x).1) (UBd D) 2000 res1)) (lvl false st).toNat).length : Int))), (4, .inl (lvl false st)), (0, .inr (.inr (some (192)))), (1, .inl (t)), (2, .inl (st)), (3, .inl (0))]) (st' := [.inl (0)]) rfl ?_
      exact ez_cs B2.2.1 rfl rfl rfl rfl rfl (rd_reqRoom0 (by omega) (by omega) (ez_Kp (xc_exc B2 rfl) rfl (kX (by omega) hsd (Or.inr ⟨_, ky1, by omega⟩) g2 B2 f2 cl2)))
    · skip
      refine ez_go (n := 2) (pc' := 61) (L' := [(5, .inl (2 * ((KY (wts false false (els LK (fun x => (F x).1) (UBd D) 2000 res1)) (lvl false st).toNat).length : Int))), (4, .inl (lvl false st)), (0, .inr (.inr (some (192)))), (1, .inl (t)), (2, .inl (st)), (3, .inl (0))]) (st' := [.inl (1)]) rfl ?_
      refine ez_cs B2.2.1 rfl rfl rfl rfl rfl (rd_reqRoom1 (ez_K0 ?_))
      refine ez_go (n := 1) (pc' := 65) (L' := [(5, .inl (2 * ((KY (wts false false (els LK (fun x => (F x).1) (UBd D) 2000 res1)) (lvl false st).toNat).length : Int))), (4, .inl (lvl false st)), (0, .inr (.inr (some (192)))), (1, .inl (t)), (2, .inl (st)), (3, .inl (0))]) (st' := [.inr (.inr (some (192)))]) rfl ?_
      refine ez_gC (p := 744) (tg := 10) B2 t192 rfl rfl tq_44 rfl rfl (fun (t744 : _ = 10) => ?_)
      refine ez_go (n := 1) (pc' := 69) (L' := [(5, .inl (2 * ((KY (wts false false (els LK (fun x => (F x).1) (UBd D) 2000 res1)) (lvl false st).toNat).length : Int))), (4, .inl (lvl false st)), (0, .inr (.inr (some (192)))), (1, .inl (t)), (2, .inl (st)), (3, .inl (0))]) (st' := [.inr (.inr (some (192))), .inr (.inr (some (744)))]) rfl ?_
      refine ez_gC (p := 194) (tg := 46) B2 t192 rfl rfl tq_44 rfl rfl (fun (t194 : _ = 46) => ?_)
      refine ez_go (n := 1) (pc' := 74) (L' := [(5, .inl (2 * ((KY (wts false false (els LK (fun x => (F x).1) (UBd D) 2000 res1)) (lvl false st).toNat).length : Int))), (4, .inl (lvl false st)), (0, .inr (.inr (some (192)))), (1, .inl (t)), (2, .inl (st)), (3, .inl (0))]) (st' := [.inl (lvl false st), .inr (.inr (some (194))), .inr (.inr (some (744)))]) rfl ?_
      refine ez_cv B2 t744 rfl rfl rfl tq_10 rfl rfl rfl (rd_wrKey B2 hX cl2 c1 W91 ln1 (by omega) (by omega) (by omega) (fun g3 B3 f3 rb3 => ez_K0 ?_))
      refine ez_go (n := 2) (pc' := 80) (L' := [(5, .inl (2 * ((KY (wts false false (els LK (fun x => (F x).1) (UBd D) 2000 res1)) (lvl false st).toNat).length : Int))), (4, .inl (lvl false st)), (0, .inr (.inr (some (192)))), (1, .inl (t)), (2, .inl (st)), (3, .inl (0))]) (st' := [.inl (2 * ((KY (wts false false (els LK (fun x => (F x).1) (UBd D) 2000 res1)) (lvl false st).toNat).length : Int)), .inr (.inr (some (192)))]) rfl ?_
      refine ez_pf B3 t192 rfl rfl tq_44 rfl rfl rfl rfl (ez_vdI rfl rfl (by omega) (by omega)) (fun hB5 w6 => ?_)
      refine ez_go (n := 1) (pc' := 85) (L' := [(5, .inl (2 * ((KY (wts false false (els LK (fun x => (F x).1) (UBd D) 2000 res1)) (lvl false st).toNat).length : Int))), (4, .inl (lvl false st)), (0, .inr (.inr (some (192)))), (1, .inl (t)), (2, .inl (st)), (3, .inl (0))]) (st' := [.inl (2 * ((KY (wts false false (els LK (fun x => (F x).1) (UBd D) 2000 res1)) (lvl false st).toNat).length : Int))]) rfl ?_
      have v3 : qz_I (dz_put g3 192 3 (ez_v (.inl (2 * ((KY (wts false false (els LK (fun x => (F x).1) (UBd D) 2000 res1)) (lvl false st).toNat).length : Int))))) 192 3 = 2 * ((KY (wts false false (els LK (fun x => (F x).1) (UBd D) 2000 res1)) (lvl false st).toNat).length : Int) := w6.trans (rz_rd ⟨by omega, by omega⟩)
      have o3 : ∀ j, j ≠ 3 → qz_I (dz_put g3 192 3 (ez_v (.inl (2 * ((KY (wts false false (els LK (fun x => (F x).1) (UBd D) 2000 res1)) (lvl false st).toNat).length : Int))))) 192 j = qz_I h 192 j := fun j hj => (ez_put_I (fun q => hj q.2)).trans ((f3.I rfl j).trans (f2.I (kb_n (by decide) (by decide)) j))
      have r3 : rsb (dz_put g3 192 3 (ez_v (.inl (2 * ((KY (wts false false (els LK (fun x => (F x).1) (UBd D) 2000 res1)) (lvl false st).toNat).length : Int))))) 194 (byS (KY (wts false false (els LK (fun x => (F x).1) (UBd D) 2000 res1)) (lvl false st).toNat)) := fun j v hv => (ez_put_I (fun q => absurd q.1 (by decide))).trans (rb3 j v hv)
      exact ez_retI rfl rfl (k1 (by omega) hsd _ ky1 (by omega) _ hB5 (((ez_fr_mono f2 (fun z hz => kk_b hz)).trans (ez_fr_mono f3 (fun z hz => kk_2 (by unfold ez_one at hz; unfold nz_P2; rw [hz]; exact Bool.or_true _)))).put rfl _ _) (cl2.e (fun j => (ez_put_I (fun q => absurd q.1 (by decide))).trans (f3.I rfl j))) o3 v3 r3)
  · have rm1 := f2.1; have rm2 := f2.2.1
    exact ez_cs B2.2.1 rfl rfl rfl rfl rfl (rd_reqRoom0 (by omega) (by omega) (ez_Kp (xc_exc B2 rfl) rfl (kX (by omega) hsd (Or.inl ⟨m1, um1, lt1⟩) g2 B2 f2 cl2)))

theorem rd_ccmp1 {t u9 st : Int} (hX : jz_X τ) (kc : qz_I h 202 6 ≠ 0 → kC τ h T F E O D LK R) (hB : ez_B τ h) (hw : uz_wf F) (hK : ∀ x, (0 ≤ x ∧ x ≤ 1114111) → 0 ≤ (F x).1 ∧ (F x).1 ≤ 254) (hL : ∀ row e, LK row = some e → (∀ x ∈ e, eok x) ∧ e.length ≤ 18) (sl : slt h) (txh : txs h X) (cl : clr h 744) (clr_r : clr h 749) (tr : ez_rg t) (u9r : ez_rg u9) (str : ez_rg st) (hr1 : h.1 + 1 ≤ 600192) (hr2 : h.2.1 + 6 ≤ 7302232) (kA : (t < 0 ∨ 7 < t ∨ u9 < 0 ∨ 7 < u9 ∨ st < 1 ∨ 4 < st) → Q (.inr h.1, xc h 1)) (kS : ((0 ≤ t ∧ t ≤ 7) ∧ (0 ≤ u9 ∧ u9 ≤ 7) ∧ 1 ≤ st ∧ st ≤ 4) → qz_I h 202 6 = 0 → Q (.inr h.1, xc h 2)) (kX : ((0 ≤ t ∧ t ≤ 7) ∧ (0 ≤ u9 ∧ u9 ≤ 7) ∧ 1 ≤ st ∧ st ≤ 4) → qz_I h 202 6 ≠ 0 → (kyN F (X t.toNat) ∨ (∃ W, kyR F E LK D true (X (t).toNat) W) ∧ kyN F (X u9.toNat)) → ∀ g, ez_B τ g → ez_fr kc_P h g → clr g 744 → clr g 749 → Q (.inr g.1, xc g 0)) (k1 : ((0 ≤ t ∧ t ≤ 7) ∧ (0 ≤ u9 ∧ u9 ≤ 7) ∧ 1 ≤ st ∧ st ≤ 4) → qz_I h 202 6 ≠ 0 → ∀ W V, kyR F E LK D true (X (t).toNat) W → kyR F E LK D true (X (u9).toNat) V → wps W → wps V → ∀ g, ez_B τ g → ez_fr kc_P h g → clr g 744 → clr g 749 → Q (.inl (some (ez_v (.inl (lvc W V (lvl true st).toNat)))), g)) : ez_W (d + 8) cm_6 0 [(0, .inr (.inr (some (192)))), (1, .inl (t)), (2, .inl (u9)), (3, .inl (st)), (4, .inl (1))] [] h Q := by
  have t192 : τ 192 = 44 := hX 192 (by decide)
  obtain ⟨tr1, tr2⟩ := id tr
  obtain ⟨u9r1, u9r2⟩ := id u9r
  obtain ⟨str1, str2⟩ := id str
  refine ez_go (n := 1) (pc' := 1) (L' := [(0, .inr (.inr (some (192)))), (1, .inl (t)), (2, .inl (u9)), (3, .inl (st)), (4, .inl (1))]) (st' := [.inl (t)]) rfl ?_
  refine ez_cs hB.2.1 rfl rfl rfl rfl rfl (rd_reqSlot hB (show ez_rg (t) by assumption) (by omega) (by omega) (fun a1 b1 => ez_K0 ?_) (fun w => ez_Kp (xc_exc hB rfl) rfl (kA (by omega))))
  refine ez_go (n := 1) (pc' := 5) (L' := [(0, .inr (.inr (some (192)))), (1, .inl (t)), (2, .inl (u9)), (3, .inl (st)), (4, .inl (1))]) (st' := [.inl (u9)]) rfl ?_
  refine ez_cs hB.2.1 rfl rfl rfl rfl rfl (rd_reqSlot hB (show ez_rg (u9) by assumption) (by omega) (by omega) (fun a2 b2 => ez_K0 ?_) (fun w => ez_Kp (xc_exc hB rfl) rfl (kA (by omega))))
  refine ez_go (n := 3) (pc' := 11) (L' := [(0, .inr (.inr (some (192)))), (1, .inl (t)), (2, .inl (u9)), (3, .inl (st)), (4, .inl (1))]) (st' := [.inl (4), .inl (1), .inl (st)]) rfl ?_
  refine ez_cs hB.2.1 rfl rfl rfl rfl rfl (rd_reqRange ⟨by omega, by omega⟩ ⟨by omega, by omega⟩ ⟨by omega, by omega⟩ (by omega) (by omega) (fun a3 b3 => ez_K0 ?_) (fun w => ez_Kp (xc_exc hB rfl) rfl (kA (by omega))))
  refine ez_go (n := 1) (pc' := 15) (L' := [(0, .inr (.inr (some (192)))), (1, .inl (t)), (2, .inl (u9)), (3, .inl (st)), (4, .inl (1))]) (st' := [.inr (.inr (some (192)))]) rfl ?_
  refine ez_cv hB t192 rfl rfl rfl tq_44 rfl rfl rfl (rd_reqSealed hB t192 (by omega) (by omega) (fun hsd => ez_K0 ?_) (fun w => ez_Kp (xc_exc hB rfl) rfl (kS (by omega) w)))
  refine ez_go (n := 1) (pc' := 19) (L' := [(0, .inr (.inr (some (192)))), (1, .inl (t)), (2, .inl (u9)), (3, .inl (st)), (4, .inl (1))]) (st' := [.inr (.inr (some (192)))]) rfl ?_
  refine ez_gC (p := 744) (tg := 10) hB t192 rfl rfl tq_44 rfl rfl (fun (t744 : _ = 10) => ?_)
  refine ez_go (n := 1) (pc' := 23) (L' := [(0, .inr (.inr (some (192)))), (1, .inl (t)), (2, .inl (u9)), (3, .inl (st)), (4, .inl (1))]) (st' := [.inr (.inr (some (192))), .inr (.inr (some (744)))]) rfl ?_
  refine ez_gC (p := 195) (tg := 47) hB t192 rfl rfl tq_44 rfl rfl (fun (t195 : _ = 47) => ?_)
  refine ez_go (n := 1) (pc' := 27) (L' := [(0, .inr (.inr (some (192)))), (1, .inl (t)), (2, .inl (u9)), (3, .inl (st)), (4, .inl (1))]) (st' := [.inl (t), .inr (.inr (some (195))), .inr (.inr (some (744)))]) rfl ?_
  have n2 : 8 ≤ qz_N h 195 ∧ qz_N h 195 ≤ 8 := ez_len hB t195 tq_47 rfl
  have y3 : 1 ≤ qz_I h 195 (t).toNat ∧ qz_I h 195 (t).toNat ≤ 1000000 := ez_aB hB t195 tq_47 rfl rfl (by decide) (by omega) (by omega)
  have y3' : ((qz_P h 195 (t).toNat : Nat) : Int) + 1 = qz_I h 195 (t).toNat := by unfold qz_P; omega
  refine ez_aR hB t195 rfl tq_47 rfl rfl (by omega) (by omega) (by omega) (fun (t1 : _ = 88) => ?_)
  rw [show qz_P h 195 (t).toNat = 754 + 2 * (t).toNat by unfold qz_P; have := (sl (t).toNat (by omega)).1; omega]
  refine ez_go (n := 1) (pc' := 30) (L' := [(0, .inr (.inr (some (192)))), (1, .inl (t)), (2, .inl (u9)), (3, .inl (st)), (4, .inl (1))]) (st' := [.inl (1), .inr (.inr (some (754 + 2 * (t).toNat))), .inr (.inr (some (744)))]) rfl ?_
  have tu := txh (t).toNat (by omega)
  have tv := txh (u9).toNat (by omega)
  refine ez_cv hB t744 rfl rfl rfl tq_10 rfl rfl rfl (rd_build_l (sh := true) hX (kc hsd) hw hK hL cl (mx_tag hX (show (t).toNat < 8 by omega)).2.1 tu.1 tu.2.1 (Or.inl ⟨rfl, rfl⟩) (fun m1 res1 um1 lt1 nf1 pr1 rl1 g2 B2 f2 cl2 cs1 => ez_K1 ?_) (fun m1 um1 lt1 g2 B2 f2 cl2 => ez_K1 ?_))
  · have rm1 := f2.1; have rm2 := f2.2.1
    have fc2 := ez_fr_mono f2 (fun z hz => kc_l hz)
    have c95 : ∀ j, qz_I g2 195 j = qz_I h 195 j := fun j => f2.I (kb_n (by decide) (by decide)) j
    obtain ⟨b1, c1⟩ := cs1
    have ok1 := els_ok (K := fun x => (F x).1) hL (UBd_bd D) 2000 res1 pr1
    have W91 : wps (wts true false (els LK (fun x => (F x).1) (UBd D) 2000 res1)) := wts_ok false ok1.1
    have ln1 : (wts true false (els LK (fun x => (F x).1) (UBd D) 2000 res1)).length ≤ 36000 := by rw [wts_len]; have := ok1.2; omega
    have ky1 : kyR F E LK D true (X (t).toNat) (wts true false (els LK (fun x => (F x).1) (UBd D) 2000 res1)) := ⟨m1, res1, um1, lt1, nf1, rfl⟩
    refine ez_cs B2.2.1 rfl rfl rfl rfl rfl (rd_reqRoom1 (ez_K0 ?_))
    refine ez_go (n := 1) (pc' := 37) (L' := [(0, .inr (.inr (some (192)))), (1, .inl (t)), (2, .inl (u9)), (3, .inl (st)), (4, .inl (1))]) (st' := [.inr (.inr (some (192)))]) rfl ?_
    refine ez_gC (p := 749) (tg := 10) B2 t192 rfl rfl tq_44 rfl rfl (fun (t749 : _ = 10) => ?_)
    refine ez_go (n := 1) (pc' := 41) (L' := [(0, .inr (.inr (some (192)))), (1, .inl (t)), (2, .inl (u9)), (3, .inl (st)), (4, .inl (1))]) (st' := [.inr (.inr (some (192))), .inr (.inr (some (749)))]) rfl ?_
    refine ez_gC (p := 195) (tg := 47) B2 t192 rfl rfl tq_44 rfl rfl (fun (t195 : _ = 47) => ?_)
    refine ez_go (n := 1) (pc' := 45) (L' := [(0, .inr (.inr (some (192)))), (1, .inl (t)), (2, .inl (u9)), (3, .inl (st)), (4, .inl (1))]) (st' := [.inl (u9), .inr (.inr (some (195))), .inr (.inr (some (749)))]) rfl ?_
    have n5 : 8 ≤ qz_N g2 195 ∧ qz_N g2 195 ≤ 8 := ez_len B2 t195 tq_47 rfl
    have y6 : 1 ≤ qz_I g2 195 (u9).toNat ∧ qz_I g2 195 (u9).toNat ≤ 1000000 := ez_aB B2 t195 tq_47 rfl rfl (by decide) (by omega) (by omega)
    have y6' : ((qz_P g2 195 (u9).toNat : Nat) : Int) + 1 = qz_I g2 195 (u9).toNat := by unfold qz_P; omega
    refine ez_aR B2 t195 rfl tq_47 rfl rfl (by omega) (by omega) (by omega) (fun (t4 : _ = 88) => ?_)
    rw [show qz_P g2 195 (u9).toNat = 754 + 2 * (u9).toNat by unfold qz_P; have := (sl (u9).toNat (by omega)).1; rw [show qz_I g2 195 (u9).toNat = qz_I h 195 (u9).toNat from c95 _]; omega]
    refine ez_go (n := 1) (pc' := 48) (L' := [(0, .inr (.inr (some (192)))), (1, .inl (t)), (2, .inl (u9)), (3, .inl (st)), (4, .inl (1))]) (st' := [.inl (1), .inr (.inr (some (754 + 2 * (u9).toNat))), .inr (.inr (some (749)))]) rfl ?_
    have kc2 := (kc hsd).k B2 f2 (fun z hz => kb_t hX (Or.inl rfl) hz)
    have clr2 : clr g2 749 := clr_r.e (fun j => f2.I (kb_n (by decide) (by decide)) j)
    have tv2 : tx g2 (754 + 2 * (u9).toNat) (X (u9).toNat) := tx_c tv.1 (f2.2.2 _ (kb_n (by omega) (by omega))) (f2.2.2 _ (kb_n (by omega) (by omega)))
    refine ez_cv B2 t749 rfl rfl rfl tq_10 rfl rfl rfl (rd_build_r (sh := true) hX kc2 hw hK hL clr2 (mx_tag hX (show (u9).toNat < 8 by omega)).2.1 tv2 tv.2.1 (Or.inl ⟨rfl, rfl⟩) (fun m2 res2 um2 lt2 nf2 pr2 rl2 g3 B3 f3 cl3 cs2 => ez_K1 ?_) (fun m2 um2 lt2 g3 B3 f3 cl3 => ez_K1 ?_))
    · have rm3 := f3.1; have rm4 := f3.2.1
      have fc3 := fc2.trans (ez_fr_mono f3 (fun z hz => kc_r hz))
      obtain ⟨b2, c2⟩ := cs2
      have ok2 := els_ok (K := fun x => (F x).1) hL (UBd_bd D) 2000 res2 pr2
      have W92 : wps (wts true false (els LK (fun x => (F x).1) (UBd D) 2000 res2)) := wts_ok false ok2.1
      have ln2 : (wts true false (els LK (fun x => (F x).1) (UBd D) 2000 res2)).length ≤ 36000 := by rw [wts_len]; have := ok2.2; omega
      have ky2 : kyR F E LK D true (X (u9).toNat) (wts true false (els LK (fun x => (F x).1) (UBd D) 2000 res2)) := ⟨m2, res2, um2, lt2, nf2, rfl⟩
      have c13 := c1.tr (g := g3) (fun j => f3.I (kb_n (by decide) (by decide)) j) (fun j => f3.I (kb_n (by decide) (by decide)) j)
      have cl13 := cl2.e (g := g3) (fun j => f3.I (kb_n (by decide) (by decide)) j)
      refine ez_cs B3.2.1 rfl rfl rfl rfl rfl (rd_reqRoom1 (ez_K0 ?_))
      refine ez_go (n := 1) (pc' := 55) (L' := [(0, .inr (.inr (some (192)))), (1, .inl (t)), (2, .inl (u9)), (3, .inl (st)), (4, .inl (1))]) (st' := [.inr (.inr (some (192)))]) rfl ?_
      refine ez_gC (p := 744) (tg := 10) B3 t192 rfl rfl tq_44 rfl rfl (fun (t744 : _ = 10) => ?_)
      refine ez_go (n := 1) (pc' := 59) (L' := [(0, .inr (.inr (some (192)))), (1, .inl (t)), (2, .inl (u9)), (3, .inl (st)), (4, .inl (1))]) (st' := [.inr (.inr (some (192))), .inr (.inr (some (744)))]) rfl ?_
      refine ez_gC (p := 749) (tg := 10) B3 t192 rfl rfl tq_44 rfl rfl (fun (t749 : _ = 10) => ?_)
      refine ez_go (n := 2) (pc' := 65) (L' := [(0, .inr (.inr (some (192)))), (1, .inl (t)), (2, .inl (u9)), (3, .inl (st)), (4, .inl (1))]) (st' := [.inl (1), .inl (st), .inr (.inr (some (749))), .inr (.inr (some (744)))]) rfl ?_
      have lb := lvl_bd (sh := true) (st := st) (by omega) (by omega)
      refine ez_cs B3.2.1 rfl rfl rfl rfl rfl (rd_lvsOf1 B3 (by omega) (by omega) (ez_K1 ?_))
      refine ez_cv B3 t744 rfl rfl rfl tq_10 rfl rfl rfl (rd_ord B3 hX cl13 c13 W91 ln1 cl3 c2 W92 ln2 (by omega) (by omega) (ez_K1 ?_))
      exact ez_retI rfl rfl (k1 (by omega) hsd _ _ ky1 ky2 W91 W92 g3 B3 fc3 cl13 cl3)
    · have rm3 := f3.1; have rm4 := f3.2.1
      have fc3 := fc2.trans (ez_fr_mono f3 (fun z hz => kc_r hz))
      exact ez_cs B3.2.1 rfl rfl rfl rfl rfl (rd_reqRoom0 (by omega) (by omega) (ez_Kp (xc_exc B3 rfl) rfl (kX (by omega) hsd (Or.inr ⟨⟨_, ky1⟩, m2, um2, lt2⟩) g3 B3 fc3 (cl2.e (fun j => f3.I (kb_n (by decide) (by decide)) j)) cl3)))
  · have rm1 := f2.1; have rm2 := f2.2.1
    have fc2 := ez_fr_mono f2 (fun z hz => kc_l hz)
    have c95 : ∀ j, qz_I g2 195 j = qz_I h 195 j := fun j => f2.I (kb_n (by decide) (by decide)) j
    exact ez_cs B2.2.1 rfl rfl rfl rfl rfl (rd_reqRoom0 (by omega) (by omega) (ez_Kp (xc_exc B2 rfl) rfl (kX (by omega) hsd (Or.inl ⟨m1, um1, lt1⟩) g2 B2 fc2 cl2 (clr_r.e (fun j => f2.I (kb_n (by decide) (by decide)) j)))))

theorem rd_ccmp0 {t u9 st : Int} (hX : jz_X τ) (kc : qz_I h 202 6 ≠ 0 → kC τ h T F E O D LK R) (hB : ez_B τ h) (hw : uz_wf F) (hK : ∀ x, (0 ≤ x ∧ x ≤ 1114111) → 0 ≤ (F x).1 ∧ (F x).1 ≤ 254) (hL : ∀ row e, LK row = some e → (∀ x ∈ e, eok x) ∧ e.length ≤ 18) (sl : slt h) (txh : txs h X) (cl : clr h 744) (clr_r : clr h 749) (tr : ez_rg t) (u9r : ez_rg u9) (str : ez_rg st) (hr1 : h.1 + 1 ≤ 600192) (hr2 : h.2.1 + 6 ≤ 7302232) (kA : (t < 0 ∨ 7 < t ∨ u9 < 0 ∨ 7 < u9 ∨ st < 1 ∨ 4 < st) → Q (.inr h.1, xc h 1)) (kS : ((0 ≤ t ∧ t ≤ 7) ∧ (0 ≤ u9 ∧ u9 ≤ 7) ∧ 1 ≤ st ∧ st ≤ 4) → qz_I h 202 6 = 0 → Q (.inr h.1, xc h 2)) (kX : ((0 ≤ t ∧ t ≤ 7) ∧ (0 ≤ u9 ∧ u9 ≤ 7) ∧ 1 ≤ st ∧ st ≤ 4) → qz_I h 202 6 ≠ 0 → (kyN F (X t.toNat) ∨ (∃ W, kyR F E LK D false (X (t).toNat) W) ∧ kyN F (X u9.toNat)) → ∀ g, ez_B τ g → ez_fr kc_P h g → clr g 744 → clr g 749 → Q (.inr g.1, xc g 0)) (k1 : ((0 ≤ t ∧ t ≤ 7) ∧ (0 ≤ u9 ∧ u9 ≤ 7) ∧ 1 ≤ st ∧ st ≤ 4) → qz_I h 202 6 ≠ 0 → ∀ W V, kyR F E LK D false (X (t).toNat) W → kyR F E LK D false (X (u9).toNat) V → wps W → wps V → ∀ g, ez_B τ g → ez_fr kc_P h g → clr g 744 → clr g 749 → Q (.inl (some (ez_v (.inl (lvc W V (lvl false st).toNat)))), g)) : ez_W (d + 8) cm_6 0 [(0, .inr (.inr (some (192)))), (1, .inl (t)), (2, .inl (u9)), (3, .inl (st)), (4, .inl (0))] [] h Q := by
  have t192 : τ 192 = 44 := hX 192 (by decide)
  obtain ⟨tr1, tr2⟩ := id tr
  obtain ⟨u9r1, u9r2⟩ := id u9r
  obtain ⟨str1, str2⟩ := id str
  refine ez_go (n := 1) (pc' := 1) (L' := [(0, .inr (.inr (some (192)))), (1, .inl (t)), (2, .inl (u9)), (3, .inl (st)), (4, .inl (0))]) (st' := [.inl (t)]) rfl ?_
  refine ez_cs hB.2.1 rfl rfl rfl rfl rfl (rd_reqSlot hB (show ez_rg (t) by assumption) (by omega) (by omega) (fun a1 b1 => ez_K0 ?_) (fun w => ez_Kp (xc_exc hB rfl) rfl (kA (by omega))))
  refine ez_go (n := 1) (pc' := 5) (L' := [(0, .inr (.inr (some (192)))), (1, .inl (t)), (2, .inl (u9)), (3, .inl (st)), (4, .inl (0))]) (st' := [.inl (u9)]) rfl ?_
  refine ez_cs hB.2.1 rfl rfl rfl rfl rfl (rd_reqSlot hB (show ez_rg (u9) by assumption) (by omega) (by omega) (fun a2 b2 => ez_K0 ?_) (fun w => ez_Kp (xc_exc hB rfl) rfl (kA (by omega))))
  refine ez_go (n := 3) (pc' := 11) (L' := [(0, .inr (.inr (some (192)))), (1, .inl (t)), (2, .inl (u9)), (3, .inl (st)), (4, .inl (0))]) (st' := [.inl (4), .inl (1), .inl (st)]) rfl ?_
  refine ez_cs hB.2.1 rfl rfl rfl rfl rfl (rd_reqRange ⟨by omega, by omega⟩ ⟨by omega, by omega⟩ ⟨by omega, by omega⟩ (by omega) (by omega) (fun a3 b3 => ez_K0 ?_) (fun w => ez_Kp (xc_exc hB rfl) rfl (kA (by omega))))
  refine ez_go (n := 1) (pc' := 15) (L' := [(0, .inr (.inr (some (192)))), (1, .inl (t)), (2, .inl (u9)), (3, .inl (st)), (4, .inl (0))]) (st' := [.inr (.inr (some (192)))]) rfl ?_
  refine ez_cv hB t192 rfl rfl rfl tq_44 rfl rfl rfl (rd_reqSealed hB t192 (by omega) (by omega) (fun hsd => ez_K0 ?_) (fun w => ez_Kp (xc_exc hB rfl) rfl (kS (by omega) w)))
  refine ez_go (n := 1) (pc' := 19) (L' := [(0, .inr (.inr (some (192)))), (1, .inl (t)), (2, .inl (u9)), (3, .inl (st)), (4, .inl (0))]) (st' := [.inr (.inr (some (192)))]) rfl ?_
  refine ez_gC (p := 744) (tg := 10) hB t192 rfl rfl tq_44 rfl rfl (fun (t744 : _ = 10) => ?_)
  refine ez_go (n := 1) (pc' := 23) (L' := [(0, .inr (.inr (some (192)))), (1, .inl (t)), (2, .inl (u9)), (3, .inl (st)), (4, .inl (0))]) (st' := [.inr (.inr (some (192))), .inr (.inr (some (744)))]) rfl ?_
  refine ez_gC (p := 195) (tg := 47) hB t192 rfl rfl tq_44 rfl rfl (fun (t195 : _ = 47) => ?_)
  refine ez_go (n := 1) (pc' := 27) (L' := [(0, .inr (.inr (some (192)))), (1, .inl (t)), (2, .inl (u9)), (3, .inl (st)), (4, .inl (0))]) (st' := [.inl (t), .inr (.inr (some (195))), .inr (.inr (some (744)))]) rfl ?_
  have n2 : 8 ≤ qz_N h 195 ∧ qz_N h 195 ≤ 8 := ez_len hB t195 tq_47 rfl
  have y3 : 1 ≤ qz_I h 195 (t).toNat ∧ qz_I h 195 (t).toNat ≤ 1000000 := ez_aB hB t195 tq_47 rfl rfl (by decide) (by omega) (by omega)
  have y3' : ((qz_P h 195 (t).toNat : Nat) : Int) + 1 = qz_I h 195 (t).toNat := by unfold qz_P; omega
  refine ez_aR hB t195 rfl tq_47 rfl rfl (by omega) (by omega) (by omega) (fun (t1 : _ = 88) => ?_)
  rw [show qz_P h 195 (t).toNat = 754 + 2 * (t).toNat by unfold qz_P; have := (sl (t).toNat (by omega)).1; omega]
  refine ez_go (n := 1) (pc' := 30) (L' := [(0, .inr (.inr (some (192)))), (1, .inl (t)), (2, .inl (u9)), (3, .inl (st)), (4, .inl (0))]) (st' := [.inl (0), .inr (.inr (some (754 + 2 * (t).toNat))), .inr (.inr (some (744)))]) rfl ?_
  have tu := txh (t).toNat (by omega)
  have tv := txh (u9).toNat (by omega)
  refine ez_cv hB t744 rfl rfl rfl tq_10 rfl rfl rfl (rd_build_l (sh := false) hX (kc hsd) hw hK hL cl (mx_tag hX (show (t).toNat < 8 by omega)).2.1 tu.1 tu.2.1 (Or.inr ⟨rfl, rfl⟩) (fun m1 res1 um1 lt1 nf1 pr1 rl1 g2 B2 f2 cl2 cs1 => ez_K1 ?_) (fun m1 um1 lt1 g2 B2 f2 cl2 => ez_K1 ?_))
  · have rm1 := f2.1; have rm2 := f2.2.1
    have fc2 := ez_fr_mono f2 (fun z hz => kc_l hz)
    have c95 : ∀ j, qz_I g2 195 j = qz_I h 195 j := fun j => f2.I (kb_n (by decide) (by decide)) j
    obtain ⟨b1, c1⟩ := cs1
    have ok1 := els_ok (K := fun x => (F x).1) hL (UBd_bd D) 2000 res1 pr1
    have W91 : wps (wts false false (els LK (fun x => (F x).1) (UBd D) 2000 res1)) := wts_ok false ok1.1
    have ln1 : (wts false false (els LK (fun x => (F x).1) (UBd D) 2000 res1)).length ≤ 36000 := by rw [wts_len]; have := ok1.2; omega
    have ky1 : kyR F E LK D false (X (t).toNat) (wts false false (els LK (fun x => (F x).1) (UBd D) 2000 res1)) := ⟨m1, res1, um1, lt1, nf1, rfl⟩
    refine ez_cs B2.2.1 rfl rfl rfl rfl rfl (rd_reqRoom1 (ez_K0 ?_))
    refine ez_go (n := 1) (pc' := 37) (L' := [(0, .inr (.inr (some (192)))), (1, .inl (t)), (2, .inl (u9)), (3, .inl (st)), (4, .inl (0))]) (st' := [.inr (.inr (some (192)))]) rfl ?_
    refine ez_gC (p := 749) (tg := 10) B2 t192 rfl rfl tq_44 rfl rfl (fun (t749 : _ = 10) => ?_)
    refine ez_go (n := 1) (pc' := 41) (L' := [(0, .inr (.inr (some (192)))), (1, .inl (t)), (2, .inl (u9)), (3, .inl (st)), (4, .inl (0))]) (st' := [.inr (.inr (some (192))), .inr (.inr (some (749)))]) rfl ?_
    refine ez_gC (p := 195) (tg := 47) B2 t192 rfl rfl tq_44 rfl rfl (fun (t195 : _ = 47) => ?_)
    refine ez_go (n := 1) (pc' := 45) (L' := [(0, .inr (.inr (some (192)))), (1, .inl (t)), (2, .inl (u9)), (3, .inl (st)), (4, .inl (0))]) (st' := [.inl (u9), .inr (.inr (some (195))), .inr (.inr (some (749)))]) rfl ?_
    have n5 : 8 ≤ qz_N g2 195 ∧ qz_N g2 195 ≤ 8 := ez_len B2 t195 tq_47 rfl
    have y6 : 1 ≤ qz_I g2 195 (u9).toNat ∧ qz_I g2 195 (u9).toNat ≤ 1000000 := ez_aB B2 t195 tq_47 rfl rfl (by decide) (by omega) (by omega)
    have y6' : ((qz_P g2 195 (u9).toNat : Nat) : Int) + 1 = qz_I g2 195 (u9).toNat := by unfold qz_P; omega
    refine ez_aR B2 t195 rfl tq_47 rfl rfl (by omega) (by omega) (by omega) (fun (t4 : _ = 88) => ?_)
    rw [show qz_P g2 195 (u9).toNat = 754 + 2 * (u9).toNat by unfold qz_P; have := (sl (u9).toNat (by omega)).1; rw [show qz_I g2 195 (u9).toNat = qz_I h 195 (u9).toNat from c95 _]; omega]
    refine ez_go (n := 1) (pc' := 48) (L' := [(0, .inr (.inr (some (192)))), (1, .inl (t)), (2, .inl (u9)), (3, .inl (st)), (4, .inl (0))]) (st' := [.inl (0), .inr (.inr (some (754 + 2 * (u9).toNat))), .inr (.inr (some (749)))]) rfl ?_
    have kc2 := (kc hsd).k B2 f2 (fun z hz => kb_t hX (Or.inl rfl) hz)
    have clr2 : clr g2 749 := clr_r.e (fun j => f2.I (kb_n (by decide) (by decide)) j)
    have tv2 : tx g2 (754 + 2 * (u9).toNat) (X (u9).toNat) := tx_c tv.1 (f2.2.2 _ (kb_n (by omega) (by omega))) (f2.2.2 _ (kb_n (by omega) (by omega)))
    refine ez_cv B2 t749 rfl rfl rfl tq_10 rfl rfl rfl (rd_build_r (sh := false) hX kc2 hw hK hL clr2 (mx_tag hX (show (u9).toNat < 8 by omega)).2.1 tv2 tv.2.1 (Or.inr ⟨rfl, rfl⟩) (fun m2 res2 um2 lt2 nf2 pr2 rl2 g3 B3 f3 cl3 cs2 => ez_K1 ?_) (fun m2 um2 lt2 g3 B3 f3 cl3 => ez_K1 ?_))
    · have rm3 := f3.1; have rm4 := f3.2.1
      have fc3 := fc2.trans (ez_fr_mono f3 (fun z hz => kc_r hz))
      obtain ⟨b2, c2⟩ := cs2
      have ok2 := els_ok (K := fun x => (F x).1) hL (UBd_bd D) 2000 res2 pr2
      have W92 : wps (wts false false (els LK (fun x => (F x).1) (UBd D) 2000 res2)) := wts_ok false ok2.1
      have ln2 : (wts false false (els LK (fun x => (F x).1) (UBd D) 2000 res2)).length ≤ 36000 := by rw [wts_len]; have := ok2.2; omega
      have ky2 : kyR F E LK D false (X (u9).toNat) (wts false false (els LK (fun x => (F x).1) (UBd D) 2000 res2)) := ⟨m2, res2, um2, lt2, nf2, rfl⟩
      have c13 := c1.tr (g := g3) (fun j => f3.I (kb_n (by decide) (by decide)) j) (fun j => f3.I (kb_n (by decide) (by decide)) j)
      have cl13 := cl2.e (g := g3) (fun j => f3.I (kb_n (by decide) (by decide)) j)
      refine ez_cs B3.2.1 rfl rfl rfl rfl rfl (rd_reqRoom1 (ez_K0 ?_))
      refine ez_go (n := 1) (pc' := 55) (L' := [(0, .inr (.inr (some (192)))), (1, .inl (t)), (2, .inl (u9)), (3, .inl (st)), (4, .inl (0))]) (st' := [.inr (.inr (some (192)))]) rfl ?_
      refine ez_gC (p := 744) (tg := 10) B3 t192 rfl rfl tq_44 rfl rfl (fun (t744 : _ = 10) => ?_)
      refine ez_go (n := 1) (pc' := 59) (L' := [(0, .inr (.inr (some (192)))), (1, .inl (t)), (2, .inl (u9)), (3, .inl (st)), (4, .inl (0))]) (st' := [.inr (.inr (some (192))), .inr (.inr (some (744)))]) rfl ?_
      refine ez_gC (p := 749) (tg := 10) B3 t192 rfl rfl tq_44 rfl rfl (fun (t749 : _ = 10) => ?_)
      refine ez_go (n := 2) (pc' := 65) (L' := [(0, .inr (.inr (some (192)))), (1, .inl (t)), (2, .inl (u9)), (3, .inl (st)), (4, .inl (0))]) (st' := [.inl (0), .inl (st), .inr (.inr (some (749))), .inr (.inr (some (744)))]) rfl ?_
      have lb := lvl_bd (sh := false) (st := st) (by omega) (by omega)
      refine ez_cs B3.2.1 rfl rfl rfl rfl rfl (rd_lvsOf0 B3 (by omega) (by omega) (ez_K1 ?_))
      refine ez_cv B3 t744 rfl rfl rfl tq_10 rfl rfl rfl (rd_ord B3 hX cl13 c13 W91 ln1 cl3 c2 W92 ln2 (by omega) (by omega) (ez_K1 ?_))
      exact ez_retI rfl rfl (k1 (by omega) hsd _ _ ky1 ky2 W91 W92 g3 B3 fc3 cl13 cl3)
    · have rm3 := f3.1; have rm4 := f3.2.1
      have fc3 := fc2.trans (ez_fr_mono f3 (fun z hz => kc_r hz))
      exact ez_cs B3.2.1 rfl rfl rfl rfl rfl (rd_reqRoom0 (by omega) (by omega) (ez_Kp (xc_exc B3 rfl) rfl (kX (by omega) hsd (Or.inr ⟨⟨_, ky1⟩, m2, um2, lt2⟩) g3 B3 fc3 (cl2.e (fun j => f3.I (kb_n (by decide) (by decide)) j)) cl3)))
  · have rm1 := f2.1; have rm2 := f2.2.1
    have fc2 := ez_fr_mono f2 (fun z hz => kc_l hz)
    have c95 : ∀ j, qz_I g2 195 j = qz_I h 195 j := fun j => f2.I (kb_n (by decide) (by decide)) j
    exact ez_cs B2.2.1 rfl rfl rfl rfl rfl (rd_reqRoom0 (by omega) (by omega) (ez_Kp (xc_exc B2 rfl) rfl (kX (by omega) hsd (Or.inl ⟨m1, um1, lt1⟩) g2 B2 fc2 cl2 (clr_r.e (fun j => f2.I (kb_n (by decide) (by decide)) j)))))

end EzKg

/-! COLLATION: the model: element, drop. (Written by wip/p2/py/pvk9.py.) -/
/-- the elements so far -/
def emt (h : cz_H) (L : List eL) : Prop := (qz_I h 770 36 = (L.length : Int) ∧ 4 * (L.length : Int) ≤ qz_N h (gel h)) ∧ ∀ (j : Nat) e, L[j]? = some e → qz_I h (gel h) (4 * j) = e.1 ∧ qz_I h (gel h) (4 * j + 1) = e.2.1 ∧ qz_I h (gel h) (4 * j + 2) = e.2.2.1 ∧ qz_I h (gel h) (4 * j + 3) = e.2.2.2
/-- an element more, in an array that may be a new one -/
def ne4 (τ : Nat → Nat) (h : cz_H) (τ1 : Nat → Nat) (g : cz_H) : Prop :=
  (∀ q, τ q ≠ 0 → τ1 q = τ q ∧ (q ≠ 770 → q ≠ gel h → g.2.2 q = h.2.2 q)) ∧ (∀ q, τ q = 0 → τ1 q ≠ 0 → τ1 q = 23) ∧ τ1 (gel g) = 23 ∧ (∀ j, j ≠ 35 → j ≠ 36 → qz_I g 770 j = qz_I h 770 j) ∧ qz_N h (gel h) ≤ qz_N g (gel g) ∧ ((g.2.1 : Int) - h.2.1 ≤ 2 * (qz_N g (gel g) - qz_N h (gel h)) ∧ 64 * ((g.1 : Int) - h.1) ≤ qz_N g (gel g) - qz_N h (gel h)) ∧ (h.1 ≤ g.1 ∧ h.2.1 ≤ g.2.1)
section EzMe
variable {d : Nat} {h : cz_H} {τ : Nat → Nat} {Q : cz_F → Prop} {L : List eL}
theorem ez_tel (hB : ez_B τ h) (t770 : τ 770 = 75) : τ (gel h) = 23 := by
  have b9 : 1 ≤ qz_I h 770 35 ∧ qz_I h 770 35 ≤ 1000000 := ez_fB (cl := 11) hB t770 tq_75 rfl rfl (by decide)
  exact (ez_old (cl := 11) (k := 35) hB t770 tq_75 rfl rfl (by decide) (show qz_I h 770 35 = (gel h : Int) + 1 by unfold gel qz_P; omega)).1
theorem rd_mel_l {v p s t : Int} {q : Nat} (t770 : τ 770 = 75) (tq : τ q = 23) (tpo : τ (gel h) = 23) (n770 : 770 ≠ q) (npo : gel h ≠ q) (c0 : 0 ≤ qz_I h 770 36) (c1 : qz_I h 770 36 ≤ 36000) (hn : 4 * qz_I h 770 36 ≤ qz_N h q) (hn2 : 4 * qz_I h 770 36 ≤ qz_N h (gel h)) (kx : ∀ g, ez_B τ g → ez_fr (ez_one q) h g → qz_N g q = qz_N h q → (∀ j : Nat, (j : Int) < 4 * qz_I h 770 36 → qz_I g q j = qz_I h (gel h) j) → ez_W d cm_246 59 [(5, .inr (.inr (some (q)))), (0, .inr (.inr (some (770)))), (1, .inl (v)), (2, .inl (p)), (3, .inl (s)), (4, .inl (t))] [] g Q) : ∀ (m : Nat) (i : Int) (g : cz_H), m = (4 * qz_I h 770 36 - i).toNat → 0 ≤ i → i ≤ 4 * qz_I h 770 36 → ez_B τ g → ez_fr (ez_one q) h g → qz_N g q = qz_N h q → (∀ j : Nat, (j : Int) < i → qz_I g q j = qz_I h (gel h) j) → ez_W d cm_246 30 [(6, .inl (i)), (5, .inr (.inr (some (q)))), (0, .inr (.inr (some (770)))), (1, .inl (v)), (2, .inl (p)), (3, .inl (s)), (4, .inl (t))] [] g Q := by
  intro m
  induction m with
  | zero =>
    intro i g hm i0 i1 hB hf nq hc
    have f770 : ∀ j, qz_I g 770 j = qz_I h 770 j := fun j => hf.I (dz_beq_ne n770) j
    have ep : qz_P g 770 35 = gel h := by unfold gel qz_P; rw [f770]
    have f36 := f770 36
    have np : qz_N g (gel h) = qz_N h (gel h) := hf.N (dz_beq_ne npo)
    have fpo : ∀ j, qz_I g (gel h) j = qz_I h (gel h) j := fun j => hf.I (dz_beq_ne npo) j
    refine ez_go (n := 3) (pc' := 34) (L' := [(6, .inl (i)), (5, .inr (.inr (some (q)))), (0, .inr (.inr (some (770)))), (1, .inl (v)), (2, .inl (p)), (3, .inl (s)), (4, .inl (t))]) (st' := [.inr (.inr (some (770))), .inl (4), .inl (i)]) rfl ?_
    refine ez_gI hB t770 rfl rfl tq_75 rfl rfl (fun (b1 : 0 ≤ qz_I g 770 36) (b1' : qz_I g 770 36 ≤ 36000) => ?_)
    rw [f36]
    refine ez_go (n := 1) (pc' := 38) (L' := [(6, .inl (i)), (5, .inr (.inr (some (q)))), (0, .inr (.inr (some (770)))), (1, .inl (v)), (2, .inl (p)), (3, .inl (s)), (4, .inl (t))]) (st' := [.inl ((4) * (qz_I h 770 36)), .inl (i)]) rfl ?_
    refine ez_icmp rfl rfl ⟨by first | omega | exact (sz_i32 _).1, by first | omega | exact (sz_i32 _).2⟩ ⟨by first | omega | exact (sz_i32 _).1, by first | omega | exact (sz_i32 _).2⟩ (fun (c2 : ((4) * (qz_I h 770 36)) ≤ (i)) => ?_) (fun (c2 : ¬(((4) * (qz_I h 770 36)) ≤ (i))) => ?_)
    · skip
      refine ez_less [(5, .inr (.inr (some (q)))), (0, .inr (.inr (some (770)))), (1, .inl (v)), (2, .inl (p)), (3, .inl (s)), (4, .inl (t))] rfl ⟨rfl, rfl, rfl, rfl, rfl, rfl, trivial⟩ ?_
      exact kx g hB hf nq (fun j j1 => hc j (by omega))
    · exfalso; omega
  | succ m ih =>
    intro i g hm i0 i1 hB hf nq hc
    have f770 : ∀ j, qz_I g 770 j = qz_I h 770 j := fun j => hf.I (dz_beq_ne n770) j
    have ep : qz_P g 770 35 = gel h := by unfold gel qz_P; rw [f770]
    have f36 := f770 36
    have np : qz_N g (gel h) = qz_N h (gel h) := hf.N (dz_beq_ne npo)
    have fpo : ∀ j, qz_I g (gel h) j = qz_I h (gel h) j := fun j => hf.I (dz_beq_ne npo) j
    refine ez_go (n := 3) (pc' := 34) (L' := [(6, .inl (i)), (5, .inr (.inr (some (q)))), (0, .inr (.inr (some (770)))), (1, .inl (v)), (2, .inl (p)), (3, .inl (s)), (4, .inl (t))]) (st' := [.inr (.inr (some (770))), .inl (4), .inl (i)]) rfl ?_
    refine ez_gI hB t770 rfl rfl tq_75 rfl rfl (fun (b1 : 0 ≤ qz_I g 770 36) (b1' : qz_I g 770 36 ≤ 36000) => ?_)
    rw [f36]
    refine ez_go (n := 1) (pc' := 38) (L' := [(6, .inl (i)), (5, .inr (.inr (some (q)))), (0, .inr (.inr (some (770)))), (1, .inl (v)), (2, .inl (p)), (3, .inl (s)), (4, .inl (t))]) (st' := [.inl ((4) * (qz_I h 770 36)), .inl (i)]) rfl ?_
    refine ez_icmp rfl rfl ⟨by first | omega | exact (sz_i32 _).1, by first | omega | exact (sz_i32 _).2⟩ ⟨by first | omega | exact (sz_i32 _).1, by first | omega | exact (sz_i32 _).2⟩ (fun (c2 : ((4) * (qz_I h 770 36)) ≤ (i)) => ?_) (fun (c2 : ¬(((4) * (qz_I h 770 36)) ≤ (i))) => ?_)
    · exfalso; omega
    · skip
      refine ez_go (n := 3) (pc' := 46) (L' := [(6, .inl (i)), (5, .inr (.inr (some (q)))), (0, .inr (.inr (some (770)))), (1, .inl (v)), (2, .inl (p)), (3, .inl (s)), (4, .inl (t))]) (st' := [.inr (.inr (some (770))), .inl (i), .inr (.inr (some (q)))]) rfl ?_
      refine ez_gR hB t770 rfl rfl tq_75 rfl rfl (fun (t3 : _ = 23) (t3' : 1 ≤ qz_I g 770 35) => ?_)
      rw [show qz_P g 770 35 = gel h from ep] at *
      refine ez_go (n := 1) (pc' := 51) (L' := [(6, .inl (i)), (5, .inr (.inr (some (q)))), (0, .inr (.inr (some (770)))), (1, .inl (v)), (2, .inl (p)), (3, .inl (s)), (4, .inl (t))]) (st' := [.inl (i), .inr (.inr (some ((gel h)))), .inl (i), .inr (.inr (some (q)))]) rfl ?_
      have n5 : 1024 ≤ qz_N g ((gel h)) ∧ qz_N g ((gel h)) ≤ 300000 := ez_len hB t3 tq_23 rfl
      refine ez_aI hB t3 rfl tq_23 rfl rfl (by omega) (by omega) (fun (b4 : -2147483648 ≤ qz_I g ((gel h)) (i).toNat) (b4' : qz_I g ((gel h)) (i).toNat ≤ 2147483647) => ?_)
      have n8 : 1024 ≤ qz_N g q ∧ qz_N g q ≤ 300000 := ez_len hB tq tq_23 rfl
      refine ez_as hB tq rfl tq_23 rfl rfl (by omega) (by omega) (ez_vdI rfl rfl (by omega) (by omega)) (fun hB6 w7 => ?_)
      refine ez_go (n := 2) (pc' := 30) (L' := [(6, .inl (i + 1)), (5, .inr (.inr (some (q)))), (0, .inr (.inr (some (770)))), (1, .inl (v)), (2, .inl (p)), (3, .inl (s)), (4, .inl (t))]) (st' := []) rfl ?_
      refine ez_less [(6, .inl (i + 1)), (5, .inr (.inr (some (q)))), (0, .inr (.inr (some (770)))), (1, .inl (v)), (2, .inl (p)), (3, .inl (s)), (4, .inl (t))] rfl ⟨rfl, rfl, rfl, rfl, rfl, rfl, rfl, trivial⟩ ?_
      refine ih (i + 1) _ (by omega) (by omega) (by omega) hB6 (hf.put (show Nat.beq q q = true from Nat.beq_refl q) _ _) (by rw [ez_put_N]; exact nq) (fun j j1 => ?_)
      by_cases e : (j : Int) = i
      · rw [show j = (i).toNat by omega, w7, rz_rd ⟨by omega, by omega⟩, fpo]
      · rw [ez_put_I (by omega)]; exact hc j (by omega)

theorem rd_mel_w0 {v p s t : Int} (hB : ez_B τ h) (t770 : τ 770 = 75) (c0 : 0 ≤ qz_I h 770 36) (c1 : qz_I h 770 36 < 36000) (hn : 4 * qz_I h 770 36 + 4 ≤ qz_N h (gel h)) (xr : ez_rg v) (kx : ∀ g, ez_B τ g → ez_fr (ez_one (gel h)) h g → qz_N g (gel h) = qz_N h (gel h) → (∀ j, j ≠ 4 * (qz_I h 770 36).toNat + 0 → qz_I g (gel h) j = qz_I h (gel h) j) → qz_I g (gel h) (4 * (qz_I h 770 36).toNat + 0) = v → ez_W d cm_246 77 [(0, .inr (.inr (some (770)))), (1, .inl (v)), (2, .inl (p)), (3, .inl (s)), (4, .inl (t))] [] g Q) : ez_W d cm_246 65 [(0, .inr (.inr (some (770)))), (1, .inl (v)), (2, .inl (p)), (3, .inl (s)), (4, .inl (t))] [] h Q := by
  obtain ⟨xr1, xr2⟩ := id xr
  refine ez_go (n := 1) (pc' := 66) (L' := [(0, .inr (.inr (some (770)))), (1, .inl (v)), (2, .inl (p)), (3, .inl (s)), (4, .inl (t))]) (st' := [.inr (.inr (some (770)))]) rfl ?_
  refine ez_gR hB t770 rfl rfl tq_75 rfl rfl (fun (t1 : _ = 23) (t1' : 1 ≤ qz_I h 770 35) => ?_)
  rw [show qz_P h 770 35 = gel h from rfl] at *
  refine ez_go (n := 2) (pc' := 71) (L' := [(0, .inr (.inr (some (770)))), (1, .inl (v)), (2, .inl (p)), (3, .inl (s)), (4, .inl (t))]) (st' := [.inr (.inr (some (770))), .inl (4), .inr (.inr (some ((gel h))))]) rfl ?_
  refine ez_gI hB t770 rfl rfl tq_75 rfl rfl (fun (b2 : 0 ≤ qz_I h 770 36) (b2' : qz_I h 770 36 ≤ 36000) => ?_)
  refine ez_go (n := 2) (pc' := 76) (L' := [(0, .inr (.inr (some (770)))), (1, .inl (v)), (2, .inl (p)), (3, .inl (s)), (4, .inl (t))]) (st' := [.inl (v), .inl ((4) * (qz_I h 770 36)), .inr (.inr (some ((gel h))))]) rfl ?_
  have n5 : 1024 ≤ qz_N h ((gel h)) ∧ qz_N h ((gel h)) ≤ 300000 := ez_len hB t1 tq_23 rfl
  refine ez_as hB t1 rfl tq_23 rfl rfl (by omega) (by omega) (ez_vdI rfl rfl (by omega) (by omega)) (fun hB3 w4 => ?_)
  exact kx _ hB3 ((ez_fr.refl (ez_one (gel h)) h).put (Nat.beq_refl _) _ _) (ez_put_N _) (fun j hj => ez_put_I (fun w => hj (by have := w.2; omega))) (by rw [show 4 * (qz_I h 770 36).toNat + 0 = ((4) * (qz_I h 770 36)).toNat by omega]; exact w4.trans (rz_rd ⟨by omega, by omega⟩))

theorem rd_mel_w1 {v p s t : Int} (hB : ez_B τ h) (t770 : τ 770 = 75) (c0 : 0 ≤ qz_I h 770 36) (c1 : qz_I h 770 36 < 36000) (hn : 4 * qz_I h 770 36 + 4 ≤ qz_N h (gel h)) (xr : ez_rg p) (kx : ∀ g, ez_B τ g → ez_fr (ez_one (gel h)) h g → qz_N g (gel h) = qz_N h (gel h) → (∀ j, j ≠ 4 * (qz_I h 770 36).toNat + 1 → qz_I g (gel h) j = qz_I h (gel h) j) → qz_I g (gel h) (4 * (qz_I h 770 36).toNat + 1) = p → ez_W d cm_246 91 [(0, .inr (.inr (some (770)))), (1, .inl (v)), (2, .inl (p)), (3, .inl (s)), (4, .inl (t))] [] g Q) : ez_W d cm_246 77 [(0, .inr (.inr (some (770)))), (1, .inl (v)), (2, .inl (p)), (3, .inl (s)), (4, .inl (t))] [] h Q := by
  obtain ⟨xr1, xr2⟩ := id xr
  refine ez_go (n := 1) (pc' := 78) (L' := [(0, .inr (.inr (some (770)))), (1, .inl (v)), (2, .inl (p)), (3, .inl (s)), (4, .inl (t))]) (st' := [.inr (.inr (some (770)))]) rfl ?_
  refine ez_gR hB t770 rfl rfl tq_75 rfl rfl (fun (t1 : _ = 23) (t1' : 1 ≤ qz_I h 770 35) => ?_)
  rw [show qz_P h 770 35 = gel h from rfl] at *
  refine ez_go (n := 2) (pc' := 83) (L' := [(0, .inr (.inr (some (770)))), (1, .inl (v)), (2, .inl (p)), (3, .inl (s)), (4, .inl (t))]) (st' := [.inr (.inr (some (770))), .inl (4), .inr (.inr (some ((gel h))))]) rfl ?_
  refine ez_gI hB t770 rfl rfl tq_75 rfl rfl (fun (b2 : 0 ≤ qz_I h 770 36) (b2' : qz_I h 770 36 ≤ 36000) => ?_)
  refine ez_go (n := 4) (pc' := 90) (L' := [(0, .inr (.inr (some (770)))), (1, .inl (v)), (2, .inl (p)), (3, .inl (s)), (4, .inl (t))]) (st' := [.inl (p), .inl (((4) * (qz_I h 770 36)) + (1)), .inr (.inr (some ((gel h))))]) rfl ?_
  have n5 : 1024 ≤ qz_N h ((gel h)) ∧ qz_N h ((gel h)) ≤ 300000 := ez_len hB t1 tq_23 rfl
  refine ez_as hB t1 rfl tq_23 rfl rfl (by omega) (by omega) (ez_vdI rfl rfl (by omega) (by omega)) (fun hB3 w4 => ?_)
  exact kx _ hB3 ((ez_fr.refl (ez_one (gel h)) h).put (Nat.beq_refl _) _ _) (ez_put_N _) (fun j hj => ez_put_I (fun w => hj (by have := w.2; omega))) (by rw [show 4 * (qz_I h 770 36).toNat + 1 = (((4) * (qz_I h 770 36)) + (1)).toNat by omega]; exact w4.trans (rz_rd ⟨by omega, by omega⟩))

theorem rd_mel_w2 {v p s t : Int} (hB : ez_B τ h) (t770 : τ 770 = 75) (c0 : 0 ≤ qz_I h 770 36) (c1 : qz_I h 770 36 < 36000) (hn : 4 * qz_I h 770 36 + 4 ≤ qz_N h (gel h)) (xr : ez_rg s) (kx : ∀ g, ez_B τ g → ez_fr (ez_one (gel h)) h g → qz_N g (gel h) = qz_N h (gel h) → (∀ j, j ≠ 4 * (qz_I h 770 36).toNat + 2 → qz_I g (gel h) j = qz_I h (gel h) j) → qz_I g (gel h) (4 * (qz_I h 770 36).toNat + 2) = s → ez_W d cm_246 105 [(0, .inr (.inr (some (770)))), (1, .inl (v)), (2, .inl (p)), (3, .inl (s)), (4, .inl (t))] [] g Q) : ez_W d cm_246 91 [(0, .inr (.inr (some (770)))), (1, .inl (v)), (2, .inl (p)), (3, .inl (s)), (4, .inl (t))] [] h Q := by
  obtain ⟨xr1, xr2⟩ := id xr
  refine ez_go (n := 1) (pc' := 92) (L' := [(0, .inr (.inr (some (770)))), (1, .inl (v)), (2, .inl (p)), (3, .inl (s)), (4, .inl (t))]) (st' := [.inr (.inr (some (770)))]) rfl ?_
  refine ez_gR hB t770 rfl rfl tq_75 rfl rfl (fun (t1 : _ = 23) (t1' : 1 ≤ qz_I h 770 35) => ?_)
  rw [show qz_P h 770 35 = gel h from rfl] at *
  refine ez_go (n := 2) (pc' := 97) (L' := [(0, .inr (.inr (some (770)))), (1, .inl (v)), (2, .inl (p)), (3, .inl (s)), (4, .inl (t))]) (st' := [.inr (.inr (some (770))), .inl (4), .inr (.inr (some ((gel h))))]) rfl ?_
  refine ez_gI hB t770 rfl rfl tq_75 rfl rfl (fun (b2 : 0 ≤ qz_I h 770 36) (b2' : qz_I h 770 36 ≤ 36000) => ?_)
  refine ez_go (n := 4) (pc' := 104) (L' := [(0, .inr (.inr (some (770)))), (1, .inl (v)), (2, .inl (p)), (3, .inl (s)), (4, .inl (t))]) (st' := [.inl (s), .inl (((4) * (qz_I h 770 36)) + (2)), .inr (.inr (some ((gel h))))]) rfl ?_
  have n5 : 1024 ≤ qz_N h ((gel h)) ∧ qz_N h ((gel h)) ≤ 300000 := ez_len hB t1 tq_23 rfl
  refine ez_as hB t1 rfl tq_23 rfl rfl (by omega) (by omega) (ez_vdI rfl rfl (by omega) (by omega)) (fun hB3 w4 => ?_)
  exact kx _ hB3 ((ez_fr.refl (ez_one (gel h)) h).put (Nat.beq_refl _) _ _) (ez_put_N _) (fun j hj => ez_put_I (fun w => hj (by have := w.2; omega))) (by rw [show 4 * (qz_I h 770 36).toNat + 2 = (((4) * (qz_I h 770 36)) + (2)).toNat by omega]; exact w4.trans (rz_rd ⟨by omega, by omega⟩))

theorem rd_mel_w3 {v p s t : Int} (hB : ez_B τ h) (t770 : τ 770 = 75) (c0 : 0 ≤ qz_I h 770 36) (c1 : qz_I h 770 36 < 36000) (hn : 4 * qz_I h 770 36 + 4 ≤ qz_N h (gel h)) (xr : ez_rg t) (kx : ∀ g, ez_B τ g → ez_fr (ez_one (gel h)) h g → qz_N g (gel h) = qz_N h (gel h) → (∀ j, j ≠ 4 * (qz_I h 770 36).toNat + 3 → qz_I g (gel h) j = qz_I h (gel h) j) → qz_I g (gel h) (4 * (qz_I h 770 36).toNat + 3) = t → ez_W d cm_246 120 [(0, .inr (.inr (some (770)))), (1, .inl (v)), (2, .inl (p)), (3, .inl (s)), (4, .inl (t))] [] g Q) : ez_W d cm_246 105 [(0, .inr (.inr (some (770)))), (1, .inl (v)), (2, .inl (p)), (3, .inl (s)), (4, .inl (t))] [] h Q := by
  obtain ⟨xr1, xr2⟩ := id xr
  refine ez_go (n := 1) (pc' := 106) (L' := [(0, .inr (.inr (some (770)))), (1, .inl (v)), (2, .inl (p)), (3, .inl (s)), (4, .inl (t))]) (st' := [.inr (.inr (some (770)))]) rfl ?_
  refine ez_gR hB t770 rfl rfl tq_75 rfl rfl (fun (t1 : _ = 23) (t1' : 1 ≤ qz_I h 770 35) => ?_)
  rw [show qz_P h 770 35 = gel h from rfl] at *
  refine ez_go (n := 2) (pc' := 111) (L' := [(0, .inr (.inr (some (770)))), (1, .inl (v)), (2, .inl (p)), (3, .inl (s)), (4, .inl (t))]) (st' := [.inr (.inr (some (770))), .inl (4), .inr (.inr (some ((gel h))))]) rfl ?_
  refine ez_gI hB t770 rfl rfl tq_75 rfl rfl (fun (b2 : 0 ≤ qz_I h 770 36) (b2' : qz_I h 770 36 ≤ 36000) => ?_)
  refine ez_go (n := 4) (pc' := 119) (L' := [(0, .inr (.inr (some (770)))), (1, .inl (v)), (2, .inl (p)), (3, .inl (s)), (4, .inl (t))]) (st' := [.inl (t), .inl (((4) * (qz_I h 770 36)) + (3)), .inr (.inr (some ((gel h))))]) rfl ?_
  have n5 : 1024 ≤ qz_N h ((gel h)) ∧ qz_N h ((gel h)) ≤ 300000 := ez_len hB t1 tq_23 rfl
  refine ez_as hB t1 rfl tq_23 rfl rfl (by omega) (by omega) (ez_vdI rfl rfl (by omega) (by omega)) (fun hB3 w4 => ?_)
  exact kx _ hB3 ((ez_fr.refl (ez_one (gel h)) h).put (Nat.beq_refl _) _ _) (ez_put_N _) (fun j hj => ez_put_I (fun w => hj (by have := w.2; omega))) (by rw [show 4 * (qz_I h 770 36).toNat + 3 = (((4) * (qz_I h 770 36)) + (3)).toNat by omega]; exact w4.trans (rz_rd ⟨by omega, by omega⟩))

theorem rd_mel_z {v p s t : Int} (hB : ez_B τ h) (t770 : τ 770 = 75) (c0 : 0 ≤ qz_I h 770 36) (c1 : qz_I h 770 36 < 36000) (kx : ∀ g, ez_B τ g → ez_fr (ez_one 770) h g → (∀ j, j ≠ 36 → qz_I g 770 j = qz_I h 770 j) → qz_I g 770 36 = qz_I h 770 36 + 1 → Q (.inl none, g)) : ez_W d cm_246 120 [(0, .inr (.inr (some (770)))), (1, .inl (v)), (2, .inl (p)), (3, .inl (s)), (4, .inl (t))] [] h Q := by
  refine ez_go (n := 2) (pc' := 122) (L' := [(0, .inr (.inr (some (770)))), (1, .inl (v)), (2, .inl (p)), (3, .inl (s)), (4, .inl (t))]) (st' := [.inr (.inr (some (770))), .inr (.inr (some (770)))]) rfl ?_
  refine ez_gI hB t770 rfl rfl tq_75 rfl rfl (fun (b1 : 0 ≤ qz_I h 770 36) (b1' : qz_I h 770 36 ≤ 36000) => ?_)
  refine ez_go (n := 2) (pc' := 127) (L' := [(0, .inr (.inr (some (770)))), (1, .inl (v)), (2, .inl (p)), (3, .inl (s)), (4, .inl (t))]) (st' := [.inl ((qz_I h 770 36) + (1)), .inr (.inr (some (770)))]) rfl ?_
  refine ez_pf hB t770 rfl rfl tq_75 rfl rfl rfl rfl (ez_vdI rfl rfl (by omega) (by omega)) (fun hB2 w3 => ?_)
  exact ez_ret0 rfl rfl (kx _ hB2 ((ez_fr.refl (ez_one 770) h).put rfl _ _) (fun j hj => ez_put_I (fun w => hj w.2)) (w3.trans (rz_rd ⟨by omega, by omega⟩)))

theorem rd_mel_e {v p s t : Int} (hB : ez_B τ h) (t770 : τ 770 = 75) (em : emt h L) (l1 : L.length < 36000) (hn : 4 * (L.length : Int) + 4 ≤ qz_N h (gel h)) (vr : ez_rg v) (pr : ez_rg p) (sr : ez_rg s) (tr : ez_rg t) (kx : ∀ g, ez_B τ g → ez_fr (nz_P2 770 (gel h)) h g → gel g = gel h → qz_N g (gel h) = qz_N h (gel h) → (∀ j, j ≠ 36 → qz_I g 770 j = qz_I h 770 j) → emt g (L ++ [(v, p, s, t)]) → Q (.inl none, g)) : ez_W d cm_246 65 [(0, .inr (.inr (some (770)))), (1, .inl (v)), (2, .inl (p)), (3, .inl (s)), (4, .inl (t))] [] h Q := by
  have tE := ez_tel hB t770
  have nE : gel h ≠ 770 := fun e => by rw [e, t770] at tE; cases tE
  obtain ⟨⟨c, cn⟩, cv⟩ := id em
  have st : ∀ {g : cz_H}, ez_fr (ez_one (gel h)) h g → (∀ j, qz_I g 770 j = qz_I h 770 j) ∧ gel g = gel h := fun {g} f => by
    have e : ∀ j, qz_I g 770 j = qz_I h 770 j := fun j => f.I (dz_beq_ne nE.symm) j
    exact ⟨e, by unfold gel qz_P; rw [e]⟩
  have ln : ∀ {g : cz_H}, ez_B τ g → gel g = gel h → qz_N g (gel h) = qz_N h (gel h) → 4 * qz_I h 770 36 + 4 ≤ qz_N g (gel g) := fun {g} _ e n => by rw [e, n, c]; exact hn
  refine rd_mel_w0 hB t770 (by omega) (by omega) (by omega) vr (fun g1 B1 f1 d1 o1 w1 => ?_)
  obtain ⟨a1, b1⟩ := st f1
  refine rd_mel_w1 B1 t770 (by rw [a1]; omega) (by rw [a1]; omega) (by rw [a1]; exact ln B1 b1 d1) pr (fun g2 B2 f2 d2 o2 w2 => ?_)
  rw [b1] at f2 d2 o2 w2
  have d2 := d2.trans d1
  have f12 := f1.trans f2
  obtain ⟨a2, b2⟩ := st f12
  refine rd_mel_w2 B2 t770 (by rw [a2]; omega) (by rw [a2]; omega) (by rw [a2]; exact ln B2 b2 d2) sr (fun g3 B3 f3 d3 o3 w3 => ?_)
  rw [b2] at f3 d3 o3 w3
  have d3 := d3.trans d2
  have f13 := f12.trans f3
  obtain ⟨a3, b3⟩ := st f13
  refine rd_mel_w3 B3 t770 (by rw [a3]; omega) (by rw [a3]; omega) (by rw [a3]; exact ln B3 b3 d3) tr (fun g4 B4 f4 d4 o4 w4 => ?_)
  rw [b3] at f4 d4 o4 w4
  have d4 := d4.trans d3
  have f14 := f13.trans f4
  obtain ⟨a4, b4⟩ := st f14
  refine rd_mel_z B4 t770 (by rw [a4]; omega) (by rw [a4]; omega) (fun g5 B5 f5 o5 w5 => ?_)
  have e5 : gel g5 = gel h := by rw [← b4]; unfold gel qz_P; rw [o5 35 (by decide)]
  have i5 : ∀ j, qz_I g5 (gel h) j = qz_I g4 (gel h) j := fun j => f5.I (dz_beq_ne nE) j
  rw [a1, c, Int.toNat_natCast] at o2 w2
  rw [a2, c, Int.toNat_natCast] at o3 w3
  rw [a3, c, Int.toNat_natCast] at o4 w4
  rw [c, Int.toNat_natCast] at o1 w1
  have old : ∀ j, j < 4 * L.length → qz_I g5 (gel h) j = qz_I h (gel h) j := fun j hj => by rw [i5, o4 j (by omega), o3 j (by omega), o2 j (by omega), o1 j (by omega)]
  refine kx g5 B5 ((ez_fr_mono f14 (fun z hz => by unfold ez_one at hz; unfold nz_P2; rw [hz]; exact Bool.or_true _)).trans (ez_fr_mono f5 (fun z hz => by unfold ez_one at hz; unfold nz_P2; rw [hz]; rfl))) e5 ((f5.N (dz_beq_ne nE)).trans d4) (fun j hj => (o5 j hj).trans (a4 j)) ⟨⟨by rw [w5, a4, c, List.length_append]; rfl, by rw [e5, List.length_append, show qz_N g5 (gel h) = qz_N h (gel h) from (f5.N (dz_beq_ne nE)).trans d4]; show 4 * ((L.length + 1 : Nat) : Int) ≤ _; omega⟩, fun j e hj => ?_⟩
  rw [e5]
  by_cases q : j < L.length
  · rw [List.getElem?_append_left q] at hj
    rw [old _ (by omega), old _ (by omega), old _ (by omega), old _ (by omega)]; exact cv j e hj
  · rw [List.getElem?_append_right (by omega)] at hj
    have e0 : j - L.length = 0 := by
      by_cases q2 : j - L.length = 0
      · exact q2
      · rw [List.getElem?_eq_none (by rw [List.length_singleton]; omega)] at hj; cases hj
    rw [e0] at hj
    cases hj
    rw [show j = L.length by omega]
    refine ⟨?_, ?_, ?_, ?_⟩
    · rw [i5, o4 _ (by omega), o3 _ (by omega), o2 _ (by omega)]; exact w1
    · rw [i5, o4 _ (by omega), o3 _ (by omega)]; exact w2
    · rw [i5, o4 _ (by omega)]; exact w3
    · rw [i5]; exact w4
theorem rd_mel {v p s t : Int} (hB : ez_B τ h) (t770 : τ 770 = 75) (em : emt h L) (l1 : L.length < 36000) (vr : ez_rg v) (pr : ez_rg p) (sr : ez_rg s) (tr : ez_rg t) (hr1 : h.1 + 1 ≤ 600192) (hr2 : h.2.1 + 300000 ≤ 7302232) (kx : ∀ g τ1, ez_B τ1 g → ne4 τ h τ1 g → emt g (L ++ [(v, p, s, t)]) → Q (.inl none, g)) : ez_W d cm_246 0 [(0, .inr (.inr (some (770)))), (1, .inl (v)), (2, .inl (p)), (3, .inl (s)), (4, .inl (t))] [] h Q := by
  have tpo := ez_tel hB t770
  have lpo : 1024 ≤ qz_N h (gel h) ∧ qz_N h (gel h) ≤ 300000 := ez_len hB tpo tq_23 rfl
  obtain ⟨⟨c, cn⟩, cv⟩ := id em
  refine ez_go (n := 2) (pc' := 2) (L' := [(0, .inr (.inr (some (770)))), (1, .inl (v)), (2, .inl (p)), (3, .inl (s)), (4, .inl (t))]) (st' := [.inr (.inr (some (770))), .inl (4)]) rfl ?_
  refine ez_gI hB t770 rfl rfl tq_75 rfl rfl (fun (b1 : 0 ≤ qz_I h 770 36) (b1' : qz_I h 770 36 ≤ 36000) => ?_)
  refine ez_go (n := 4) (pc' := 9) (L' := [(0, .inr (.inr (some (770)))), (1, .inl (v)), (2, .inl (p)), (3, .inl (s)), (4, .inl (t))]) (st' := [.inr (.inr (some (770))), .inl (((4) * (qz_I h 770 36)) + (4))]) rfl ?_
  refine ez_gR hB t770 rfl rfl tq_75 rfl rfl (fun (t2 : _ = 23) (t2' : 1 ≤ qz_I h 770 35) => ?_)
  rw [show qz_P h 770 35 = gel h from rfl] at *
  refine ez_al hB t2 rfl tq_23 rfl (fun (b3 : 1024 ≤ qz_N h ((gel h))) (b3' : qz_N h ((gel h)) ≤ 300000) => ?_)
  refine ez_icmp rfl rfl ⟨by first | omega | exact (sz_i32 _).1, by first | omega | exact (sz_i32 _).2⟩ ⟨by first | omega | exact (sz_i32 _).1, by first | omega | exact (sz_i32 _).2⟩ (fun (c4 : (((4) * (qz_I h 770 36)) + (4)) ≤ (qz_N h ((gel h)))) => ?_) (fun (c4 : ¬((((4) * (qz_I h 770 36)) + (4)) ≤ (qz_N h ((gel h))))) => ?_)
  · skip
    refine ez_less [(0, .inr (.inr (some (770)))), (1, .inl (v)), (2, .inl (p)), (3, .inl (s)), (4, .inl (t))] rfl ⟨rfl, rfl, rfl, rfl, rfl, trivial⟩ ?_
    refine rd_mel_e hB t770 em l1 (by omega) vr pr sr tr (fun g hBg f ge nn hj em2 => kx g τ hBg ⟨fun q hq => ⟨rfl, fun q1 q2 => f.2.2 q (nz_P2_f q1 q2)⟩, fun q h1 h2 => absurd h1 h2, by rw [ge]; exact tpo, fun j _ j2 => hj j j2, by rw [ge, nn]; exact Int.le_refl _, ⟨by rw [ge, nn, f.2.1]; omega, by rw [ge, nn, f.1]; omega⟩, by rw [f.1]; exact Nat.le_refl _, by rw [f.2.1]; exact Nat.le_refl _⟩ em2)
  · skip
    refine ez_go (n := 2) (pc' := 18) (L' := [(0, .inr (.inr (some (770)))), (1, .inl (v)), (2, .inl (p)), (3, .inl (s)), (4, .inl (t))]) (st' := [.inr (.inr (some (770))), .inl (2)]) rfl ?_
    refine ez_gR hB t770 rfl rfl tq_75 rfl rfl (fun (t5 : _ = 23) (t5' : 1 ≤ qz_I h 770 35) => ?_)
    rw [show qz_P h 770 35 = gel h from rfl] at *
    refine ez_al hB t5 rfl tq_23 rfl (fun (b6 : 1024 ≤ qz_N h ((gel h))) (b6' : qz_N h ((gel h)) ≤ 300000) => ?_)
    refine ez_go (n := 1) (pc' := 23) (L' := [(0, .inr (.inr (some (770)))), (1, .inl (v)), (2, .inl (p)), (3, .inl (s)), (4, .inl (t))]) (st' := [.inl ((2) * (qz_N h ((gel h))))]) rfl ?_
    refine ez_nA' (t := 23) hB rfl rfl rfl tq_23 rfl rfl (by omega) (by show (1024 : Int) ≤ _; omega) (by show _ ≤ (300000 : Int); omega) (by omega) (by omega) (by omega) (fun g7 τ7 p7 hB7 x7 o7 t7 z7 e7 N7 y7 => ?_)
    have c7 := x7.2
    have t770n7 := (x7.1 _ (by rw [t770]; decide)).1.trans t770
    have t5n7 := (x7.1 _ (by rw [t5]; decide)).1.trans t5
    have t5n7 := (x7.1 _ (by rw [t5]; decide)).1.trans t5
    have hq770 : 770 ≠ p7 := fun e => by rw [← e, t770] at z7; cases z7
    have hqpo : gel h ≠ p7 := fun e => by rw [← e, tpo] at z7; cases z7
    have f9 : ∀ j, qz_I g7 770 j = qz_I h 770 j := fun j => x7.I (by rw [t770]; decide) j
    have epo : gel g7 = gel h := by unfold gel qz_P; rw [f9]
    have epl : ∀ j, qz_I g7 (gel h) j = qz_I h (gel h) j := fun j => x7.I (by rw [tpo]; decide) _
    have eN9 : qz_N g7 (gel h) = qz_N h (gel h) := x7.N (by rw [tpo]; decide)
    refine ez_go (n := 3) (pc' := 30) (L' := [(6, .inl (0)), (5, .inr (.inr (some (p7)))), (0, .inr (.inr (some (770)))), (1, .inl (v)), (2, .inl (p)), (3, .inl (s)), (4, .inl (t))]) (st' := []) rfl ?_
    refine ez_less [(6, .inl (0)), (5, .inr (.inr (some (p7)))), (0, .inr (.inr (some (770)))), (1, .inl (v)), (2, .inl (p)), (3, .inl (s)), (4, .inl (t))] rfl ⟨rfl, rfl, rfl, rfl, rfl, rfl, rfl, trivial⟩ ?_
    refine rd_mel_l (h := g7) t770n7 t7 (by rw [epo]; exact (x7.1 _ (by rw [tpo]; decide)).1.trans tpo) hq770 (by rw [epo]; exact hqpo) (by rw [f9]; omega) (by rw [f9]; omega) (by rw [f9, N7]; omega) (by rw [f9, epo, eN9]; omega) (fun g2 hB2 f2 n2 c2 => ?_) _ 0 g7 rfl (by omega) (by rw [f9]; omega) hB7 (ez_fr.refl _ _) rfl (fun j j1 => by omega)
    refine ez_go (n := 2) (pc' := 62) (L' := [(5, .inr (.inr (some (p7)))), (0, .inr (.inr (some (770)))), (1, .inl (v)), (2, .inl (p)), (3, .inl (s)), (4, .inl (t))]) (st' := [.inr (.inr (some (p7))), .inr (.inr (some (770)))]) rfl ?_
    refine ez_pf hB2 t770n7 rfl rfl tq_75 rfl rfl rfl rfl (ez_vdR rfl t7 (by omega) (by omega)) (fun hB8 w9 => ?_)
    refine ez_less [(0, .inr (.inr (some (770)))), (1, .inl (v)), (2, .inl (p)), (3, .inl (s)), (4, .inl (t))] rfl ⟨rfl, rfl, rfl, rfl, rfl, trivial⟩ ?_
    have hE3 : gel (dz_put g2 770 35 (ez_v (.inr (.inr (some (p7)))))) = p7 := by unfold gel qz_P; rw [w9]; show ((p7 : Int) + 1 - 1).toNat = p7; omega
    have h3j : ∀ j, j ≠ 35 → qz_I (dz_put g2 770 35 (ez_v (.inr (.inr (some (p7)))))) 770 j = qz_I h 770 j := fun j hj => by rw [ez_put_I (fun w => hj w.2), f2.I (dz_beq_ne hq770)]; exact f9 j
    have hN3 : qz_N (dz_put g2 770 35 (ez_v (.inr (.inr (some (p7)))))) p7 = 2 * qz_N h (gel h) := by rw [ez_put_N, n2, N7]
    have hI3 : ∀ j : Nat, (j : Int) < 4 * (L.length : Int) → qz_I (dz_put g2 770 35 (ez_v (.inr (.inr (some (p7)))))) p7 j = qz_I h (gel h) j := fun j hj => by rw [ez_put_I (fun w => hq770 w.1.symm), c2 j (by rw [f9, c]; exact hj), epo]; exact epl j
    have fr3 : ∀ q, q ≠ 770 → q ≠ p7 → ((dz_put g2 770 35 (ez_v (.inr (.inr (some (p7))))))).2.2 q = g7.2.2 q := fun q h1 h2 => by rw [qz_put_at _ _ _ _ h1, f2.2.2 q (dz_beq_ne h2)]
    have c31 : ((dz_put g2 770 35 (ez_v (.inr (.inr (some (p7))))))).1 = g7.1 := f2.1
    have c32 : ((dz_put g2 770 35 (ez_v (.inr (.inr (some (p7))))))).2.1 = g7.2.1 := f2.2.1
    have hB3 := hB8
    generalize (dz_put g2 770 35 (ez_v (.inr (.inr (some (p7)))))) = g3 at *
    have em3 : emt g3 L := ⟨⟨(h3j 36 (by decide)).trans c, by rw [hE3, hN3]; omega⟩, fun j e hj => by have jl := (List.getElem?_eq_some_iff.mp hj).1; rw [hE3, hI3 _ (by omega), hI3 _ (by omega), hI3 _ (by omega), hI3 _ (by omega)]; exact cv j e hj⟩
    have cx := x7.2
    refine rd_mel_e hB3 t770n7 em3 l1 (by rw [hE3, hN3]; omega) vr pr sr tr (fun g4 hB4 f4 ge4 nn4 hj4 em4 => ?_)
    rw [hE3] at f4 ge4 nn4
    refine kx g4 τ7 hB4 ⟨fun q hq => ⟨(x7.1 q hq).1, fun q1 q2 => ?_⟩, fun q h1 h2 => ?_, by rw [ge4]; exact t7, fun j j1 j2 => (hj4 j j2).trans (h3j j j1), by rw [ge4, nn4, hN3]; omega, ⟨by rw [ge4, nn4, hN3, f4.2.1, c32]; omega, by rw [ge4, nn4, hN3, f4.1, c31]; omega⟩, by rw [f4.1, c31]; omega, by rw [f4.2.1, c32]; omega⟩ em4
    · have hqp : q ≠ p7 := fun e => by rw [e, z7] at hq; exact hq rfl
      rw [f4.2.2 q (nz_P2_f q1 hqp), fr3 q q1 hqp, (x7.1 q hq).2]
    · by_cases e : q = p7
      · rw [e]; exact t7
      · rw [o7 q e] at h2; exact absurd h1 h2

end EzMe

/-! COLLATION: the model: drop. (Written by wip/p2/py/pvk10.py.) -/
section EzMd
variable {d : Nat} {h : cz_H} {τ : Nat → Nat} {Q : cz_F → Prop} {A B C : List Int}
theorem rd_mdr_l {f n : Int} (hX : jz_X τ) (a : tm h (A ++ B ++ C)) (pl : ptl (A ++ B ++ C)) (ln : (A ++ B ++ C).length ≤ 2000) (hf9 : f = (A.length : Int)) (hn9 : n = (B.length : Int)) (hA0 : True) (kx : ∀ g, ez_B τ g → ez_fr (nz_PL 796) h g → (∀ j, j ≠ 30 → qz_I g 770 j = qz_I h 770 j) → tm g (A ++ C) → Q (.inl none, g)) : ∀ (m : Nat) (k : Int) (g : cz_H), m = (((A ++ C).length : Int) - k).toNat → f ≤ k → k ≤ ((A ++ C).length : Int) → ez_B τ g → ez_fr (nz_PL 796) h g → (∀ j, j ≠ 30 → qz_I g 770 j = qz_I h 770 j) → qz_I g 770 30 = ((A ++ C).length : Int) → (∀ j : Nat, k ≤ (j : Int) → qz_I g 796 j = qz_I h 796 j) → (∀ (j : Nat) v, ((j + A.length : Nat) : Int) < k → C[j]? = some v → qz_I g 796 (j + A.length) = v) → (∀ j : Nat, j < A.length → qz_I g 796 j = qz_I h 796 j) → ez_W d cm_243 12 [(3, .inl (k)), (0, .inr (.inr (some (770)))), (1, .inl (f)), (2, .inl (n))] [] g Q := by
  have t770 : τ 770 = 75 := hX 770 (by decide)
  have lb : (A ++ B ++ C).length = A.length + B.length + C.length := by rw [List.length_append, List.length_append]
  intro m
  induction m with
  | zero =>
    intro k g hm k0 k1 hBg hf hi hz hs hd9 hA
    have la : (A ++ C).length = A.length + C.length := List.length_append
    have h0 : ∀ j, j < A.length → qz_I g 796 j = qz_I h 796 j := fun j hj => hA j hj
    refine ez_go (n := 2) (pc' := 14) (L' := [(3, .inl (k)), (0, .inr (.inr (some (770)))), (1, .inl (f)), (2, .inl (n))]) (st' := [.inr (.inr (some (770))), .inl (k)]) rfl ?_
    refine ez_gI hBg t770 rfl rfl tq_75 rfl rfl (fun (b1 : 0 ≤ qz_I g 770 30) (b1' : qz_I g 770 30 ≤ 2000) => ?_)
    rw [hz]
    refine ez_icmp rfl rfl ⟨by first | omega | exact (sz_i32 _).1, by first | omega | exact (sz_i32 _).2⟩ ⟨by first | omega | exact (sz_i32 _).1, by first | omega | exact (sz_i32 _).2⟩ (fun (c2 : (((A ++ C).length : Int)) ≤ (k)) => ?_) (fun (c2 : ¬((((A ++ C).length : Int)) ≤ (k))) => ?_)
    · skip
      refine ez_ret0 rfl rfl (kx g hBg hf hi ⟨hz, fun j v hv => ?_⟩)
      by_cases e : j < A.length
      · rw [List.getElem?_append_left e] at hv
        rw [h0 j e]; exact a.2 j v (by rw [List.append_assoc, List.getElem?_append_left e]; exact hv)
      · rw [List.getElem?_append_right (by omega)] at hv
        have jl := (List.getElem?_eq_some_iff.mp hv).1
        have := hd9 (j - A.length) v (by rw [List.length_append] at *; omega) hv
        rw [show j - A.length + A.length = j by omega] at this; exact this
    · exfalso; omega
  | succ m ih =>
    intro k g hm k0 k1 hBg hf hi hz hs hd9 hA
    have la : (A ++ C).length = A.length + C.length := List.length_append
    have h0 : ∀ j, j < A.length → qz_I g 796 j = qz_I h 796 j := fun j hj => hA j hj
    refine ez_go (n := 2) (pc' := 14) (L' := [(3, .inl (k)), (0, .inr (.inr (some (770)))), (1, .inl (f)), (2, .inl (n))]) (st' := [.inr (.inr (some (770))), .inl (k)]) rfl ?_
    refine ez_gI hBg t770 rfl rfl tq_75 rfl rfl (fun (b1 : 0 ≤ qz_I g 770 30) (b1' : qz_I g 770 30 ≤ 2000) => ?_)
    rw [hz]
    refine ez_icmp rfl rfl ⟨by first | omega | exact (sz_i32 _).1, by first | omega | exact (sz_i32 _).2⟩ ⟨by first | omega | exact (sz_i32 _).1, by first | omega | exact (sz_i32 _).2⟩ (fun (c2 : (((A ++ C).length : Int)) ≤ (k)) => ?_) (fun (c2 : ¬((((A ++ C).length : Int)) ≤ (k))) => ?_)
    · skip
      refine ez_ret0 rfl rfl (kx g hBg hf hi ⟨hz, fun j v hv => ?_⟩)
      by_cases e : j < A.length
      · rw [List.getElem?_append_left e] at hv
        rw [h0 j e]; exact a.2 j v (by rw [List.append_assoc, List.getElem?_append_left e]; exact hv)
      · rw [List.getElem?_append_right (by omega)] at hv
        have jl := (List.getElem?_eq_some_iff.mp hv).1
        have := hd9 (j - A.length) v (by rw [List.length_append] at *; omega) hv
        rw [show j - A.length + A.length = j by omega] at this; exact this
    · skip
      refine ez_go (n := 1) (pc' := 21) (L' := [(3, .inl (k)), (0, .inr (.inr (some (770)))), (1, .inl (f)), (2, .inl (n))]) (st' := [.inr (.inr (some (770)))]) rfl ?_
      refine ez_gC (p := 796) (tg := 83) hBg t770 rfl rfl tq_75 rfl rfl (fun (t796 : _ = 83) => ?_)
      refine ez_go (n := 2) (pc' := 26) (L' := [(3, .inl (k)), (0, .inr (.inr (some (770)))), (1, .inl (f)), (2, .inl (n))]) (st' := [.inr (.inr (some (770))), .inl (k), .inr (.inr (some (796)))]) rfl ?_
      refine ez_gC (p := 796) (tg := 83) hBg t770 rfl rfl tq_75 rfl rfl (fun (t796 : _ = 83) => ?_)
      refine ez_go (n := 3) (pc' := 32) (L' := [(3, .inl (k)), (0, .inr (.inr (some (770)))), (1, .inl (f)), (2, .inl (n))]) (st' := [.inl ((k) + (n)), .inr (.inr (some (796))), .inl (k), .inr (.inr (some (796)))]) rfl ?_
      have n4 : 2000 ≤ qz_N g 796 ∧ qz_N g 796 ≤ 2000 := ez_len hBg t796 tq_83 rfl
      refine ez_aI hBg t796 rfl tq_83 rfl rfl (by omega) (by omega) (fun (b3 : -2147483648 ≤ qz_I g 796 ((k) + (n)).toNat) (b3' : qz_I g 796 ((k) + (n)).toNat ≤ 2147483647) => ?_)
      have l9 : (k).toNat - A.length < C.length := by omega
      have hc9 := List.getElem?_eq_getElem l9
      have hl9 : (A ++ B ++ C)[(k + n).toNat]? = some C[(k).toNat - A.length] := by rw [List.getElem?_append_right (by rw [List.length_append]; omega), List.length_append, show (k + n).toNat - (A.length + B.length) = (k).toNat - A.length by omega]; exact hc9
      have pc9 := pl _ (List.mem_of_getElem? hl9)
      have ev : qz_I g 796 ((k) + (n)).toNat = C[(k).toNat - A.length] := (hs _ (by omega)).trans (a.2 _ _ hl9)
      rw [ev]
      have n7 : 2000 ≤ qz_N g 796 ∧ qz_N g 796 ≤ 2000 := ez_len hBg t796 tq_83 rfl
      refine ez_as hBg t796 rfl tq_83 rfl rfl (by omega) (by omega) (ez_vdI rfl rfl (by omega) (by omega)) (fun hB5 w6 => ?_)
      refine ez_go (n := 2) (pc' := 12) (L' := [(3, .inl (k + 1)), (0, .inr (.inr (some (770)))), (1, .inl (f)), (2, .inl (n))]) (st' := []) rfl ?_
      refine ez_less [(3, .inl (k + 1)), (0, .inr (.inr (some (770)))), (1, .inl (f)), (2, .inl (n))] rfl ⟨rfl, rfl, rfl, rfl, trivial⟩ ?_
      refine ih (k + 1) _ (by omega) (by omega) (by omega) hB5 (hf.put (by unfold nz_PL; rfl) _ _) (fun j hj => (ez_put_I (fun w => absurd w.1 (by decide))).trans (hi j hj)) ((ez_put_I (fun w => absurd w.1 (by decide))).trans hz) (fun j hj => (ez_put_I (fun w => by omega)).trans (hs j (by omega))) (fun j v hj hv => ?_) (fun j hj => (ez_put_I (fun w => by omega)).trans (hA j hj))
      by_cases e : j + A.length = (k).toNat
      · rw [e, w6]; rw [show j = (k).toNat - A.length by omega, hc9] at hv; cases hv; exact rz_rd ⟨by omega, by omega⟩
      · rw [ez_put_I (fun w => e w.2)]; exact hd9 j v (by omega) hv

theorem rd_mdrop (hB : ez_B τ h) {f n : Int} (hX : jz_X τ) (a : tm h (A ++ B ++ C)) (pl : ptl (A ++ B ++ C)) (ln : (A ++ B ++ C).length ≤ 2000) (hf9 : f = (A.length : Int)) (hn9 : n = (B.length : Int)) (kx : ∀ g, ez_B τ g → ez_fr (nz_PL 796) h g → (∀ j, j ≠ 30 → qz_I g 770 j = qz_I h 770 j) → tm g (A ++ C) → Q (.inl none, g)) : ez_W d cm_243 0 [(0, .inr (.inr (some (770)))), (1, .inl (f)), (2, .inl (n))] [] h Q := by
  have t770 : τ 770 = 75 := hX 770 (by decide)
  have lb : (A ++ B ++ C).length = A.length + B.length + C.length := by rw [List.length_append, List.length_append]
  refine ez_go (n := 2) (pc' := 2) (L' := [(0, .inr (.inr (some (770)))), (1, .inl (f)), (2, .inl (n))]) (st' := [.inr (.inr (some (770))), .inr (.inr (some (770)))]) rfl ?_
  refine ez_gI hB t770 rfl rfl tq_75 rfl rfl (fun (b1 : 0 ≤ qz_I h 770 30) (b1' : qz_I h 770 30 ≤ 2000) => ?_)
  rw [a.1]
  refine ez_go (n := 2) (pc' := 7) (L' := [(0, .inr (.inr (some (770)))), (1, .inl (f)), (2, .inl (n))]) (st' := [.inl ((((A ++ B ++ C).length : Int)) - (n)), .inr (.inr (some (770)))]) rfl ?_
  refine ez_pf hB t770 rfl rfl tq_75 rfl rfl rfl rfl (ez_vdI rfl rfl (by omega) (by omega)) (fun hB2 w3 => ?_)
  have z30 : qz_I (dz_put h 770 30 (ez_v (.inl ((((A ++ B ++ C).length : Int)) - (n))))) 770 30 = ((A ++ C).length : Int) := w3.trans ((rz_rd ⟨by omega, by omega⟩).trans (by rw [List.length_append (as := A) (bs := C)]; omega))
  have i30 : ∀ j, j ≠ 30 → qz_I (dz_put h 770 30 (ez_v (.inl ((((A ++ B ++ C).length : Int)) - (n))))) 770 j = qz_I h 770 j := fun j hj => ez_put_I (fun w => hj w.2)
  have f30 : ez_fr (nz_PL 796) h (dz_put h 770 30 (ez_v (.inl ((((A ++ B ++ C).length : Int)) - (n))))) := (ez_fr.refl (nz_PL 796) h).put (by unfold nz_PL; rfl) _ _
  have e96 : ∀ j, qz_I (dz_put h 770 30 (ez_v (.inl ((((A ++ B ++ C).length : Int)) - (n))))) 796 j = qz_I h 796 j := fun j => ez_put_I (fun w => absurd w.1 (by decide))
  have hB1 := hB2
  generalize (dz_put h 770 30 (ez_v (.inl ((((A ++ B ++ C).length : Int)) - (n))))) = g1 at *
  refine ez_go (n := 2) (pc' := 12) (L' := [(3, .inl (f)), (0, .inr (.inr (some (770)))), (1, .inl (f)), (2, .inl (n))]) (st' := []) rfl ?_
  refine ez_less [(3, .inl (f)), (0, .inr (.inr (some (770)))), (1, .inl (f)), (2, .inl (n))] rfl ⟨rfl, rfl, rfl, rfl, trivial⟩ ?_
  exact rd_mdr_l hX a pl ln hf9 hn9 trivial kx _ f g1 rfl (by omega) (by rw [List.length_append]; omega) hB1 f30 i30 z30 (fun j _ => e96 j) (fun j v hj => by omega) (fun j _ => e96 j)

end EzMd

/-! COLLATION: what the model's LINES tell. -/
abbrev cEo : Type := Option (List Int × List eL)
def lk1 (f : List Int → Option (List eL)) (c : cEo) : List Int → Option (List eL) := fun row => match c with
  | none => f row
  | some a => if row = a.1 then some a.2 else f row
/-- the last one told of a row counts -/
def cLK (Cs : List cEo) : List Int → Option (List eL) := Cs.foldl lk1 (fun _ => none)
theorem cLK_nil (row : List Int) : cLK [] row = none := rfl
theorem cLK_app (Cs : List cEo) (c : cEo) : cLK (Cs ++ [c]) = lk1 (cLK Cs) c := by unfold cLK; rw [List.foldl_append]; rfl
theorem lk1_y {f : List Int → Option (List eL)} {row : List Int} {e : List eL} : lk1 f (some (row, e)) row = some e := if_pos rfl
theorem lk1_n {f : List Int → Option (List eL)} {c : cEo} {row : List Int} (h : ∀ e, c ≠ some (row, e)) : lk1 f c row = f row := by
  cases c with
  | none => rfl
  | some a =>
    show (if row = a.1 then some a.2 else f row) = f row
    refine if_neg (fun w => h a.2 ?_)
    rw [w]
theorem cLK_st {Cs : List cEo} {k : Nat} {c : cEo} {row : List Int} (hk : Cs[k]? = some c) : cLK (Cs.take (k + 1)) row = lk1 (cLK (Cs.take k)) c row := by rw [List.take_succ, hk, Option.toList_some, cLK_app]
theorem tk1m {r s : List Int} {j : Nat} {x y : Int} (hx : r[j]? = some x) (hy : s[j]? = some y) : r.take (j + 1) = s.take (j + 1) ↔ (r.take j = s.take j ∧ x = y) := by
  rw [List.take_succ, List.take_succ, hx, hy, Option.toList_some, Option.toList_some]
  refine ⟨fun w => ?_, fun w => by rw [w.1, w.2]⟩
  obtain ⟨w1, w2⟩ := List.append_inj' w rfl
  exact ⟨w1, (List.cons.inj w2).1⟩
/-- a LINE of kind 4 in the model's cells -/
def mCl (h : cz_H) (z : Nat) (c : cEo) : Prop := (c = none → qz_I h z 0 ≠ 4) ∧ ∀ a, c = some a → qz_I h z 0 = 4 ∧ mrw h (z + 1) (z + 2) 0 a.1 ∧ rowk a.1 ∧ (qz_I h (z + 2) 1 = (a.2.length : Int) ∧ 0 ≤ qz_I h (z + 1) 1 ∧ qz_I h (z + 1) 1 + 4 * (a.2.length : Int) ≤ pn h) ∧ (∀ (j : Nat) e, a.2[j]? = some e → pl h (qz_I h (z + 1) 1 + 4 * (j : Int)) = e.1 ∧ pl h (qz_I h (z + 1) 1 + 4 * (j : Int) + 1) = e.2.1 ∧ pl h (qz_I h (z + 1) 1 + 4 * (j : Int) + 2) = e.2.2.1 ∧ pl h (qz_I h (z + 1) 1 + 4 * (j : Int) + 3) = e.2.2.2) ∧ (∀ e ∈ a.2, eok e) ∧ 1 ≤ a.2.length ∧ a.2.length ≤ 18
def mC (h : cz_H) (Cs : List cEo) : Prop := (Cs.length : Int) = lc h ∧ ∀ (k : Nat) c, Cs[k]? = some c → mCl h (qz_P h (ls h) k) c
theorem mC.at {h : cz_H} {Cs : List cEo} (m : mC h Cs) {k : Int} (k0 : 0 ≤ k) (k1 : k < lc h) : ∃ c, Cs[k.toNat]? = some c ∧ mCl h (qz_P h (ls h) k.toNat) c := by
  have hl : k.toNat < Cs.length := by have := m.1; omega
  exact ⟨_, List.getElem?_eq_getElem hl, m.2 _ _ (List.getElem?_eq_getElem hl)⟩
theorem mCl.tr {h g : cz_H} {z : Nat} {c : cEo} (m : mCl h z c) (ez : qz_I g z 0 = qz_I h z 0) (es : ∀ k, qz_I g (z + 1) k = qz_I h (z + 1) k) (ec : ∀ k, qz_I g (z + 2) k = qz_I h (z + 2) k) (hn : pn h ≤ pn g) (hp : ∀ j, 0 ≤ j → j < pn h → pl g j = pl h j) : mCl g z c := by
  refine ⟨fun e => by rw [ez]; exact m.1 e, fun a ha => ?_⟩
  obtain ⟨m1, m2, m3, ⟨m4, m5, m6⟩, m7, m8⟩ := m.2 a ha
  refine ⟨by rw [ez]; exact m1, m2.tr (es 0) (ec 0) hn hp, m3, ⟨by rw [ec]; exact m4, by rw [es]; exact m5, by rw [es]; omega⟩, fun j e hj => ?_, m8⟩
  have hl := (List.getElem?_eq_some_iff.mp hj).1
  rw [es, hp _ (by omega) (by omega), hp _ (by omega) (by omega), hp _ (by omega) (by omega), hp _ (by omega) (by omega)]
  exact m7 j e hj
/-- the row that is sought -/
def str (h : cz_H) (row : List Int) : Prop := ∀ (j : Nat) v, row[j]? = some v → qz_I h 801 j = v

/-! COLLATION: the model: has(p, 5), lineFor, implicit. (Written by wip/p2/py/pvk11.py.) -/
theorem trt_s5 {group name : Int} (n0 : 0 ≤ name) (n1 : group = 2 → name < 6) (v : Int) : trt (sz_set group name 2 v) 32 ↔ (trt v 32 ∨ (group = 2 ∧ name = 5)) := trt_set 5 (by decide) (by decide) (by decide) n0 n1 v
theorem ydq5 {p : Int} : ∀ (Es : List vy) (D : Int → xD), (∀ v ∈ Es, v.1.1 = 3 → 0 ≤ v.2.2.1.2 ∧ (v.2.2.1.1 = 2 → v.2.2.1.2 < 6)) → (trt (Es.foldl xd D p).2.1.1 32 ↔ (trt (D p).2.1.1 32 ∨ ∃ v ∈ Es, ycq v 5 p))
  | [], D, _ => ⟨Or.inl, fun w => w.elim id (fun ⟨v, hv, _⟩ => by cases hv)⟩
  | e :: t, D, hr => by
    show trt (t.foldl xd (xd D e) p).2.1.1 32 ↔ _
    rw [ydq5 t (xd D e) (fun v hv => hr v (List.mem_cons_of_mem _ hv))]
    have st : trt (xd D e p).2.1.1 32 ↔ (trt (D p).2.1.1 32 ∨ ycq e 5 p) := by
      refine xd_cs (P := fun X => trt X.2.1.1 32 ↔ (trt (D p).2.1.1 32 ∨ ycq e 5 p)) D e p (fun a => ?_) (fun a _ => ?_) (fun a _ => ?_) (fun a _ => ?_) (fun a c => ?_) (fun _ _ _ a => ?_)
      · exact ⟨Or.inl, fun w => w.elim id (fun w => absurd w.2 a)⟩
      · exact ⟨Or.inl, fun w => w.elim id (fun w => by have := w.1.1; omega)⟩
      · exact ⟨Or.inl, fun w => w.elim id (fun w => by have := w.1.1; omega)⟩
      · exact ⟨Or.inl, fun w => w.elim id (fun w => by have := w.1.1; omega)⟩
      · have r := hr e List.mem_cons_self a
        rw [trt_s5 r.1 r.2]
        exact ⟨fun w => w.elim Or.inl (fun w => Or.inr ⟨⟨a, w.1, w.2⟩, c⟩), fun w => w.elim Or.inl (fun w => Or.inr ⟨w.1.2.1, w.1.2.2⟩)⟩
      · exact ⟨Or.inl, fun w => w.elim id (fun w => absurd w.1.1 a)⟩
    rw [st]
    exact ⟨fun w => w.elim (fun w => w.elim Or.inl (fun w => Or.inr ⟨e, List.mem_cons_self, w⟩)) (fun ⟨v, v1, v2⟩ => Or.inr ⟨v, List.mem_cons_of_mem _ v1, v2⟩), fun w => w.elim (fun w => Or.inl (Or.inl w)) (fun ⟨v, v1, v2⟩ => by
      rcases List.mem_cons.mp v1 with e1 | e1
      · rw [e1] at v2; exact Or.inl (Or.inr v2)
      · exact Or.inr ⟨v, e1, v2⟩)⟩
theorem ydq5_0 {p : Int} : ¬ trt (xD0 p).2.1.1 32 := by
  unfold trt xD0; decide
theorem ydq5_i {Es : List vy} {p : Int} (hr : ∀ v ∈ Es, v.1.1 = 3 → 0 ≤ v.2.2.1.2 ∧ (v.2.2.1.1 = 2 → v.2.2.1.2 < 6)) : trt (xDs Es p).2.1.1 32 ↔ ∃ (k : Nat) (v : vy), Es[k]? = some v ∧ ycq v 5 p := by
  unfold xDs
  rw [ydq5 Es xD0 hr]
  refine ⟨fun w => w.elim (fun w => absurd w (ydq5_0)) (fun ⟨v, v1, v2⟩ => ?_), fun ⟨k, v, v1, v2⟩ => Or.inr ⟨v, List.mem_of_getElem? v1, v2⟩⟩
  obtain ⟨j, hj⟩ := List.getElem?_of_mem v1
  exact ⟨j, v, hj, v2⟩

section YcV
variable {h : cz_H} {l : Nat} {v : vy} {p : Int}
theorem vx_c5 (a : vx h l v) : (qz_I h l 0 = 3 ∧ qz_I h l 5 = 5 ∧ qz_I h l 1 ≤ p ∧ p ≤ qz_I h l 2) ↔ ycq v 5 p := by
  obtain ⟨a0, -, -, -, a4⟩ := a
  unfold ycq cvr
  rw [← a0]
  have key : qz_I h l 0 = 3 → (qz_I h l 1 = v.1.2.1 ∧ qz_I h l 2 = v.1.2.2) ∧ (qz_I h l 5 = 5 ↔ (v.2.2.1.1 = 2 ∧ v.2.2.1.2 = 5)) := fun w => by
    obtain ⟨b1, b2, -, b4, b5, b6⟩ := a4 (by omega)
    refine ⟨b1, ?_⟩
    rw [b2]
    by_cases e0 : v.2.2.1.1 = 0
    · rw [if_pos e0]; omega
    · rw [if_neg e0]
      by_cases e1 : v.2.2.1.1 = 1
      · rw [if_pos e1]; omega
      · rw [if_neg e1]; have := b6 (by omega); omega
  refine ⟨fun w => ?_, fun w => ?_⟩
  · obtain ⟨k1, k2⟩ := key w.1
    have k3 := k2.mp w.2.1
    rw [← k1.1, ← k1.2]; exact ⟨⟨w.1, k3.1, k3.2⟩, w.2.2⟩
  · obtain ⟨k1, k2⟩ := key w.1.1
    rw [k1.1, k1.2]; exact ⟨w.1.1, k2.mpr w.1.2, w.2⟩
end YcV

section EzLf
variable {d : Nat} {h : cz_H} {τ : Nat → Nat} {Q : cz_F → Prop} {Ls : List vz} {b : Int} {Cs : List cEo} {row : List Int}
theorem rd_mhq5_l {p : Int} (hI : mI τ h Ls b) (pr : ez_rg p) (k1 : trt (yD Ls p).2.1.1 32 → Q (.inl (some (ez_v (.inl 1))), h)) (k0 : ¬ trt (yD Ls p).2.1.1 32 → Q (.inl (some (ez_v (.inl 0))), h)) : ∀ (n : Nat) (k : Int), n = (lc h - k).toNat → 0 ≤ k → k ≤ lc h → (∀ (j : Nat) y, (j : Int) < k → Ls[j]? = some y → ¬ ycq (ey y) 5 p) → ez_W d cm_264 2 [(3, .inl (k)), (0, .inr (.inr (some (770)))), (1, .inl (p)), (2, .inl (5))] [] h Q := by
  have hB := hI.1
  have t770 : τ 770 = 75 := hI.2.1 770 (by decide)
  have b12 : 0 ≤ qz_I h 770 12 ∧ qz_I h 770 12 ≤ 512 := ez_fB (cl := 11) (k := 12) hB t770 tq_75 rfl rfl (by decide)
  have lce : lc h = qz_I h 770 12 := rfl
  have nls : lc h ≤ qz_N h (ls h) := hI.2.2.1.1.1
  obtain ⟨pr0, pr1⟩ := id pr
  intro n
  induction n with
  | zero =>
    intro k hn0 k0' k1' hno
    refine ez_go (n := 2) (pc' := 4) (L' := [(3, .inl (k)), (0, .inr (.inr (some (770)))), (1, .inl (p)), (2, .inl (5))]) (st' := [.inr (.inr (some (770))), .inl (k)]) rfl ?_
    refine ez_gI hB t770 rfl rfl tq_75 rfl rfl (fun (b1 : 0 ≤ qz_I h 770 12) (b1' : qz_I h 770 12 ≤ 512) => ?_)
    refine ez_icmp rfl rfl ⟨by first | omega | exact (sz_i32 _).1, by first | omega | exact (sz_i32 _).2⟩ ⟨by first | omega | exact (sz_i32 _).1, by first | omega | exact (sz_i32 _).2⟩ (fun (c2 : (qz_I h 770 12) ≤ (k)) => ?_) (fun (c2 : ¬((qz_I h 770 12) ≤ (k))) => ?_)
    · skip
      refine ez_go (n := 1) (pc' := 63) (L' := [(3, .inl (k)), (0, .inr (.inr (some (770)))), (1, .inl (p)), (2, .inl (5))]) (st' := [.inl (0)]) rfl ?_
      exact ez_retZ rfl rfl (Or.inl rfl) (k0 (fun w => by obtain ⟨j, v, hj, hy⟩ := (ydq5_i (fun v hv e => (hI.gr v hv e).2)).mp w; obtain ⟨y, hy2, rfl⟩ := map_at hj; exact hno j y (by have := (List.getElem?_eq_some_iff.mp hy2).1; have := hI.2.2.2.2.2.2.1; omega) hy2 hy))
    · skip
      refine ez_go (n := 1) (pc' := 11) (L' := [(3, .inl (k)), (0, .inr (.inr (some (770)))), (1, .inl (p)), (2, .inl (5))]) (st' := [.inr (.inr (some (770)))]) rfl ?_
      refine ez_gR hB t770 rfl rfl tq_75 rfl rfl (fun (t3 : _ = 18) (t3' : 1 ≤ qz_I h 770 11) => ?_)
      rw [show qz_P h 770 11 = ls h from rfl] at *
      refine ez_go (n := 1) (pc' := 15) (L' := [(3, .inl (k)), (0, .inr (.inr (some (770)))), (1, .inl (p)), (2, .inl (5))]) (st' := [.inl (k), .inr (.inr (some ((ls h))))]) rfl ?_
      have n5 : 64 ≤ qz_N h ((ls h)) ∧ qz_N h ((ls h)) ≤ 4096 := ez_len hB t3 tq_18 rfl
      have y6 : 1 ≤ qz_I h ((ls h)) (k).toNat := (hI.at2 (k := k) (by omega) (by omega)).choose_spec.2.2.2
      have y7 : 0 ≤ qz_I h ((ls h)) (k).toNat ∧ qz_I h ((ls h)) (k).toNat ≤ 1000000 := ez_aB hB t3 tq_18 rfl rfl (by decide) (by omega) (by omega)
      have y7' : ((qz_P h ((ls h)) (k).toNat : Nat) : Int) + 1 = qz_I h ((ls h)) (k).toNat := by unfold qz_P; omega
      refine ez_aR hB t3 rfl tq_18 rfl rfl (by omega) (by omega) (by omega) (fun (t4 : _ = 13) => ?_)
      obtain ⟨x, hx, ax, -, -⟩ := hI.at2 (k := k) (by omega) (by omega)
      have cq := vx_c5 (p := p) ax
      refine ez_go (n := 2) (pc' := 20) (L' := [(4, .inr (.inr (some (qz_P h ((ls h)) (k).toNat)))), (3, .inl (k)), (0, .inr (.inr (some (770)))), (1, .inl (p)), (2, .inl (5))]) (st' := [.inr (.inr (some (qz_P h ((ls h)) (k).toNat)))]) rfl ?_
      refine ez_gI hB t4 rfl rfl tq_13 rfl rfl (fun (b8 : 0 ≤ qz_I h (qz_P h ((ls h)) (k).toNat) 0) (b8' : qz_I h (qz_P h ((ls h)) (k).toNat) 0 ≤ 4) => ?_)
      refine ez_go (n := 1) (pc' := 24) (L' := [(4, .inr (.inr (some (qz_P h ((ls h)) (k).toNat)))), (3, .inl (k)), (0, .inr (.inr (some (770)))), (1, .inl (p)), (2, .inl (5))]) (st' := [.inl (3), .inl (qz_I h (qz_P h ((ls h)) (k).toNat) 0)]) rfl ?_
      refine ez_icmp rfl rfl ⟨by first | omega | exact (sz_i32 _).1, by first | omega | exact (sz_i32 _).2⟩ ⟨by first | omega | exact (sz_i32 _).1, by first | omega | exact (sz_i32 _).2⟩ (fun (c9 : (qz_I h (qz_P h ((ls h)) (k).toNat) 0) ≠ (3)) => ?_) (fun (c9 : ¬((qz_I h (qz_P h ((ls h)) (k).toNat) 0) ≠ (3))) => ?_)
      · skip
        refine ez_go (n := 2) (pc' := 2) (L' := [(3, .inl (k + 1)), (4, .inr (.inr (some (qz_P h ((ls h)) (k).toNat)))), (0, .inr (.inr (some (770)))), (1, .inl (p)), (2, .inl (5))]) (st' := []) rfl ?_
        exfalso; omega
      · skip
        refine ez_go (n := 1) (pc' := 29) (L' := [(4, .inr (.inr (some (qz_P h ((ls h)) (k).toNat)))), (3, .inl (k)), (0, .inr (.inr (some (770)))), (1, .inl (p)), (2, .inl (5))]) (st' := [.inr (.inr (some (qz_P h ((ls h)) (k).toNat)))]) rfl ?_
        refine ez_gI hB t4 rfl rfl tq_13 rfl rfl (fun (b10 : -2147483648 ≤ qz_I h (qz_P h ((ls h)) (k).toNat) 5) (b10' : qz_I h (qz_P h ((ls h)) (k).toNat) 5 ≤ 2147483647) => ?_)
        refine ez_go (n := 1) (pc' := 33) (L' := [(4, .inr (.inr (some (qz_P h ((ls h)) (k).toNat)))), (3, .inl (k)), (0, .inr (.inr (some (770)))), (1, .inl (p)), (2, .inl (5))]) (st' := [.inl (5), .inl (qz_I h (qz_P h ((ls h)) (k).toNat) 5)]) rfl ?_
        refine ez_icmp rfl rfl ⟨by first | omega | exact (sz_i32 _).1, by first | omega | exact (sz_i32 _).2⟩ ⟨by first | omega | exact (sz_i32 _).1, by first | omega | exact (sz_i32 _).2⟩ (fun (c11 : (qz_I h (qz_P h ((ls h)) (k).toNat) 5) ≠ (5)) => ?_) (fun (c11 : ¬((qz_I h (qz_P h ((ls h)) (k).toNat) 5) ≠ (5))) => ?_)
        · skip
          refine ez_go (n := 2) (pc' := 2) (L' := [(3, .inl (k + 1)), (4, .inr (.inr (some (qz_P h ((ls h)) (k).toNat)))), (0, .inr (.inr (some (770)))), (1, .inl (p)), (2, .inl (5))]) (st' := []) rfl ?_
          exfalso; omega
        · skip
          refine ez_go (n := 1) (pc' := 38) (L' := [(4, .inr (.inr (some (qz_P h ((ls h)) (k).toNat)))), (3, .inl (k)), (0, .inr (.inr (some (770)))), (1, .inl (p)), (2, .inl (5))]) (st' := [.inr (.inr (some (qz_P h ((ls h)) (k).toNat)))]) rfl ?_
          refine ez_gI hB t4 rfl rfl tq_13 rfl rfl (fun (b12 : -2147483648 ≤ qz_I h (qz_P h ((ls h)) (k).toNat) 1) (b12' : qz_I h (qz_P h ((ls h)) (k).toNat) 1 ≤ 2147483647) => ?_)
          refine ez_go (n := 1) (pc' := 42) (L' := [(4, .inr (.inr (some (qz_P h ((ls h)) (k).toNat)))), (3, .inl (k)), (0, .inr (.inr (some (770)))), (1, .inl (p)), (2, .inl (5))]) (st' := [.inl (p), .inl (qz_I h (qz_P h ((ls h)) (k).toNat) 1)]) rfl ?_
          refine ez_icmp rfl rfl ⟨by first | omega | exact (sz_i32 _).1, by first | omega | exact (sz_i32 _).2⟩ ⟨by first | omega | exact (sz_i32 _).1, by first | omega | exact (sz_i32 _).2⟩ (fun (c13 : (p) < (qz_I h (qz_P h ((ls h)) (k).toNat) 1)) => ?_) (fun (c13 : ¬((p) < (qz_I h (qz_P h ((ls h)) (k).toNat) 1))) => ?_)
          · skip
            refine ez_go (n := 2) (pc' := 2) (L' := [(3, .inl (k + 1)), (4, .inr (.inr (some (qz_P h ((ls h)) (k).toNat)))), (0, .inr (.inr (some (770)))), (1, .inl (p)), (2, .inl (5))]) (st' := []) rfl ?_
            exfalso; omega
          · skip
            refine ez_go (n := 2) (pc' := 48) (L' := [(4, .inr (.inr (some (qz_P h ((ls h)) (k).toNat)))), (3, .inl (k)), (0, .inr (.inr (some (770)))), (1, .inl (p)), (2, .inl (5))]) (st' := [.inr (.inr (some (qz_P h ((ls h)) (k).toNat))), .inl (p)]) rfl ?_
            refine ez_gI hB t4 rfl rfl tq_13 rfl rfl (fun (b14 : -2147483648 ≤ qz_I h (qz_P h ((ls h)) (k).toNat) 2) (b14' : qz_I h (qz_P h ((ls h)) (k).toNat) 2 ≤ 2147483647) => ?_)
            refine ez_icmp rfl rfl ⟨by first | omega | exact (sz_i32 _).1, by first | omega | exact (sz_i32 _).2⟩ ⟨by first | omega | exact (sz_i32 _).1, by first | omega | exact (sz_i32 _).2⟩ (fun (c15 : (qz_I h (qz_P h ((ls h)) (k).toNat) 2) < (p)) => ?_) (fun (c15 : ¬((qz_I h (qz_P h ((ls h)) (k).toNat) 2) < (p))) => ?_)
            · skip
              refine ez_go (n := 2) (pc' := 2) (L' := [(3, .inl (k + 1)), (4, .inr (.inr (some (qz_P h ((ls h)) (k).toNat)))), (0, .inr (.inr (some (770)))), (1, .inl (p)), (2, .inl (5))]) (st' := []) rfl ?_
              exfalso; omega
            · skip
              refine ez_go (n := 1) (pc' := 55) (L' := [(4, .inr (.inr (some (qz_P h ((ls h)) (k).toNat)))), (3, .inl (k)), (0, .inr (.inr (some (770)))), (1, .inl (p)), (2, .inl (5))]) (st' := [.inl (1)]) rfl ?_
              exact ez_retZ rfl rfl (Or.inr rfl) (k1 ((ydq5_i (fun v hv e => (hI.gr v hv e).2)).mpr ⟨k.toNat, ey x, at_map hx, cq.mp ⟨by omega, by omega, by omega, by omega⟩⟩))
  | succ n ih =>
    intro k hn0 k0' k1' hno
    refine ez_go (n := 2) (pc' := 4) (L' := [(3, .inl (k)), (0, .inr (.inr (some (770)))), (1, .inl (p)), (2, .inl (5))]) (st' := [.inr (.inr (some (770))), .inl (k)]) rfl ?_
    refine ez_gI hB t770 rfl rfl tq_75 rfl rfl (fun (b1 : 0 ≤ qz_I h 770 12) (b1' : qz_I h 770 12 ≤ 512) => ?_)
    refine ez_icmp rfl rfl ⟨by first | omega | exact (sz_i32 _).1, by first | omega | exact (sz_i32 _).2⟩ ⟨by first | omega | exact (sz_i32 _).1, by first | omega | exact (sz_i32 _).2⟩ (fun (c2 : (qz_I h 770 12) ≤ (k)) => ?_) (fun (c2 : ¬((qz_I h 770 12) ≤ (k))) => ?_)
    · skip
      refine ez_go (n := 1) (pc' := 63) (L' := [(3, .inl (k)), (0, .inr (.inr (some (770)))), (1, .inl (p)), (2, .inl (5))]) (st' := [.inl (0)]) rfl ?_
      exact ez_retZ rfl rfl (Or.inl rfl) (k0 (fun w => by obtain ⟨j, v, hj, hy⟩ := (ydq5_i (fun v hv e => (hI.gr v hv e).2)).mp w; obtain ⟨y, hy2, rfl⟩ := map_at hj; exact hno j y (by have := (List.getElem?_eq_some_iff.mp hy2).1; have := hI.2.2.2.2.2.2.1; omega) hy2 hy))
    · skip
      refine ez_go (n := 1) (pc' := 11) (L' := [(3, .inl (k)), (0, .inr (.inr (some (770)))), (1, .inl (p)), (2, .inl (5))]) (st' := [.inr (.inr (some (770)))]) rfl ?_
      refine ez_gR hB t770 rfl rfl tq_75 rfl rfl (fun (t3 : _ = 18) (t3' : 1 ≤ qz_I h 770 11) => ?_)
      rw [show qz_P h 770 11 = ls h from rfl] at *
      refine ez_go (n := 1) (pc' := 15) (L' := [(3, .inl (k)), (0, .inr (.inr (some (770)))), (1, .inl (p)), (2, .inl (5))]) (st' := [.inl (k), .inr (.inr (some ((ls h))))]) rfl ?_
      have n5 : 64 ≤ qz_N h ((ls h)) ∧ qz_N h ((ls h)) ≤ 4096 := ez_len hB t3 tq_18 rfl
      have y6 : 1 ≤ qz_I h ((ls h)) (k).toNat := (hI.at2 (k := k) (by omega) (by omega)).choose_spec.2.2.2
      have y7 : 0 ≤ qz_I h ((ls h)) (k).toNat ∧ qz_I h ((ls h)) (k).toNat ≤ 1000000 := ez_aB hB t3 tq_18 rfl rfl (by decide) (by omega) (by omega)
      have y7' : ((qz_P h ((ls h)) (k).toNat : Nat) : Int) + 1 = qz_I h ((ls h)) (k).toNat := by unfold qz_P; omega
      refine ez_aR hB t3 rfl tq_18 rfl rfl (by omega) (by omega) (by omega) (fun (t4 : _ = 13) => ?_)
      obtain ⟨x, hx, ax, -, -⟩ := hI.at2 (k := k) (by omega) (by omega)
      have cq := vx_c5 (p := p) ax
      refine ez_go (n := 2) (pc' := 20) (L' := [(4, .inr (.inr (some (qz_P h ((ls h)) (k).toNat)))), (3, .inl (k)), (0, .inr (.inr (some (770)))), (1, .inl (p)), (2, .inl (5))]) (st' := [.inr (.inr (some (qz_P h ((ls h)) (k).toNat)))]) rfl ?_
      refine ez_gI hB t4 rfl rfl tq_13 rfl rfl (fun (b8 : 0 ≤ qz_I h (qz_P h ((ls h)) (k).toNat) 0) (b8' : qz_I h (qz_P h ((ls h)) (k).toNat) 0 ≤ 4) => ?_)
      refine ez_go (n := 1) (pc' := 24) (L' := [(4, .inr (.inr (some (qz_P h ((ls h)) (k).toNat)))), (3, .inl (k)), (0, .inr (.inr (some (770)))), (1, .inl (p)), (2, .inl (5))]) (st' := [.inl (3), .inl (qz_I h (qz_P h ((ls h)) (k).toNat) 0)]) rfl ?_
      refine ez_icmp rfl rfl ⟨by first | omega | exact (sz_i32 _).1, by first | omega | exact (sz_i32 _).2⟩ ⟨by first | omega | exact (sz_i32 _).1, by first | omega | exact (sz_i32 _).2⟩ (fun (c9 : (qz_I h (qz_P h ((ls h)) (k).toNat) 0) ≠ (3)) => ?_) (fun (c9 : ¬((qz_I h (qz_P h ((ls h)) (k).toNat) 0) ≠ (3))) => ?_)
      · skip
        refine ez_go (n := 2) (pc' := 2) (L' := [(3, .inl (k + 1)), (4, .inr (.inr (some (qz_P h ((ls h)) (k).toNat)))), (0, .inr (.inr (some (770)))), (1, .inl (p)), (2, .inl (5))]) (st' := []) rfl ?_
        refine ez_less [(3, .inl (k + 1)), (0, .inr (.inr (some (770)))), (1, .inl (p)), (2, .inl (5))] rfl ⟨rfl, rfl, rfl, rfl, trivial⟩ ?_
        refine ih (k + 1) (by omega) (by omega) (by omega) (fun j y hj hy => ?_)
        by_cases e : j = k.toNat
        · subst e; rw [hx] at hy; cases hy; intro w; have w := cq.mpr w; omega
        · exact hno j y (by omega) hy
      · skip
        refine ez_go (n := 1) (pc' := 29) (L' := [(4, .inr (.inr (some (qz_P h ((ls h)) (k).toNat)))), (3, .inl (k)), (0, .inr (.inr (some (770)))), (1, .inl (p)), (2, .inl (5))]) (st' := [.inr (.inr (some (qz_P h ((ls h)) (k).toNat)))]) rfl ?_
        refine ez_gI hB t4 rfl rfl tq_13 rfl rfl (fun (b10 : -2147483648 ≤ qz_I h (qz_P h ((ls h)) (k).toNat) 5) (b10' : qz_I h (qz_P h ((ls h)) (k).toNat) 5 ≤ 2147483647) => ?_)
        refine ez_go (n := 1) (pc' := 33) (L' := [(4, .inr (.inr (some (qz_P h ((ls h)) (k).toNat)))), (3, .inl (k)), (0, .inr (.inr (some (770)))), (1, .inl (p)), (2, .inl (5))]) (st' := [.inl (5), .inl (qz_I h (qz_P h ((ls h)) (k).toNat) 5)]) rfl ?_
        refine ez_icmp rfl rfl ⟨by first | omega | exact (sz_i32 _).1, by first | omega | exact (sz_i32 _).2⟩ ⟨by first | omega | exact (sz_i32 _).1, by first | omega | exact (sz_i32 _).2⟩ (fun (c11 : (qz_I h (qz_P h ((ls h)) (k).toNat) 5) ≠ (5)) => ?_) (fun (c11 : ¬((qz_I h (qz_P h ((ls h)) (k).toNat) 5) ≠ (5))) => ?_)
        · skip
          refine ez_go (n := 2) (pc' := 2) (L' := [(3, .inl (k + 1)), (4, .inr (.inr (some (qz_P h ((ls h)) (k).toNat)))), (0, .inr (.inr (some (770)))), (1, .inl (p)), (2, .inl (5))]) (st' := []) rfl ?_
          refine ez_less [(3, .inl (k + 1)), (0, .inr (.inr (some (770)))), (1, .inl (p)), (2, .inl (5))] rfl ⟨rfl, rfl, rfl, rfl, trivial⟩ ?_
          refine ih (k + 1) (by omega) (by omega) (by omega) (fun j y hj hy => ?_)
          by_cases e : j = k.toNat
          · subst e; rw [hx] at hy; cases hy; intro w; have w := cq.mpr w; omega
          · exact hno j y (by omega) hy
        · skip
          refine ez_go (n := 1) (pc' := 38) (L' := [(4, .inr (.inr (some (qz_P h ((ls h)) (k).toNat)))), (3, .inl (k)), (0, .inr (.inr (some (770)))), (1, .inl (p)), (2, .inl (5))]) (st' := [.inr (.inr (some (qz_P h ((ls h)) (k).toNat)))]) rfl ?_
          refine ez_gI hB t4 rfl rfl tq_13 rfl rfl (fun (b12 : -2147483648 ≤ qz_I h (qz_P h ((ls h)) (k).toNat) 1) (b12' : qz_I h (qz_P h ((ls h)) (k).toNat) 1 ≤ 2147483647) => ?_)
          refine ez_go (n := 1) (pc' := 42) (L' := [(4, .inr (.inr (some (qz_P h ((ls h)) (k).toNat)))), (3, .inl (k)), (0, .inr (.inr (some (770)))), (1, .inl (p)), (2, .inl (5))]) (st' := [.inl (p), .inl (qz_I h (qz_P h ((ls h)) (k).toNat) 1)]) rfl ?_
          refine ez_icmp rfl rfl ⟨by first | omega | exact (sz_i32 _).1, by first | omega | exact (sz_i32 _).2⟩ ⟨by first | omega | exact (sz_i32 _).1, by first | omega | exact (sz_i32 _).2⟩ (fun (c13 : (p) < (qz_I h (qz_P h ((ls h)) (k).toNat) 1)) => ?_) (fun (c13 : ¬((p) < (qz_I h (qz_P h ((ls h)) (k).toNat) 1))) => ?_)
          · skip
            refine ez_go (n := 2) (pc' := 2) (L' := [(3, .inl (k + 1)), (4, .inr (.inr (some (qz_P h ((ls h)) (k).toNat)))), (0, .inr (.inr (some (770)))), (1, .inl (p)), (2, .inl (5))]) (st' := []) rfl ?_
            refine ez_less [(3, .inl (k + 1)), (0, .inr (.inr (some (770)))), (1, .inl (p)), (2, .inl (5))] rfl ⟨rfl, rfl, rfl, rfl, trivial⟩ ?_
            refine ih (k + 1) (by omega) (by omega) (by omega) (fun j y hj hy => ?_)
            by_cases e : j = k.toNat
            · subst e; rw [hx] at hy; cases hy; intro w; have w := cq.mpr w; omega
            · exact hno j y (by omega) hy
          · skip
            refine ez_go (n := 2) (pc' := 48) (L' := [(4, .inr (.inr (some (qz_P h ((ls h)) (k).toNat)))), (3, .inl (k)), (0, .inr (.inr (some (770)))), (1, .inl (p)), (2, .inl (5))]) (st' := [.inr (.inr (some (qz_P h ((ls h)) (k).toNat))), .inl (p)]) rfl ?_
            refine ez_gI hB t4 rfl rfl tq_13 rfl rfl (fun (b14 : -2147483648 ≤ qz_I h (qz_P h ((ls h)) (k).toNat) 2) (b14' : qz_I h (qz_P h ((ls h)) (k).toNat) 2 ≤ 2147483647) => ?_)
            refine ez_icmp rfl rfl ⟨by first | omega | exact (sz_i32 _).1, by first | omega | exact (sz_i32 _).2⟩ ⟨by first | omega | exact (sz_i32 _).1, by first | omega | exact (sz_i32 _).2⟩ (fun (c15 : (qz_I h (qz_P h ((ls h)) (k).toNat) 2) < (p)) => ?_) (fun (c15 : ¬((qz_I h (qz_P h ((ls h)) (k).toNat) 2) < (p))) => ?_)
            · skip
              refine ez_go (n := 2) (pc' := 2) (L' := [(3, .inl (k + 1)), (4, .inr (.inr (some (qz_P h ((ls h)) (k).toNat)))), (0, .inr (.inr (some (770)))), (1, .inl (p)), (2, .inl (5))]) (st' := []) rfl ?_
              refine ez_less [(3, .inl (k + 1)), (0, .inr (.inr (some (770)))), (1, .inl (p)), (2, .inl (5))] rfl ⟨rfl, rfl, rfl, rfl, trivial⟩ ?_
              refine ih (k + 1) (by omega) (by omega) (by omega) (fun j y hj hy => ?_)
              by_cases e : j = k.toNat
              · subst e; rw [hx] at hy; cases hy; intro w; have w := cq.mpr w; omega
              · exact hno j y (by omega) hy
            · skip
              refine ez_go (n := 1) (pc' := 55) (L' := [(4, .inr (.inr (some (qz_P h ((ls h)) (k).toNat)))), (3, .inl (k)), (0, .inr (.inr (some (770)))), (1, .inl (p)), (2, .inl (5))]) (st' := [.inl (1)]) rfl ?_
              exact ez_retZ rfl rfl (Or.inr rfl) (k1 ((ydq5_i (fun v hv e => (hI.gr v hv e).2)).mpr ⟨k.toNat, ey x, at_map hx, cq.mp ⟨by omega, by omega, by omega, by omega⟩⟩))

theorem rd_mhq5 {p : Int} (hI : mI τ h Ls b) (pr : ez_rg p) (k1 : trt (yD Ls p).2.1.1 32 → Q (.inl (some (ez_v (.inl 1))), h)) (k0 : ¬ trt (yD Ls p).2.1.1 32 → Q (.inl (some (ez_v (.inl 0))), h)) : ez_W d cm_264 0 [(0, .inr (.inr (some (770)))), (1, .inl (p)), (2, .inl (5))] [] h Q := by
  have hB := hI.1
  have t770 : τ 770 = 75 := hI.2.1 770 (by decide)
  have b12 : 0 ≤ qz_I h 770 12 ∧ qz_I h 770 12 ≤ 512 := ez_fB (cl := 11) (k := 12) hB t770 tq_75 rfl rfl (by decide)
  have lce : lc h = qz_I h 770 12 := rfl
  have nls : lc h ≤ qz_N h (ls h) := hI.2.2.1.1.1
  refine ez_go (n := 2) (pc' := 2) (L' := [(3, .inl (0)), (0, .inr (.inr (some (770)))), (1, .inl (p)), (2, .inl (5))]) (st' := []) rfl ?_
  refine ez_less [(3, .inl (0)), (0, .inr (.inr (some (770)))), (1, .inl (p)), (2, .inl (5))] rfl ⟨rfl, rfl, rfl, rfl, trivial⟩ ?_
  exact rd_mhq5_l hI pr k1 k0 _ 0 rfl (by omega) (by omega) (fun j y hj hy => by omega)

theorem rd_mlf_i {z : Nat} {r : List Int} {k n : Int} (hI : mI τ h Ls b) (tz : τ z = 13) (tz1 : τ (z + 1) = 15) (tz2 : τ (z + 2) = 16) (mr : mrw h (z + 1) (z + 2) 0 r) (pr : ptl r) (pw : ptl row) (lr : r.length = row.length) (l3 : row.length ≤ 3) (hn9 : n = (row.length : Int)) (sr : str h row) (kx : ∀ s : Int, s = 0 ∨ s = 1 → (s = 1 ↔ r = row) → ez_W d cm_277 84 [(4, .inl (s)), (3, .inr (.inr (some (z)))), (2, .inl (k)), (1, .inl (n)), (0, .inr (.inr (some (770))))] [] h Q) : ∀ (m : Nat) (j s : Int), m = (n - j).toNat → 0 ≤ j → j ≤ n → s = 0 ∨ s = 1 → (s = 1 ↔ r.take j.toNat = row.take j.toNat) → ez_W d cm_277 45 [(5, .inl (j)), (4, .inl (s)), (3, .inr (.inr (some (z)))), (2, .inl (k)), (1, .inl (n)), (0, .inr (.inr (some (770))))] [] h Q := by
  have hB := hI.1
  have t770 : τ 770 = 75 := hI.2.1 770 (by decide)
  have b12 : 0 ≤ qz_I h 770 12 ∧ qz_I h 770 12 ≤ 512 := ez_fB (cl := 11) (k := 12) hB t770 tq_75 rfl rfl (by decide)
  have lce : lc h = qz_I h 770 12 := rfl
  have nls : lc h ≤ qz_N h (ls h) := hI.2.2.1.1.1
  have npo : pn h ≤ qz_N h (po h) := hI.2.2.1.1.2
  intro m
  induction m with
  | zero =>
    intro j s hm j0 j1 s0 s1
    refine ez_go (n := 2) (pc' := 48) (L' := [(5, .inl (j)), (4, .inl (s)), (3, .inr (.inr (some (z)))), (2, .inl (k)), (1, .inl (n)), (0, .inr (.inr (some (770))))]) (st' := [.inl (n), .inl (j)]) rfl ?_
    refine ez_icmp rfl rfl ⟨by first | omega | exact (sz_i32 _).1, by first | omega | exact (sz_i32 _).2⟩ ⟨by first | omega | exact (sz_i32 _).1, by first | omega | exact (sz_i32 _).2⟩ (fun (c1 : (n) ≤ (j)) => ?_) (fun (c1 : ¬((n) ≤ (j))) => ?_)
    · skip
      refine ez_less [(4, .inl (s)), (3, .inr (.inr (some (z)))), (2, .inl (k)), (1, .inl (n)), (0, .inr (.inr (some (770))))] rfl ⟨rfl, rfl, rfl, rfl, rfl, trivial⟩ ?_
      refine kx s s0 ?_
      rw [s1, show j.toNat = row.length by omega, List.take_length, ← lr, List.take_length]
    · skip
      refine ez_go (n := 1) (pc' := 52) (L' := [(5, .inl (j)), (4, .inl (s)), (3, .inr (.inr (some (z)))), (2, .inl (k)), (1, .inl (n)), (0, .inr (.inr (some (770))))]) (st' := [.inr (.inr (some (770)))]) rfl ?_
      refine ez_gR hB t770 rfl rfl tq_75 rfl rfl (fun (t2 : _ = 17) (t2' : 1 ≤ qz_I h 770 9) => ?_)
      rw [show qz_P h 770 9 = po h from rfl]
      refine ez_go (n := 1) (pc' := 56) (L' := [(5, .inl (j)), (4, .inl (s)), (3, .inr (.inr (some (z)))), (2, .inl (k)), (1, .inl (n)), (0, .inr (.inr (some (770))))]) (st' := [.inr (.inr (some (z))), .inr (.inr (some (po h)))]) rfl ?_
      refine ez_gR hB tz rfl rfl tq_13 rfl rfl (fun (t3 : _ = 15) (t3' : 1 ≤ qz_I h z 7) => ?_)
      rw [show qz_P h z 7 = z + 1 from (ez_l78 hB tz).1]
      refine ez_go (n := 1) (pc' := 60) (L' := [(5, .inl (j)), (4, .inl (s)), (3, .inr (.inr (some (z)))), (2, .inl (k)), (1, .inl (n)), (0, .inr (.inr (some (770))))]) (st' := [.inl (0), .inr (.inr (some (z + 1))), .inr (.inr (some (po h)))]) rfl ?_
      have n5 : 3 ≤ qz_N h (z + 1) ∧ qz_N h (z + 1) ≤ 3 := ez_len hB tz1 tq_15 rfl
      refine ez_aI hB tz1 rfl tq_15 rfl rfl (by omega) (by omega) (fun (b4 : 0 ≤ qz_I h (z + 1) (0 : Int).toNat) (b4' : qz_I h (z + 1) (0 : Int).toNat ≤ 38500) => ?_)
      have m2 := mr.2.1; have m3 := mr.2.2.1
      have z9 : qz_I h (z + 1) (0 : Int).toNat = qz_I h (z + 1) 0 := rfl
      have l9 : j.toNat < r.length := by omega
      have hv := List.getElem?_eq_getElem l9
      have l8 : j.toNat < row.length := by omega
      have hu := List.getElem?_eq_getElem l8
      refine ez_go (n := 2) (pc' := 64) (L' := [(5, .inl (j)), (4, .inl (s)), (3, .inr (.inr (some (z)))), (2, .inl (k)), (1, .inl (n)), (0, .inr (.inr (some (770))))]) (st' := [.inl ((qz_I h (z + 1) (0 : Int).toNat) + (j)), .inr (.inr (some (po h)))]) rfl ?_
      have n7 : 1024 ≤ qz_N h (po h) ∧ qz_N h (po h) ≤ 77100 := ez_len hB (ez_tls hB t770).2 tq_17 rfl
      refine ez_aI hB (ez_tls hB t770).2 rfl tq_17 rfl rfl (by omega) (by omega) (fun (b6 : -2147483648 ≤ qz_I h (po h) ((qz_I h (z + 1) (0 : Int).toNat) + (j)).toNat) (b6' : qz_I h (po h) ((qz_I h (z + 1) (0 : Int).toNat) + (j)).toNat ≤ 2147483647) => ?_)
      have ev := mr.2.2.2 _ _ hv
      have vr := ptl_rg pr _ _ hv
      have ur := ptl_rg pw _ _ hu
      obtain ⟨vr1, vr2⟩ := id vr
      obtain ⟨ur1, ur2⟩ := id ur
      rw [show qz_I h (po h) ((qz_I h (z + 1) (0 : Int).toNat) + (j)).toNat = r[j.toNat] from by unfold pl at ev; rw [show ((j.toNat : Nat) : Int) = j by omega] at ev; exact ev]
      refine ez_go (n := 1) (pc' := 66) (L' := [(5, .inl (j)), (4, .inl (s)), (3, .inr (.inr (some (z)))), (2, .inl (k)), (1, .inl (n)), (0, .inr (.inr (some (770))))]) (st' := [.inr (.inr (some (770))), .inl (r[j.toNat])]) rfl ?_
      refine ez_gC (p := 801) (tg := 87) hB t770 rfl rfl tq_75 rfl rfl (fun (t801 : _ = 87) => ?_)
      refine ez_go (n := 1) (pc' := 71) (L' := [(5, .inl (j)), (4, .inl (s)), (3, .inr (.inr (some (z)))), (2, .inl (k)), (1, .inl (n)), (0, .inr (.inr (some (770))))]) (st' := [.inl (j), .inr (.inr (some (801))), .inl (r[j.toNat])]) rfl ?_
      have n9 : 4 ≤ qz_N h 801 ∧ qz_N h 801 ≤ 4 := ez_len hB t801 tq_87 rfl
      refine ez_aI hB t801 rfl tq_87 rfl rfl (by omega) (by omega) (fun (b8 : -2147483648 ≤ qz_I h 801 (j).toNat) (b8' : qz_I h 801 (j).toNat ≤ 2147483647) => ?_)
      rw [show qz_I h 801 (j).toNat = row[j.toNat] from sr _ _ hu]
      refine ez_icmp rfl rfl ⟨by first | omega | exact (sz_i32 _).1, by first | omega | exact (sz_i32 _).2⟩ ⟨by first | omega | exact (sz_i32 _).1, by first | omega | exact (sz_i32 _).2⟩ (fun (c10 : (r[j.toNat]) = (row[j.toNat])) => ?_) (fun (c10 : ¬((r[j.toNat]) = (row[j.toNat]))) => ?_)
      · skip
        refine ez_go (n := 2) (pc' := 45) (L' := [(5, .inl (j + 1)), (4, .inl (s)), (3, .inr (.inr (some (z)))), (2, .inl (k)), (1, .inl (n)), (0, .inr (.inr (some (770))))]) (st' := []) rfl ?_
        exfalso; omega
      · skip
        refine ez_go (n := 4) (pc' := 45) (L' := [(5, .inl (j + 1)), (4, .inl (0)), (3, .inr (.inr (some (z)))), (2, .inl (k)), (1, .inl (n)), (0, .inr (.inr (some (770))))]) (st' := []) rfl ?_
        exfalso; omega
  | succ m ih =>
    intro j s hm j0 j1 s0 s1
    refine ez_go (n := 2) (pc' := 48) (L' := [(5, .inl (j)), (4, .inl (s)), (3, .inr (.inr (some (z)))), (2, .inl (k)), (1, .inl (n)), (0, .inr (.inr (some (770))))]) (st' := [.inl (n), .inl (j)]) rfl ?_
    refine ez_icmp rfl rfl ⟨by first | omega | exact (sz_i32 _).1, by first | omega | exact (sz_i32 _).2⟩ ⟨by first | omega | exact (sz_i32 _).1, by first | omega | exact (sz_i32 _).2⟩ (fun (c1 : (n) ≤ (j)) => ?_) (fun (c1 : ¬((n) ≤ (j))) => ?_)
    · skip
      refine ez_less [(4, .inl (s)), (3, .inr (.inr (some (z)))), (2, .inl (k)), (1, .inl (n)), (0, .inr (.inr (some (770))))] rfl ⟨rfl, rfl, rfl, rfl, rfl, trivial⟩ ?_
      refine kx s s0 ?_
      rw [s1, show j.toNat = row.length by omega, List.take_length, ← lr, List.take_length]
    · skip
      refine ez_go (n := 1) (pc' := 52) (L' := [(5, .inl (j)), (4, .inl (s)), (3, .inr (.inr (some (z)))), (2, .inl (k)), (1, .inl (n)), (0, .inr (.inr (some (770))))]) (st' := [.inr (.inr (some (770)))]) rfl ?_
      refine ez_gR hB t770 rfl rfl tq_75 rfl rfl (fun (t2 : _ = 17) (t2' : 1 ≤ qz_I h 770 9) => ?_)
      rw [show qz_P h 770 9 = po h from rfl]
      refine ez_go (n := 1) (pc' := 56) (L' := [(5, .inl (j)), (4, .inl (s)), (3, .inr (.inr (some (z)))), (2, .inl (k)), (1, .inl (n)), (0, .inr (.inr (some (770))))]) (st' := [.inr (.inr (some (z))), .inr (.inr (some (po h)))]) rfl ?_
      refine ez_gR hB tz rfl rfl tq_13 rfl rfl (fun (t3 : _ = 15) (t3' : 1 ≤ qz_I h z 7) => ?_)
      rw [show qz_P h z 7 = z + 1 from (ez_l78 hB tz).1]
      refine ez_go (n := 1) (pc' := 60) (L' := [(5, .inl (j)), (4, .inl (s)), (3, .inr (.inr (some (z)))), (2, .inl (k)), (1, .inl (n)), (0, .inr (.inr (some (770))))]) (st' := [.inl (0), .inr (.inr (some (z + 1))), .inr (.inr (some (po h)))]) rfl ?_
      have n5 : 3 ≤ qz_N h (z + 1) ∧ qz_N h (z + 1) ≤ 3 := ez_len hB tz1 tq_15 rfl
      refine ez_aI hB tz1 rfl tq_15 rfl rfl (by omega) (by omega) (fun (b4 : 0 ≤ qz_I h (z + 1) (0 : Int).toNat) (b4' : qz_I h (z + 1) (0 : Int).toNat ≤ 38500) => ?_)
      have m2 := mr.2.1; have m3 := mr.2.2.1
      have z9 : qz_I h (z + 1) (0 : Int).toNat = qz_I h (z + 1) 0 := rfl
      have l9 : j.toNat < r.length := by omega
      have hv := List.getElem?_eq_getElem l9
      have l8 : j.toNat < row.length := by omega
      have hu := List.getElem?_eq_getElem l8
      refine ez_go (n := 2) (pc' := 64) (L' := [(5, .inl (j)), (4, .inl (s)), (3, .inr (.inr (some (z)))), (2, .inl (k)), (1, .inl (n)), (0, .inr (.inr (some (770))))]) (st' := [.inl ((qz_I h (z + 1) (0 : Int).toNat) + (j)), .inr (.inr (some (po h)))]) rfl ?_
      have n7 : 1024 ≤ qz_N h (po h) ∧ qz_N h (po h) ≤ 77100 := ez_len hB (ez_tls hB t770).2 tq_17 rfl
      refine ez_aI hB (ez_tls hB t770).2 rfl tq_17 rfl rfl (by omega) (by omega) (fun (b6 : -2147483648 ≤ qz_I h (po h) ((qz_I h (z + 1) (0 : Int).toNat) + (j)).toNat) (b6' : qz_I h (po h) ((qz_I h (z + 1) (0 : Int).toNat) + (j)).toNat ≤ 2147483647) => ?_)
      have ev := mr.2.2.2 _ _ hv
      have vr := ptl_rg pr _ _ hv
      have ur := ptl_rg pw _ _ hu
      obtain ⟨vr1, vr2⟩ := id vr
      obtain ⟨ur1, ur2⟩ := id ur
      rw [show qz_I h (po h) ((qz_I h (z + 1) (0 : Int).toNat) + (j)).toNat = r[j.toNat] from by unfold pl at ev; rw [show ((j.toNat : Nat) : Int) = j by omega] at ev; exact ev]
      refine ez_go (n := 1) (pc' := 66) (L' := [(5, .inl (j)), (4, .inl (s)), (3, .inr (.inr (some (z)))), (2, .inl (k)), (1, .inl (n)), (0, .inr (.inr (some (770))))]) (st' := [.inr (.inr (some (770))), .inl (r[j.toNat])]) rfl ?_
      refine ez_gC (p := 801) (tg := 87) hB t770 rfl rfl tq_75 rfl rfl (fun (t801 : _ = 87) => ?_)
      refine ez_go (n := 1) (pc' := 71) (L' := [(5, .inl (j)), (4, .inl (s)), (3, .inr (.inr (some (z)))), (2, .inl (k)), (1, .inl (n)), (0, .inr (.inr (some (770))))]) (st' := [.inl (j), .inr (.inr (some (801))), .inl (r[j.toNat])]) rfl ?_
      have n9 : 4 ≤ qz_N h 801 ∧ qz_N h 801 ≤ 4 := ez_len hB t801 tq_87 rfl
      refine ez_aI hB t801 rfl tq_87 rfl rfl (by omega) (by omega) (fun (b8 : -2147483648 ≤ qz_I h 801 (j).toNat) (b8' : qz_I h 801 (j).toNat ≤ 2147483647) => ?_)
      rw [show qz_I h 801 (j).toNat = row[j.toNat] from sr _ _ hu]
      refine ez_icmp rfl rfl ⟨by first | omega | exact (sz_i32 _).1, by first | omega | exact (sz_i32 _).2⟩ ⟨by first | omega | exact (sz_i32 _).1, by first | omega | exact (sz_i32 _).2⟩ (fun (c10 : (r[j.toNat]) = (row[j.toNat])) => ?_) (fun (c10 : ¬((r[j.toNat]) = (row[j.toNat]))) => ?_)
      · skip
        refine ez_go (n := 2) (pc' := 45) (L' := [(5, .inl (j + 1)), (4, .inl (s)), (3, .inr (.inr (some (z)))), (2, .inl (k)), (1, .inl (n)), (0, .inr (.inr (some (770))))]) (st' := []) rfl ?_
        refine ez_less [(5, .inl (j + 1)), (4, .inl (s)), (3, .inr (.inr (some (z)))), (2, .inl (k)), (1, .inl (n)), (0, .inr (.inr (some (770))))] rfl ⟨rfl, rfl, rfl, rfl, rfl, rfl, trivial⟩ ?_
        exact ih (j + 1) s (by omega) (by omega) (by omega) s0 (by rw [show (j + 1).toNat = j.toNat + 1 by omega, tk1m hv hu, s1]; exact ⟨fun w => ⟨w, c10⟩, fun w => w.1⟩)
      · skip
        refine ez_go (n := 4) (pc' := 45) (L' := [(5, .inl (j + 1)), (4, .inl (0)), (3, .inr (.inr (some (z)))), (2, .inl (k)), (1, .inl (n)), (0, .inr (.inr (some (770))))]) (st' := []) rfl ?_
        refine ez_less [(5, .inl (j + 1)), (4, .inl (0)), (3, .inr (.inr (some (z)))), (2, .inl (k)), (1, .inl (n)), (0, .inr (.inr (some (770))))] rfl ⟨rfl, rfl, rfl, rfl, rfl, rfl, trivial⟩ ?_
        exact ih (j + 1) 0 (by omega) (by omega) (by omega) (Or.inl rfl) ⟨fun w => absurd w (by decide), fun w => by rw [show (j + 1).toNat = j.toNat + 1 by omega, tk1m hv hu] at w; exact absurd w.2 c10⟩

theorem rd_mlf_l {n : Int} (hI : mI τ h Ls b) (hm : mC h Cs) (pw : ptl row) (l3 : row.length ≤ 3) (hn9 : n = (row.length : Int)) (sr : str h row) (kN : cLK Cs row = none → Q (.inl (some (.inr (.inr none))), h)) (kS : ∀ z e, cLK Cs row = some e → (τ z = 13 ∧ τ (z + 1) = 15 ∧ τ (z + 2) = 16) → mCl h z (some (row, e)) → Q (.inl (some (.inr (.inr (some z)))), h)) : ∀ (m : Nat) (k : Int), m = (k + 1).toNat → -1 ≤ k → k < lc h → cLK Cs row = cLK (Cs.take (k + 1).toNat) row → ez_W d cm_277 7 [(2, .inl (k)), (0, .inr (.inr (some (770)))), (1, .inl (n))] [] h Q := by
  have hB := hI.1
  have t770 : τ 770 = 75 := hI.2.1 770 (by decide)
  have b12 : 0 ≤ qz_I h 770 12 ∧ qz_I h 770 12 ≤ 512 := ez_fB (cl := 11) (k := 12) hB t770 tq_75 rfl rfl (by decide)
  have lce : lc h = qz_I h 770 12 := rfl
  have nls : lc h ≤ qz_N h (ls h) := hI.2.2.1.1.1
  intro m
  induction m with
  | zero =>
    intro k hm0 k0 k1 hno
    refine ez_go (n := 1) (pc' := 8) (L' := [(2, .inl (k)), (0, .inr (.inr (some (770)))), (1, .inl (n))]) (st' := [.inl (k)]) rfl ?_
    refine ez_if rfl rfl ⟨by first | omega | exact (sz_i32 _).1, by first | omega | exact (sz_i32 _).2⟩ (fun (c1 : (k) < (0)) => ?_) (fun (c1 : ¬((k) < (0))) => ?_)
    · skip
      refine ez_go (n := 1) (pc' := 98) (L' := [(2, .inl (k)), (0, .inr (.inr (some (770)))), (1, .inl (n))]) (st' := [.inr (.inr none)]) rfl ?_
      exact ez_retA rfl rfl rfl (kN (by rw [hno, show (k + 1).toNat = 0 by omega, List.take_zero]; rfl))
    · skip
      refine ez_go (n := 1) (pc' := 12) (L' := [(2, .inl (k)), (0, .inr (.inr (some (770)))), (1, .inl (n))]) (st' := [.inr (.inr (some (770)))]) rfl ?_
      refine ez_gR hB t770 rfl rfl tq_75 rfl rfl (fun (t2 : _ = 18) (t2' : 1 ≤ qz_I h 770 11) => ?_)
      rw [show qz_P h 770 11 = ls h from rfl] at *
      refine ez_go (n := 1) (pc' := 16) (L' := [(2, .inl (k)), (0, .inr (.inr (some (770)))), (1, .inl (n))]) (st' := [.inl (k), .inr (.inr (some ((ls h))))]) rfl ?_
      have n4 : 64 ≤ qz_N h ((ls h)) ∧ qz_N h ((ls h)) ≤ 4096 := ez_len hB t2 tq_18 rfl
      have y5 : 1 ≤ qz_I h ((ls h)) (k).toNat := (hI.at2 (k := k) (by omega) (by omega)).choose_spec.2.2.2
      have y6 : 0 ≤ qz_I h ((ls h)) (k).toNat ∧ qz_I h ((ls h)) (k).toNat ≤ 1000000 := ez_aB hB t2 tq_18 rfl rfl (by decide) (by omega) (by omega)
      have y6' : ((qz_P h ((ls h)) (k).toNat : Nat) : Int) + 1 = qz_I h ((ls h)) (k).toNat := by unfold qz_P; omega
      refine ez_aR hB t2 rfl tq_18 rfl rfl (by omega) (by omega) (by omega) (fun (t3 : _ = 13) => ?_)
      obtain ⟨c, hc, hq⟩ := hm.at (k := k) (by omega) (by omega)
      obtain ⟨tz, tz1, tz2⟩ := hI.L (i := k.toNat) (by omega)
      refine ez_go (n := 2) (pc' := 19) (L' := [(3, .inr (.inr (some (qz_P h ((ls h)) (k).toNat)))), (2, .inl (k)), (0, .inr (.inr (some (770)))), (1, .inl (n))]) (st' := [.inr (.inr (some (qz_P h ((ls h)) (k).toNat)))]) rfl ?_
      refine ez_gI hB t3 rfl rfl tq_13 rfl rfl (fun (b7 : 0 ≤ qz_I h (qz_P h ((ls h)) (k).toNat) 0) (b7' : qz_I h (qz_P h ((ls h)) (k).toNat) 0 ≤ 4) => ?_)
      refine ez_go (n := 1) (pc' := 23) (L' := [(3, .inr (.inr (some (qz_P h ((ls h)) (k).toNat)))), (2, .inl (k)), (0, .inr (.inr (some (770)))), (1, .inl (n))]) (st' := [.inl (4), .inl (qz_I h (qz_P h ((ls h)) (k).toNat) 0)]) rfl ?_
      refine ez_icmp rfl rfl ⟨by first | omega | exact (sz_i32 _).1, by first | omega | exact (sz_i32 _).2⟩ ⟨by first | omega | exact (sz_i32 _).1, by first | omega | exact (sz_i32 _).2⟩ (fun (c8 : (qz_I h (qz_P h ((ls h)) (k).toNat) 0) ≠ (4)) => ?_) (fun (c8 : ¬((qz_I h (qz_P h ((ls h)) (k).toNat) 0) ≠ (4))) => ?_)
      · skip
        refine ez_go (n := 2) (pc' := 7) (L' := [(2, .inl (k + (-1))), (3, .inr (.inr (some (qz_P h ((ls h)) (k).toNat)))), (0, .inr (.inr (some (770)))), (1, .inl (n))]) (st' := []) rfl ?_
        exfalso; omega
      · skip
        refine ez_go (n := 1) (pc' := 27) (L' := [(3, .inr (.inr (some (qz_P h ((ls h)) (k).toNat)))), (2, .inl (k)), (0, .inr (.inr (some (770)))), (1, .inl (n))]) (st' := [.inr (.inr (some (qz_P h ((ls h)) (k).toNat)))]) rfl ?_
        refine ez_gR hB t3 rfl rfl tq_13 rfl rfl (fun (t9 : _ = 16) (t9' : 1 ≤ qz_I h (qz_P h ((ls h)) (k).toNat) 8) => ?_)
        rw [show qz_P h (qz_P h ((ls h)) (k).toNat) 8 = qz_P h (ls h) (k).toNat + 2 from (ez_l78 hB tz).2]
        refine ez_go (n := 1) (pc' := 31) (L' := [(3, .inr (.inr (some (qz_P h ((ls h)) (k).toNat)))), (2, .inl (k)), (0, .inr (.inr (some (770)))), (1, .inl (n))]) (st' := [.inl (0), .inr (.inr (some (qz_P h (ls h) (k).toNat + 2)))]) rfl ?_
        have n11 : 3 ≤ qz_N h (qz_P h (ls h) (k).toNat + 2) ∧ qz_N h (qz_P h (ls h) (k).toNat + 2) ≤ 3 := ez_len hB tz2 tq_16 rfl
        refine ez_aI hB tz2 rfl tq_16 rfl rfl (by omega) (by omega) (fun (b10 : 0 ≤ qz_I h (qz_P h (ls h) (k).toNat + 2) (0 : Int).toNat) (b10' : qz_I h (qz_P h (ls h) (k).toNat + 2) (0 : Int).toNat ≤ 18) => ?_)
        have e00 : qz_I h (qz_P h (ls h) (k).toNat + 2) (0 : Int).toNat = qz_I h (qz_P h (ls h) (k).toNat + 2) 0 := rfl
        rw [show qz_I h (qz_P h (ls h) (k).toNat + 2) (0 : Int).toNat = qz_I h (qz_P h (ls h) (k).toNat + 2) 0 from rfl]
        refine ez_go (n := 1) (pc' := 33) (L' := [(3, .inr (.inr (some (qz_P h ((ls h)) (k).toNat)))), (2, .inl (k)), (0, .inr (.inr (some (770)))), (1, .inl (n))]) (st' := [.inl (n), .inl (qz_I h (qz_P h (ls h) (k).toNat + 2) 0)]) rfl ?_
        refine ez_icmp rfl rfl ⟨by first | omega | exact (sz_i32 _).1, by first | omega | exact (sz_i32 _).2⟩ ⟨by first | omega | exact (sz_i32 _).1, by first | omega | exact (sz_i32 _).2⟩ (fun (c12 : (qz_I h (qz_P h (ls h) (k).toNat + 2) 0) = (n)) => ?_) (fun (c12 : ¬((qz_I h (qz_P h (ls h) (k).toNat + 2) 0) = (n))) => ?_)
        · skip
          refine ez_go (n := 4) (pc' := 45) (L' := [(5, .inl (0)), (4, .inl (1)), (3, .inr (.inr (some (qz_P h ((ls h)) (k).toNat)))), (2, .inl (k)), (0, .inr (.inr (some (770)))), (1, .inl (n))]) (st' := []) rfl ?_
          exfalso; omega
        · skip
          refine ez_go (n := 3) (pc' := 7) (L' := [(2, .inl (k + (-1))), (3, .inr (.inr (some (qz_P h ((ls h)) (k).toNat)))), (0, .inr (.inr (some (770)))), (1, .inl (n))]) (st' := []) rfl ?_
          exfalso; omega
  | succ m ih =>
    intro k hm0 k0 k1 hno
    refine ez_go (n := 1) (pc' := 8) (L' := [(2, .inl (k)), (0, .inr (.inr (some (770)))), (1, .inl (n))]) (st' := [.inl (k)]) rfl ?_
    refine ez_if rfl rfl ⟨by first | omega | exact (sz_i32 _).1, by first | omega | exact (sz_i32 _).2⟩ (fun (c1 : (k) < (0)) => ?_) (fun (c1 : ¬((k) < (0))) => ?_)
    · skip
      refine ez_go (n := 1) (pc' := 98) (L' := [(2, .inl (k)), (0, .inr (.inr (some (770)))), (1, .inl (n))]) (st' := [.inr (.inr none)]) rfl ?_
      exact ez_retA rfl rfl rfl (kN (by rw [hno, show (k + 1).toNat = 0 by omega, List.take_zero]; rfl))
    · skip
      refine ez_go (n := 1) (pc' := 12) (L' := [(2, .inl (k)), (0, .inr (.inr (some (770)))), (1, .inl (n))]) (st' := [.inr (.inr (some (770)))]) rfl ?_
      refine ez_gR hB t770 rfl rfl tq_75 rfl rfl (fun (t2 : _ = 18) (t2' : 1 ≤ qz_I h 770 11) => ?_)
      rw [show qz_P h 770 11 = ls h from rfl] at *
      refine ez_go (n := 1) (pc' := 16) (L' := [(2, .inl (k)), (0, .inr (.inr (some (770)))), (1, .inl (n))]) (st' := [.inl (k), .inr (.inr (some ((ls h))))]) rfl ?_
      have n4 : 64 ≤ qz_N h ((ls h)) ∧ qz_N h ((ls h)) ≤ 4096 := ez_len hB t2 tq_18 rfl
      have y5 : 1 ≤ qz_I h ((ls h)) (k).toNat := (hI.at2 (k := k) (by omega) (by omega)).choose_spec.2.2.2
      have y6 : 0 ≤ qz_I h ((ls h)) (k).toNat ∧ qz_I h ((ls h)) (k).toNat ≤ 1000000 := ez_aB hB t2 tq_18 rfl rfl (by decide) (by omega) (by omega)
      have y6' : ((qz_P h ((ls h)) (k).toNat : Nat) : Int) + 1 = qz_I h ((ls h)) (k).toNat := by unfold qz_P; omega
      refine ez_aR hB t2 rfl tq_18 rfl rfl (by omega) (by omega) (by omega) (fun (t3 : _ = 13) => ?_)
      obtain ⟨c, hc, hq⟩ := hm.at (k := k) (by omega) (by omega)
      obtain ⟨tz, tz1, tz2⟩ := hI.L (i := k.toNat) (by omega)
      refine ez_go (n := 2) (pc' := 19) (L' := [(3, .inr (.inr (some (qz_P h ((ls h)) (k).toNat)))), (2, .inl (k)), (0, .inr (.inr (some (770)))), (1, .inl (n))]) (st' := [.inr (.inr (some (qz_P h ((ls h)) (k).toNat)))]) rfl ?_
      refine ez_gI hB t3 rfl rfl tq_13 rfl rfl (fun (b7 : 0 ≤ qz_I h (qz_P h ((ls h)) (k).toNat) 0) (b7' : qz_I h (qz_P h ((ls h)) (k).toNat) 0 ≤ 4) => ?_)
      refine ez_go (n := 1) (pc' := 23) (L' := [(3, .inr (.inr (some (qz_P h ((ls h)) (k).toNat)))), (2, .inl (k)), (0, .inr (.inr (some (770)))), (1, .inl (n))]) (st' := [.inl (4), .inl (qz_I h (qz_P h ((ls h)) (k).toNat) 0)]) rfl ?_
      refine ez_icmp rfl rfl ⟨by first | omega | exact (sz_i32 _).1, by first | omega | exact (sz_i32 _).2⟩ ⟨by first | omega | exact (sz_i32 _).1, by first | omega | exact (sz_i32 _).2⟩ (fun (c8 : (qz_I h (qz_P h ((ls h)) (k).toNat) 0) ≠ (4)) => ?_) (fun (c8 : ¬((qz_I h (qz_P h ((ls h)) (k).toNat) 0) ≠ (4))) => ?_)
      · skip
        refine ez_go (n := 2) (pc' := 7) (L' := [(2, .inl (k + (-1))), (3, .inr (.inr (some (qz_P h ((ls h)) (k).toNat)))), (0, .inr (.inr (some (770)))), (1, .inl (n))]) (st' := []) rfl ?_
        refine ez_less [(2, .inl (k + (-1))), (0, .inr (.inr (some (770)))), (1, .inl (n))] rfl ⟨rfl, rfl, rfl, trivial⟩ ?_
        have e7 : cLK Cs row = cLK (Cs.take k.toNat) row := by rw [hno, show (k + 1).toNat = k.toNat + 1 by omega, cLK_st hc, lk1_n (fun e he => by have w1 := (hq.2 _ he).1; omega)]
        refine ih (k + (-1)) (by omega) (by omega) (by omega) ?_
        rw [show (k + (-1) + 1).toNat = k.toNat by omega]; exact e7
      · skip
        refine ez_go (n := 1) (pc' := 27) (L' := [(3, .inr (.inr (some (qz_P h ((ls h)) (k).toNat)))), (2, .inl (k)), (0, .inr (.inr (some (770)))), (1, .inl (n))]) (st' := [.inr (.inr (some (qz_P h ((ls h)) (k).toNat)))]) rfl ?_
        refine ez_gR hB t3 rfl rfl tq_13 rfl rfl (fun (t9 : _ = 16) (t9' : 1 ≤ qz_I h (qz_P h ((ls h)) (k).toNat) 8) => ?_)
        rw [show qz_P h (qz_P h ((ls h)) (k).toNat) 8 = qz_P h (ls h) (k).toNat + 2 from (ez_l78 hB tz).2]
        refine ez_go (n := 1) (pc' := 31) (L' := [(3, .inr (.inr (some (qz_P h ((ls h)) (k).toNat)))), (2, .inl (k)), (0, .inr (.inr (some (770)))), (1, .inl (n))]) (st' := [.inl (0), .inr (.inr (some (qz_P h (ls h) (k).toNat + 2)))]) rfl ?_
        have n11 : 3 ≤ qz_N h (qz_P h (ls h) (k).toNat + 2) ∧ qz_N h (qz_P h (ls h) (k).toNat + 2) ≤ 3 := ez_len hB tz2 tq_16 rfl
        refine ez_aI hB tz2 rfl tq_16 rfl rfl (by omega) (by omega) (fun (b10 : 0 ≤ qz_I h (qz_P h (ls h) (k).toNat + 2) (0 : Int).toNat) (b10' : qz_I h (qz_P h (ls h) (k).toNat + 2) (0 : Int).toNat ≤ 18) => ?_)
        have e00 : qz_I h (qz_P h (ls h) (k).toNat + 2) (0 : Int).toNat = qz_I h (qz_P h (ls h) (k).toNat + 2) 0 := rfl
        rw [show qz_I h (qz_P h (ls h) (k).toNat + 2) (0 : Int).toNat = qz_I h (qz_P h (ls h) (k).toNat + 2) 0 from rfl]
        refine ez_go (n := 1) (pc' := 33) (L' := [(3, .inr (.inr (some (qz_P h ((ls h)) (k).toNat)))), (2, .inl (k)), (0, .inr (.inr (some (770)))), (1, .inl (n))]) (st' := [.inl (n), .inl (qz_I h (qz_P h (ls h) (k).toNat + 2) 0)]) rfl ?_
        refine ez_icmp rfl rfl ⟨by first | omega | exact (sz_i32 _).1, by first | omega | exact (sz_i32 _).2⟩ ⟨by first | omega | exact (sz_i32 _).1, by first | omega | exact (sz_i32 _).2⟩ (fun (c12 : (qz_I h (qz_P h (ls h) (k).toNat + 2) 0) = (n)) => ?_) (fun (c12 : ¬((qz_I h (qz_P h (ls h) (k).toNat + 2) 0) = (n))) => ?_)
        · skip
          refine ez_go (n := 4) (pc' := 45) (L' := [(5, .inl (0)), (4, .inl (1)), (3, .inr (.inr (some (qz_P h ((ls h)) (k).toNat)))), (2, .inl (k)), (0, .inr (.inr (some (770)))), (1, .inl (n))]) (st' := []) rfl ?_
          obtain ⟨a, ha⟩ : ∃ a, c = some a := by
            cases hc9 : c with
            | none => exact absurd (show qz_I h (qz_P h (ls h) (k).toNat) 0 = 4 by omega) (hq.1 hc9)
            | some a => exact ⟨a, rfl⟩
          obtain ⟨q1, q2, q3, -⟩ := hq.2 a ha
          have q21 : qz_I h (qz_P h (ls h) (k).toNat + 2) 0 = (a.1.length : Int) := q2.1
          refine ez_less [(5, .inl (0)), (4, .inl (1)), (3, .inr (.inr (some (qz_P h ((ls h)) (k).toNat)))), (2, .inl (k)), (1, .inl (n)), (0, .inr (.inr (some (770))))] rfl ⟨rfl, rfl, rfl, rfl, rfl, rfl, trivial⟩ ?_
          refine rd_mlf_i hI tz tz1 tz2 q2 q3.2 pw (by omega) l3 hn9 sr (fun s s0 s1 => ?_) _ 0 1 rfl (by omega) (by omega) (Or.inr rfl) ⟨fun _ => by rw [show (0 : Int).toNat = 0 from rfl, List.take_zero, List.take_zero], fun _ => rfl⟩
          refine ez_go (n := 1) (pc' := 86) (L' := [(4, .inl (s)), (3, .inr (.inr (some (qz_P h ((ls h)) (k).toNat)))), (2, .inl (k)), (1, .inl (n)), (0, .inr (.inr (some (770))))]) (st' := [.inl (s)]) rfl ?_
          refine ez_if rfl rfl ⟨by first | omega | exact (sz_i32 _).1, by first | omega | exact (sz_i32 _).2⟩ (fun (c13 : (s) = (0)) => ?_) (fun (c13 : ¬((s) = (0))) => ?_)
          · skip
            refine ez_go (n := 2) (pc' := 7) (L' := [(2, .inl (k + (-1))), (4, .inl (s)), (3, .inr (.inr (some (qz_P h ((ls h)) (k).toNat)))), (1, .inl (n)), (0, .inr (.inr (some (770))))]) (st' := []) rfl ?_
            refine ez_less [(2, .inl (k + (-1))), (0, .inr (.inr (some (770)))), (1, .inl (n))] rfl ⟨rfl, rfl, rfl, trivial⟩ ?_
            have e7 : cLK Cs row = cLK (Cs.take k.toNat) row := by rw [hno, show (k + 1).toNat = k.toNat + 1 by omega, cLK_st hc, lk1_n (fun e he => by rw [ha] at he; cases he; have := s1.mpr rfl; omega)]
            refine ih (k + (-1)) (by omega) (by omega) (by omega) ?_
            rw [show (k + (-1) + 1).toNat = k.toNat by omega]; exact e7
          · skip
            refine ez_go (n := 1) (pc' := 90) (L' := [(4, .inl (s)), (3, .inr (.inr (some (qz_P h ((ls h)) (k).toNat)))), (2, .inl (k)), (1, .inl (n)), (0, .inr (.inr (some (770))))]) (st' := [.inr (.inr (some (qz_P h ((ls h)) (k).toNat)))]) rfl ?_
            exact ez_retA rfl rfl rfl (kS _ a.2 (by rw [hno, show (k + 1).toNat = k.toNat + 1 by omega, cLK_st hc, ha, show a = (row, a.2) from Prod.ext (s1.mp (by omega)) rfl]; exact lk1_y) ⟨tz, tz1, tz2⟩ (by rw [ha, show a = (row, a.2) from Prod.ext (s1.mp (by omega)) rfl] at hq; exact hq))
        · skip
          refine ez_go (n := 3) (pc' := 7) (L' := [(2, .inl (k + (-1))), (3, .inr (.inr (some (qz_P h ((ls h)) (k).toNat)))), (0, .inr (.inr (some (770)))), (1, .inl (n))]) (st' := []) rfl ?_
          refine ez_less [(2, .inl (k + (-1))), (0, .inr (.inr (some (770)))), (1, .inl (n))] rfl ⟨rfl, rfl, rfl, trivial⟩ ?_
          have e7 : cLK Cs row = cLK (Cs.take k.toNat) row := by rw [hno, show (k + 1).toNat = k.toNat + 1 by omega, cLK_st hc, lk1_n (fun e he => by have w1 := (hq.2 _ he).1; have w : qz_I h (qz_P h (ls h) (k).toNat + 2) 0 = (row.length : Int) := (hq.2 _ he).2.1.1; omega)]
          refine ih (k + (-1)) (by omega) (by omega) (by omega) ?_
          rw [show (k + (-1) + 1).toNat = k.toNat by omega]; exact e7

theorem rd_mlf {n : Int} (hI : mI τ h Ls b) (hm : mC h Cs) (pw : ptl row) (l3 : row.length ≤ 3) (hn9 : n = (row.length : Int)) (sr : str h row) (kN : cLK Cs row = none → Q (.inl (some (.inr (.inr none))), h)) (kS : ∀ z e, cLK Cs row = some e → (τ z = 13 ∧ τ (z + 1) = 15 ∧ τ (z + 2) = 16) → mCl h z (some (row, e)) → Q (.inl (some (.inr (.inr (some z)))), h)) : ez_W d cm_277 0 [(0, .inr (.inr (some (770)))), (1, .inl (n))] [] h Q := by
  have hB := hI.1
  have t770 : τ 770 = 75 := hI.2.1 770 (by decide)
  have b12 : 0 ≤ qz_I h 770 12 ∧ qz_I h 770 12 ≤ 512 := ez_fB (cl := 11) (k := 12) hB t770 tq_75 rfl rfl (by decide)
  have lce : lc h = qz_I h 770 12 := rfl
  have nls : lc h ≤ qz_N h (ls h) := hI.2.2.1.1.1
  refine ez_go (n := 1) (pc' := 1) (L' := [(0, .inr (.inr (some (770)))), (1, .inl (n))]) (st' := [.inr (.inr (some (770)))]) rfl ?_
  refine ez_gI hB t770 rfl rfl tq_75 rfl rfl (fun (b1 : 0 ≤ qz_I h 770 12) (b1' : qz_I h 770 12 ≤ 512) => ?_)
  refine ez_go (n := 3) (pc' := 7) (L' := [(2, .inl ((qz_I h 770 12) - (1))), (0, .inr (.inr (some (770)))), (1, .inl (n))]) (st' := []) rfl ?_
  refine ez_less [(2, .inl ((qz_I h 770 12) - (1))), (0, .inr (.inr (some (770)))), (1, .inl (n))] rfl ⟨rfl, rfl, rfl, trivial⟩ ?_
  exact rd_mlf_l hI hm pw l3 hn9 sr kN kS _ (lc h - 1) rfl (by omega) (by omega) (by rw [List.take_of_length_le (by have := hm.1; omega)])

end EzLf

/-! COLLATION: what the model's elements and keys leave as it was. -/
/-- the arrays that grow -/
def zz (h : cz_H) : Int := qz_N h (sk h) + qz_N h (gel h) + qz_N h (gfo h) + qz_N h (got h) + qz_N h (gke h)
def kcT (t : Nat) : Bool := Nat.beq t 21 || Nat.beq t 23 || Nat.beq t 24 || Nat.beq t 25
def kcS (t : Nat) : Bool := kcT t || Nat.beq t 83 || Nat.beq t 85 || Nat.beq t 87
def kcJ (j : Nat) : Bool := Nat.beq j 24 || Nat.beq j 25 || Nat.beq j 30 || Nat.beq j 35 || Nat.beq j 36 || Nat.beq j 38 || Nat.beq j 39 || Nat.beq j 40 || Nat.beq j 41
def nc (τ : Nat → Nat) (h : cz_H) (τ1 : Nat → Nat) (g : cz_H) : Prop :=
  (∀ q, τ q ≠ 0 → τ1 q = τ q ∧ (q ≠ 770 → q ≠ 794 → kcS (τ q) = false → g.2.2 q = h.2.2 q)) ∧ (∀ q, τ q = 0 → τ1 q ≠ 0 → kcT (τ1 q) = true) ∧
  (∀ j, kcJ j = false → qz_I g 770 j = qz_I h 770 j) ∧ ((g.2.1 : Int) - 2 * zz g ≤ (h.2.1 : Int) - 2 * zz h ∧ 64 * (g.1 : Int) - zz g ≤ 64 * (h.1 : Int) - zz h) ∧ (h.1 ≤ g.1 ∧ h.2.1 ≤ g.2.1) ∧ (qz_I h 770 25 ≤ qz_N h (sk h) → qz_I g 770 25 ≤ qz_N g (sk g)) ∧ (4 * qz_I h 770 36 ≤ qz_N h (gel h) → 4 * qz_I g 770 36 ≤ qz_N g (gel g))
theorem nc.refl (τ : Nat → Nat) (h : cz_H) : nc τ h τ h := ⟨fun q _ => ⟨rfl, fun _ _ _ => rfl⟩, fun q h1 h2 => absurd h1 h2, fun _ _ => rfl, ⟨Int.le_refl _, Int.le_refl _⟩, ⟨Nat.le_refl _, Nat.le_refl _⟩, id, id⟩
theorem nc.trans {τ τ1 τ2 : Nat → Nat} {h g k : cz_H} (a : nc τ h τ1 g) (b : nc τ1 g τ2 k) : nc τ h τ2 k := by
  obtain ⟨a1, a2, a3, a4, a5, a6, a7⟩ := a
  obtain ⟨b1, b2, b3, b4, b5, b6, b7⟩ := b
  refine ⟨fun q hq => ?_, fun q q0 q1 => ?_, fun j j1 => (b3 j j1).trans (a3 j j1), by omega, by omega, fun w => b6 (a6 w), fun w => b7 (a7 w)⟩
  · have y1 := a1 q hq
    have y2 := b1 q (by rw [y1.1]; exact hq)
    exact ⟨y2.1.trans y1.1, fun q1 q2 q3 => (y2.2 q1 q2 (by rw [y1.1]; exact q3)).trans (y1.2 q1 q2 q3)⟩
  · by_cases e : τ1 q = 0
    · exact b2 q e q1
    · rw [(b1 q e).1]; exact a2 q q0 e
theorem nc.X {τ τ1 : Nat → Nat} {h g : cz_H} (a : nc τ h τ1 g) (hX : jz_X τ) : jz_X τ1 := fun r hr => ((a.1 r (by rw [hX r hr]; exact hr)).1).trans (hX r hr)
theorem nc.C {τ τ1 : Nat → Nat} {h g : cz_H} (a : nc τ h τ1 g) (hX : jz_X τ) {q t : Nat} (e : τ q = t) (w : (!(Nat.beq t 0) && !(Nat.beq t 75) && !(Nat.beq t 82) && !(kcS t)) = true) : g.2.2 q = h.2.2 q := by
  simp only [Bool.and_eq_true, Bool.not_eq_true'] at w
  obtain ⟨⟨⟨w1, w2⟩, w3⟩, w4⟩ := w
  subst e
  exact (a.1 q (fun e => by rw [e] at w1; cases w1)).2 (fun e => by rw [e, hX 770 (by decide)] at w2; cases w2) (fun e => by rw [e, hX 794 (by decide)] at w3; cases w3) w4
theorem nc.I {τ τ1 : Nat → Nat} {h g : cz_H} (a : nc τ h τ1 g) (hX : jz_X τ) {q t : Nat} (e : τ q = t) (w : (!(Nat.beq t 0) && !(Nat.beq t 75) && !(Nat.beq t 82) && !(kcS t)) = true) (j : Nat) : qz_I g q j = qz_I h q j := by unfold qz_I; rw [a.C hX e w]
theorem kcT_cs {t : Nat} (h : kcT t = true) : t = 21 ∨ t = 23 ∨ t = 24 ∨ t = 25 := by
  unfold kcT at h
  rcases Bool.or_eq_true_iff.mp h with h | h
  · rcases Bool.or_eq_true_iff.mp h with h | h
    · rcases Bool.or_eq_true_iff.mp h with h | h
      · exact Or.inl (Nat.eq_of_beq_eq_true h)
      · exact Or.inr (Or.inl (Nat.eq_of_beq_eq_true h))
    · exact Or.inr (Or.inr (Or.inl (Nat.eq_of_beq_eq_true h)))
  · exact Or.inr (Or.inr (Or.inr (Nat.eq_of_beq_eq_true h)))
theorem nc.mIx {τ τ1 : Nat → Nat} {h g : cz_H} {Ls : List vz} {b : Int} (a : nc τ h τ1 g) (hI : mI τ h Ls b) (hB : ez_B τ1 g) : mI τ1 g Ls b :=
  hI.gen hB (fun q hq => (a.1 q hq).1) (fun q q0 => by
    by_cases w : τ1 q = 0
    · rw [w]; decide
    · rcases kcT_cs (a.2.1 q q0 w) with e | e | e | e <;> (rw [e]; decide)) (fun q hq => by
    have ts : τ q = 13 ∨ τ q = 14 ∨ τ q = 15 ∨ τ q = 16 ∨ τ q = 17 ∨ τ q = 18 ∨ τ q = 26 ∨ τ q = 27 ∨ τ q = 28 := by omega
    rcases ts with e | e | e | e | e | e | e | e | e <;> exact a.C hI.2.1 e (by decide)) (fun j j1 j2 => by
    have ts : j = 8 ∨ j = 9 ∨ j = 10 ∨ j = 11 ∨ j = 12 := by omega
    rcases ts with e | e | e | e | e <;> (subst e; exact a.2.2.1 _ (by decide)))
theorem nc.eDx {τ τ1 : Nat → Nat} {h g : cz_H} {F : rz_W} (a : nc τ h τ1 g) (e : eD τ h F) (hX : jz_X τ) (hB : ez_B τ1 g) : eD τ1 g F :=
  e.tr hB (fun q hq => (a.1 q hq).1) (fun q q0 w => by have := kcT_cs (a.2.1 q q0 (by rw [w]; decide)); omega) (fun j hj => by rcases hj with e | e | e | e | e <;> (subst e; exact a.2.2.1 _ (by decide))) (fun q hq => by
    have ts : τ q = 13 ∨ τ q = 14 ∨ τ q = 15 ∨ τ q = 16 ∨ τ q = 17 ∨ τ q = 19 ∨ τ q = 20 := by omega
    rcases ts with e | e | e | e | e | e | e <;> exact a.C hX e (by decide))
theorem nc.pQx {τ τ1 : Nat → Nat} {h g : cz_H} {F : rz_W} {E : Int → Prop} (a : nc τ h τ1 g) (p : pQ h F E) (hB : ez_B τ h) (hX : jz_X τ) : pQ g F E := by
  have t770 : τ 770 = 75 := hX 770 (by decide)
  have tp := ez_tpq hB t770
  have td := ez_tdb hB t770
  exact p.tr (fun j hj => by rcases hj with e | e | e | e <;> (subst e; exact a.2.2.1 _ (by decide))) (a.C hX tp (by decide)) (a.C hX td.1 (by decide))
theorem nc.mClx {τ τ1 : Nat → Nat} {h g : cz_H} {z : Nat} {c : cEo} (a : nc τ h τ1 g) (hB : ez_B τ h) (hX : jz_X τ) (tz : τ z = 13) (t1 : τ (z + 1) = 15) (t2 : τ (z + 2) = 16) (m : mCl h z c) : mCl g z c := by
  have tp := (ez_tls hB (hX 770 (by decide))).2
  have e9 : po g = po h := by unfold po qz_P; rw [a.2.2.1 9 (by decide)]
  have en : pn g = pn h := a.2.2.1 10 (by decide)
  exact m.tr (a.I hX tz (by decide) 0) (a.I hX t1 (by decide)) (a.I hX t2 (by decide)) (Int.le_of_eq en.symm) (fun j _ _ => by unfold pl; rw [e9]; exact a.I hX tp (by decide) _)
theorem nc.mCx {τ τ1 : Nat → Nat} {h g : cz_H} {Ls : List vz} {b : Int} {Cs : List cEo} (a : nc τ h τ1 g) (hI : mI τ h Ls b) (m : mC h Cs) : mC g Cs := by
  have hB := hI.1
  have hX := hI.2.1
  have tl := (ez_tls hB (hX 770 (by decide))).1
  have e11 : ls g = ls h := by unfold ls qz_P; rw [a.2.2.1 11 (by decide)]
  have e12 : lc g = lc h := a.2.2.1 12 (by decide)
  refine ⟨m.1.trans e12.symm, fun k c hk => ?_⟩
  have hl : (k : Int) < lc h := by have := (List.getElem?_eq_some_iff.mp hk).1; have := m.1; omega
  obtain ⟨t0, t1, t2⟩ := hI.L hl
  rw [e11, show qz_P g (ls h) k = qz_P h (ls h) k by unfold qz_P; rw [a.I hX tl (by decide)]]
  exact a.mClx hB hX t0 t1 t2 (m.2 k c hk)
/-- room for what is still to come -/
def rmc (h : cz_H) : Prop := (h.2.1 : Int) - 2 * zz h ≤ 3000000 ∧ 64 * (h.1 : Int) - zz h ≤ 30000000
theorem nc.rm {τ τ1 : Nat → Nat} {h g : cz_H} (a : nc τ h τ1 g) (r : rmc h) : rmc g := ⟨Int.le_trans a.2.2.2.1.1 r.1, Int.le_trans a.2.2.2.1.2 r.2⟩
theorem rmc_rd {τ : Nat → Nat} {h : cz_H} (hB : ez_B τ h) (hX : jz_X τ) (r : rmc h) : h.1 + 1000 ≤ 600192 ∧ h.2.1 + 700000 ≤ 7302232 := by
  obtain ⟨-, t1, t2, t3, t4, t5⟩ := ez_tg5 hB (hX 770 (by decide))
  have n1 : 64 ≤ qz_N h (sk h) ∧ qz_N h (sk h) ≤ 18700 := ez_len hB t1 tq_21 rfl
  have n2 : 1024 ≤ qz_N h (gel h) ∧ qz_N h (gel h) ≤ 300000 := ez_len hB t2 tq_23 rfl
  have n3 : 1024 ≤ qz_N h (gfo h) ∧ qz_N h (gfo h) ≤ 200000 := ez_len hB t3 tq_24 rfl
  have n4 : 1024 ≤ qz_N h (got h) ∧ qz_N h (got h) ≤ 600100 := ez_len hB t4 tq_25 rfl
  have n5 : 1024 ≤ qz_N h (gke h) ∧ qz_N h (gke h) ≤ 600100 := ez_len hB t5 tq_25 rfl
  obtain ⟨r1, r2⟩ := r
  unfold zz at r1 r2
  omega
/-- what a text's normal form leaves -/
theorem nc.ofk {τ τ1 : Nat → Nat} {h g : cz_H} (hB : ez_B τ h) (hX : jz_X τ) (a : nk τ h τ1 g) : nc τ h τ1 g := by
  obtain ⟨-, t1, t2, t3, t4, t5⟩ := ez_tg5 hB (hX 770 (by decide))
  have eq : ∀ {q t : Nat}, τ q = t → (!(Nat.beq t 0) && !(Nat.beq t 75) && !(Nat.beq t 82) && !(Nat.beq t 83) && !(Nat.beq t 85) && !(Nat.beq t 21)) = true → qz_N g q = qz_N h q := fun {q t} e w => by
    simp only [Bool.and_eq_true, Bool.not_eq_true'] at w
    obtain ⟨⟨⟨⟨⟨w1, w2⟩, w3⟩, w4⟩, w5⟩, w6⟩ := w
    subst e
    unfold qz_N
    rw [a.C hX (fun e => by rw [e] at w1; cases w1) (fun e => by rw [e] at w2; cases w2) (fun e => by rw [e] at w3; cases w3) (fun e => by rw [e] at w4; cases w4) (fun e => by rw [e] at w5; cases w5) (fun e => by rw [e] at w6; cases w6)]
  have e1 : gel g = gel h := by unfold gel qz_P; rw [a.2.2.1 35 (by decide) (by decide) (by decide)]
  have e2 : gfo g = gfo h := by unfold gfo qz_P; rw [a.2.2.1 38 (by decide) (by decide) (by decide)]
  have e3 : got g = got h := by unfold got qz_P; rw [a.2.2.1 39 (by decide) (by decide) (by decide)]
  have e4 : gke g = gke h := by unfold gke qz_P; rw [a.2.2.1 40 (by decide) (by decide) (by decide)]
  have ez : zz g - zz h = qz_N g (sk g) - qz_N h (sk h) := by
    unfold zz; rw [e1, e2, e3, e4, eq t2 (by decide), eq t3 (by decide), eq t4 (by decide), eq t5 (by decide)]; omega
  obtain ⟨a1, a2, a3, a4, a5, a6, a7⟩ := a
  refine ⟨fun q hq => ⟨(a1 q hq).1, fun q1 q2 q3 => (a1 q hq).2 q1 q2 (fun e => by rw [e] at q3; cases q3) (fun e => by rw [e] at q3; cases q3) (fun e => by rw [e] at q3; cases q3)⟩, fun q q0 q1 => by rw [a2 q q0 q1]; rfl, fun j hj => a3 j (fun e => by rw [e] at hj; cases hj) (fun e => by rw [e] at hj; cases hj) (fun e => by rw [e] at hj; cases hj), by omega, a6, a7, fun w => ?_⟩
  rw [a3 36 (by decide) (by decide) (by decide), e1, eq t2 (by decide)]; exact w

/-! COLLATION: the model's elements: steps that leave all else. -/
theorem nc.of4 {τ τ1 : Nat → Nat} {h g : cz_H} {L : List eL} (hB : ez_B τ h) (hX : jz_X τ) (a : ne4 τ h τ1 g) (em : emt g L) : nc τ h τ1 g := by
  have t770 : τ 770 = 75 := hX 770 (by decide)
  obtain ⟨-, t1, t2, t3, t4, t5⟩ := ez_tg5 hB t770
  obtain ⟨a1, a2, a3, a4, a5, a6, a7⟩ := a
  have eq : ∀ {q t : Nat}, τ q = t → (!(Nat.beq t 0) && !(Nat.beq t 75) && !(Nat.beq t 23)) = true → qz_N g q = qz_N h q := fun {q t} e w => by
    simp only [Bool.and_eq_true, Bool.not_eq_true'] at w
    obtain ⟨⟨w1, w2⟩, w3⟩ := w
    subst e
    unfold qz_N
    rw [(a1 q (fun e => by rw [e] at w1; exact absurd w1 (by decide))).2 (fun e => by rw [e, t770] at w2; exact absurd w2 (by decide)) (fun e => by rw [e, t2] at w3; exact absurd w3 (by decide))]
  have e0 : sk g = sk h := by unfold sk qz_P; rw [a4 24 (by decide) (by decide)]
  have e2 : gfo g = gfo h := by unfold gfo qz_P; rw [a4 38 (by decide) (by decide)]
  have e3 : got g = got h := by unfold got qz_P; rw [a4 39 (by decide) (by decide)]
  have e4 : gke g = gke h := by unfold gke qz_P; rw [a4 40 (by decide) (by decide)]
  have ez : zz g - zz h = qz_N g (gel g) - qz_N h (gel h) := by
    unfold zz; rw [e0, e2, e3, e4, eq t1 (by decide), eq t3 (by decide), eq t4 (by decide), eq t5 (by decide)]; omega
  refine ⟨fun q hq => ⟨(a1 q hq).1, fun q1 _ q3 => (a1 q hq).2 q1 (fun e => by rw [e, t2] at q3; exact absurd q3 (by decide))⟩, fun q q0 q1 => by rw [a2 q q0 q1]; rfl, fun j hj => a4 j (fun e => by rw [e] at hj; exact absurd hj (by decide)) (fun e => by rw [e] at hj; exact absurd hj (by decide)), by omega, a7, fun w => ?_, fun _ => by rw [em.1.1]; exact em.1.2⟩
  rw [a4 25 (by decide) (by decide), e0, eq t1 (by decide)]; exact w
theorem nc.frN {τ : Nat → Nat} {h g : cz_H} {P : Nat → Bool} (hB : ez_B τ h) (hX : jz_X τ) (f : ez_fr P h g) (hP : ∀ q, P q = true → q = 770 ∨ kcS (τ q) = true) (hN : ∀ q, kcT (τ q) = true → qz_N g q = qz_N h q) (i7 : ∀ j, j ≠ 30 → j ≠ 36 → j ≠ 41 → qz_I g 770 j = qz_I h 770 j) (z36 : qz_I g 770 36 = qz_I h 770 36 ∨ qz_I g 770 36 = 0) : nc τ h τ g := by
  obtain ⟨-, t1, t2, t3, t4, t5⟩ := ez_tg5 hB (hX 770 (by decide))
  have e0 : sk g = sk h := by unfold sk qz_P; rw [i7 24 (by decide) (by decide) (by decide)]
  have e1 : gel g = gel h := by unfold gel qz_P; rw [i7 35 (by decide) (by decide) (by decide)]
  have e2 : gfo g = gfo h := by unfold gfo qz_P; rw [i7 38 (by decide) (by decide) (by decide)]
  have e3 : got g = got h := by unfold got qz_P; rw [i7 39 (by decide) (by decide) (by decide)]
  have e4 : gke g = gke h := by unfold gke qz_P; rw [i7 40 (by decide) (by decide) (by decide)]
  have ez : zz g = zz h := by
    unfold zz; rw [e0, e1, e2, e3, e4, hN (sk h) (by rw [t1]; rfl), hN (gel h) (by rw [t2]; rfl), hN (gfo h) (by rw [t3]; rfl), hN (got h) (by rw [t4]; rfl), hN (gke h) (by rw [t5]; rfl)]
  refine ⟨fun q _ => ⟨rfl, fun q1 _ q3 => f.2.2 q ?_⟩, fun q h1 h2 => absurd h1 h2, fun j hj => i7 j (fun e => by rw [e] at hj; exact absurd hj (by decide)) (fun e => by rw [e] at hj; exact absurd hj (by decide)) (fun e => by rw [e] at hj; exact absurd hj (by decide)), by rw [ez, f.1, f.2.1]; omega, ⟨by rw [f.1]; exact Nat.le_refl _, by rw [f.2.1]; exact Nat.le_refl _⟩, fun w => ?_, fun w => ?_⟩
  · cases e : P q with
    | false => rfl
    | true =>
      rcases hP q e with w | w
      · exact absurd w q1
      · rw [w] at q3; cases q3
  · rw [i7 25 (by decide) (by decide) (by decide), e0, hN (sk h) (by rw [t1]; rfl)]; exact w
  · rw [e1, hN (gel h) (by rw [t2]; rfl)]
    have n2 : 1024 ≤ qz_N h (gel h) ∧ qz_N h (gel h) ≤ 300000 := ez_len hB t2 tq_23 rfl
    rcases z36 with e | e
    · rw [e]; exact w
    · rw [e]; omega
theorem nc.fr {τ : Nat → Nat} {h g : cz_H} {P : Nat → Bool} (hB : ez_B τ h) (hX : jz_X τ) (f : ez_fr P h g) (hP : ∀ q, P q = true → q = 770 ∨ q = 796 ∨ q = 801) (i7 : ∀ j, j ≠ 30 → j ≠ 36 → j ≠ 41 → qz_I g 770 j = qz_I h 770 j) (z36 : qz_I g 770 36 = qz_I h 770 36 ∨ qz_I g 770 36 = 0) : nc τ h τ g := by
  refine nc.frN hB hX f (fun q hq => ?_) (fun q hq => f.N ?_) i7 z36
  · rcases hP q hq with e | e | e
    · exact Or.inl e
    · exact Or.inr (by rw [e, hX 796 (by decide)]; rfl)
    · exact Or.inr (by rw [e, hX 801 (by decide)]; rfl)
  · cases e : P q with
    | false => rfl
    | true =>
      exfalso
      rcases hP q e with w | w | w
      · rw [w, hX 770 (by decide)] at hq; exact absurd hq (by decide)
      · rw [w, hX 796 (by decide)] at hq; exact absurd hq (by decide)
      · rw [w, hX 801 (by decide)] at hq; exact absurd hq (by decide)
/-- elements alone -/
def n23 (τ : Nat → Nat) (h : cz_H) (τ1 : Nat → Nat) (g : cz_H) : Prop := nc τ h τ1 g ∧ (∀ q, τ q ≠ 0 → q ≠ 770 → τ q ≠ 23 → g.2.2 q = h.2.2 q) ∧ (∀ j, j ≠ 35 → j ≠ 36 → qz_I g 770 j = qz_I h 770 j)
theorem n23.refl (τ : Nat → Nat) (h : cz_H) : n23 τ h τ h := ⟨nc.refl τ h, fun _ _ _ _ => rfl, fun _ _ _ => rfl⟩
theorem n23.trans {τ τ1 τ2 : Nat → Nat} {h g k : cz_H} (a : n23 τ h τ1 g) (b : n23 τ1 g τ2 k) : n23 τ h τ2 k :=
  ⟨a.1.trans b.1, fun q q0 q1 q2 => by have e := (a.1.1 q q0).1; exact (b.2.1 q (by rw [e]; exact q0) q1 (by rw [e]; exact q2)).trans (a.2.1 q q0 q1 q2), fun j j1 j2 => (b.2.2 j j1 j2).trans (a.2.2 j j1 j2)⟩
theorem n23.of4 {τ τ1 : Nat → Nat} {h g : cz_H} {L : List eL} (hB : ez_B τ h) (hX : jz_X τ) (a : ne4 τ h τ1 g) (em : emt g L) : n23 τ h τ1 g :=
  ⟨nc.of4 hB hX a em, fun q q0 q1 q2 => (a.1 q q0).2 q1 (fun e => q2 (by rw [e]; exact ez_tel hB (hX 770 (by decide)))), a.2.2.2.1⟩
theorem n23.tm {τ τ1 : Nat → Nat} {h g : cz_H} {l : List Int} (a : n23 τ h τ1 g) (hX : jz_X τ) (m : tm h l) : tm g l :=
  ⟨(a.2.2 30 (by decide) (by decide)).trans m.1, fun j v hv => by
    have e := a.2.1 796 (by rw [hX 796 (by decide)]; decide) (by decide) (by rw [hX 796 (by decide)]; decide)
    have := m.2 j v hv
    unfold qz_I at this ⊢; rw [e]; exact this⟩
theorem emt.k {h g : cz_H} {L : List eL} (em : emt h L) (e36 : qz_I g 770 36 = qz_I h 770 36) (ee : qz_I g 770 35 = qz_I h 770 35) (ec : g.2.2 (gel h) = h.2.2 (gel h)) : emt g L := by
  obtain ⟨⟨a, b⟩, c⟩ := em
  have e : gel g = gel h := by unfold gel qz_P; rw [ee]
  have n : qz_N g (gel h) = qz_N h (gel h) := by unfold qz_N; rw [ec]
  have i : ∀ j, qz_I g (gel h) j = qz_I h (gel h) j := fun j => by unfold qz_I; rw [ec]
  exact ⟨⟨e36.trans a, by rw [e, n]; exact b⟩, fun j x hj => by rw [e, i, i, i, i]; exact c j x hj⟩
theorem emt.f {τ : Nat → Nat} {h g : cz_H} {L : List eL} {P : Nat → Bool} (em : emt h L) (hB : ez_B τ h) (hX : jz_X τ) (f : ez_fr P h g) (hP : ∀ q, P q = true → q = 770 ∨ q = 796 ∨ q = 801) (i7 : ∀ j, j ≠ 30 → qz_I g 770 j = qz_I h 770 j) : emt g L := by
  have t := ez_tel hB (hX 770 (by decide))
  refine em.k (i7 36 (by decide)) (i7 35 (by decide)) (f.2.2 _ ?_)
  cases e : P (gel h) with
  | false => rfl
  | true =>
    exfalso
    rcases hP _ e with w | w | w
    · rw [w, hX 770 (by decide)] at t; cases t
    · rw [w, hX 796 (by decide)] at t; cases t
    · rw [w, hX 801 (by decide)] at t; cases t
theorem nmC.c {τ τ1 : Nat → Nat} {h g : cz_H} {Ls : List vz} (c : nmC τ h Ls) (a : nc τ h τ1 g) (hB : ez_B τ1 g) : nmC τ1 g Ls := ⟨a.mIx c.1 hB, a.eDx c.2.1 c.1.2.1 hB, a.pQx c.2.2.1 c.1.1 c.1.2.1, c.2.2.2.1, c.2.2.2.2.1, c.2.2.2.2.2⟩
/-- the longest of at most so many -/
def lonU (LK : List Int → Option (List eL)) (l : List Int) : Nat → Option (Nat × List eL)
  | 0 => none
  | n + 1 => lon1 LK l (n + 1) (lonU LK l n)
theorem lonU_3 {LK : List Int → Option (List eL)} {l : List Int} : lonU LK l 3 = lon LK l := rfl
theorem lonU_st {LK : List Int → Option (List eL)} {l : List Int} {n : Nat} (hn : l.length ≤ n) : lonU LK l (n + 1) = lonU LK l n := lon1_n (Or.inl (by omega))
theorem lonU_z {LK : List Int → Option (List eL)} {l : List Int} {n : Nat} (hn : l.length ≤ n) (h3 : n ≤ 3) : lonU LK l n = lon LK l := by
  rw [← lonU_3]
  have : n = 0 ∨ n = 1 ∨ n = 2 ∨ n = 3 := by omega
  rcases this with e | e | e | e
  · subst e; rw [lonU_st (n := 2) (by omega), lonU_st (n := 1) (by omega), lonU_st (n := 0) (by omega)]
  · subst e; rw [lonU_st (n := 2) (by omega), lonU_st (n := 1) (by omega)]
  · subst e; rw [lonU_st (n := 2) (by omega)]
  · subst e; rfl
/-- the best LINE so far -/
def bst (τ : Nat → Nat) (h : cz_H) (l : List Int) (r : Option (Nat × List eL)) (o : Option Nat) (n : Int) : Prop := (r = none → o = none ∧ n = 0) ∧ ∀ m e, r = some (m, e) → n = (m : Int) ∧ ∃ z, o = some z ∧ (τ z = 13 ∧ τ (z + 1) = 15 ∧ τ (z + 2) = 16) ∧ mCl h z (some (l.take m, e))
theorem tg3k {τ τ1 : Nat → Nat} {h g : cz_H} (a : nc τ h τ1 g) {z : Nat} (t : τ z = 13 ∧ τ (z + 1) = 15 ∧ τ (z + 2) = 16) : τ1 z = 13 ∧ τ1 (z + 1) = 15 ∧ τ1 (z + 2) = 16 :=
  ⟨(a.1 z (by rw [t.1]; decide)).1.trans t.1, (a.1 (z + 1) (by rw [t.2.1]; decide)).1.trans t.2.1, (a.1 (z + 2) (by rw [t.2.2]; decide)).1.trans t.2.2⟩
theorem bst.k {τ τ1 : Nat → Nat} {h g : cz_H} {l : List Int} {r : Option (Nat × List eL)} {o : Option Nat} {n : Int} (x : bst τ h l r o n) (a : nc τ h τ1 g) (hB : ez_B τ h) (hX : jz_X τ) : bst τ1 g l r o n :=
  ⟨x.1, fun m e hr => by
    obtain ⟨y1, z, y2, y3, y4⟩ := x.2 m e hr
    exact ⟨y1, z, y2, tg3k a y3, a.mClx hB hX y3.1 y3.2.1 y3.2.2 y4⟩⟩
theorem str_take {h : cz_H} {l : List Int} {n : Nat} {x : Int} (s : str h (l.take n)) (hx : l[n]? = some x) (v : qz_I h 801 n = x) : str h (l.take (n + 1)) := fun j w hj => by
  rw [List.getElem?_take] at hj
  by_cases e : j < n + 1
  · rw [if_pos e] at hj
    by_cases e2 : j = n
    · subst e2; rw [hx] at hj; cases hj; exact v
    · exact s j w (by rw [List.getElem?_take, if_pos (by omega)]; exact hj)
  · rw [if_neg e] at hj; cases hj
theorem str_app {h : cz_H} {l : List Int} {x : Int} (s : str h l) (v : qz_I h 801 l.length = x) : str h (l ++ [x]) := fun j w hj => by
  by_cases e : j < l.length
  · exact s j w (by rw [List.getElem?_append_left e] at hj; exact hj)
  · rw [List.getElem?_append_right (by omega)] at hj
    have e0 : j - l.length = 0 := Classical.byContradiction fun q => by rw [List.getElem?_eq_none (by rw [List.length_singleton]; omega)] at hj; cases hj
    rw [e0] at hj; cases hj
    rw [show j = l.length by omega]; exact v
/-- and the keys stay -/
def ndk (τ : Nat → Nat) (h : cz_H) (τ1 : Nat → Nat) (g : cz_H) : Prop := nc τ h τ1 g ∧ (∀ q, τ q = 24 ∨ τ q = 25 → g.2.2 q = h.2.2 q) ∧ (∀ j, 38 ≤ j → j ≤ 41 → qz_I g 770 j = qz_I h 770 j)
theorem ndk.refl (τ : Nat → Nat) (h : cz_H) : ndk τ h τ h := ⟨nc.refl τ h, fun _ _ => rfl, fun _ _ _ => rfl⟩
theorem ndk.trans {τ τ1 τ2 : Nat → Nat} {h g k : cz_H} (a : ndk τ h τ1 g) (b : ndk τ1 g τ2 k) : ndk τ h τ2 k :=
  ⟨a.1.trans b.1, fun q q0 => by have e := (a.1.1 q (by omega)).1; exact (b.2.1 q (by rw [e]; exact q0)).trans (a.2.1 q q0), fun j j1 j2 => (b.2.2 j j1 j2).trans (a.2.2 j j1 j2)⟩
theorem n23.ndk {τ τ1 : Nat → Nat} {h g : cz_H} (a : n23 τ h τ1 g) (hX : jz_X τ) : ndk τ h τ1 g :=
  ⟨a.1, fun q q0 => a.2.1 q (by omega) (fun e => by rw [e, hX 770 (by decide)] at q0; revert q0; decide) (by omega), fun j j1 j2 => a.2.2 j (by omega) (by omega)⟩
theorem ndk.fr {τ : Nat → Nat} {h g : cz_H} {P : Nat → Bool} (hB : ez_B τ h) (hX : jz_X τ) (f : ez_fr P h g) (hP : ∀ q, P q = true → q = 770 ∨ q = 796 ∨ q = 801) (i7 : ∀ j, j ≠ 30 → j ≠ 36 → qz_I g 770 j = qz_I h 770 j) (z36 : qz_I g 770 36 = qz_I h 770 36 ∨ qz_I g 770 36 = 0) : ndk τ h τ g := by
  refine ⟨nc.fr hB hX f hP (fun j j1 j2 _ => i7 j j1 j2) z36, fun q q0 => f.2.2 q ?_, fun j j1 j2 => i7 j (by omega) (by omega)⟩
  cases e : P q with
  | false => rfl
  | true =>
    exfalso
    rcases hP q e with w | w | w
    · rw [w, hX 770 (by decide)] at q0; revert q0; decide
    · rw [w, hX 796 (by decide)] at q0; revert q0; decide
    · rw [w, hX 801 (by decide)] at q0; revert q0; decide
theorem ndk.ofk {τ τ1 : Nat → Nat} {h g : cz_H} (hB : ez_B τ h) (hX : jz_X τ) (a : nk τ h τ1 g) : ndk τ h τ1 g :=
  ⟨nc.ofk hB hX a, fun q q0 => a.C hX (by omega) (by omega) (by omega) (by omega) (by omega) (by omega), fun j j1 j2 => a.2.2.1 j (by omega) (by omega) (by omega)⟩
