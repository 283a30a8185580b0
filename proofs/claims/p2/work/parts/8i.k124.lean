/-! The reader of the class: what LINES 1, 2, 4 need: rows, conditions, elements. (Written by wip/p2/py/pv21.py.) -/
section EzK1
variable {d : Nat} {h : cz_H} {τ : Nat → Nat} {Q : cz_F → Prop}
theorem rd_readRowOrNothing {f : Int} (hB : ez_B τ h) (t720 : τ 720 = 52) (t193 : τ 193 = 45) (f0 : 0 ≤ f) (f1 : f < 7) (hft : rz_f h f ≤ rz_t h f) (hr1 : h.1 + 1 ≤ 600192) (hr2 : h.2.1 + 18 ≤ 7302232) (k : ∀ o g τ1, ez_B τ1 g → ez_xt τ h τ1 g 1 18 → (∀ p, o = some p → τ1 p = 5 ∧ τ p = 0) → Q (.inl (some (.inr (.inr o))), g)) : ez_W (d + 3) cm_167 0 [(0, .inr (.inr (some (720)))), (1, .inl (f))] [] h Q := by
  refine ez_go (n := 2) (pc' := 2) (L' := [(0, .inr (.inr (some (720)))), (1, .inl (f))]) (st' := [.inl (f), .inr (.inr (some (720)))]) rfl ?_
  refine ez_cv hB t720 rfl rfl rfl tq_52 rfl rfl rfl (rd_isEmptyField hB t720 f0 (by omega) (fun e => ez_K1 ?_) (fun e => ez_K1 ?_))
  · skip
    refine ez_if rfl rfl ⟨by decide, by decide⟩ (fun (c1 : (1 : Int) = (0)) => absurd c1 (by decide)) (fun _ => ?_)
    refine ez_go (n := 1) (pc' := 9) (L' := [(0, .inr (.inr (some (720)))), (1, .inl (f))]) (st' := [.inl (0)]) rfl ?_
    refine ez_nA' (t := 5) hB rfl rfl rfl tq_5 rfl rfl (by omega) (by show (0 : Int) ≤ _; omega) (by show _ ≤ (18 : Int); omega) (by omega) (by omega) (by omega) (fun g2 τ2 p2 hB2 x2 o2 t2 z2 e2 N2 y2 => ?_)
    have c2 := x2.2
    have t720n2 := (x2.1 _ (by rw [t720]; decide)).1.trans t720
    refine ez_go (n := 1) (pc' := 32) (L' := [(0, .inr (.inr (some (720)))), (1, .inl (f))]) (st' := [.inr (.inr (some (p2)))]) rfl ?_
    exact ez_retA rfl rfl rfl (k (some p2) g2 τ2 hB2 (x2.mono (by omega) (by omega)) (fun p w => by cases w; exact ⟨t2, z2⟩))
  · skip
    refine ez_if rfl rfl ⟨by decide, by decide⟩ (fun _ => ?_) (fun (c3 : ¬((0 : Int) = (0))) => absurd c3 (by decide))
    refine ez_go (n := 2) (pc' := 16) (L' := [(0, .inr (.inr (some (720)))), (1, .inl (f))]) (st' := [.inr (.inr (some (720))), .inr (.inr (some (720)))]) rfl ?_
    refine ez_gC (p := 721) (tg := 53) hB t720 rfl rfl tq_52 rfl rfl (fun (t721 : _ = 53) => ?_)
    refine ez_go (n := 1) (pc' := 20) (L' := [(0, .inr (.inr (some (720)))), (1, .inl (f))]) (st' := [.inl (f), .inr (.inr (some (721))), .inr (.inr (some (720)))]) rfl ?_
    have n5 : 7 ≤ qz_N h 721 ∧ qz_N h 721 ≤ 7 := ez_len hB t721 tq_53 rfl
    refine ez_aI hB t721 rfl tq_53 rfl rfl (by omega) (by omega) (fun (b4 : 0 ≤ qz_I h 721 (f).toNat) (b4' : qz_I h 721 (f).toNat ≤ 4096) => ?_)
    refine ez_go (n := 1) (pc' := 22) (L' := [(0, .inr (.inr (some (720)))), (1, .inl (f))]) (st' := [.inr (.inr (some (720))), .inl (qz_I h 721 (f).toNat), .inr (.inr (some (720)))]) rfl ?_
    refine ez_gC (p := 722) (tg := 54) hB t720 rfl rfl tq_52 rfl rfl (fun (t722 : _ = 54) => ?_)
    refine ez_go (n := 1) (pc' := 26) (L' := [(0, .inr (.inr (some (720)))), (1, .inl (f))]) (st' := [.inl (f), .inr (.inr (some (722))), .inl (qz_I h 721 (f).toNat), .inr (.inr (some (720)))]) rfl ?_
    have n7 : 7 ≤ qz_N h 722 ∧ qz_N h 722 ≤ 7 := ez_len hB t722 tq_54 rfl
    refine ez_aI hB t722 rfl tq_54 rfl rfl (by omega) (by omega) (fun (b6 : 0 ≤ qz_I h 722 (f).toNat) (b6' : qz_I h 722 (f).toNat ≤ 4096) => ?_)
    refine ez_go (n := 1) (pc' := 29) (L' := [(0, .inr (.inr (some (720)))), (1, .inl (f))]) (st' := [.inl (18), .inl (qz_I h 722 (f).toNat), .inl (qz_I h 721 (f).toNat), .inr (.inr (some (720)))]) rfl ?_
    refine ez_cv hB t720 rfl rfl rfl tq_52 rfl rfl rfl (rd_readRow hB t720 t193 (by omega) (by unfold rz_f rz_t at hft; omega) (by omega) (by omega) (by omega) (by omega) (by omega) (fun g τ1 hB1 hx hn => ez_KA ?_) (fun g τ1 vs hB1 hx up hc1 hc2 hrow hN hel => ez_KA ?_))
    · skip
      have hx := hx
      exact ez_retA rfl rfl rfl (k none g τ1 hB1 hx (fun p w => by cases w))
    · skip
      have hx := hx
      exact ez_retA rfl rfl rfl (k (some h.1) g τ1 hB1 hx (fun p w => by cases w; exact ⟨up, ez_fresh hB⟩))

set_option maxRecDepth 4096 in
theorem nzl_1 : nzs_1.length = 83 ∧ nzs_1.count 32 = 8 := by decide
theorem rd_readConditions_l {bg en many : Int} (hB : ez_B τ h) (hZ : nz_Z h) (ts1 : τ 1 = 27) (t720 : τ 720 = 52) (b0 : 0 ≤ bg) (be : bg ≤ en) (e1 : en ≤ 4096) (m0 : 0 ≤ many) (m1 : many ≤ 4096) (kk : ∀ v : Int, -2147483648 ≤ v → v ≤ 2147483647 → Q (.inl (some (ez_v (.inl v))), h)) : ∀ (n : Nat) (k a c : Int), n = (many - k).toNat → bg ≤ a → a ≤ en → -2147483648 ≤ c → c ≤ 2147483647 → 0 ≤ k → k ≤ many → ez_W (d + 6) cm_161 16 [(6, .inl (k)), (5, .inl (a)), (4, .inl (c)), (3, .inl (many)), (0, .inr (.inr (some (720)))), (1, .inl (bg)), (2, .inl (en))] [] h Q := by
  intro n
  induction n with
  | zero =>
    intro k a c hm a0 a1 c0 c1 k0 k1
    refine ez_go (n := 2) (pc' := 19) (L' := [(6, .inl (k)), (5, .inl (a)), (4, .inl (c)), (3, .inl (many)), (0, .inr (.inr (some (720)))), (1, .inl (bg)), (2, .inl (en))]) (st' := [.inl (many), .inl (k)]) rfl ?_
    refine ez_icmp rfl rfl ⟨by first | omega | exact (sz_i32 _).1, by first | omega | exact (sz_i32 _).2⟩ ⟨by first | omega | exact (sz_i32 _).1, by first | omega | exact (sz_i32 _).2⟩ (fun (c1 : (many) ≤ (k)) => ?_) (fun (c1 : ¬((many) ≤ (k))) => ?_)
    · skip
      refine ez_go (n := 1) (pc' := 87) (L' := [(6, .inl (k)), (5, .inl (a)), (4, .inl (c)), (3, .inl (many)), (0, .inr (.inr (some (720)))), (1, .inl (bg)), (2, .inl (en))]) (st' := [.inl (c)]) rfl ?_
      exact ez_retI rfl rfl (kk _ (by first | omega | exact (sz_i32 _).1) (by first | omega | exact (sz_i32 _).2))
    · exfalso; omega
  | succ n ih =>
    intro k a c hm a0 a1 c0 c1 k0 k1
    refine ez_go (n := 2) (pc' := 19) (L' := [(6, .inl (k)), (5, .inl (a)), (4, .inl (c)), (3, .inl (many)), (0, .inr (.inr (some (720)))), (1, .inl (bg)), (2, .inl (en))]) (st' := [.inl (many), .inl (k)]) rfl ?_
    refine ez_icmp rfl rfl ⟨by first | omega | exact (sz_i32 _).1, by first | omega | exact (sz_i32 _).2⟩ ⟨by first | omega | exact (sz_i32 _).1, by first | omega | exact (sz_i32 _).2⟩ (fun (c1 : (many) ≤ (k)) => ?_) (fun (c1 : ¬((many) ≤ (k))) => ?_)
    · exfalso; omega
    · skip
      refine ez_go (n := 3) (pc' := 26) (L' := [(6, .inl (k)), (5, .inl (a)), (4, .inl (c)), (3, .inl (many)), (0, .inr (.inr (some (720)))), (1, .inl (bg)), (2, .inl (en))]) (st' := [.inl (en), .inl (a), .inr (.inr (some (720)))]) rfl ?_
      have xt := rz_tok_le (rz_b h) (en - a).toNat a
      refine ez_cv hB t720 rfl rfl rfl tq_52 rfl rfl rfl (rd_skipToken hB t720 (by omega) (by omega) (by omega) (ez_K1 ?_))
      generalize rz_tok (rz_b h) (en - a).toNat a = ts at *
      refine ez_go (n := 2) (pc' := 32) (L' := [(7, .inl (ts)), (6, .inl (k)), (5, .inl (a)), (4, .inl (c)), (3, .inl (many)), (0, .inr (.inr (some (720)))), (1, .inl (bg)), (2, .inl (en))]) (st' := [.inr (.inr (some (720)))]) rfl ?_
      refine ez_ldcS rfl rfl ?_
      refine ez_go (n := 2) (pc' := 38) (L' := [(7, .inl (ts)), (6, .inl (k)), (5, .inl (a)), (4, .inl (c)), (3, .inl (many)), (0, .inr (.inr (some (720)))), (1, .inl (bg)), (2, .inl (en))]) (st' := [.inl (ts), .inl (a), .inr (.inr (some (1))), .inr (.inr (some (720)))]) rfl ?_
      refine ez_cv hB t720 rfl rfl rfl tq_52 rfl rfl rfl (rd_nameIndex (l := nzs_1) 2 hB t720 ts1 (hZ 1 nzs_1 rfl).1 (by rw [nzl_1.1]; omega) (by omega) (by omega) (by omega) (by omega) (by rw [nzl_1.1]; omega) (nz_fst (n := 2) (by decide)) (Or.inr (by decide)) (fun v w0 w1 wv => ez_K1 ?_))
      rw [nzl_1.2] at w1
      refine ez_go (n := 3) (pc' := 46) (L' := [(8, .inl (v)), (7, .inl (ts)), (6, .inl (k)), (5, .inl (a)), (4, .inl (c)), (3, .inl (many)), (0, .inr (.inr (some (720)))), (1, .inl (bg)), (2, .inl (en))]) (st' := [.inl (-1), .inl (v)]) rfl ?_
      refine ez_icmp rfl rfl ⟨by first | omega | exact (sz_i32 _).1, by first | omega | exact (sz_i32 _).2⟩ ⟨by first | omega | exact (sz_i32 _).1, by first | omega | exact (sz_i32 _).2⟩ (fun (c2 : (v) = (-1)) => ?_) (fun (c2 : ¬((v) = (-1))) => ?_)
      · skip
        refine ez_go (n := 1) (pc' := 60) (L' := [(8, .inl (v)), (7, .inl (ts)), (6, .inl (k)), (5, .inl (a)), (4, .inl (c)), (3, .inl (many)), (0, .inr (.inr (some (720)))), (1, .inl (bg)), (2, .inl (en))]) (st' := [.inl (-1)]) rfl ?_
        exact ez_retI rfl rfl (kk _ (by first | omega | exact (sz_i32 _).1) (by first | omega | exact (sz_i32 _).2))
      · skip
        refine ez_go (n := 5) (pc' := 56) (L' := [(8, .inl (v)), (7, .inl (ts)), (6, .inl (k)), (5, .inl (a)), (4, .inl (c)), (3, .inl (many)), (0, .inr (.inr (some (720)))), (1, .inl (bg)), (2, .inl (en))]) (st' := [.inl ((Int32.ofInt ((Int32.ofInt (c) >>> (Int32.ofInt (v) &&& 31)).toInt) &&& Int32.ofInt (1)).toInt)]) rfl ?_
        refine ez_if rfl rfl ⟨by first | omega | exact (sz_i32 _).1, by first | omega | exact (sz_i32 _).2⟩ (fun (c3 : ((Int32.ofInt ((Int32.ofInt (c) >>> (Int32.ofInt (v) &&& 31)).toInt) &&& Int32.ofInt (1)).toInt) = (0)) => ?_) (fun (c3 : ¬(((Int32.ofInt ((Int32.ofInt (c) >>> (Int32.ofInt (v) &&& 31)).toInt) &&& Int32.ofInt (1)).toInt) = (0))) => ?_)
        · skip
          refine ez_go (n := 9) (pc' := 74) (L' := [(4, .inl ((Int32.ofInt (c) ||| Int32.ofInt ((Int32.ofInt (1) <<< (Int32.ofInt (v) &&& 31)).toInt)).toInt)), (8, .inl (v)), (7, .inl (ts)), (6, .inl (k)), (5, .inl (a)), (3, .inl (many)), (0, .inr (.inr (some (720)))), (1, .inl (bg)), (2, .inl (en))]) (st' := [.inl (en), .inl (ts), .inr (.inr (some (720)))]) rfl ?_
          have xs := rz_skip_le (rz_b h) (en - ts).toNat ts
          refine ez_cv hB t720 rfl rfl rfl tq_52 rfl rfl rfl (rd_skipBlanks hB t720 (by omega) (by omega) (by omega) (ez_K1 ?_))
          refine ez_go (n := 3) (pc' := 16) (L' := [(6, .inl (k + 1)), (5, .inl (rz_skip (rz_b h) (en - ts).toNat ts)), (4, .inl ((Int32.ofInt (c) ||| Int32.ofInt ((Int32.ofInt (1) <<< (Int32.ofInt (v) &&& 31)).toInt)).toInt)), (8, .inl (v)), (7, .inl (ts)), (3, .inl (many)), (0, .inr (.inr (some (720)))), (1, .inl (bg)), (2, .inl (en))]) (st' := []) rfl ?_
          refine ez_less [(6, .inl (k + 1)), (5, .inl (rz_skip (rz_b h) (en - ts).toNat ts)), (4, .inl ((Int32.ofInt (c) ||| Int32.ofInt ((Int32.ofInt (1) <<< (Int32.ofInt (v) &&& 31)).toInt)).toInt)), (3, .inl (many)), (0, .inr (.inr (some (720)))), (1, .inl (bg)), (2, .inl (en))] rfl ⟨rfl, rfl, rfl, rfl, rfl, rfl, rfl, trivial⟩ ?_
          exact ih _ _ _ (by omega) (by omega) (by omega) (sz_i32 _).1 (sz_i32 _).2 (by omega) (by omega)
        · skip
          refine ez_go (n := 1) (pc' := 60) (L' := [(8, .inl (v)), (7, .inl (ts)), (6, .inl (k)), (5, .inl (a)), (4, .inl (c)), (3, .inl (many)), (0, .inr (.inr (some (720)))), (1, .inl (bg)), (2, .inl (en))]) (st' := [.inl (-1)]) rfl ?_
          exact ez_retI rfl rfl (kk _ (by first | omega | exact (sz_i32 _).1) (by first | omega | exact (sz_i32 _).2))
theorem rd_readConditions {bg en : Int} (hB : ez_B τ h) (hZ : nz_Z h) (ts1 : τ 1 = 27) (t720 : τ 720 = 52) (b0 : 0 ≤ bg) (be : bg ≤ en) (e1 : en ≤ 4096) (kk : ∀ v : Int, -2147483648 ≤ v → v ≤ 2147483647 → Q (.inl (some (ez_v (.inl v))), h)) : ez_W (d + 6) cm_161 0 [(0, .inr (.inr (some (720)))), (1, .inl (bg)), (2, .inl (en))] [] h Q := by
  refine ez_go (n := 3) (pc' := 3) (L' := [(0, .inr (.inr (some (720)))), (1, .inl (bg)), (2, .inl (en))]) (st' := [.inl (en), .inl (bg), .inr (.inr (some (720)))]) rfl ?_
  have xc := rz_ct_le (rz_b h) bg (en - bg).toNat bg
  refine ez_cv hB t720 rfl rfl rfl tq_52 rfl rfl rfl (rd_countTokens hB t720 (by omega) (by omega) (by omega) (ez_K1 ?_))
  refine ez_go (n := 7) (pc' := 16) (L' := [(6, .inl (0)), (5, .inl (bg)), (4, .inl (0)), (3, .inl (((rz_ct (rz_b h) bg (en - bg).toNat bg : Nat) : Int))), (0, .inr (.inr (some (720)))), (1, .inl (bg)), (2, .inl (en))]) (st' := []) rfl ?_
  refine ez_less [(6, .inl (0)), (5, .inl (bg)), (4, .inl (0)), (3, .inl (((rz_ct (rz_b h) bg (en - bg).toNat bg : Nat) : Int))), (0, .inr (.inr (some (720)))), (1, .inl (bg)), (2, .inl (en))] rfl ⟨rfl, rfl, rfl, rfl, rfl, rfl, rfl, trivial⟩ ?_
  exact rd_readConditions_l hB hZ ts1 t720 b0 be e1 (by omega) (by omega) kk _ 0 bg 0 rfl (by omega) (by omega) (by omega) (by omega) (by omega) (by omega)

theorem rd_readElement_b {a va fr : Int} (hB : ez_B τ h) (t720 : τ 720 = 52) (a0 : 0 ≤ a) (a1 : a + 17 ≤ 4096) (v01 : va = 0 ∨ va = 1) (f01 : fr = 0 ∨ fr = 1) (k : ∀ x : Int64, Q (.inl (some (.inr (.inl x))), h)) : ez_W (d + 1) cm_163 95 [(3, .inl (fr)), (2, .inl (va)), (0, .inr (.inr (some (720)))), (1, .inl (a))] [] h Q := by
  refine ez_go (n := 7) (pc' := 103) (L' := [(3, .inl (fr)), (2, .inl (va)), (0, .inr (.inr (some (720)))), (1, .inl (a))]) (st' := [.inl ((a) + (6)), .inl ((a) + (2)), .inr (.inr (some (720)))]) rfl ?_
  have hx1 := rz_hex_bd (rz_b h) ((a) + (6) - ((a) + (2))).toNat ((a) + (2)) 0 1 (by omega) (by omega) (by omega)
  refine ez_cv hB t720 rfl rfl rfl tq_52 rfl rfl rfl (rd_readHex hB t720 (by omega) (by omega) (by omega) (ez_K1 ?_))
  rw [show ((a) + (6) - ((a) + (2))).toNat = 4 by omega] at hx1 ⊢
  generalize rz_hex (rz_b h) 4 ((a) + (2)) 0 = v2 at hx1 ⊢
  refine ez_go (n := 8) (pc' := 117) (L' := [(4, .inl (v2)), (3, .inl (fr)), (2, .inl (va)), (0, .inr (.inr (some (720)))), (1, .inl (a))]) (st' := [.inl ((a) + (11)), .inl ((a) + (7)), .inr (.inr (some (720)))]) rfl ?_
  have hx3 := rz_hex_bd (rz_b h) ((a) + (11) - ((a) + (7))).toNat ((a) + (7)) 0 1 (by omega) (by omega) (by omega)
  refine ez_cv hB t720 rfl rfl rfl tq_52 rfl rfl rfl (rd_readHex hB t720 (by omega) (by omega) (by omega) (ez_K1 ?_))
  rw [show ((a) + (11) - ((a) + (7))).toNat = 4 by omega] at hx3 ⊢
  generalize rz_hex (rz_b h) 4 ((a) + (7)) 0 = v4 at hx3 ⊢
  refine ez_go (n := 8) (pc' := 131) (L' := [(5, .inl (v4)), (4, .inl (v2)), (3, .inl (fr)), (2, .inl (va)), (0, .inr (.inr (some (720)))), (1, .inl (a))]) (st' := [.inl ((a) + (16)), .inl ((a) + (12)), .inr (.inr (some (720)))]) rfl ?_
  have hx5 := rz_hex_bd (rz_b h) ((a) + (16) - ((a) + (12))).toNat ((a) + (12)) 0 1 (by omega) (by omega) (by omega)
  refine ez_cv hB t720 rfl rfl rfl tq_52 rfl rfl rfl (rd_readHex hB t720 (by omega) (by omega) (by omega) (ez_K1 ?_))
  rw [show ((a) + (16) - ((a) + (12))).toNat = 4 by omega] at hx5 ⊢
  generalize rz_hex (rz_b h) 4 ((a) + (12)) 0 = v6 at hx5 ⊢
  refine ez_go (n := 2) (pc' := 137) (L' := [(6, .inl (v6)), (5, .inl (v4)), (4, .inl (v2)), (3, .inl (fr)), (2, .inl (va)), (0, .inr (.inr (some (720)))), (1, .inl (a))]) (st' := [.inl (fr)]) rfl ?_
  refine ez_if rfl rfl ⟨by first | omega | exact (sz_i32 _).1, by first | omega | exact (sz_i32 _).2⟩ (fun (c7 : (fr) = (0)) => ?_) (fun (c7 : ¬((fr) = (0))) => ?_)
  · skip
    refine ez_ldc2 (-1) rfl rfl rfl ?_
    exact ez_retL rfl rfl (k _)
  · skip
    refine ez_go (n := 2) (pc' := 143) (L' := [(6, .inl (v6)), (5, .inl (v4)), (4, .inl (v2)), (3, .inl (fr)), (2, .inl (va)), (0, .inr (.inr (some (720)))), (1, .inl (a))]) (st' := [.inl (-1), .inl (v2)]) rfl ?_
    refine ez_icmp rfl rfl ⟨by first | omega | exact (sz_i32 _).1, by first | omega | exact (sz_i32 _).2⟩ ⟨by first | omega | exact (sz_i32 _).1, by first | omega | exact (sz_i32 _).2⟩ (fun (c8 : (v2) = (-1)) => ?_) (fun (c8 : ¬((v2) = (-1))) => ?_)
    · skip
      refine ez_ldc2 (-1) rfl rfl rfl ?_
      exact ez_retL rfl rfl (k _)
    · skip
      refine ez_go (n := 2) (pc' := 149) (L' := [(6, .inl (v6)), (5, .inl (v4)), (4, .inl (v2)), (3, .inl (fr)), (2, .inl (va)), (0, .inr (.inr (some (720)))), (1, .inl (a))]) (st' := [.inl (-1), .inl (v4)]) rfl ?_
      refine ez_icmp rfl rfl ⟨by first | omega | exact (sz_i32 _).1, by first | omega | exact (sz_i32 _).2⟩ ⟨by first | omega | exact (sz_i32 _).1, by first | omega | exact (sz_i32 _).2⟩ (fun (c9 : (v4) = (-1)) => ?_) (fun (c9 : ¬((v4) = (-1))) => ?_)
      · skip
        refine ez_ldc2 (-1) rfl rfl rfl ?_
        exact ez_retL rfl rfl (k _)
      · skip
        refine ez_go (n := 2) (pc' := 155) (L' := [(6, .inl (v6)), (5, .inl (v4)), (4, .inl (v2)), (3, .inl (fr)), (2, .inl (va)), (0, .inr (.inr (some (720)))), (1, .inl (a))]) (st' := [.inl (-1), .inl (v6)]) rfl ?_
        refine ez_icmp rfl rfl ⟨by first | omega | exact (sz_i32 _).1, by first | omega | exact (sz_i32 _).2⟩ ⟨by first | omega | exact (sz_i32 _).1, by first | omega | exact (sz_i32 _).2⟩ (fun (c10 : (v6) ≠ (-1)) => ?_) (fun (c10 : ¬((v6) ≠ (-1))) => ?_)
        · skip
          refine ez_go (n := 15) (pc' := 183) (L' := [(6, .inl (v6)), (5, .inl (v4)), (4, .inl (v2)), (3, .inl (fr)), (2, .inl (va)), (0, .inr (.inr (some (720)))), (1, .inl (a))]) (st' := [.inl (va), .inr (.inl (((((Int32.ofInt (v2)).toInt64) <<< ((Int32.ofInt (48)).toInt64 &&& 63)) ||| (((Int32.ofInt (v4)).toInt64) <<< ((Int32.ofInt (32)).toInt64 &&& 63))) ||| (((Int32.ofInt (v6)).toInt64) <<< ((Int32.ofInt (16)).toInt64 &&& 63))))]) rfl ?_
          refine ez_if rfl rfl ⟨by first | omega | exact (sz_i32 _).1, by first | omega | exact (sz_i32 _).2⟩ (fun (c11 : (va) = (0)) => ?_) (fun (c11 : ¬((va) = (0))) => ?_)
          · skip
            refine ez_go (n := 3) (pc' := 193) (L' := [(6, .inl (v6)), (5, .inl (v4)), (4, .inl (v2)), (3, .inl (fr)), (2, .inl (va)), (0, .inr (.inr (some (720)))), (1, .inl (a))]) (st' := [.inr (.inl ((((((Int32.ofInt (v2)).toInt64) <<< ((Int32.ofInt (48)).toInt64 &&& 63)) ||| (((Int32.ofInt (v4)).toInt64) <<< ((Int32.ofInt (32)).toInt64 &&& 63))) ||| (((Int32.ofInt (v6)).toInt64) <<< ((Int32.ofInt (16)).toInt64 &&& 63))) ||| ((Int32.ofInt (0)).toInt64)))]) rfl ?_
            exact ez_retL rfl rfl (k _)
          · skip
            refine ez_go (n := 4) (pc' := 193) (L' := [(6, .inl (v6)), (5, .inl (v4)), (4, .inl (v2)), (3, .inl (fr)), (2, .inl (va)), (0, .inr (.inr (some (720)))), (1, .inl (a))]) (st' := [.inr (.inl ((((((Int32.ofInt (v2)).toInt64) <<< ((Int32.ofInt (48)).toInt64 &&& 63)) ||| (((Int32.ofInt (v4)).toInt64) <<< ((Int32.ofInt (32)).toInt64 &&& 63))) ||| (((Int32.ofInt (v6)).toInt64) <<< ((Int32.ofInt (16)).toInt64 &&& 63))) ||| ((Int32.ofInt (1)).toInt64)))]) rfl ?_
            exact ez_retL rfl rfl (k _)
        · skip
          refine ez_ldc2 (-1) rfl rfl rfl ?_
          exact ez_retL rfl rfl (k _)

theorem rd_readElement {a : Int} (hB : ez_B τ h) (t720 : τ 720 = 52) (a0 : 0 ≤ a) (a1 : a + 17 ≤ 4096) (k : ∀ x : Int64, Q (.inl (some (.inr (.inl x))), h)) : ez_W (d + 1) cm_163 0 [(0, .inr (.inr (some (720)))), (1, .inl (a))] [] h Q := by
  refine ez_go (n := 1) (pc' := 1) (L' := [(0, .inr (.inr (some (720)))), (1, .inl (a))]) (st' := [.inr (.inr (some (720)))]) rfl ?_
  refine ez_gC (p := 193) (tg := 45) hB t720 rfl rfl tq_52 rfl rfl (fun (t193 : _ = 45) => ?_)
  refine ez_go (n := 3) (pc' := 7) (L' := [(0, .inr (.inr (some (720)))), (1, .inl (a))]) (st' := [.inl ((a) + (1)), .inr (.inr (some (193)))]) rfl ?_
  have n2 : 4096 ≤ qz_N h 193 ∧ qz_N h 193 ≤ 4096 := ez_len hB t193 tq_45 rfl
  refine ez_aI hB t193 rfl tq_45 rfl rfl (by omega) (by omega) (fun (b1 : -128 ≤ qz_I h 193 ((a) + (1)).toNat) (b1' : qz_I h 193 ((a) + (1)).toNat ≤ 127) => ?_)
  refine ez_go (n := 1) (pc' := 10) (L' := [(0, .inr (.inr (some (720)))), (1, .inl (a))]) (st' := [.inl (42), .inl (qz_I h 193 ((a) + (1)).toNat)]) rfl ?_
  refine ez_icmp rfl rfl ⟨by first | omega | exact (sz_i32 _).1, by first | omega | exact (sz_i32 _).2⟩ ⟨by first | omega | exact (sz_i32 _).1, by first | omega | exact (sz_i32 _).2⟩ (fun (c3 : (qz_I h 193 ((a) + (1)).toNat) ≠ (42)) => ?_) (fun (c3 : ¬((qz_I h 193 ((a) + (1)).toNat) ≠ (42))) => ?_)
  · skip
    refine ez_go (n := 3) (pc' := 20) (L' := [(2, .inl (0)), (0, .inr (.inr (some (720)))), (1, .inl (a))]) (st' := [.inr (.inr (some (720)))]) rfl ?_
    refine ez_gC (p := 193) (tg := 45) hB t720 rfl rfl tq_52 rfl rfl (fun (t193 : _ = 45) => ?_)
    refine ez_go (n := 1) (pc' := 24) (L' := [(2, .inl (0)), (0, .inr (.inr (some (720)))), (1, .inl (a))]) (st' := [.inl (a), .inr (.inr (some (193)))]) rfl ?_
    have n5 : 4096 ≤ qz_N h 193 ∧ qz_N h 193 ≤ 4096 := ez_len hB t193 tq_45 rfl
    refine ez_aI hB t193 rfl tq_45 rfl rfl (by omega) (by omega) (fun (b4 : -128 ≤ qz_I h 193 (a).toNat) (b4' : qz_I h 193 (a).toNat ≤ 127) => ?_)
    refine ez_go (n := 1) (pc' := 27) (L' := [(2, .inl (0)), (0, .inr (.inr (some (720)))), (1, .inl (a))]) (st' := [.inl (91), .inl (qz_I h 193 (a).toNat)]) rfl ?_
    refine ez_icmp rfl rfl ⟨by first | omega | exact (sz_i32 _).1, by first | omega | exact (sz_i32 _).2⟩ ⟨by first | omega | exact (sz_i32 _).1, by first | omega | exact (sz_i32 _).2⟩ (fun (c6 : (qz_I h 193 (a).toNat) ≠ (91)) => ?_) (fun (c6 : ¬((qz_I h 193 (a).toNat) ≠ (91))) => ?_)
    · skip
      refine ez_go (n := 2) (pc' := 95) (L' := [(3, .inl (0)), (2, .inl (0)), (0, .inr (.inr (some (720)))), (1, .inl (a))]) (st' := []) rfl ?_
      refine ez_less [(3, .inl (0)), (2, .inl (0)), (0, .inr (.inr (some (720)))), (1, .inl (a))] rfl ⟨rfl, rfl, rfl, rfl, trivial⟩ ?_
      exact rd_readElement_b hB t720 a0 a1 (by decide) (by decide) k
    · skip
      refine ez_go (n := 1) (pc' := 31) (L' := [(2, .inl (0)), (0, .inr (.inr (some (720)))), (1, .inl (a))]) (st' := [.inl (0)]) rfl ?_
      refine ez_if rfl rfl ⟨by decide, by decide⟩ (fun (c7 : (0 : Int) ≠ (0)) => absurd c7 (by decide)) (fun _ => ?_)
      refine ez_go (n := 1) (pc' := 35) (L' := [(2, .inl (0)), (0, .inr (.inr (some (720)))), (1, .inl (a))]) (st' := [.inr (.inr (some (720)))]) rfl ?_
      refine ez_gC (p := 193) (tg := 45) hB t720 rfl rfl tq_52 rfl rfl (fun (t193 : _ = 45) => ?_)
      refine ez_go (n := 3) (pc' := 41) (L' := [(2, .inl (0)), (0, .inr (.inr (some (720)))), (1, .inl (a))]) (st' := [.inl ((a) + (1)), .inr (.inr (some (193)))]) rfl ?_
      have n9 : 4096 ≤ qz_N h 193 ∧ qz_N h 193 ≤ 4096 := ez_len hB t193 tq_45 rfl
      refine ez_aI hB t193 rfl tq_45 rfl rfl (by omega) (by omega) (fun (b8 : -128 ≤ qz_I h 193 ((a) + (1)).toNat) (b8' : qz_I h 193 ((a) + (1)).toNat ≤ 127) => ?_)
      refine ez_go (n := 1) (pc' := 44) (L' := [(2, .inl (0)), (0, .inr (.inr (some (720)))), (1, .inl (a))]) (st' := [.inl (46), .inl (qz_I h 193 ((a) + (1)).toNat)]) rfl ?_
      refine ez_icmp rfl rfl ⟨by first | omega | exact (sz_i32 _).1, by first | omega | exact (sz_i32 _).2⟩ ⟨by first | omega | exact (sz_i32 _).1, by first | omega | exact (sz_i32 _).2⟩ (fun (c10 : (qz_I h 193 ((a) + (1)).toNat) ≠ (46)) => ?_) (fun (c10 : ¬((qz_I h 193 ((a) + (1)).toNat) ≠ (46))) => ?_)
      · skip
        refine ez_go (n := 2) (pc' := 95) (L' := [(3, .inl (0)), (2, .inl (0)), (0, .inr (.inr (some (720)))), (1, .inl (a))]) (st' := []) rfl ?_
        refine ez_less [(3, .inl (0)), (2, .inl (0)), (0, .inr (.inr (some (720)))), (1, .inl (a))] rfl ⟨rfl, rfl, rfl, rfl, trivial⟩ ?_
        exact rd_readElement_b hB t720 a0 a1 (by decide) (by decide) k
      · skip
        refine ez_go (n := 1) (pc' := 48) (L' := [(2, .inl (0)), (0, .inr (.inr (some (720)))), (1, .inl (a))]) (st' := [.inr (.inr (some (720)))]) rfl ?_
        refine ez_gC (p := 193) (tg := 45) hB t720 rfl rfl tq_52 rfl rfl (fun (t193 : _ = 45) => ?_)
        refine ez_go (n := 3) (pc' := 55) (L' := [(2, .inl (0)), (0, .inr (.inr (some (720)))), (1, .inl (a))]) (st' := [.inl ((a) + (6)), .inr (.inr (some (193)))]) rfl ?_
        have n12 : 4096 ≤ qz_N h 193 ∧ qz_N h 193 ≤ 4096 := ez_len hB t193 tq_45 rfl
        refine ez_aI hB t193 rfl tq_45 rfl rfl (by omega) (by omega) (fun (b11 : -128 ≤ qz_I h 193 ((a) + (6)).toNat) (b11' : qz_I h 193 ((a) + (6)).toNat ≤ 127) => ?_)
        refine ez_go (n := 1) (pc' := 58) (L' := [(2, .inl (0)), (0, .inr (.inr (some (720)))), (1, .inl (a))]) (st' := [.inl (46), .inl (qz_I h 193 ((a) + (6)).toNat)]) rfl ?_
        refine ez_icmp rfl rfl ⟨by first | omega | exact (sz_i32 _).1, by first | omega | exact (sz_i32 _).2⟩ ⟨by first | omega | exact (sz_i32 _).1, by first | omega | exact (sz_i32 _).2⟩ (fun (c13 : (qz_I h 193 ((a) + (6)).toNat) ≠ (46)) => ?_) (fun (c13 : ¬((qz_I h 193 ((a) + (6)).toNat) ≠ (46))) => ?_)
        · skip
          refine ez_go (n := 2) (pc' := 95) (L' := [(3, .inl (0)), (2, .inl (0)), (0, .inr (.inr (some (720)))), (1, .inl (a))]) (st' := []) rfl ?_
          refine ez_less [(3, .inl (0)), (2, .inl (0)), (0, .inr (.inr (some (720)))), (1, .inl (a))] rfl ⟨rfl, rfl, rfl, rfl, trivial⟩ ?_
          exact rd_readElement_b hB t720 a0 a1 (by decide) (by decide) k
        · skip
          refine ez_go (n := 1) (pc' := 62) (L' := [(2, .inl (0)), (0, .inr (.inr (some (720)))), (1, .inl (a))]) (st' := [.inr (.inr (some (720)))]) rfl ?_
          refine ez_gC (p := 193) (tg := 45) hB t720 rfl rfl tq_52 rfl rfl (fun (t193 : _ = 45) => ?_)
          refine ez_go (n := 3) (pc' := 69) (L' := [(2, .inl (0)), (0, .inr (.inr (some (720)))), (1, .inl (a))]) (st' := [.inl ((a) + (11)), .inr (.inr (some (193)))]) rfl ?_
          have n15 : 4096 ≤ qz_N h 193 ∧ qz_N h 193 ≤ 4096 := ez_len hB t193 tq_45 rfl
          refine ez_aI hB t193 rfl tq_45 rfl rfl (by omega) (by omega) (fun (b14 : -128 ≤ qz_I h 193 ((a) + (11)).toNat) (b14' : qz_I h 193 ((a) + (11)).toNat ≤ 127) => ?_)
          refine ez_go (n := 1) (pc' := 72) (L' := [(2, .inl (0)), (0, .inr (.inr (some (720)))), (1, .inl (a))]) (st' := [.inl (46), .inl (qz_I h 193 ((a) + (11)).toNat)]) rfl ?_
          refine ez_icmp rfl rfl ⟨by first | omega | exact (sz_i32 _).1, by first | omega | exact (sz_i32 _).2⟩ ⟨by first | omega | exact (sz_i32 _).1, by first | omega | exact (sz_i32 _).2⟩ (fun (c16 : (qz_I h 193 ((a) + (11)).toNat) ≠ (46)) => ?_) (fun (c16 : ¬((qz_I h 193 ((a) + (11)).toNat) ≠ (46))) => ?_)
          · skip
            refine ez_go (n := 2) (pc' := 95) (L' := [(3, .inl (0)), (2, .inl (0)), (0, .inr (.inr (some (720)))), (1, .inl (a))]) (st' := []) rfl ?_
            refine ez_less [(3, .inl (0)), (2, .inl (0)), (0, .inr (.inr (some (720)))), (1, .inl (a))] rfl ⟨rfl, rfl, rfl, rfl, trivial⟩ ?_
            exact rd_readElement_b hB t720 a0 a1 (by decide) (by decide) k
          · skip
            refine ez_go (n := 1) (pc' := 76) (L' := [(2, .inl (0)), (0, .inr (.inr (some (720)))), (1, .inl (a))]) (st' := [.inr (.inr (some (720)))]) rfl ?_
            refine ez_gC (p := 193) (tg := 45) hB t720 rfl rfl tq_52 rfl rfl (fun (t193 : _ = 45) => ?_)
            refine ez_go (n := 3) (pc' := 83) (L' := [(2, .inl (0)), (0, .inr (.inr (some (720)))), (1, .inl (a))]) (st' := [.inl ((a) + (16)), .inr (.inr (some (193)))]) rfl ?_
            have n18 : 4096 ≤ qz_N h 193 ∧ qz_N h 193 ≤ 4096 := ez_len hB t193 tq_45 rfl
            refine ez_aI hB t193 rfl tq_45 rfl rfl (by omega) (by omega) (fun (b17 : -128 ≤ qz_I h 193 ((a) + (16)).toNat) (b17' : qz_I h 193 ((a) + (16)).toNat ≤ 127) => ?_)
            refine ez_go (n := 1) (pc' := 86) (L' := [(2, .inl (0)), (0, .inr (.inr (some (720)))), (1, .inl (a))]) (st' := [.inl (93), .inl (qz_I h 193 ((a) + (16)).toNat)]) rfl ?_
            refine ez_icmp rfl rfl ⟨by first | omega | exact (sz_i32 _).1, by first | omega | exact (sz_i32 _).2⟩ ⟨by first | omega | exact (sz_i32 _).1, by first | omega | exact (sz_i32 _).2⟩ (fun (c19 : (qz_I h 193 ((a) + (16)).toNat) ≠ (93)) => ?_) (fun (c19 : ¬((qz_I h 193 ((a) + (16)).toNat) ≠ (93))) => ?_)
            · skip
              refine ez_go (n := 2) (pc' := 95) (L' := [(3, .inl (0)), (2, .inl (0)), (0, .inr (.inr (some (720)))), (1, .inl (a))]) (st' := []) rfl ?_
              refine ez_less [(3, .inl (0)), (2, .inl (0)), (0, .inr (.inr (some (720)))), (1, .inl (a))] rfl ⟨rfl, rfl, rfl, rfl, trivial⟩ ?_
              exact rd_readElement_b hB t720 a0 a1 (by decide) (by decide) k
            · skip
              refine ez_go (n := 3) (pc' := 95) (L' := [(3, .inl (1)), (2, .inl (0)), (0, .inr (.inr (some (720)))), (1, .inl (a))]) (st' := []) rfl ?_
              refine ez_less [(3, .inl (1)), (2, .inl (0)), (0, .inr (.inr (some (720)))), (1, .inl (a))] rfl ⟨rfl, rfl, rfl, rfl, trivial⟩ ?_
              exact rd_readElement_b hB t720 a0 a1 (by decide) (by decide) k
  · skip
    refine ez_go (n := 4) (pc' := 20) (L' := [(2, .inl (1)), (0, .inr (.inr (some (720)))), (1, .inl (a))]) (st' := [.inr (.inr (some (720)))]) rfl ?_
    refine ez_gC (p := 193) (tg := 45) hB t720 rfl rfl tq_52 rfl rfl (fun (t193 : _ = 45) => ?_)
    refine ez_go (n := 1) (pc' := 24) (L' := [(2, .inl (1)), (0, .inr (.inr (some (720)))), (1, .inl (a))]) (st' := [.inl (a), .inr (.inr (some (193)))]) rfl ?_
    have n21 : 4096 ≤ qz_N h 193 ∧ qz_N h 193 ≤ 4096 := ez_len hB t193 tq_45 rfl
    refine ez_aI hB t193 rfl tq_45 rfl rfl (by omega) (by omega) (fun (b20 : -128 ≤ qz_I h 193 (a).toNat) (b20' : qz_I h 193 (a).toNat ≤ 127) => ?_)
    refine ez_go (n := 1) (pc' := 27) (L' := [(2, .inl (1)), (0, .inr (.inr (some (720)))), (1, .inl (a))]) (st' := [.inl (91), .inl (qz_I h 193 (a).toNat)]) rfl ?_
    refine ez_icmp rfl rfl ⟨by first | omega | exact (sz_i32 _).1, by first | omega | exact (sz_i32 _).2⟩ ⟨by first | omega | exact (sz_i32 _).1, by first | omega | exact (sz_i32 _).2⟩ (fun (c22 : (qz_I h 193 (a).toNat) ≠ (91)) => ?_) (fun (c22 : ¬((qz_I h 193 (a).toNat) ≠ (91))) => ?_)
    · skip
      refine ez_go (n := 2) (pc' := 95) (L' := [(3, .inl (0)), (2, .inl (1)), (0, .inr (.inr (some (720)))), (1, .inl (a))]) (st' := []) rfl ?_
      refine ez_less [(3, .inl (0)), (2, .inl (1)), (0, .inr (.inr (some (720)))), (1, .inl (a))] rfl ⟨rfl, rfl, rfl, rfl, trivial⟩ ?_
      exact rd_readElement_b hB t720 a0 a1 (by decide) (by decide) k
    · skip
      refine ez_go (n := 1) (pc' := 31) (L' := [(2, .inl (1)), (0, .inr (.inr (some (720)))), (1, .inl (a))]) (st' := [.inl (1)]) rfl ?_
      refine ez_if rfl rfl ⟨by decide, by decide⟩ (fun _ => ?_) (fun (c23 : ¬((1 : Int) ≠ (0))) => absurd c23 (by decide))
      refine ez_go (n := 1) (pc' := 48) (L' := [(2, .inl (1)), (0, .inr (.inr (some (720)))), (1, .inl (a))]) (st' := [.inr (.inr (some (720)))]) rfl ?_
      refine ez_gC (p := 193) (tg := 45) hB t720 rfl rfl tq_52 rfl rfl (fun (t193 : _ = 45) => ?_)
      refine ez_go (n := 3) (pc' := 55) (L' := [(2, .inl (1)), (0, .inr (.inr (some (720)))), (1, .inl (a))]) (st' := [.inl ((a) + (6)), .inr (.inr (some (193)))]) rfl ?_
      have n25 : 4096 ≤ qz_N h 193 ∧ qz_N h 193 ≤ 4096 := ez_len hB t193 tq_45 rfl
      refine ez_aI hB t193 rfl tq_45 rfl rfl (by omega) (by omega) (fun (b24 : -128 ≤ qz_I h 193 ((a) + (6)).toNat) (b24' : qz_I h 193 ((a) + (6)).toNat ≤ 127) => ?_)
      refine ez_go (n := 1) (pc' := 58) (L' := [(2, .inl (1)), (0, .inr (.inr (some (720)))), (1, .inl (a))]) (st' := [.inl (46), .inl (qz_I h 193 ((a) + (6)).toNat)]) rfl ?_
      refine ez_icmp rfl rfl ⟨by first | omega | exact (sz_i32 _).1, by first | omega | exact (sz_i32 _).2⟩ ⟨by first | omega | exact (sz_i32 _).1, by first | omega | exact (sz_i32 _).2⟩ (fun (c26 : (qz_I h 193 ((a) + (6)).toNat) ≠ (46)) => ?_) (fun (c26 : ¬((qz_I h 193 ((a) + (6)).toNat) ≠ (46))) => ?_)
      · skip
        refine ez_go (n := 2) (pc' := 95) (L' := [(3, .inl (0)), (2, .inl (1)), (0, .inr (.inr (some (720)))), (1, .inl (a))]) (st' := []) rfl ?_
        refine ez_less [(3, .inl (0)), (2, .inl (1)), (0, .inr (.inr (some (720)))), (1, .inl (a))] rfl ⟨rfl, rfl, rfl, rfl, trivial⟩ ?_
        exact rd_readElement_b hB t720 a0 a1 (by decide) (by decide) k
      · skip
        refine ez_go (n := 1) (pc' := 62) (L' := [(2, .inl (1)), (0, .inr (.inr (some (720)))), (1, .inl (a))]) (st' := [.inr (.inr (some (720)))]) rfl ?_
        refine ez_gC (p := 193) (tg := 45) hB t720 rfl rfl tq_52 rfl rfl (fun (t193 : _ = 45) => ?_)
        refine ez_go (n := 3) (pc' := 69) (L' := [(2, .inl (1)), (0, .inr (.inr (some (720)))), (1, .inl (a))]) (st' := [.inl ((a) + (11)), .inr (.inr (some (193)))]) rfl ?_
        have n28 : 4096 ≤ qz_N h 193 ∧ qz_N h 193 ≤ 4096 := ez_len hB t193 tq_45 rfl
        refine ez_aI hB t193 rfl tq_45 rfl rfl (by omega) (by omega) (fun (b27 : -128 ≤ qz_I h 193 ((a) + (11)).toNat) (b27' : qz_I h 193 ((a) + (11)).toNat ≤ 127) => ?_)
        refine ez_go (n := 1) (pc' := 72) (L' := [(2, .inl (1)), (0, .inr (.inr (some (720)))), (1, .inl (a))]) (st' := [.inl (46), .inl (qz_I h 193 ((a) + (11)).toNat)]) rfl ?_
        refine ez_icmp rfl rfl ⟨by first | omega | exact (sz_i32 _).1, by first | omega | exact (sz_i32 _).2⟩ ⟨by first | omega | exact (sz_i32 _).1, by first | omega | exact (sz_i32 _).2⟩ (fun (c29 : (qz_I h 193 ((a) + (11)).toNat) ≠ (46)) => ?_) (fun (c29 : ¬((qz_I h 193 ((a) + (11)).toNat) ≠ (46))) => ?_)
        · skip
          refine ez_go (n := 2) (pc' := 95) (L' := [(3, .inl (0)), (2, .inl (1)), (0, .inr (.inr (some (720)))), (1, .inl (a))]) (st' := []) rfl ?_
          refine ez_less [(3, .inl (0)), (2, .inl (1)), (0, .inr (.inr (some (720)))), (1, .inl (a))] rfl ⟨rfl, rfl, rfl, rfl, trivial⟩ ?_
          exact rd_readElement_b hB t720 a0 a1 (by decide) (by decide) k
        · skip
          refine ez_go (n := 1) (pc' := 76) (L' := [(2, .inl (1)), (0, .inr (.inr (some (720)))), (1, .inl (a))]) (st' := [.inr (.inr (some (720)))]) rfl ?_
          refine ez_gC (p := 193) (tg := 45) hB t720 rfl rfl tq_52 rfl rfl (fun (t193 : _ = 45) => ?_)
          refine ez_go (n := 3) (pc' := 83) (L' := [(2, .inl (1)), (0, .inr (.inr (some (720)))), (1, .inl (a))]) (st' := [.inl ((a) + (16)), .inr (.inr (some (193)))]) rfl ?_
          have n31 : 4096 ≤ qz_N h 193 ∧ qz_N h 193 ≤ 4096 := ez_len hB t193 tq_45 rfl
          refine ez_aI hB t193 rfl tq_45 rfl rfl (by omega) (by omega) (fun (b30 : -128 ≤ qz_I h 193 ((a) + (16)).toNat) (b30' : qz_I h 193 ((a) + (16)).toNat ≤ 127) => ?_)
          refine ez_go (n := 1) (pc' := 86) (L' := [(2, .inl (1)), (0, .inr (.inr (some (720)))), (1, .inl (a))]) (st' := [.inl (93), .inl (qz_I h 193 ((a) + (16)).toNat)]) rfl ?_
          refine ez_icmp rfl rfl ⟨by first | omega | exact (sz_i32 _).1, by first | omega | exact (sz_i32 _).2⟩ ⟨by first | omega | exact (sz_i32 _).1, by first | omega | exact (sz_i32 _).2⟩ (fun (c32 : (qz_I h 193 ((a) + (16)).toNat) ≠ (93)) => ?_) (fun (c32 : ¬((qz_I h 193 ((a) + (16)).toNat) ≠ (93))) => ?_)
          · skip
            refine ez_go (n := 2) (pc' := 95) (L' := [(3, .inl (0)), (2, .inl (1)), (0, .inr (.inr (some (720)))), (1, .inl (a))]) (st' := []) rfl ?_
            refine ez_less [(3, .inl (0)), (2, .inl (1)), (0, .inr (.inr (some (720)))), (1, .inl (a))] rfl ⟨rfl, rfl, rfl, rfl, trivial⟩ ?_
            exact rd_readElement_b hB t720 a0 a1 (by decide) (by decide) k
          · skip
            refine ez_go (n := 3) (pc' := 95) (L' := [(3, .inl (1)), (2, .inl (1)), (0, .inr (.inr (some (720)))), (1, .inl (a))]) (st' := []) rfl ?_
            refine ez_less [(3, .inl (1)), (2, .inl (1)), (0, .inr (.inr (some (720)))), (1, .inl (a))] rfl ⟨rfl, rfl, rfl, rfl, trivial⟩ ?_
            exact rd_readElement_b hB t720 a0 a1 (by decide) (by decide) k

/-- m elements stand from a to stop -/
def nz_el (b : Int → Int) (stop : Int) : Nat → Int → Prop
  | 0, a => stop ≤ a
  | m + 1, a => a + 17 ≤ stop ∧ nz_el b stop m (rz_skip b (stop - (a + 17)).toNat (a + 17))
theorem nz_el_le (b : Int → Int) (stop : Int) : ∀ m a, nz_el b stop m a → m ≤ (stop - a).toNat
  | 0, a, _ => by omega
  | m + 1, a, h => by
    have h1 := h.1
    have h2 := nz_el_le b stop m _ h.2
    have h3 := rz_skip_le b (stop - (a + 17)).toNat (a + 17)
    omega
theorem rd_countElements_l {bg en : Int} (hB : ez_B τ h) (t720 : τ 720 = 52) (b0 : 0 ≤ bg) (be : bg ≤ en) (e1 : en ≤ 4096) (kN : Q (.inl (some (ez_v (.inl (-1)))), h)) : ∀ (n : Nat) (a m : Int), (en - a).toNat ≤ n → 0 ≤ a → a ≤ en → 0 ≤ m → m ≤ a → (∀ q, nz_el (rz_b h) en q a → Q (.inl (some (ez_v (.inl (m + (q : Int))))), h)) → ez_W (d + 2) cm_148 5 [(4, .inl (a)), (3, .inl (m)), (0, .inr (.inr (some (720)))), (1, .inl (bg)), (2, .inl (en))] [] h Q := by
  intro n
  induction n with
  | zero =>
    intro a m hm a0 a1 m0 m1 hk
    refine ez_go (n := 2) (pc' := 8) (L' := [(4, .inl (a)), (3, .inl (m)), (0, .inr (.inr (some (720)))), (1, .inl (bg)), (2, .inl (en))]) (st' := [.inl (en), .inl (a)]) rfl ?_
    refine ez_icmp rfl rfl ⟨by first | omega | exact (sz_i32 _).1, by first | omega | exact (sz_i32 _).2⟩ ⟨by first | omega | exact (sz_i32 _).1, by first | omega | exact (sz_i32 _).2⟩ (fun (c1 : (en) ≤ (a)) => ?_) (fun (c1 : ¬((en) ≤ (a))) => ?_)
    · skip
      refine ez_go (n := 1) (pc' := 54) (L' := [(4, .inl (a)), (3, .inl (m)), (0, .inr (.inr (some (720)))), (1, .inl (bg)), (2, .inl (en))]) (st' := [.inl (m)]) rfl ?_
      exact ez_retI rfl rfl (by have := hk 0 (by show en ≤ a; omega); rw [show m + ((0 : Nat) : Int) = m by omega] at this; exact this)
    · exfalso; omega
  | succ n ih =>
    intro a m hm a0 a1 m0 m1 hk
    refine ez_go (n := 2) (pc' := 8) (L' := [(4, .inl (a)), (3, .inl (m)), (0, .inr (.inr (some (720)))), (1, .inl (bg)), (2, .inl (en))]) (st' := [.inl (en), .inl (a)]) rfl ?_
    refine ez_icmp rfl rfl ⟨by first | omega | exact (sz_i32 _).1, by first | omega | exact (sz_i32 _).2⟩ ⟨by first | omega | exact (sz_i32 _).1, by first | omega | exact (sz_i32 _).2⟩ (fun (c1 : (en) ≤ (a)) => ?_) (fun (c1 : ¬((en) ≤ (a))) => ?_)
    · skip
      refine ez_go (n := 1) (pc' := 54) (L' := [(4, .inl (a)), (3, .inl (m)), (0, .inr (.inr (some (720)))), (1, .inl (bg)), (2, .inl (en))]) (st' := [.inl (m)]) rfl ?_
      exact ez_retI rfl rfl (by have := hk 0 (by show en ≤ a; omega); rw [show m + ((0 : Nat) : Int) = m by omega] at this; exact this)
    · skip
      refine ez_go (n := 4) (pc' := 17) (L' := [(4, .inl (a)), (3, .inl (m)), (0, .inr (.inr (some (720)))), (1, .inl (bg)), (2, .inl (en))]) (st' := [.inl (17), .inl ((en) - (a))]) rfl ?_
      refine ez_icmp rfl rfl ⟨by first | omega | exact (sz_i32 _).1, by first | omega | exact (sz_i32 _).2⟩ ⟨by first | omega | exact (sz_i32 _).1, by first | omega | exact (sz_i32 _).2⟩ (fun (c2 : ((en) - (a)) < (17)) => ?_) (fun (c2 : ¬(((en) - (a)) < (17))) => ?_)
      · skip
        refine ez_go (n := 1) (pc' := 34) (L' := [(4, .inl (a)), (3, .inl (m)), (0, .inr (.inr (some (720)))), (1, .inl (bg)), (2, .inl (en))]) (st' := [.inl (-1)]) rfl ?_
        exact ez_retI rfl rfl (kN)
      · skip
        refine ez_go (n := 2) (pc' := 23) (L' := [(4, .inl (a)), (3, .inl (m)), (0, .inr (.inr (some (720)))), (1, .inl (bg)), (2, .inl (en))]) (st' := [.inl (a), .inr (.inr (some (720)))]) rfl ?_
        refine ez_cv hB t720 rfl rfl rfl tq_52 rfl rfl rfl (rd_readElement hB t720 (by omega) (by omega) (fun x => ez_KL ?_))
        refine ez_ldc2 (-1) rfl rfl rfl ?_
        refine ez_go (n := 1) (pc' := 30) (L' := [(4, .inl (a)), (3, .inl (m)), (0, .inr (.inr (some (720)))), (1, .inl (bg)), (2, .inl (en))]) (st' := [.inl ((lg_cmp (x) (Int64.ofInt (-1))).toInt)]) rfl ?_
        refine ez_if rfl rfl ⟨by first | omega | exact (sz_i32 _).1, by first | omega | exact (sz_i32 _).2⟩ (fun (c3 : ((lg_cmp (x) (Int64.ofInt (-1))).toInt) ≠ (0)) => ?_) (fun (c3 : ¬(((lg_cmp (x) (Int64.ofInt (-1))).toInt) ≠ (0))) => ?_)
        · skip
          refine ez_go (n := 6) (pc' := 45) (L' := [(3, .inl (m + 1)), (4, .inl (a)), (0, .inr (.inr (some (720)))), (1, .inl (bg)), (2, .inl (en))]) (st' := [.inl (en), .inl ((a) + (17)), .inr (.inr (some (720)))]) rfl ?_
          have xs := rz_skip_le (rz_b h) (en - (a + 17)).toNat (a + 17)
          refine ez_cv hB t720 rfl rfl rfl tq_52 rfl rfl rfl (rd_skipBlanks hB t720 (by omega) (by omega) (by omega) (ez_K1 ?_))
          refine ez_go (n := 2) (pc' := 5) (L' := [(4, .inl (rz_skip (rz_b h) (en - (a + 17)).toNat (a + 17))), (3, .inl (m + 1)), (0, .inr (.inr (some (720)))), (1, .inl (bg)), (2, .inl (en))]) (st' := []) rfl ?_
          refine ez_less [(4, .inl (rz_skip (rz_b h) (en - (a + 17)).toNat (a + 17))), (3, .inl (m + 1)), (0, .inr (.inr (some (720)))), (1, .inl (bg)), (2, .inl (en))] rfl ⟨rfl, rfl, rfl, rfl, rfl, trivial⟩ ?_
          refine ih _ _ (by omega) (by omega) (by omega) (by omega) (by omega) (fun q hq => ?_)
          have := hk (q + 1) ⟨by omega, hq⟩
          rw [show m + (((q + 1 : Nat)) : Int) = m + 1 + (q : Int) by omega] at this
          exact this
        · skip
          refine ez_go (n := 1) (pc' := 34) (L' := [(4, .inl (a)), (3, .inl (m)), (0, .inr (.inr (some (720)))), (1, .inl (bg)), (2, .inl (en))]) (st' := [.inl (-1)]) rfl ?_
          exact ez_retI rfl rfl (kN)
theorem rd_countElements {bg en : Int} (hB : ez_B τ h) (t720 : τ 720 = 52) (b0 : 0 ≤ bg) (be : bg ≤ en) (e1 : en ≤ 4096) (kN : Q (.inl (some (ez_v (.inl (-1)))), h)) (kS : ∀ q, nz_el (rz_b h) en q bg → Q (.inl (some (ez_v (.inl (q : Int)))), h)) : ez_W (d + 2) cm_148 0 [(0, .inr (.inr (some (720)))), (1, .inl (bg)), (2, .inl (en))] [] h Q := by
  refine ez_go (n := 4) (pc' := 5) (L' := [(4, .inl (bg)), (3, .inl (0)), (0, .inr (.inr (some (720)))), (1, .inl (bg)), (2, .inl (en))]) (st' := []) rfl ?_
  refine ez_less [(4, .inl (bg)), (3, .inl (0)), (0, .inr (.inr (some (720)))), (1, .inl (bg)), (2, .inl (en))] rfl ⟨rfl, rfl, rfl, rfl, rfl, trivial⟩ ?_
  exact rd_countElements_l hB t720 b0 be e1 kN _ bg 0 (Nat.le_refl _) (by omega) (by omega) (by omega) (by omega) (fun q hq => by have := kS q hq; rw [show (0 : Int) + (q : Int) = (q : Int) by omega]; exact this)

theorem rd_readElements_l {bg en n : Int} {p : Nat} (t720 : τ 720 = 52) (tp : τ p = 9) (hp : 1000 ≤ p ∨ p ≠ 193) (b0 : 0 ≤ bg) (be : bg ≤ en) (e1 : en ≤ 4096) (n1 : n ≤ 18) (kk : ∀ g, ez_B τ g → ez_fr (ez_one p) h g → Q (.inl (some (.inr (.inr (some p)))), g)) : ∀ (m : Nat) (k a : Int) (g : cz_H), 0 ≤ a → 0 ≤ k → n = k + (m : Int) → ez_B τ g → ez_fr (ez_one p) h g → qz_N g p = n → nz_el (rz_b h) en m a → ez_W (d + 2) cm_164 31 [(6, .inl (k)), (5, .inl (a)), (4, .inr (.inr (some (p)))), (3, .inl (n)), (0, .inr (.inr (some (720)))), (1, .inl (bg)), (2, .inl (en))] [] g Q := by
  intro m
  induction m with
  | zero =>
    intro k a g a0 k0 hk hB hf hN hel
    refine ez_go (n := 2) (pc' := 34) (L' := [(6, .inl (k)), (5, .inl (a)), (4, .inr (.inr (some (p)))), (3, .inl (n)), (0, .inr (.inr (some (720)))), (1, .inl (bg)), (2, .inl (en))]) (st' := [.inl (n), .inl (k)]) rfl ?_
    refine ez_icmp rfl rfl ⟨by first | omega | exact (sz_i32 _).1, by first | omega | exact (sz_i32 _).2⟩ ⟨by first | omega | exact (sz_i32 _).1, by first | omega | exact (sz_i32 _).2⟩ (fun (c1 : (n) ≤ (k)) => ?_) (fun (c1 : ¬((n) ≤ (k))) => ?_)
    · skip
      refine ez_go (n := 1) (pc' := 68) (L' := [(6, .inl (k)), (5, .inl (a)), (4, .inr (.inr (some (p)))), (3, .inl (n)), (0, .inr (.inr (some (720)))), (1, .inl (bg)), (2, .inl (en))]) (st' := [.inr (.inr (some (p)))]) rfl ?_
      exact ez_retA rfl rfl rfl (kk g hB hf)
    · exfalso; omega
  | succ m ih =>
    intro k a g a0 k0 hk hB hf hN hel
    refine ez_go (n := 2) (pc' := 34) (L' := [(6, .inl (k)), (5, .inl (a)), (4, .inr (.inr (some (p)))), (3, .inl (n)), (0, .inr (.inr (some (720)))), (1, .inl (bg)), (2, .inl (en))]) (st' := [.inl (n), .inl (k)]) rfl ?_
    refine ez_icmp rfl rfl ⟨by first | omega | exact (sz_i32 _).1, by first | omega | exact (sz_i32 _).2⟩ ⟨by first | omega | exact (sz_i32 _).1, by first | omega | exact (sz_i32 _).2⟩ (fun (c1 : (n) ≤ (k)) => ?_) (fun (c1 : ¬((n) ≤ (k))) => ?_)
    · exfalso; omega
    · skip
      refine ez_go (n := 4) (pc' := 44) (L' := [(6, .inl (k)), (5, .inl (a)), (4, .inr (.inr (some (p)))), (3, .inl (n)), (0, .inr (.inr (some (720)))), (1, .inl (bg)), (2, .inl (en))]) (st' := [.inl (a), .inr (.inr (some (720))), .inl (k), .inr (.inr (some (p)))]) rfl ?_
      have hel1 := hel.1
      refine ez_cv hB t720 rfl rfl rfl tq_52 rfl rfl rfl (rd_readElement hB t720 (by omega) (by omega) (fun x => ez_KL ?_))
      have n4 : 1 ≤ qz_N g p ∧ qz_N g p ≤ 18 := ez_len hB tp tq_9 rfl
      refine ez_as hB tp rfl tq_9 rfl rfl (by omega) (by omega) ez_vdJ (fun hB2 w3 => ?_)
      refine ez_go (n := 5) (pc' := 55) (L' := [(6, .inl (k)), (5, .inl (a)), (4, .inr (.inr (some (p)))), (3, .inl (n)), (0, .inr (.inr (some (720)))), (1, .inl (bg)), (2, .inl (en))]) (st' := [.inl (en), .inl ((a) + (17)), .inr (.inr (some (720)))]) rfl ?_
      have hb1 : rz_b (dz_put g p (k).toNat (ez_v (.inr (.inl (x))))) = rz_b h := rz_b_fr (hf.put (show Nat.beq p p = true from Nat.beq_refl p) _ _) (dz_beq_ne (by omega))
      have xs := rz_skip_le (rz_b h) (en - (a + 17)).toNat (a + 17)
      refine ez_cv hB2 t720 rfl rfl rfl tq_52 rfl rfl rfl (rd_skipBlanks hB2 t720 (by omega) (by omega) (by omega) (ez_K1 ?_))
      rw [hb1]
      refine ez_go (n := 3) (pc' := 31) (L' := [(6, .inl (k + 1)), (5, .inl (rz_skip (rz_b h) (en - (a + 17)).toNat (a + 17))), (4, .inr (.inr (some (p)))), (3, .inl (n)), (0, .inr (.inr (some (720)))), (1, .inl (bg)), (2, .inl (en))]) (st' := []) rfl ?_
      refine ez_less [(6, .inl (k + 1)), (5, .inl (rz_skip (rz_b h) (en - (a + 17)).toNat (a + 17))), (4, .inr (.inr (some (p)))), (3, .inl (n)), (0, .inr (.inr (some (720)))), (1, .inl (bg)), (2, .inl (en))] rfl ⟨rfl, rfl, rfl, rfl, rfl, rfl, rfl, trivial⟩ ?_
      exact ih _ _ _ (by omega) (by omega) (by omega) hB2 (hf.put (show Nat.beq p p = true from Nat.beq_refl p) _ _) (by rw [ez_put_N]; exact hN) hel.2
theorem rd_readElements {bg en : Int} (hB : ez_B τ h) (t720 : τ 720 = 52) (t193 : τ 193 = 45) (b0 : 0 ≤ bg) (be : bg ≤ en) (e1 : en ≤ 4096) (hr1 : h.1 + 1 ≤ 600192) (hr2 : h.2.1 + 18 ≤ 7302232) (k : ∀ o g τ1, ez_B τ1 g → ez_xt τ h τ1 g 1 18 → (∀ p, o = some p → τ1 p = 9 ∧ τ p = 0) → Q (.inl (some (.inr (.inr o))), g)) : ez_W (d + 3) cm_164 0 [(0, .inr (.inr (some (720)))), (1, .inl (bg)), (2, .inl (en))] [] h Q := by
  refine ez_go (n := 3) (pc' := 3) (L' := [(0, .inr (.inr (some (720)))), (1, .inl (bg)), (2, .inl (en))]) (st' := [.inl (en), .inl (bg), .inr (.inr (some (720)))]) rfl ?_
  refine ez_cv hB t720 rfl rfl rfl tq_52 rfl rfl rfl (rd_countElements hB t720 b0 be e1 (ez_K1 ?_) (fun q hq => ez_K1 ?_))
  · skip
    refine ez_go (n := 3) (pc' := 9) (L' := [(3, .inl (-1)), (0, .inr (.inr (some (720)))), (1, .inl (bg)), (2, .inl (en))]) (st' := [.inl (1), .inl (-1)]) rfl ?_
    refine ez_icmp rfl rfl ⟨by decide, by decide⟩ ⟨by decide, by decide⟩ (fun _ => ?_) (fun (c1 : ¬((-1 : Int) < (1))) => absurd c1 (by decide))
    refine ez_go (n := 1) (pc' := 19) (L' := [(3, .inl (-1)), (0, .inr (.inr (some (720)))), (1, .inl (bg)), (2, .inl (en))]) (st' := [.inr (.inr none)]) rfl ?_
    exact ez_retA rfl rfl rfl (k none h τ hB (ez_xt.refl _ _ _ _) (fun p w => by cases w))
  · skip
    have hql := nz_el_le _ _ _ _ hq
    refine ez_go (n := 3) (pc' := 9) (L' := [(3, .inl ((q : Int))), (0, .inr (.inr (some (720)))), (1, .inl (bg)), (2, .inl (en))]) (st' := [.inl (1), .inl ((q : Int))]) rfl ?_
    refine ez_icmp rfl rfl ⟨by first | omega | exact (sz_i32 _).1, by first | omega | exact (sz_i32 _).2⟩ ⟨by first | omega | exact (sz_i32 _).1, by first | omega | exact (sz_i32 _).2⟩ (fun (c2 : ((q : Int)) < (1)) => ?_) (fun (c2 : ¬(((q : Int)) < (1))) => ?_)
    · skip
      refine ez_go (n := 1) (pc' := 19) (L' := [(3, .inl ((q : Int))), (0, .inr (.inr (some (720)))), (1, .inl (bg)), (2, .inl (en))]) (st' := [.inr (.inr none)]) rfl ?_
      exact ez_retA rfl rfl rfl (k none h τ hB (ez_xt.refl _ _ _ _) (fun p w => by cases w))
    · skip
      refine ez_go (n := 2) (pc' := 15) (L' := [(3, .inl ((q : Int))), (0, .inr (.inr (some (720)))), (1, .inl (bg)), (2, .inl (en))]) (st' := [.inl (18), .inl ((q : Int))]) rfl ?_
      refine ez_icmp rfl rfl ⟨by first | omega | exact (sz_i32 _).1, by first | omega | exact (sz_i32 _).2⟩ ⟨by first | omega | exact (sz_i32 _).1, by first | omega | exact (sz_i32 _).2⟩ (fun (c3 : ((q : Int)) ≤ (18)) => ?_) (fun (c3 : ¬(((q : Int)) ≤ (18))) => ?_)
      · skip
        refine ez_go (n := 1) (pc' := 21) (L' := [(3, .inl ((q : Int))), (0, .inr (.inr (some (720)))), (1, .inl (bg)), (2, .inl (en))]) (st' := [.inl ((q : Int))]) rfl ?_
        refine ez_nA' (t := 9) hB rfl rfl rfl tq_9 rfl rfl (by omega) (by show (1 : Int) ≤ _; omega) (by show _ ≤ (18 : Int); omega) (by omega) (by omega) (by omega) (fun g4 τ4 p4 hB4 x4 o4 t4 z4 e4 N4 y4 => ?_)
        have c4 := x4.2
        have t720n4 := (x4.1 _ (by rw [t720]; decide)).1.trans t720
        refine ez_go (n := 5) (pc' := 31) (L' := [(6, .inl (0)), (5, .inl (bg)), (4, .inr (.inr (some (p4)))), (3, .inl ((q : Int))), (0, .inr (.inr (some (720)))), (1, .inl (bg)), (2, .inl (en))]) (st' := []) rfl ?_
        refine ez_less [(6, .inl (0)), (5, .inl (bg)), (4, .inr (.inr (some (p4)))), (3, .inl ((q : Int))), (0, .inr (.inr (some (720)))), (1, .inl (bg)), (2, .inl (en))] rfl ⟨rfl, rfl, rfl, rfl, rfl, rfl, rfl, trivial⟩ ?_
        have h193 : p4 ≠ 193 := fun e => by rw [e, t193] at z4; cases z4
        have hb9 : rz_b g4 = rz_b h := funext fun i => x4.I (by rw [t193]; decide) _
        exact rd_readElements_l t720n4 t4 (Or.inr h193) b0 be e1 (by omega) (fun g hB9 hf => k (some _) g _ hB9 (((x4.fr hf z4)).mono (by omega) (by omega)) (fun p w => by cases w; exact ⟨t4, z4⟩)) q 0 bg _ (by omega) (by omega) (by omega) hB4 (ez_fr.refl _ _) N4 (by rw [hb9]; exact hq)
      · skip
        refine ez_go (n := 1) (pc' := 19) (L' := [(3, .inl ((q : Int))), (0, .inr (.inr (some (720)))), (1, .inl (bg)), (2, .inl (en))]) (st' := [.inr (.inr none)]) rfl ?_
        exact ez_retA rfl rfl rfl (k none h τ hB (ez_xt.refl _ _ _ _) (fun p w => by cases w))

end EzK1
