/-! DATA of the class, functionally: spans. (Written by wip/p2/py/pv9.py.) -/
theorem ez_half {a : Int} (h0 : 0 ≤ a) (h1 : a ≤ 2147483647) : (((Int32.ofInt a).toUInt32 >>> ((Int32.ofInt 1).toUInt32 &&& Int32.toUInt32 31)).toInt32).toInt = a / 2 := by
  have e : (Int32.ofInt a).toInt = a := dz_toInt_i (by omega) h1
  have := dz_ushr1 (a := Int32.ofInt a) (b := Int32.ofInt 1) (by rw [e]; exact h0) rfl
  rw [this, e]
/-- where the span number i lies, where it begins -/
def sz_p (h : cz_H) (i : Int) : Nat := qz_P h 203 i.toNat
def sz_f (h : cz_H) (i : Int) : Int := qz_I h (sz_p h i) 0
/-- spans begin one behind the other, the first one with 0 -/
def sz_ok (h : cz_H) : Prop := sz_f h 0 = 0 ∧ ∀ i j : Int, 0 ≤ i → i < j → j < qz_I h 202 1 → sz_f h i < sz_f h j
section EzDt
variable {d : Nat} {h : cz_H} {τ : Nat → Nat} {Q : cz_F → Prop}
theorem rd_spanIndex_l {p : Int} (hB : ez_B τ h) (t202 : τ 202 = 48) (p0 : 0 ≤ p) (p1 : p ≤ 2147483647) (k : ∀ i, 0 ≤ i → i < qz_I h 202 1 → sz_f h i ≤ p → (i + 1 < qz_I h 202 1 → p < sz_f h (i + 1)) → Q (.inl (some (ez_v (.inl i))), h)) : ∀ (n : Nat) (low high : Int), (high - low).toNat ≤ n → 0 ≤ low → low ≤ high → high < qz_I h 202 1 → qz_I h 202 1 ≤ 513 → sz_f h low ≤ p → (high + 1 < qz_I h 202 1 → p < sz_f h (high + 1)) → ez_W d cm_102 9 [(3, .inl (high)), (2, .inl (low)), (0, .inr (.inr (some (202)))), (1, .inl (p))] [] h Q := by
  intro n
  induction n with
  | zero =>
    intro low high hn l0 l1 h1 n1 fl fh
    refine ez_go (n := 2) (pc' := 11) (L' := [(3, .inl (high)), (2, .inl (low)), (0, .inr (.inr (some (202)))), (1, .inl (p))]) (st' := [.inl (high), .inl (low)]) rfl ?_
    refine ez_icmp rfl rfl ⟨by omega, by omega⟩ ⟨by omega, by omega⟩ (fun (c1 : (high) ≤ (low)) => ?_) (fun (c1 : ¬((high) ≤ (low))) => ?_)
    · skip
      refine ez_go (n := 1) (pc' := 52) (L' := [(3, .inl (high)), (2, .inl (low)), (0, .inr (.inr (some (202)))), (1, .inl (p))]) (st' := [.inl (low)]) rfl ?_
      have e : low = high := by omega
      subst e
      exact ez_retI rfl rfl (k low l0 h1 fl fh)
    · exfalso; omega
  | succ n ih =>
    intro low high hn l0 l1 h1 n1 fl fh
    refine ez_go (n := 2) (pc' := 11) (L' := [(3, .inl (high)), (2, .inl (low)), (0, .inr (.inr (some (202)))), (1, .inl (p))]) (st' := [.inl (high), .inl (low)]) rfl ?_
    refine ez_icmp rfl rfl ⟨by omega, by omega⟩ ⟨by omega, by omega⟩ (fun (c1 : (high) ≤ (low)) => ?_) (fun (c1 : ¬((high) ≤ (low))) => ?_)
    · skip
      refine ez_go (n := 1) (pc' := 52) (L' := [(3, .inl (high)), (2, .inl (low)), (0, .inr (.inr (some (202)))), (1, .inl (p))]) (st' := [.inl (low)]) rfl ?_
      have e : low = high := by omega
      subst e
      exact ez_retI rfl rfl (k low l0 h1 fl fh)
    · skip
      refine ez_go (n := 8) (pc' := 23) (L' := [(4, .inl ((((Int32.ofInt (((low) + (high)) + (1))).toUInt32 >>> ((Int32.ofInt (1)).toUInt32 &&& Int32.toUInt32 31)).toInt32).toInt)), (3, .inl (high)), (2, .inl (low)), (0, .inr (.inr (some (202)))), (1, .inl (p))]) (st' := []) rfl ?_
      rw [ez_half (a := low + high + 1) (by omega) (by omega)]
      refine ez_go (n := 1) (pc' := 24) (L' := [(4, .inl ((low + high + 1) / 2)), (3, .inl (high)), (2, .inl (low)), (0, .inr (.inr (some (202)))), (1, .inl (p))]) (st' := [.inr (.inr (some (202)))]) rfl ?_
      refine ez_gC (p := 203) (tg := 49) hB t202 rfl rfl tq_48 rfl rfl (fun (t203 : _ = 49) => ?_)
      refine ez_go (n := 1) (pc' := 29) (L' := [(4, .inl ((low + high + 1) / 2)), (3, .inl (high)), (2, .inl (low)), (0, .inr (.inr (some (202)))), (1, .inl (p))]) (st' := [.inl ((low + high + 1) / 2), .inr (.inr (some (203)))]) rfl ?_
      have n3 : 513 ≤ qz_N h 203 ∧ qz_N h 203 ≤ 513 := ez_len hB t203 tq_49 rfl
      have y4 : 1 ≤ qz_I h 203 ((low + high + 1) / 2).toNat ∧ qz_I h 203 ((low + high + 1) / 2).toNat ≤ 1000000 := ez_aB hB t203 tq_49 rfl rfl (by decide) (by omega) (by omega)
      have y4' : ((qz_P h 203 ((low + high + 1) / 2).toNat : Nat) : Int) + 1 = qz_I h 203 ((low + high + 1) / 2).toNat := by unfold qz_P; omega
      refine ez_aR hB t203 rfl tq_49 rfl rfl (by omega) (by omega) (by omega) (fun (t2 : _ = 4) => ?_)
      refine ez_gI hB t2 rfl rfl tq_4 rfl rfl (fun (b5 : -2147483648 ≤ qz_I h (qz_P h 203 ((low + high + 1) / 2).toNat) 0) (b5' : qz_I h (qz_P h 203 ((low + high + 1) / 2).toNat) 0 ≤ 2147483647) => ?_)
      refine ez_go (n := 1) (pc' := 34) (L' := [(4, .inl ((low + high + 1) / 2)), (3, .inl (high)), (2, .inl (low)), (0, .inr (.inr (some (202)))), (1, .inl (p))]) (st' := [.inl (p), .inl (qz_I h (qz_P h 203 ((low + high + 1) / 2).toNat) 0)]) rfl ?_
      refine ez_icmp rfl rfl ⟨by omega, by omega⟩ ⟨by omega, by omega⟩ (fun (c6 : (p) < (qz_I h (qz_P h 203 ((low + high + 1) / 2).toNat) 0)) => ?_) (fun (c6 : ¬((p) < (qz_I h (qz_P h 203 ((low + high + 1) / 2).toNat) 0))) => ?_)
      · skip
        refine ez_go (n := 5) (pc' := 9) (L' := [(3, .inl (((low + high + 1) / 2) - (1))), (4, .inl ((low + high + 1) / 2)), (2, .inl (low)), (0, .inr (.inr (some (202)))), (1, .inl (p))]) (st' := []) rfl ?_
        refine ez_less [(3, .inl (((low + high + 1) / 2) - (1))), (2, .inl (low)), (0, .inr (.inr (some (202)))), (1, .inl (p))] rfl ⟨rfl, rfl, rfl, rfl, trivial⟩ ?_
        exact ih _ _ (by omega) (by omega) (by omega) (by omega) n1 fl (fun _ => by rw [show (low + high + 1) / 2 - 1 + 1 = (low + high + 1) / 2 by omega]; show p < qz_I h (qz_P h 203 ((low + high + 1) / 2).toNat) 0; omega)
      · skip
        refine ez_go (n := 4) (pc' := 9) (L' := [(2, .inl ((low + high + 1) / 2)), (4, .inl ((low + high + 1) / 2)), (3, .inl (high)), (0, .inr (.inr (some (202)))), (1, .inl (p))]) (st' := []) rfl ?_
        refine ez_less [(3, .inl (high)), (2, .inl ((low + high + 1) / 2)), (0, .inr (.inr (some (202)))), (1, .inl (p))] rfl ⟨rfl, rfl, rfl, rfl, trivial⟩ ?_
        exact ih _ _ (by omega) (by omega) (by omega) (by omega) n1 (by show qz_I h (qz_P h 203 ((low + high + 1) / 2).toNat) 0 ≤ p; omega) fh
theorem rd_spanIndex {p : Int} (hB : ez_B τ h) (t202 : τ 202 = 48) (hs : sz_ok h) (p0 : 0 ≤ p) (p1 : p ≤ 2147483647) (k : ∀ i, 0 ≤ i → i < qz_I h 202 1 → sz_f h i ≤ p → (i + 1 < qz_I h 202 1 → p < sz_f h (i + 1)) → Q (.inl (some (ez_v (.inl i))), h)) : ez_W d cm_102 0 [(0, .inr (.inr (some (202)))), (1, .inl (p))] [] h Q := by
  refine ez_go (n := 3) (pc' := 3) (L' := [(2, .inl (0)), (0, .inr (.inr (some (202)))), (1, .inl (p))]) (st' := [.inr (.inr (some (202)))]) rfl ?_
  refine ez_gI hB t202 rfl rfl tq_48 rfl rfl (fun (b1 : 1 ≤ qz_I h 202 1) (b1' : qz_I h 202 1 ≤ 513) => ?_)
  refine ez_go (n := 3) (pc' := 9) (L' := [(3, .inl ((qz_I h 202 1) - (1))), (2, .inl (0)), (0, .inr (.inr (some (202)))), (1, .inl (p))]) (st' := []) rfl ?_
  refine ez_less [(3, .inl ((qz_I h 202 1) - (1))), (2, .inl (0)), (0, .inr (.inr (some (202)))), (1, .inl (p))] rfl ⟨rfl, rfl, rfl, rfl, trivial⟩ ?_
  exact rd_spanIndex_l hB t202 p0 p1 k _ _ _ (Nat.le_refl _) (by omega) (by omega) (by omega) (by omega) (by rw [hs.1]; exact p0) (fun w => by omega)

end EzDt
/-! Constructors. (Written by wip/p2/py/pv10.py.) -/
/-- Object's constructor -/
theorem ez_ob {d : Nat} {M : cz_M} {pc : Nat} {L : List (Nat × ez_V)} {st : List ez_V} {h : cz_H} {Q : cz_F → Prop} {x a b c r : Nat} (hc : cz_code M pc = some (.invokespecial x, 3)) (hq : cz_lk M x = some (6, a, b, c)) (hs : Nat.ble st.length 20 = true) (k : ez_W (d + 1) M (pc + 3) L st h Q) : ez_W (d + 1) M pc L (.inr (.inr (some r)) :: st) h Q := by
  refine dz_wp_hp (q := (pc + 3, st.map ez_v, h)) hc rfl rfl rfl rfl rfl ?_ k
  show cz_hobj M (d + 1) x pc (.inr (.inr (some r)) :: st.map ez_v) h = _
  unfold cz_hobj
  have e : Nat.ble (st.map ez_v).length 20 = true := by rw [List.length_map]; exact hs
  simp only [hq, e, show Nat.beq 6 6 = true from rfl, show Nat.blt 0 (d + 1) = true from Nat.blt_eq.mpr (Nat.succ_pos d), Bool.and_self, cond_true]
section EzCt
variable {d : Nat} {h : cz_H} {τ : Nat → Nat} {Q : cz_F → Prop} {r : Nat}
theorem rd_Fact_init (hB : ez_B τ h) (tr : τ r = 3) (k : ∀ g, ez_B τ g → ez_fr (ez_one r) h g → (∀ j, j ≠ 1 → j ≠ 5 → j ≠ 6 → j ≠ 7 → qz_I g r j = qz_I h r j) → Q (.inl none, g)) : ez_W (d + 1) cm_134 0 [(0, .inr (.inr (some (r))))] [] h Q := by
  refine ez_go (n := 1) (pc' := 1) (L' := [(0, .inr (.inr (some (r))))]) (st' := [.inr (.inr (some (r)))]) rfl ?_
  refine ez_ob rfl rfl rfl ?_
  refine ez_go (n := 2) (pc' := 8) (L' := [(0, .inr (.inr (some (r))))]) (st' := [.inl (17262), .inr (.inr (some (r)))]) rfl ?_
  refine ez_pf hB tr rfl rfl tq_3 rfl rfl rfl rfl (ez_vdI rfl rfl (by omega) (by omega)) (fun hB1 w2 => ?_)
  refine ez_go (n := 2) (pc' := 13) (L' := [(0, .inr (.inr (some (r))))]) (st' := [.inl (-1), .inr (.inr (some (r)))]) rfl ?_
  refine ez_pf hB1 tr rfl rfl tq_3 rfl rfl rfl rfl (ez_vdI rfl rfl (by omega) (by omega)) (fun hB3 w4 => ?_)
  refine ez_go (n := 2) (pc' := 18) (L' := [(0, .inr (.inr (some (r))))]) (st' := [.inl (-1), .inr (.inr (some (r)))]) rfl ?_
  refine ez_pf hB3 tr rfl rfl tq_3 rfl rfl rfl rfl (ez_vdI rfl rfl (by omega) (by omega)) (fun hB5 w6 => ?_)
  refine ez_go (n := 2) (pc' := 23) (L' := [(0, .inr (.inr (some (r))))]) (st' := [.inl (-1), .inr (.inr (some (r)))]) rfl ?_
  refine ez_pf hB5 tr rfl rfl tq_3 rfl rfl rfl rfl (ez_vdI rfl rfl (by omega) (by omega)) (fun hB7 w8 => ?_)
  exact ez_ret0 rfl rfl (k _ hB7 (((((ez_fr.refl (ez_one r) h).put (show Nat.beq r r = true from Nat.beq_refl r) _ _).put (show Nat.beq r r = true from Nat.beq_refl r) _ _).put (show Nat.beq r r = true from Nat.beq_refl r) _ _).put (show Nat.beq r r = true from Nat.beq_refl r) _ _) (fun j j1 j5 j6 j7 => by rw [ez_put_I (by omega)]; rw [ez_put_I (by omega)]; rw [ez_put_I (by omega)]; rw [ez_put_I (by omega)]))

end EzCt
/-! Spans: copies and cuts. (Written by wip/p2/py/pv11.py.) -/
theorem ez_sur (v : cz_V) : ∃ u, v = ez_v u := by
  obtain x | x := v
  · exact ⟨.inl x.toInt, by show _ = Sum.inl (Int32.ofInt x.toInt); rw [ez_of]⟩
  · exact ⟨.inr x, rfl⟩
section EzCp
variable {d : Nat} {M : cz_M} {pc : Nat} {L : List (Nat × ez_V)} {st : List ez_V} {h : cz_H} {Q : cz_F → Prop} {τ : Nat → Nat}
/-- a field out of one object into the same field of another one like it -/
theorem ez_cp {x y q0 q1 cl k w t a b : Nat} {ti : dz_I} {c : Nat} {lo hi : Int} {tg : Nat} {ks : List Nat} (hB : ez_B τ h) (ha : τ a = t) (hb : τ b = t) (hc : cz_code M pc = some (.getfield x, 3)) (hq : cz_lk M x = some (q0, cl, k, w)) (hc2 : cz_code M (pc + 3) = some (.putfield y, 3)) (hq2 : cz_lk M y = some (q1, cl, k, 1)) (hti : tz_T t = some ti) (hD : dz_nth ti.2.2.2.2 k = some (c, lo, hi, tg, 0)) (hks : cz_pg.2.1[cl]? = some ks) (hkk : ks[k]? = some c) (hbo : (Nat.ble q0 1 && (Nat.ble q1 1 && ((Nat.beq ti.1 0 && Nat.beq ti.2.1 cl) && Nat.beq ti.2.2.1 1))) = true) (kk : ∀ v, ez_B τ (dz_put h a k v) → qz_I (dz_put h a k v) a k = qz_I h b k → ez_W d M (pc + 6) L st (dz_put h a k v) Q) : ez_W d M pc L (.inr (.inr (some b)) :: .inr (.inr (some a)) :: st) h Q := by
  rw [Bool.and_eq_true] at hbo
  obtain ⟨b1, b2⟩ := hbo
  have b2' := b2
  rw [Bool.and_eq_true, Bool.and_eq_true] at b2'
  obtain ⟨vs, v, o1, o2, o3, o4, -⟩ := ez_fld hB hb hti b2'.2.1 hD
  obtain ⟨u, rfl⟩ := ez_sur v
  refine ez_getf hc hq b1 o1 o2 rfl ?_
  refine ez_pf hB ha hc2 hq2 hti hD hks hkk b2 ⟨o4.1, o4.2.1, o4.2.2.1, ez_m40⟩ (fun g1 g2 => ?_)
  exact kk _ g1 (g2.trans (qz_I_of o3).symm)
end EzCp
section EzSp
variable {d : Nat} {h : cz_H} {τ : Nat → Nat} {Q : cz_F → Prop}
theorem rd_copyFrom {a b : Nat} (hB : ez_B τ h) (ta : τ a = 4) (tb : τ b = 4) (hab : a ≠ b) (k : ∀ g, ez_B τ g → ez_fr (ez_one a) h g → qz_I g a 0 = qz_I h a 0 → (∀ j, 1 ≤ j → j ≤ 8 → qz_I g a j = qz_I h b j) → Q (.inl none, g)) : ez_W d cm_183 0 [(0, .inr (.inr (some a))), (1, .inr (.inr (some b)))] [] h Q := by
  refine ez_go (n := 2) (pc' := 2) (L' := [(0, .inr (.inr (some a))), (1, .inr (.inr (some b)))]) (st' := [.inr (.inr (some b)), .inr (.inr (some a))]) rfl ?_
  refine ez_cp hB ta tb rfl rfl rfl rfl tq_4 rfl rfl rfl rfl (fun v1 g1 w1 => ?_)
  refine ez_go (n := 2) (pc' := 10) (L' := [(0, .inr (.inr (some a))), (1, .inr (.inr (some b)))]) (st' := [.inr (.inr (some b)), .inr (.inr (some a))]) rfl ?_
  refine ez_cp g1 ta tb rfl rfl rfl rfl tq_4 rfl rfl rfl rfl (fun v2 g2 w2 => ?_)
  refine ez_go (n := 2) (pc' := 18) (L' := [(0, .inr (.inr (some a))), (1, .inr (.inr (some b)))]) (st' := [.inr (.inr (some b)), .inr (.inr (some a))]) rfl ?_
  refine ez_cp g2 ta tb rfl rfl rfl rfl tq_4 rfl rfl rfl rfl (fun v3 g3 w3 => ?_)
  refine ez_go (n := 2) (pc' := 26) (L' := [(0, .inr (.inr (some a))), (1, .inr (.inr (some b)))]) (st' := [.inr (.inr (some b)), .inr (.inr (some a))]) rfl ?_
  refine ez_cp g3 ta tb rfl rfl rfl rfl tq_4 rfl rfl rfl rfl (fun v4 g4 w4 => ?_)
  refine ez_go (n := 2) (pc' := 34) (L' := [(0, .inr (.inr (some a))), (1, .inr (.inr (some b)))]) (st' := [.inr (.inr (some b)), .inr (.inr (some a))]) rfl ?_
  refine ez_cp g4 ta tb rfl rfl rfl rfl tq_4 rfl rfl rfl rfl (fun v5 g5 w5 => ?_)
  refine ez_go (n := 2) (pc' := 42) (L' := [(0, .inr (.inr (some a))), (1, .inr (.inr (some b)))]) (st' := [.inr (.inr (some b)), .inr (.inr (some a))]) rfl ?_
  refine ez_cp g5 ta tb rfl rfl rfl rfl tq_4 rfl rfl rfl rfl (fun v6 g6 w6 => ?_)
  refine ez_go (n := 2) (pc' := 50) (L' := [(0, .inr (.inr (some a))), (1, .inr (.inr (some b)))]) (st' := [.inr (.inr (some b)), .inr (.inr (some a))]) rfl ?_
  refine ez_cp g6 ta tb rfl rfl rfl rfl tq_4 rfl rfl rfl rfl (fun v7 g7 w7 => ?_)
  refine ez_go (n := 2) (pc' := 58) (L' := [(0, .inr (.inr (some a))), (1, .inr (.inr (some b)))]) (st' := [.inr (.inr (some b)), .inr (.inr (some a))]) rfl ?_
  refine ez_cp g7 ta tb rfl rfl rfl rfl tq_4 rfl rfl rfl rfl (fun v8 g8 w8 => ?_)
  refine ez_ret0 rfl rfl (k _ g8 (((((((((ez_fr.refl (ez_one a) h).put (show Nat.beq a a = true from Nat.beq_refl a) _ _).put (show Nat.beq a a = true from Nat.beq_refl a) _ _).put (show Nat.beq a a = true from Nat.beq_refl a) _ _).put (show Nat.beq a a = true from Nat.beq_refl a) _ _).put (show Nat.beq a a = true from Nat.beq_refl a) _ _).put (show Nat.beq a a = true from Nat.beq_refl a) _ _).put (show Nat.beq a a = true from Nat.beq_refl a) _ _).put (show Nat.beq a a = true from Nat.beq_refl a) _ _) (by rw [ez_put_I (by omega), ez_put_I (by omega), ez_put_I (by omega), ez_put_I (by omega), ez_put_I (by omega), ez_put_I (by omega), ez_put_I (by omega), ez_put_I (by omega)]) (fun j j1 j8 => ?_))
  have hj : j = 1 ∨ j = 2 ∨ j = 3 ∨ j = 4 ∨ j = 5 ∨ j = 6 ∨ j = 7 ∨ j = 8 := by omega
  rcases hj with rfl | rfl | rfl | rfl | rfl | rfl | rfl | rfl
  · rw [ez_put_I (by omega), ez_put_I (by omega), ez_put_I (by omega), ez_put_I (by omega), ez_put_I (by omega), ez_put_I (by omega), ez_put_I (by omega), w1]
  · rw [ez_put_I (by omega), ez_put_I (by omega), ez_put_I (by omega), ez_put_I (by omega), ez_put_I (by omega), ez_put_I (by omega), w2, ez_put_I (fun w => hab w.1.symm)]
  · rw [ez_put_I (by omega), ez_put_I (by omega), ez_put_I (by omega), ez_put_I (by omega), ez_put_I (by omega), w3, ez_put_I (fun w => hab w.1.symm), ez_put_I (fun w => hab w.1.symm)]
  · rw [ez_put_I (by omega), ez_put_I (by omega), ez_put_I (by omega), ez_put_I (by omega), w4, ez_put_I (fun w => hab w.1.symm), ez_put_I (fun w => hab w.1.symm), ez_put_I (fun w => hab w.1.symm)]
  · rw [ez_put_I (by omega), ez_put_I (by omega), ez_put_I (by omega), w5, ez_put_I (fun w => hab w.1.symm), ez_put_I (fun w => hab w.1.symm), ez_put_I (fun w => hab w.1.symm), ez_put_I (fun w => hab w.1.symm)]
  · rw [ez_put_I (by omega), ez_put_I (by omega), w6, ez_put_I (fun w => hab w.1.symm), ez_put_I (fun w => hab w.1.symm), ez_put_I (fun w => hab w.1.symm), ez_put_I (fun w => hab w.1.symm), ez_put_I (fun w => hab w.1.symm)]
  · rw [ez_put_I (by omega), w7, ez_put_I (fun w => hab w.1.symm), ez_put_I (fun w => hab w.1.symm), ez_put_I (fun w => hab w.1.symm), ez_put_I (fun w => hab w.1.symm), ez_put_I (fun w => hab w.1.symm), ez_put_I (fun w => hab w.1.symm)]
  · rw [w8, ez_put_I (fun w => hab w.1.symm), ez_put_I (fun w => hab w.1.symm), ez_put_I (fun w => hab w.1.symm), ez_put_I (fun w => hab w.1.symm), ez_put_I (fun w => hab w.1.symm), ez_put_I (fun w => hab w.1.symm), ez_put_I (fun w => hab w.1.symm)]
end EzSp
/-! Spans: the cut. (Written by wip/p2/py/pv12.py.) -/
section EzCut
variable {d : Nat} {h : cz_H} {τ : Nat → Nat} {Q : cz_F → Prop}
theorem rd_cut_l {p idx n : Int} {q : Nat} (t202 : τ 202 = 48) (t203 : τ 203 = 49) (tq : τ q = 4) (i0 : 0 ≤ idx) (n1 : n < 513) (kx : ∀ g, ez_B τ g → ez_fr (ez_one 203) h g → (∀ k : Int, 0 ≤ k → qz_I g 203 k.toNat = if idx + 1 < k ∧ k ≤ n then qz_I h 203 (k - 1).toNat else qz_I h 203 k.toNat) → ez_W d cm_97 88 [(3, .inr (.inr (some (q)))), (2, .inl (idx)), (0, .inr (.inr (some (202)))), (1, .inl (p))] [] g Q) : ∀ (m : Nat) (i : Int) (g : cz_H), m = (i - (idx + 1)).toNat → idx + 1 ≤ i → i ≤ n → ez_B τ g → ez_fr (ez_one 203) h g → (∀ k : Int, 0 ≤ k → qz_I g 203 k.toNat = if i < k ∧ k ≤ n then qz_I h 203 (k - 1).toNat else qz_I h 203 k.toNat) → ez_W d cm_97 58 [(4, .inl (i)), (3, .inr (.inr (some (q)))), (2, .inl (idx)), (0, .inr (.inr (some (202)))), (1, .inl (p))] [] g Q := by
  intro m
  induction m with
  | zero =>
    intro i g hm a1 a2 hB hf hs
    refine ez_go (n := 4) (pc' := 63) (L' := [(4, .inl (i)), (3, .inr (.inr (some (q)))), (2, .inl (idx)), (0, .inr (.inr (some (202)))), (1, .inl (p))]) (st' := [.inl ((idx) + (1)), .inl (i)]) rfl ?_
    refine ez_icmp rfl rfl ⟨by omega, by omega⟩ ⟨by omega, by omega⟩ (fun (c1 : (i) ≤ ((idx) + (1))) => ?_) (fun (c1 : ¬((i) ≤ ((idx) + (1)))) => ?_)
    · skip
      refine ez_less [(3, .inr (.inr (some (q)))), (2, .inl (idx)), (0, .inr (.inr (some (202)))), (1, .inl (p))] rfl ⟨rfl, rfl, rfl, rfl, trivial⟩ ?_
      exact kx g hB hf (by rw [show idx + 1 = i by omega]; exact hs)
    · exfalso; omega
  | succ m ih =>
    intro i g hm a1 a2 hB hf hs
    refine ez_go (n := 4) (pc' := 63) (L' := [(4, .inl (i)), (3, .inr (.inr (some (q)))), (2, .inl (idx)), (0, .inr (.inr (some (202)))), (1, .inl (p))]) (st' := [.inl ((idx) + (1)), .inl (i)]) rfl ?_
    refine ez_icmp rfl rfl ⟨by omega, by omega⟩ ⟨by omega, by omega⟩ (fun (c1 : (i) ≤ ((idx) + (1))) => ?_) (fun (c1 : ¬((i) ≤ ((idx) + (1)))) => ?_)
    · exfalso; omega
    · skip
      refine ez_go (n := 1) (pc' := 67) (L' := [(4, .inl (i)), (3, .inr (.inr (some (q)))), (2, .inl (idx)), (0, .inr (.inr (some (202)))), (1, .inl (p))]) (st' := [.inr (.inr (some (202)))]) rfl ?_
      refine ez_gC (p := 203) (tg := 49) hB t202 rfl rfl tq_48 rfl rfl (fun (t203 : _ = 49) => ?_)
      refine ez_go (n := 2) (pc' := 73) (L' := [(4, .inl (i)), (3, .inr (.inr (some (q)))), (2, .inl (idx)), (0, .inr (.inr (some (202)))), (1, .inl (p))]) (st' := [.inr (.inr (some (202))), .inl (i), .inr (.inr (some (203)))]) rfl ?_
      refine ez_gC (p := 203) (tg := 49) hB t202 rfl rfl tq_48 rfl rfl (fun (t203 : _ = 49) => ?_)
      refine ez_go (n := 3) (pc' := 80) (L' := [(4, .inl (i)), (3, .inr (.inr (some (q)))), (2, .inl (idx)), (0, .inr (.inr (some (202)))), (1, .inl (p))]) (st' := [.inl ((i) - (1)), .inr (.inr (some (203))), .inl (i), .inr (.inr (some (203)))]) rfl ?_
      have n3 : 513 ≤ qz_N g 203 ∧ qz_N g 203 ≤ 513 := ez_len hB t203 tq_49 rfl
      have y4 : 1 ≤ qz_I g 203 ((i) - (1)).toNat ∧ qz_I g 203 ((i) - (1)).toNat ≤ 1000000 := ez_aB hB t203 tq_49 rfl rfl (by decide) (by omega) (by omega)
      have y4' : ((qz_P g 203 ((i) - (1)).toNat : Nat) : Int) + 1 = qz_I g 203 ((i) - (1)).toNat := by unfold qz_P; omega
      refine ez_aR hB t203 rfl tq_49 rfl rfl (by omega) (by omega) (by omega) (fun (t2 : _ = 4) => ?_)
      have n7 : 513 ≤ qz_N g 203 ∧ qz_N g 203 ≤ 513 := ez_len hB t203 tq_49 rfl
      refine ez_aa hB t203 t2 rfl tq_49 tq_4 rfl rfl rfl (by omega) (by omega) (ez_vdR rfl t2 (by omega) (by omega)) (fun hB5 w6 => ?_)
      refine ez_go (n := 2) (pc' := 58) (L' := [(4, .inl (i + (-1))), (3, .inr (.inr (some (q)))), (2, .inl (idx)), (0, .inr (.inr (some (202)))), (1, .inl (p))]) (st' := []) rfl ?_
      refine ez_less [(4, .inl (i + (-1))), (3, .inr (.inr (some (q)))), (2, .inl (idx)), (0, .inr (.inr (some (202)))), (1, .inl (p))] rfl ⟨rfl, rfl, rfl, rfl, rfl, trivial⟩ ?_
      refine ih _ _ (by omega) (by omega) (by omega) hB5 (hf.put rfl _ _) (fun k k0 => ?_)
      by_cases e : k = i
      · subst e
        rw [w6, if_pos (by omega)]
        have := hs (k - 1) (by omega)
        rw [if_neg (by omega)] at this
        omega
      · rw [ez_put_I (by omega), hs k k0]
        by_cases e2 : i < k ∧ k ≤ n
        · rw [if_pos e2, if_pos (by omega)]
        · rw [if_neg e2, if_neg (by omega)]
def sz_P3 (q z : Nat) : Bool := Nat.beq z 202 || (Nat.beq z 203 || Nat.beq z q)
theorem rd_cut_e {p idx n : Int} {q : Nat} (hB : ez_B τ h) (t202 : τ 202 = 48) (t203 : τ 203 = 49) (tq : τ q = 4) (hqb : q ≠ qz_P h 203 idx.toNat) (hq1 : (q : Int) + 1 ≤ 1000000) (hn : qz_I h 202 1 = n) (n0 : 0 ≤ n) (n1 : n < 513) (i0 : 0 ≤ idx) (i1 : idx + 1 < 513) (p0 : 0 ≤ p) (p1 : p ≤ 1114111) (k : ∀ g, ez_B τ g → ez_fr (sz_P3 q) h g → qz_I g 202 1 = n + 1 → (∀ j, j ≠ 1 → qz_I g 202 j = qz_I h 202 j) → (∀ k : Int, 0 ≤ k → qz_I g 203 k.toNat = if k = idx + 1 then (q : Int) + 1 else qz_I h 203 k.toNat) → qz_I g q 0 = p → (∀ j, 1 ≤ j → j ≤ 8 → qz_I g q j = qz_I h (qz_P h 203 idx.toNat) j) → Q (.inl (some (ez_v (.inl (idx + 1)))), g)) : ez_W (d + 1) cm_97 88 [(3, .inr (.inr (some (q)))), (2, .inl (idx)), (0, .inr (.inr (some (202)))), (1, .inl (p))] [] h Q := by
  refine ez_go (n := 2) (pc' := 90) (L' := [(3, .inr (.inr (some (q)))), (2, .inl (idx)), (0, .inr (.inr (some (202)))), (1, .inl (p))]) (st' := [.inr (.inr (some (202))), .inr (.inr (some (q)))]) rfl ?_
  refine ez_gC (p := 203) (tg := 49) hB t202 rfl rfl tq_48 rfl rfl (fun (t203 : _ = 49) => ?_)
  refine ez_go (n := 1) (pc' := 94) (L' := [(3, .inr (.inr (some (q)))), (2, .inl (idx)), (0, .inr (.inr (some (202)))), (1, .inl (p))]) (st' := [.inl (idx), .inr (.inr (some (203))), .inr (.inr (some (q)))]) rfl ?_
  have n2 : 513 ≤ qz_N h 203 ∧ qz_N h 203 ≤ 513 := ez_len hB t203 tq_49 rfl
  have y3 : 1 ≤ qz_I h 203 (idx).toNat ∧ qz_I h 203 (idx).toNat ≤ 1000000 := ez_aB hB t203 tq_49 rfl rfl (by decide) (by omega) (by omega)
  have y3' : ((qz_P h 203 (idx).toNat : Nat) : Int) + 1 = qz_I h 203 (idx).toNat := by unfold qz_P; omega
  refine ez_aR hB t203 rfl tq_49 rfl rfl (by omega) (by omega) (by omega) (fun (t1 : _ = 4) => ?_)
  refine ez_cv hB tq rfl rfl rfl tq_4 rfl rfl rfl (rd_copyFrom hB tq t1 hqb (fun g1 hB1 hf1 hz hcp => ez_K0 ?_))
  refine ez_go (n := 2) (pc' := 100) (L' := [(3, .inr (.inr (some (q)))), (2, .inl (idx)), (0, .inr (.inr (some (202)))), (1, .inl (p))]) (st' := [.inl (p), .inr (.inr (some (q)))]) rfl ?_
  refine ez_pf hB1 tq rfl rfl tq_4 rfl rfl rfl rfl (ez_vdI rfl rfl (by omega) (by omega)) (fun hB4 w5 => ?_)
  refine ez_go (n := 1) (pc' := 104) (L' := [(3, .inr (.inr (some (q)))), (2, .inl (idx)), (0, .inr (.inr (some (202)))), (1, .inl (p))]) (st' := [.inr (.inr (some (202)))]) rfl ?_
  refine ez_gC (p := 203) (tg := 49) hB4 t202 rfl rfl tq_48 rfl rfl (fun (t203 : _ = 49) => ?_)
  refine ez_go (n := 4) (pc' := 111) (L' := [(3, .inr (.inr (some (q)))), (2, .inl (idx)), (0, .inr (.inr (some (202)))), (1, .inl (p))]) (st' := [.inr (.inr (some (q))), .inl ((idx) + (1)), .inr (.inr (some (203)))]) rfl ?_
  have n8 : 513 ≤ qz_N (dz_put g1 q 0 (ez_v (.inl (p)))) 203 ∧ qz_N (dz_put g1 q 0 (ez_v (.inl (p)))) 203 ≤ 513 := ez_len hB4 t203 tq_49 rfl
  refine ez_aa hB4 t203 tq rfl tq_49 tq_4 rfl rfl rfl (by omega) (by omega) (ez_vdR rfl tq (by omega) (by omega)) (fun hB6 w7 => ?_)
  have q202 : ez_one q 202 = false := rz_ne t202 tq rfl
  have q203 : ez_one q 203 = false := rz_ne t203 tq rfl
  have n202 : (202 : Nat) ≠ q := fun e => by rw [← e, t202] at tq; cases tq
  have n203 : (203 : Nat) ≠ q := fun e => by rw [← e, t203] at tq; cases tq
  have hn2 : qz_I (dz_put (dz_put g1 q 0 (ez_v (.inl (p)))) 203 ((idx) + (1)).toNat (ez_v (.inr (.inr (some (q)))))) 202 1 = n := by rw [ez_put_I (by omega), ez_put_I (by omega), hf1.I q202]; exact hn
  refine ez_go (n := 2) (pc' := 114) (L' := [(3, .inr (.inr (some (q)))), (2, .inl (idx)), (0, .inr (.inr (some (202)))), (1, .inl (p))]) (st' := [.inr (.inr (some (202))), .inr (.inr (some (202)))]) rfl ?_
  refine ez_gI hB6 t202 rfl rfl tq_48 rfl rfl (fun (b9 : 1 ≤ qz_I (dz_put (dz_put g1 q 0 (ez_v (.inl (p)))) 203 ((idx) + (1)).toNat (ez_v (.inr (.inr (some (q)))))) 202 1) (b9' : qz_I (dz_put (dz_put g1 q 0 (ez_v (.inl (p)))) 203 ((idx) + (1)).toNat (ez_v (.inr (.inr (some (q)))))) 202 1 ≤ 513) => ?_)
  refine ez_go (n := 2) (pc' := 119) (L' := [(3, .inr (.inr (some (q)))), (2, .inl (idx)), (0, .inr (.inr (some (202)))), (1, .inl (p))]) (st' := [.inl ((qz_I (dz_put (dz_put g1 q 0 (ez_v (.inl (p)))) 203 ((idx) + (1)).toNat (ez_v (.inr (.inr (some (q)))))) 202 1) + (1)), .inr (.inr (some (202)))]) rfl ?_
  refine ez_pf hB6 t202 rfl rfl tq_48 rfl rfl rfl rfl (ez_vdI rfl rfl (by omega) (by omega)) (fun hB10 w11 => ?_)
  refine ez_go (n := 3) (pc' := 125) (L' := [(3, .inr (.inr (some (q)))), (2, .inl (idx)), (0, .inr (.inr (some (202)))), (1, .inl (p))]) (st' := [.inl ((idx) + (1))]) rfl ?_
  refine ez_retI rfl rfl (k _ hB10 ?_ ?_ ?_ ?_ ?_ ?_)
  · have f0 : ez_fr (sz_P3 q) h g1 := ⟨hf1.1, hf1.2.1, fun z hz => hf1.2.2 z (by unfold sz_P3 at hz; simp only [Bool.or_eq_false_iff] at hz; exact hz.2.2)⟩
    exact ((f0.put (show sz_P3 q q = true by unfold sz_P3; rw [Nat.beq_refl]; simp) _ _).put (show sz_P3 q 203 = true by unfold sz_P3; simp) _ _).put (show sz_P3 q 202 = true by unfold sz_P3; simp) _ _
  · rw [w11, hn2]; exact rz_rd ⟨by omega, by omega⟩
  · intro j hj
    rw [ez_put_I (by omega), ez_put_I (by omega), ez_put_I (by omega), hf1.I q202]
  · intro k k0
    rw [ez_put_I (by omega)]
    by_cases e : k = idx + 1
    · rw [if_pos e, e]; exact w7
    · rw [if_neg e, ez_put_I (by omega), ez_put_I (by omega), hf1.I q203]
  · rw [ez_put_I (by omega), ez_put_I (by omega), w5]; exact rz_rd ⟨by omega, by omega⟩
  · intro j j1 j8
    rw [ez_put_I (by omega), ez_put_I (by omega), ez_put_I (by omega)]; exact hcp j j1 j8

end EzCut
/-! Spans: cutBefore. (Written by wip/p2/py/pv13.py.) -/
/-- bounds of a field -/
theorem ez_fB {τ : Nat → Nat} {h : cz_H} {r t cl k : Nat} {ti : dz_I} {c : Nat} {lo hi : Int} {tg md : Nat} (hB : ez_B τ h) (hτ : τ r = t) (hti : tz_T t = some ti) (hk : (Nat.beq ti.1 0 && Nat.beq ti.2.1 cl) = true) (hD : dz_nth ti.2.2.2.2 k = some (c, lo, hi, tg, md)) (hc : c ≠ 2) : lo ≤ qz_I h r k ∧ qz_I h r k ≤ hi := by
  obtain ⟨vs, v, -, -, o3, o4, -⟩ := ez_fld hB hτ hti hk hD
  exact ez_slB o3 o4 hc
/-- all spans are different ones -/
def sz_inj (h : cz_H) : Prop := ∀ i j : Int, 0 ≤ i → i < 513 → 0 ≤ j → j < 513 → sz_p h i = sz_p h j → i = j
/-- the span in which a point lies -/
def sz_at (h : cz_H) (p i : Int) : Prop := 0 ≤ i ∧ i < qz_I h 202 1 ∧ sz_f h i ≤ p ∧ (i + 1 < qz_I h 202 1 → p < sz_f h (i + 1))
section EzCb
variable {d : Nat} {h : cz_H} {τ : Nat → Nat} {Q : cz_F → Prop}
theorem rd_cutBefore {p : Int} (hB : ez_B τ h) (t202 : τ 202 = 48) (hs : sz_ok h) (hinj : sz_inj h) (p0 : 0 ≤ p) (p1 : p ≤ 2147483647) (kA : 1114111 < p → Q (.inl (some (ez_v (.inl (qz_I h 202 1)))), h)) (kB : ∀ i, sz_at h p i → p ≤ 1114111 → (sz_f h i = p ∨ 513 ≤ qz_I h 202 1) → Q (.inl (some (ez_v (.inl i))), h)) (kC : ∀ g i q, sz_at h p i → p ≤ 1114111 → sz_f h i ≠ p → qz_I h 202 1 < 513 → q = sz_p h (qz_I h 202 1) → ez_B τ g → ez_fr (sz_P3 q) h g → qz_I g 202 1 = qz_I h 202 1 + 1 → (∀ j, j ≠ 1 → qz_I g 202 j = qz_I h 202 j) → (∀ k : Int, 0 ≤ k → qz_I g 203 k.toNat = if k = i + 1 then (q : Int) + 1 else if i + 1 < k ∧ k ≤ qz_I h 202 1 then qz_I h 203 (k - 1).toNat else qz_I h 203 k.toNat) → qz_I g q 0 = p → (∀ j, 1 ≤ j → j ≤ 8 → qz_I g q j = qz_I h (sz_p h i) j) → Q (.inl (some (ez_v (.inl (i + 1)))), g)) : ez_W (d + 1) cm_97 0 [(0, .inr (.inr (some (202)))), (1, .inl (p))] [] h Q := by
  have bn : 1 ≤ qz_I h 202 1 ∧ qz_I h 202 1 ≤ 513 := ez_fB (cl := 2) hB t202 tq_48 rfl rfl (by decide)
  refine ez_go (n := 1) (pc' := 1) (L' := [(0, .inr (.inr (some (202)))), (1, .inl (p))]) (st' := [.inl (p)]) rfl ?_
  refine ez_ldc (1114111) rfl rfl rfl ?_
  refine ez_icmp rfl rfl ⟨by omega, by omega⟩ ⟨by omega, by omega⟩ (fun (c1 : (p) ≤ (1114111)) => ?_) (fun (c1 : ¬((p) ≤ (1114111))) => ?_)
  · skip
    refine ez_go (n := 2) (pc' := 13) (L' := [(0, .inr (.inr (some (202)))), (1, .inl (p))]) (st' := [.inl (p), .inr (.inr (some (202)))]) rfl ?_
    refine ez_cv hB t202 rfl rfl rfl tq_48 rfl rfl rfl (rd_spanIndex hB t202 hs (by omega) (by omega) (fun idx x0 x1 x2 x3 => ez_K1 ?_))
    have hx2 : qz_I h (qz_P h 203 (idx).toNat) 0 ≤ p := x2
    refine ez_go (n := 2) (pc' := 18) (L' := [(2, .inl (idx)), (0, .inr (.inr (some (202)))), (1, .inl (p))]) (st' := [.inr (.inr (some (202)))]) rfl ?_
    refine ez_gC (p := 203) (tg := 49) hB t202 rfl rfl tq_48 rfl rfl (fun (t203 : _ = 49) => ?_)
    refine ez_go (n := 1) (pc' := 22) (L' := [(2, .inl (idx)), (0, .inr (.inr (some (202)))), (1, .inl (p))]) (st' := [.inl (idx), .inr (.inr (some (203)))]) rfl ?_
    have n3 : 513 ≤ qz_N h 203 ∧ qz_N h 203 ≤ 513 := ez_len hB t203 tq_49 rfl
    have y4 : 1 ≤ qz_I h 203 (idx).toNat ∧ qz_I h 203 (idx).toNat ≤ 1000000 := ez_aB hB t203 tq_49 rfl rfl (by decide) (by omega) (by omega)
    have y4' : ((qz_P h 203 (idx).toNat : Nat) : Int) + 1 = qz_I h 203 (idx).toNat := by unfold qz_P; omega
    refine ez_aR hB t203 rfl tq_49 rfl rfl (by omega) (by omega) (by omega) (fun (t2 : _ = 4) => ?_)
    refine ez_gI hB t2 rfl rfl tq_4 rfl rfl (fun (b5 : -2147483648 ≤ qz_I h (qz_P h 203 (idx).toNat) 0) (b5' : qz_I h (qz_P h 203 (idx).toNat) 0 ≤ 2147483647) => ?_)
    refine ez_go (n := 1) (pc' := 27) (L' := [(2, .inl (idx)), (0, .inr (.inr (some (202)))), (1, .inl (p))]) (st' := [.inl (p), .inl (qz_I h (qz_P h 203 (idx).toNat) 0)]) rfl ?_
    refine ez_icmp rfl rfl ⟨by omega, by omega⟩ ⟨by omega, by omega⟩ (fun (c6 : (qz_I h (qz_P h 203 (idx).toNat) 0) = (p)) => ?_) (fun (c6 : ¬((qz_I h (qz_P h 203 (idx).toNat) 0) = (p))) => ?_)
    · skip
      refine ez_go (n := 1) (pc' := 41) (L' := [(2, .inl (idx)), (0, .inr (.inr (some (202)))), (1, .inl (p))]) (st' := [.inl (idx)]) rfl ?_
      exact ez_retI rfl rfl (kB idx ⟨x0, x1, x2, x3⟩ (by omega) (by first | (left; show qz_I h (qz_P h 203 (idx).toNat) 0 = p; omega) | (right; omega)))
    · skip
      refine ez_go (n := 1) (pc' := 31) (L' := [(2, .inl (idx)), (0, .inr (.inr (some (202)))), (1, .inl (p))]) (st' := [.inr (.inr (some (202)))]) rfl ?_
      refine ez_gI hB t202 rfl rfl tq_48 rfl rfl (fun (b7 : 1 ≤ qz_I h 202 1) (b7' : qz_I h 202 1 ≤ 513) => ?_)
      refine ez_go (n := 1) (pc' := 37) (L' := [(2, .inl (idx)), (0, .inr (.inr (some (202)))), (1, .inl (p))]) (st' := [.inl (513), .inl (qz_I h 202 1)]) rfl ?_
      refine ez_icmp rfl rfl ⟨by omega, by omega⟩ ⟨by omega, by omega⟩ (fun (c8 : (qz_I h 202 1) < (513)) => ?_) (fun (c8 : ¬((qz_I h 202 1) < (513))) => ?_)
      · skip
        refine ez_go (n := 1) (pc' := 43) (L' := [(2, .inl (idx)), (0, .inr (.inr (some (202)))), (1, .inl (p))]) (st' := [.inr (.inr (some (202)))]) rfl ?_
        refine ez_gC (p := 203) (tg := 49) hB t202 rfl rfl tq_48 rfl rfl (fun (t203 : _ = 49) => ?_)
        refine ez_go (n := 1) (pc' := 47) (L' := [(2, .inl (idx)), (0, .inr (.inr (some (202)))), (1, .inl (p))]) (st' := [.inr (.inr (some (202))), .inr (.inr (some (203)))]) rfl ?_
        refine ez_gI hB t202 rfl rfl tq_48 rfl rfl (fun (b9 : 1 ≤ qz_I h 202 1) (b9' : qz_I h 202 1 ≤ 513) => ?_)
        have n11 : 513 ≤ qz_N h 203 ∧ qz_N h 203 ≤ 513 := ez_len hB t203 tq_49 rfl
        have y12 : 1 ≤ qz_I h 203 (qz_I h 202 1).toNat ∧ qz_I h 203 (qz_I h 202 1).toNat ≤ 1000000 := ez_aB hB t203 tq_49 rfl rfl (by decide) (by omega) (by omega)
        have y12' : ((qz_P h 203 (qz_I h 202 1).toNat : Nat) : Int) + 1 = qz_I h 203 (qz_I h 202 1).toNat := by unfold qz_P; omega
        refine ez_aR hB t203 rfl tq_49 rfl rfl (by omega) (by omega) (by omega) (fun (t10 : _ = 4) => ?_)
        refine ez_go (n := 2) (pc' := 53) (L' := [(3, .inr (.inr (some (qz_P h 203 (qz_I h 202 1).toNat)))), (2, .inl (idx)), (0, .inr (.inr (some (202)))), (1, .inl (p))]) (st' := [.inr (.inr (some (202)))]) rfl ?_
        refine ez_gI hB t202 rfl rfl tq_48 rfl rfl (fun (b13 : 1 ≤ qz_I h 202 1) (b13' : qz_I h 202 1 ≤ 513) => ?_)
        refine ez_go (n := 1) (pc' := 58) (L' := [(4, .inl (qz_I h 202 1)), (3, .inr (.inr (some (qz_P h 203 (qz_I h 202 1).toNat)))), (2, .inl (idx)), (0, .inr (.inr (some (202)))), (1, .inl (p))]) (st' := []) rfl ?_
        refine ez_less [(4, .inl (qz_I h 202 1)), (3, .inr (.inr (some (qz_P h 203 (qz_I h 202 1).toNat)))), (2, .inl (idx)), (0, .inr (.inr (some (202)))), (1, .inl (p))] rfl ⟨rfl, rfl, rfl, rfl, rfl, trivial⟩ ?_
        have hq1 : ((qz_P h 203 (qz_I h 202 1).toNat : Nat) : Int) + 1 ≤ 1000000 := by omega
        refine rd_cut_l (n := qz_I h 202 1) t202 t203 t10 x0 (by omega) (fun g hB1 hf1 hs1 => ?_) _ _ h rfl (by omega) (by omega) hB (ez_fr.refl _ h) (fun k k0 => by rw [if_neg (by omega)])
        have hpi : qz_P g 203 (idx).toNat = qz_P h 203 (idx).toNat := by unfold qz_P; rw [hs1 idx x0, if_neg (by omega)]
        have hn1 : qz_I g 202 1 = qz_I h 202 1 := hf1.I rfl _
        refine rd_cut_e (n := qz_I h 202 1) hB1 t202 t203 t10 (fun e => ?_) hq1 hn1 (by omega) (by omega) x0 (by omega) (by omega) (by omega) (fun g2 hB2 hf2 v1 v2 v3 v4 v5 => ?_)
        · rw [hpi] at e; have := hinj (qz_I h 202 1) idx (by omega) (by omega) x0 (by omega) e; omega
        · refine kC g2 idx _ ⟨x0, x1, x2, x3⟩ (by omega) (fun w => ?_) (by omega) rfl hB2 ?_ v1 (fun j hj => (v2 j hj).trans (hf1.I rfl _)) (fun k k0 => ?_) v4 (fun j j1 j8 => ?_)
          · have w : qz_I h (qz_P h 203 (idx).toNat) 0 = p := w; omega
          · refine ⟨hf2.1.trans hf1.1, hf2.2.1.trans hf1.2.1, fun z hz => (hf2.2.2 z hz).trans (hf1.2.2 z ?_)⟩
            unfold sz_P3 at hz; simp only [Bool.or_eq_false_iff] at hz; exact hz.2.1
          · rw [v3 k k0]; by_cases e : k = idx + 1; (· rw [if_pos e, if_pos e]; rfl); (· rw [if_neg e, if_neg e, hs1 k k0])
          · show qz_I g2 (qz_P h 203 (qz_I h 202 1).toNat) j = qz_I h (qz_P h 203 (idx).toNat) j; rw [v5 j j1 j8, hpi]; exact hf1.I (rz_ne t2 t203 rfl) j
      · skip
        refine ez_go (n := 1) (pc' := 41) (L' := [(2, .inl (idx)), (0, .inr (.inr (some (202)))), (1, .inl (p))]) (st' := [.inl (idx)]) rfl ?_
        exact ez_retI rfl rfl (kB idx ⟨x0, x1, x2, x3⟩ (by omega) (by first | (left; show qz_I h (qz_P h 203 (idx).toNat) 0 = p; omega) | (right; omega)))
  · skip
    refine ez_go (n := 1) (pc' := 7) (L' := [(0, .inr (.inr (some (202)))), (1, .inl (p))]) (st' := [.inr (.inr (some (202)))]) rfl ?_
    refine ez_gI hB t202 rfl rfl tq_48 rfl rfl (fun (b14 : 1 ≤ qz_I h 202 1) (b14' : qz_I h 202 1 ≤ 513) => ?_)
    exact ez_retI rfl rfl (kA (by omega))

end EzCb
/-! Spans: what a cut leaves as it was. -/
/-- the cut's outcome: a span more behind number i, beginning with p -/
def sz_cut (h g : cz_H) (p i : Int) (q : Nat) : Prop := sz_at h p i ∧ sz_f h i ≠ p ∧ qz_I h 202 1 < 513 ∧ q = sz_p h (qz_I h 202 1) ∧ ez_fr (sz_P3 q) h g ∧ qz_I g 202 1 = qz_I h 202 1 + 1 ∧ (∀ k : Int, 0 ≤ k → qz_I g 203 k.toNat = if k = i + 1 then (q : Int) + 1 else if i + 1 < k ∧ k ≤ qz_I h 202 1 then qz_I h 203 (k - 1).toNat else qz_I h 203 k.toNat) ∧ qz_I g q 0 = p ∧ ∀ j, 1 ≤ j → j ≤ 8 → qz_I g q j = qz_I h (sz_p h i) j
section SzCut
variable {h g : cz_H} {p i : Int} {q : Nat} {τ : Nat → Nat}
theorem sz_cut.pl (c : sz_cut h g p i q) {k : Int} (k0 : 0 ≤ k) : sz_p g k = if k = i + 1 then q else if i + 1 < k ∧ k ≤ qz_I h 202 1 then sz_p h (k - 1) else sz_p h k := by
  obtain ⟨-, -, -, -, -, -, c7, -⟩ := c
  unfold sz_p qz_P
  rw [c7 k k0]
  by_cases e : k = i + 1
  · rw [if_pos e, if_pos e]; omega
  · rw [if_neg e, if_neg e]
    by_cases e2 : i + 1 < k ∧ k ≤ qz_I h 202 1
    · rw [if_pos e2, if_pos e2]
    · rw [if_neg e2, if_neg e2]
/-- a span's slots, but for the new one's -/
theorem sz_cut.sl (hB : ez_B τ h) (t202 : τ 202 = 48) (t203 : τ 203 = 49) (ts : ∀ k : Int, 0 ≤ k → k < 513 → τ (sz_p h k) = 4) (hinj : sz_inj h) (c : sz_cut h g p i q) {k : Int} (k0 : 0 ≤ k) (k1 : k < 513) (kn : k ≠ qz_I h 202 1) (j : Nat) : qz_I g (sz_p h k) j = qz_I h (sz_p h k) j := by
  obtain ⟨⟨a1, a2, -⟩, -, c3, c4, c5, -⟩ := c
  refine c5.I ?_ j
  have tk := ts k k0 k1
  have n1 : Nat.beq (sz_p h k) 202 = false := dz_beq_ne (fun e => by rw [e, t202] at tk; cases tk)
  have n2 : Nat.beq (sz_p h k) 203 = false := dz_beq_ne (fun e => by rw [e, t203] at tk; cases tk)
  have n3 : Nat.beq (sz_p h k) q = false := dz_beq_ne (fun e => by rw [c4] at e; exact kn (hinj k _ k0 k1 (by omega) c3 e))
  unfold sz_P3
  rw [n1, n2, n3]
  rfl
/-- where span number k of the new ones was -/
def sz_old (i k : Int) : Int := if k ≤ i then k else k - 1
theorem sz_cut.f (hB : ez_B τ h) (t202 : τ 202 = 48) (t203 : τ 203 = 49) (ts : ∀ k : Int, 0 ≤ k → k < 513 → τ (sz_p h k) = 4) (hinj : sz_inj h) (c : sz_cut h g p i q) {k : Int} (k0 : 0 ≤ k) (k1 : k ≤ qz_I h 202 1) (kn : k ≠ i + 1) : sz_p g k = sz_p h (sz_old i k) ∧ ∀ j, qz_I g (sz_p g k) j = qz_I h (sz_p h (sz_old i k)) j := by
  have hp := c.pl k0
  rw [if_neg kn] at hp
  have hi := c.1.1
  have hin := c.1.2.1
  have c3 := c.2.2.1
  have e : sz_p g k = sz_p h (sz_old i k) := by
    rw [hp]
    unfold sz_old
    by_cases e2 : k ≤ i
    · rw [if_pos e2, if_neg (by omega)]
    · rw [if_neg e2, if_pos (by omega)]
  refine ⟨e, fun j => ?_⟩
  rw [e]
  refine c.sl hB t202 t203 ts hinj ?_ ?_ ?_ j <;> (unfold sz_old; split <;> omega)
theorem sz_cut.ok (hB : ez_B τ h) (t202 : τ 202 = 48) (t203 : τ 203 = 49) (ts : ∀ k : Int, 0 ≤ k → k < 513 → τ (sz_p h k) = 4) (hinj : sz_inj h) (hs : sz_ok h) (c : sz_cut h g p i q) : sz_ok g ∧ sz_inj g := by
  have hi := c.1.1
  have hin := c.1.2.1
  have hfp := c.1.2.2.1
  have hnx := c.1.2.2.2
  have hne := c.2.1
  have c3 := c.2.2.1
  have c4 := c.2.2.2.1
  have c6 := c.2.2.2.2.2.1
  have c8 := c.2.2.2.2.2.2.2.1
  have fo : ∀ k, 0 ≤ k → k ≤ qz_I h 202 1 → k ≠ i + 1 → sz_f g k = sz_f h (sz_old i k) := fun k k0 k1 kn => (c.f hB t202 t203 ts hinj k0 k1 kn).2 0
  have fn : sz_f g (i + 1) = p := by
    have := c.pl (k := i + 1) (by omega)
    rw [if_pos rfl] at this
    unfold sz_f
    rw [this]; exact c8
  refine ⟨⟨?_, ?_⟩, ?_⟩
  · rw [fo 0 (by omega) (by omega) (by omega)]
    unfold sz_old
    rw [if_pos hi]; exact hs.1
  · intro a b a0 ab bn
    rw [c6] at bn
    by_cases ea : a = i + 1
    · rw [ea, fn, fo b (by omega) (by omega) (by omega)]
      unfold sz_old
      rw [if_neg (by omega)]
      by_cases eb : b - 1 = i + 1
      · rw [eb]; exact hnx (by omega)
      · have := hs.2 (i + 1) (b - 1) (by omega) (by omega) (by omega)
        have := hnx (by omega)
        omega
    · by_cases eb : b = i + 1
      · rw [eb, fn, fo a a0 (by omega) ea]
        unfold sz_old
        rw [if_pos (by omega)]
        by_cases e2 : a = i
        · rw [e2]; omega
        · have := hs.2 a i a0 (by omega) (by omega); omega
      · rw [fo a a0 (by omega) ea, fo b (by omega) (by omega) eb]
        refine hs.2 _ _ ?_ ?_ ?_
        · unfold sz_old; split <;> omega
        · unfold sz_old; split <;> split <;> omega
        · unfold sz_old; split <;> omega
  · intro a b a0 a1 b0 b1 e
    have ha := c.pl a0
    have hb := c.pl b0
    have hq : ∀ k : Int, 0 ≤ k → k < 513 → sz_p h k = q → k = qz_I h 202 1 := fun k k0 k1 w => by rw [c4] at w; exact hinj k _ k0 k1 (by omega) c3 w
    rw [e, hb] at ha
    by_cases ea : a = i + 1
    · rw [if_pos ea] at ha
      by_cases eb : b = i + 1
      · omega
      · rw [if_neg eb] at ha
        exfalso
        by_cases e2 : i + 1 < b ∧ b ≤ qz_I h 202 1
        · rw [if_pos e2] at ha; have := hq _ (by omega) (by omega) ha; omega
        · rw [if_neg e2] at ha; have := hq _ b0 b1 ha; omega
    · rw [if_neg ea] at ha
      by_cases eb : b = i + 1
      · rw [if_pos eb] at ha
        exfalso
        by_cases e2 : i + 1 < a ∧ a ≤ qz_I h 202 1
        · rw [if_pos e2] at ha; have := hq _ (by omega) (by omega) ha.symm; omega
        · rw [if_neg e2] at ha; have := hq _ a0 a1 ha.symm; omega
      · rw [if_neg eb] at ha
        by_cases e2 : i + 1 < a ∧ a ≤ qz_I h 202 1
        · rw [if_pos e2] at ha
          by_cases e3 : i + 1 < b ∧ b ≤ qz_I h 202 1
          · rw [if_pos e3] at ha; have := hinj _ _ (by omega) (by omega) (by omega) (by omega) ha; omega
          · rw [if_neg e3] at ha; have := hinj _ _ b0 b1 (by omega) (by omega) ha; omega
        · rw [if_neg e2] at ha
          by_cases e3 : i + 1 < b ∧ b ≤ qz_I h 202 1
          · rw [if_pos e3] at ha; have := hinj _ _ (by omega) (by omega) a0 a1 ha; omega
          · rw [if_neg e3] at ha; exact (hinj _ _ b0 b1 a0 a1 ha).symm
/-- of every point the same is told as before -/
theorem sz_cut.same (hB : ez_B τ h) (t202 : τ 202 = 48) (t203 : τ 203 = 49) (ts : ∀ k : Int, 0 ≤ k → k < 513 → τ (sz_p h k) = 4) (hinj : sz_inj h) (hs : sz_ok h) (c : sz_cut h g p i q) {x k : Int} (hk : sz_at g x k) : ∃ k', sz_at h x k' ∧ ∀ j, 1 ≤ j → j ≤ 8 → qz_I g (sz_p g k) j = qz_I h (sz_p h k') j := by
  have hi := c.1.1
  have hin := c.1.2.1
  have hfp := c.1.2.2.1
  have hnx := c.1.2.2.2
  have hne := c.2.1
  have c3 := c.2.2.1
  have c6 := c.2.2.2.2.2.1
  have c8 := c.2.2.2.2.2.2.2.1
  have c9 := c.2.2.2.2.2.2.2.2
  have fo : ∀ k, 0 ≤ k → k ≤ qz_I h 202 1 → k ≠ i + 1 → sz_f g k = sz_f h (sz_old i k) := fun k k0 k1 kn => (c.f hB t202 t203 ts hinj k0 k1 kn).2 0
  have pn : sz_p g (i + 1) = q := by
    have := c.pl (k := i + 1) (by omega)
    rw [if_pos rfl] at this; exact this
  have fn : sz_f g (i + 1) = p := by unfold sz_f; rw [pn]; exact c8
  obtain ⟨k0, k1, k2, k3⟩ := hk
  rw [c6] at k1 k3
  by_cases e : k = i + 1
  · refine ⟨i, ⟨hi, hin, ?_, fun w => ?_⟩, fun j j1 j8 => ?_⟩
    · rw [e, fn] at k2; omega
    · have := k3 (by omega)
      rw [e, fo (i + 1 + 1) (by omega) (by omega) (by omega)] at this
      unfold sz_old at this
      rw [if_neg (by omega), show i + 1 + 1 - 1 = i + 1 by omega] at this
      exact this
    · rw [e, pn]; exact c9 j j1 j8
  · refine ⟨sz_old i k, ⟨?_, ?_, ?_, fun w => ?_⟩, fun j _ _ => (c.f hB t202 t203 ts hinj k0 (by omega) e).2 j⟩
    · unfold sz_old; split <;> omega
    · unfold sz_old; split <;> omega
    · rw [fo k k0 (by omega) e] at k2; exact k2
    · by_cases e2 : k ≤ i
      · have ho : sz_old i k = k := by unfold sz_old; rw [if_pos e2]
        rw [ho] at w ⊢
        have := k3 (by omega)
        by_cases e3 : k = i
        · rw [e3, fn] at this
          rw [e3]
          have := hnx (by rw [e3] at w; exact w)
          omega
        · rw [fo (k + 1) (by omega) (by omega) (by omega)] at this
          unfold sz_old at this
          rw [if_pos (by omega)] at this; exact this
      · have ho : sz_old i k = k - 1 := by unfold sz_old; rw [if_neg e2]
        rw [ho] at w ⊢
        have := k3 (by omega)
        rw [fo (k + 1) (by omega) (by omega) (by omega)] at this
        unfold sz_old at this
        rw [if_neg (by omega)] at this
        rw [show k - 1 + 1 = k + 1 - 1 by omega]; exact this
end SzCut
/-! Spans: cutBefore in one. -/
theorem sz_tag {τ : Nat → Nat} {h : cz_H} (hB : ez_B τ h) (t203 : τ 203 = 49) {k : Int} (k0 : 0 ≤ k) (k1 : k < 513) : τ (sz_p h k) = 4 := by
  obtain ⟨n, f, -, -, o3, o4, -, o6⟩ := ez_arr hB t203 tq_49 rfl rfl
  have o4 : (513 : Int) ≤ qz_N h 203 ∧ qz_N h 203 ≤ 513 := o4
  rw [o3] at o4
  obtain ⟨g1, g2⟩ := o6 k.toNat (by omega)
  have hb := ez_slB g1 g2 (by decide)
  have hb : (1 : Int) ≤ qz_I h 203 k.toNat ∧ qz_I h 203 k.toNat ≤ 1000000 := hb
  exact (ez_slR g1 g2 rfl (by decide) hb.1).2.1
/-- Data, its array of spans, the spans -/
def sz_PS (τ : Nat → Nat) (z : Nat) : Bool := Nat.beq z 202 || (Nat.beq z 203 || Nat.beq (τ z) 4)
theorem sz_PS_of {τ : Nat → Nat} {q : Nat} (tq : τ q = 4) {h g : cz_H} (hf : ez_fr (sz_P3 q) h g) : ez_fr (sz_PS τ) h g := by
  refine ⟨hf.1, hf.2.1, fun z hz => hf.2.2 z ?_⟩
  unfold sz_PS at hz
  simp only [Bool.or_eq_false_iff] at hz
  unfold sz_P3
  have : Nat.beq z q = false := dz_beq_ne (fun e => by rw [e, tq] at hz; exact absurd hz.2.2 (by decide))
  rw [hz.1, hz.2.1, this]
  rfl
theorem rd_cutP {d : Nat} {h : cz_H} {τ : Nat → Nat} {Q : cz_F → Prop} {p : Int} (hB : ez_B τ h) (t202 : τ 202 = 48) (t203 : τ 203 = 49) (hs : sz_ok h) (hinj : sz_inj h) (p0 : 0 ≤ p) (p1 : p ≤ 2147483647) (k : ∀ g m, ez_B τ g → sz_ok g → sz_inj g → ez_fr (sz_PS τ) h g → (∀ j, j ≠ 1 → qz_I g 202 j = qz_I h 202 j) → qz_I h 202 1 ≤ qz_I g 202 1 → qz_I g 202 1 ≤ qz_I h 202 1 + 1 → (∀ x k, sz_at g x k → ∃ k', sz_at h x k' ∧ ∀ j, 1 ≤ j → j ≤ 8 → qz_I g (sz_p g k) j = qz_I h (sz_p h k') j) → (∀ k, 0 ≤ k → k < qz_I h 202 1 → sz_f h k ≤ p → sz_f g k = sz_f h k) → (1114111 < p → m = qz_I g 202 1) → (p ≤ 1114111 → qz_I h 202 1 < 513 → 0 ≤ m ∧ m < qz_I g 202 1 ∧ sz_f g m = p) → (0 ≤ m ∧ m ≤ 513) → Q (.inl (some (ez_v (.inl m))), g)) : ez_W (d + 1) cm_97 0 [(0, .inr (.inr (some (202)))), (1, .inl (p))] [] h Q := by
  have bn : 1 ≤ qz_I h 202 1 ∧ qz_I h 202 1 ≤ 513 := ez_fB (cl := 2) hB t202 tq_48 rfl rfl (by decide)
  refine rd_cutBefore hB t202 hs hinj p0 p1 (fun w => ?_) (fun i hi w hor => ?_) (fun g i q hi w hne hn hq hB1 hf v1 v2 v3 v4 v5 => ?_)
  · exact k h _ hB hs hinj (ez_fr.refl _ h) (fun _ _ => rfl) (Int.le_refl _) (by omega) (fun x k hk => ⟨k, hk, fun _ _ _ => rfl⟩) (fun _ _ _ _ => rfl) (fun _ => rfl) (fun w2 => by omega) (by omega)
  · exact k h i hB hs hinj (ez_fr.refl _ h) (fun _ _ => rfl) (Int.le_refl _) (by omega) (fun x k hk => ⟨k, hk, fun _ _ _ => rfl⟩) (fun _ _ _ _ => rfl) (fun w2 => by omega) (fun _ hn => ⟨hi.1, hi.2.1, by rcases hor with r | r; (· exact r); (· omega)⟩) (by have := hi.1; have := hi.2.1; omega)
  · have c : sz_cut h g p i q := ⟨hi, hne, hn, hq, hf, v1, v3, v4, v5⟩
    have ts : ∀ k : Int, 0 ≤ k → k < 513 → τ (sz_p h k) = 4 := fun k k0 k1 => sz_tag hB t203 k0 k1
    have tq : τ q = 4 := by rw [hq]; exact ts _ (by omega) hn
    obtain ⟨o1, o2⟩ := c.ok hB t202 t203 ts hinj hs
    have hi0 := hi.1
    have hi1 := hi.2.1
    have pn : sz_p g (i + 1) = q := by
      have := c.pl (k := i + 1) (by omega)
      rw [if_pos rfl] at this; exact this
    have fn : sz_f g (i + 1) = p := by unfold sz_f; rw [pn]; exact v4
    refine k g _ hB1 o1 o2 (sz_PS_of tq hf) v2 (by omega) (by omega) (fun x k hk => c.same hB t202 t203 ts hinj hs hk) (fun k k0 k1 kp => ?_) (fun w2 => by omega) (fun _ _ => ⟨by omega, by omega, fn⟩) (by omega)
    have hki : k ≤ i := by
      by_cases e : k ≤ i
      · exact e
      · exfalso
        have h1 := hi.2.2.2 (by omega)
        by_cases e2 : k = i + 1
        · rw [e2] at kp; omega
        · have := hs.2 (i + 1) k (by omega) (by omega) k1; omega
    have := (c.f hB t202 t203 ts hinj k0 (by omega) (by omega)).2 0
    unfold sz_old at this
    rw [if_pos hki] at this
    exact this
/-! Spans: tellFact. (Written by wip/p2/py/pv14.py.) -/
def sz_P4 (τ : Nat → Nat) (z : Nat) : Bool := Nat.beq (τ z) 4
theorem sz_P4_S {τ : Nat → Nat} {h g : cz_H} (hf : ez_fr (sz_P4 τ) h g) : ez_fr (sz_PS τ) h g := by
  refine ⟨hf.1, hf.2.1, fun z hz => hf.2.2 z ?_⟩
  unfold sz_PS at hz
  simp only [Bool.or_eq_false_iff] at hz
  exact hz.2.2
theorem sz_P4_p {τ : Nat → Nat} {h g : cz_H} (hf : ez_fr (sz_P4 τ) h g) (t203 : τ 203 = 49) (k : Int) : sz_p g k = sz_p h k := by
  unfold sz_p qz_P
  rw [hf.I (show sz_P4 τ 203 = false by unfold sz_P4; rw [t203]; rfl)]
theorem sz_P4_n {τ : Nat → Nat} {h g : cz_H} (hf : ez_fr (sz_P4 τ) h g) (t202 : τ 202 = 48) (j : Nat) : qz_I g 202 j = qz_I h 202 j := hf.I (show sz_P4 τ 202 = false by unfold sz_P4; rw [t202]; rfl) j
section EzTf
variable {d : Nat} {h : cz_H} {τ : Nat → Nat} {Q : cz_F → Prop} {r : Nat}
theorem rd_tellFact_l {a b first last : Int} (t202 : τ 202 = 48) (t203 : τ 203 = 49) (tr : τ r = 3) (hr : (r : Int) + 1 ≤ 1000000) (hinj : sz_inj h) (a0 : 0 ≤ a) (b1 : b ≤ 513) (kx : ∀ g, ez_B τ g → ez_fr (sz_P4 τ) h g → (∀ (k : Int) (j : Nat), 0 ≤ k → k < 513 → qz_I g (sz_p h k) j = if j = 1 ∧ a ≤ k ∧ k < b then (r : Int) + 1 else qz_I h (sz_p h k) j) → Q (.inl none, g)) : ∀ (m : Nat) (i : Int) (g : cz_H), m = (b - i).toNat → a ≤ i → i ≤ b → ez_B τ g → ez_fr (sz_P4 τ) h g → (∀ (k : Int) (j : Nat), 0 ≤ k → k < 513 → qz_I g (sz_p h k) j = if j = 1 ∧ a ≤ k ∧ k < i then (r : Int) + 1 else qz_I h (sz_p h k) j) → ez_W d cm_105 20 [(6, .inl (i)), (5, .inl (b)), (4, .inl (a)), (0, .inr (.inr (some (202)))), (1, .inl (first)), (2, .inl (last)), (3, .inr (.inr (some (r))))] [] g Q := by
  intro m
  induction m with
  | zero =>
    intro i g hm a1 a2 hB hf hv
    refine ez_go (n := 2) (pc' := 24) (L' := [(6, .inl (i)), (5, .inl (b)), (4, .inl (a)), (0, .inr (.inr (some (202)))), (1, .inl (first)), (2, .inl (last)), (3, .inr (.inr (some (r))))]) (st' := [.inl (b), .inl (i)]) rfl ?_
    refine ez_icmp rfl rfl ⟨by omega, by omega⟩ ⟨by omega, by omega⟩ (fun (c1 : (b) ≤ (i)) => ?_) (fun (c1 : ¬((b) ≤ (i))) => ?_)
    · skip
      exact ez_ret0 rfl rfl (kx g hB hf (by rw [show b = i by omega]; exact hv))
    · exfalso; omega
  | succ m ih =>
    intro i g hm a1 a2 hB hf hv
    refine ez_go (n := 2) (pc' := 24) (L' := [(6, .inl (i)), (5, .inl (b)), (4, .inl (a)), (0, .inr (.inr (some (202)))), (1, .inl (first)), (2, .inl (last)), (3, .inr (.inr (some (r))))]) (st' := [.inl (b), .inl (i)]) rfl ?_
    refine ez_icmp rfl rfl ⟨by omega, by omega⟩ ⟨by omega, by omega⟩ (fun (c1 : (b) ≤ (i)) => ?_) (fun (c1 : ¬((b) ≤ (i))) => ?_)
    · exfalso; omega
    · skip
      refine ez_go (n := 1) (pc' := 28) (L' := [(6, .inl (i)), (5, .inl (b)), (4, .inl (a)), (0, .inr (.inr (some (202)))), (1, .inl (first)), (2, .inl (last)), (3, .inr (.inr (some (r))))]) (st' := [.inr (.inr (some (202)))]) rfl ?_
      refine ez_gC (p := 203) (tg := 49) hB t202 rfl rfl tq_48 rfl rfl (fun (t203 : _ = 49) => ?_)
      refine ez_go (n := 1) (pc' := 33) (L' := [(6, .inl (i)), (5, .inl (b)), (4, .inl (a)), (0, .inr (.inr (some (202)))), (1, .inl (first)), (2, .inl (last)), (3, .inr (.inr (some (r))))]) (st' := [.inl (i), .inr (.inr (some (203)))]) rfl ?_
      have n3 : 513 ≤ qz_N g 203 ∧ qz_N g 203 ≤ 513 := ez_len hB t203 tq_49 rfl
      have y4 : 1 ≤ qz_I g 203 (i).toNat ∧ qz_I g 203 (i).toNat ≤ 1000000 := ez_aB hB t203 tq_49 rfl rfl (by decide) (by omega) (by omega)
      have y4' : ((qz_P g 203 (i).toNat : Nat) : Int) + 1 = qz_I g 203 (i).toNat := by unfold qz_P; omega
      refine ez_aR hB t203 rfl tq_49 rfl rfl (by omega) (by omega) (by omega) (fun (t2 : _ = 4) => ?_)
      refine ez_go (n := 1) (pc' := 35) (L' := [(6, .inl (i)), (5, .inl (b)), (4, .inl (a)), (0, .inr (.inr (some (202)))), (1, .inl (first)), (2, .inl (last)), (3, .inr (.inr (some (r))))]) (st' := [.inr (.inr (some (r))), .inr (.inr (some (qz_P g 203 (i).toNat)))]) rfl ?_
      refine ez_pf hB t2 rfl rfl tq_4 rfl rfl rfl rfl (ez_vdR rfl tr (by omega) (by omega)) (fun hB5 w6 => ?_)
      refine ez_go (n := 2) (pc' := 20) (L' := [(6, .inl (i + 1)), (5, .inl (b)), (4, .inl (a)), (0, .inr (.inr (some (202)))), (1, .inl (first)), (2, .inl (last)), (3, .inr (.inr (some (r))))]) (st' := []) rfl ?_
      refine ez_less [(6, .inl (i + 1)), (5, .inl (b)), (4, .inl (a)), (0, .inr (.inr (some (202)))), (1, .inl (first)), (2, .inl (last)), (3, .inr (.inr (some (r))))] rfl ⟨rfl, rfl, rfl, rfl, rfl, rfl, rfl, trivial⟩ ?_
      have hz : qz_P g 203 (i).toNat = sz_p h i := sz_P4_p hf t203 i
      have tz : τ (qz_P g 203 (i).toNat) = 4 := t2
      refine ih _ _ (by omega) (by omega) (by omega) hB5 (hf.put (show sz_P4 τ (qz_P g 203 (i).toNat) = true by unfold sz_P4; rw [tz]; rfl) _ _) (fun k j k0 k1 => ?_)
      by_cases e : k = i ∧ j = 1
      · obtain ⟨e1, e2⟩ := e
        subst e1; subst e2
        rw [if_pos (by omega), ← hz]; exact w6
      · rw [ez_put_I (fun w => e ⟨hinj k i k0 k1 (by omega) (by omega) (by rw [← hz]; exact w.1), w.2⟩), hv k j k0 k1]
        by_cases e2 : j = 1 ∧ a ≤ k ∧ k < i
        · rw [if_pos e2, if_pos (by omega)]
        · rw [if_neg e2, if_neg (by omega)]
theorem sz_mono {h : cz_H} (hs : sz_ok h) {i j : Int} (i0 : 0 ≤ i) (ij : i ≤ j) (jn : j < qz_I h 202 1) : sz_f h i ≤ sz_f h j := by
  by_cases e : i = j
  · rw [e]; exact Int.le_refl _
  · have := hs.2 i j i0 (by omega) jn; omega
/-- what tellFact does: of the points from first to last the fact is the new one, nothing else changes -/
def sz_told (τ : Nat → Nat) (h g : cz_H) (first last : Int) (r : Nat) : Prop := sz_ok g ∧ sz_inj g ∧ ez_fr (sz_PS τ) h g ∧ (∀ j, j ≠ 1 → qz_I g 202 j = qz_I h 202 j) ∧ qz_I g 202 1 ≤ qz_I h 202 1 + 2 ∧ ∀ x k, 0 ≤ x → x ≤ 1114111 → sz_at g x k → ∃ k', sz_at h x k' ∧ (∀ j, 2 ≤ j → j ≤ 8 → qz_I g (sz_p g k) j = qz_I h (sz_p h k') j) ∧ qz_I g (sz_p g k) 1 = if first ≤ x ∧ x ≤ last then (r : Int) + 1 else qz_I h (sz_p h k') 1
theorem sz_tell {τ : Nat → Nat} {h g1 g2 g3 : cz_H} {first last a b : Int} {r : Nat} (t202 : τ 202 = 48) (t203 : τ 203 = 49) (f0 : 0 ≤ first) (fl : first ≤ last) (l1 : last ≤ 1114111) (hn : qz_I h 202 1 + 2 ≤ 513)
    (x1 : ez_fr (sz_PS τ) h g1) (x2 : ∀ j, j ≠ 1 → qz_I g1 202 j = qz_I h 202 j) (x4 : qz_I g1 202 1 ≤ qz_I h 202 1 + 1) (x5 : ∀ x k, sz_at g1 x k → ∃ k', sz_at h x k' ∧ ∀ j, 1 ≤ j → j ≤ 8 → qz_I g1 (sz_p g1 k) j = qz_I h (sz_p h k') j) (x6 : 0 ≤ a ∧ a < qz_I g1 202 1 ∧ sz_f g1 a = first)
    (y0 : sz_ok g2) (yi : sz_inj g2) (y1 : ez_fr (sz_PS τ) g1 g2) (y2 : ∀ j, j ≠ 1 → qz_I g2 202 j = qz_I g1 202 j) (y3 : qz_I g1 202 1 ≤ qz_I g2 202 1) (y4 : qz_I g2 202 1 ≤ qz_I g1 202 1 + 1) (y5 : ∀ x k, sz_at g2 x k → ∃ k', sz_at g1 x k' ∧ ∀ j, 1 ≤ j → j ≤ 8 → qz_I g2 (sz_p g2 k) j = qz_I g1 (sz_p g1 k') j) (y6 : ∀ k, 0 ≤ k → k < qz_I g1 202 1 → sz_f g1 k ≤ last + 1 → sz_f g2 k = sz_f g1 k) (y7 : 1114111 < last + 1 → b = qz_I g2 202 1) (y8 : last + 1 ≤ 1114111 → qz_I g1 202 1 < 513 → 0 ≤ b ∧ b < qz_I g2 202 1 ∧ sz_f g2 b = last + 1)
    (z1 : ez_fr (sz_P4 τ) g2 g3) (z2 : ∀ (k : Int) (j : Nat), 0 ≤ k → k < 513 → qz_I g3 (sz_p g2 k) j = if j = 1 ∧ a ≤ k ∧ k < b then (r : Int) + 1 else qz_I g2 (sz_p g2 k) j) : sz_told τ h g3 first last r := by
  have n3 : ∀ j, qz_I g3 202 j = qz_I g2 202 j := fun j => sz_P4_n z1 t202 j
  have p3 : ∀ k, sz_p g3 k = sz_p g2 k := fun k => sz_P4_p z1 t203 k
  have f3 : ∀ k, 0 ≤ k → k < 513 → sz_f g3 k = sz_f g2 k := fun k k0 k1 => by
    unfold sz_f
    rw [p3, z2 k 0 k0 k1, if_neg (by omega)]
  have fa : sz_f g2 a = first := by rw [y6 a x6.1 x6.2.1 (by omega)]; exact x6.2.2
  refine ⟨⟨?_, ?_⟩, ?_, (x1.trans y1).trans (sz_P4_S z1), fun j hj => ((n3 j).trans (y2 j hj)).trans (x2 j hj), by rw [n3]; omega, ?_⟩
  · rw [f3 0 (by omega) (by omega)]; exact y0.1
  · intro i j i0 ij jn
    rw [n3] at jn
    rw [f3 i i0 (by omega), f3 j (by omega) (by omega)]
    exact y0.2 i j i0 ij jn
  · intro i j i0 i1 j0 j1 e
    rw [p3, p3] at e
    exact yi i j i0 i1 j0 j1 e
  · intro x k v0 v1 hk
    obtain ⟨k0, k1, k2, k3⟩ := hk
    rw [n3] at k1 k3
    rw [f3 k k0 (by omega)] at k2
    have k3 : k + 1 < qz_I g2 202 1 → x < sz_f g2 (k + 1) := fun w => by have := k3 w; rw [f3 (k + 1) (by omega) (by omega)] at this; exact this
    obtain ⟨k', w1, w2⟩ := y5 x k ⟨k0, k1, k2, k3⟩
    obtain ⟨k'', u1, u2⟩ := x5 x k' w1
    refine ⟨k'', u1, fun j j2 j8 => ?_, ?_⟩
    · rw [p3, z2 k j k0 (by omega), if_neg (by omega), w2 j (by omega) j8]
      exact u2 j (by omega) j8
    · rw [p3, z2 k 1 k0 (by omega)]
      have ha : a ≤ k ↔ first ≤ x := by
        constructor
        · intro w
          have := sz_mono y0 x6.1 w k1
          omega
        · intro w
          by_cases e : a ≤ k
          · exact e
          · exfalso
            have q1 := k3 (by omega)
            have q2 := sz_mono y0 (i := k + 1) (j := a) (by omega) (by omega) (by omega)
            omega
      have hb : k < b ↔ x ≤ last := by
        by_cases e : 1114111 < last + 1
        · have := y7 e
          constructor
          · intro _; omega
          · intro _; omega
        · obtain ⟨b0, b1, b2⟩ := y8 (by omega) (by omega)
          constructor
          · intro w
            have q1 := k3 (by omega)
            have q2 := sz_mono y0 (i := k + 1) (j := b) (by omega) (by omega) b1
            omega
          · intro w
            by_cases e2 : k < b
            · exact e2
            · exfalso
              have q2 := sz_mono y0 (i := b) (j := k) b0 (by omega) k1
              omega
      by_cases e : first ≤ x ∧ x ≤ last
      · rw [if_pos ⟨rfl, ha.mpr e.1, hb.mpr e.2⟩, if_pos e]
      · rw [if_neg (fun w => e ⟨ha.mp w.2.1, hb.mp w.2.2⟩), if_neg e, w2 1 (by omega) (by omega)]
        exact u2 1 (by omega) (by omega)
theorem rd_tellFact {first last : Int} (hB : ez_B τ h) (t202 : τ 202 = 48) (t203 : τ 203 = 49) (tr : τ r = 3) (hr : (r : Int) + 1 ≤ 1000000) (hs : sz_ok h) (hinj : sz_inj h) (f0 : 0 ≤ first) (fl : first ≤ last) (l1 : last ≤ 1114111) (hn : qz_I h 202 1 + 2 ≤ 513) (k : ∀ g, ez_B τ g → sz_told τ h g first last r → Q (.inl none, g)) : ez_W (d + 2) cm_105 0 [(0, .inr (.inr (some (202)))), (1, .inl (first)), (2, .inl (last)), (3, .inr (.inr (some (r))))] [] h Q := by
  refine ez_go (n := 2) (pc' := 2) (L' := [(0, .inr (.inr (some (202)))), (1, .inl (first)), (2, .inl (last)), (3, .inr (.inr (some (r))))]) (st' := [.inl (first), .inr (.inr (some (202)))]) rfl ?_
  refine ez_cv hB t202 rfl rfl rfl tq_48 rfl rfl rfl (rd_cutP hB t202 t203 hs hinj (by omega) (by omega) (fun g1 a hB1 s1 i1 x1 x2 x3 x4 x5 x55 x6 x7 x8 => ez_K1 ?_))
  refine ez_go (n := 5) (pc' := 11) (L' := [(4, .inl (a)), (0, .inr (.inr (some (202)))), (1, .inl (first)), (2, .inl (last)), (3, .inr (.inr (some (r))))]) (st' := [.inl ((last) + (1)), .inr (.inr (some (202)))]) rfl ?_
  refine ez_cv hB1 t202 rfl rfl rfl tq_48 rfl rfl rfl (rd_cutP hB1 t202 t203 s1 i1 (by omega) (by omega) (fun g2 b hB2 s2 i2 y1 y2 y3 y4 y5 y6 y7 y8 y9 => ez_K1 ?_))
  refine ez_go (n := 3) (pc' := 20) (L' := [(6, .inl (a)), (5, .inl (b)), (4, .inl (a)), (0, .inr (.inr (some (202)))), (1, .inl (first)), (2, .inl (last)), (3, .inr (.inr (some (r))))]) (st' := []) rfl ?_
  refine ez_less [(6, .inl (a)), (5, .inl (b)), (4, .inl (a)), (0, .inr (.inr (some (202)))), (1, .inl (first)), (2, .inl (last)), (3, .inr (.inr (some (r))))] rfl ⟨rfl, rfl, rfl, rfl, rfl, rfl, rfl, trivial⟩ ?_
  have x7 := x7 (by omega) (by omega)
  have fa : sz_f g2 a = first := by rw [y6 a x7.1 x7.2.1 (by omega)]; exact x7.2.2
  have hab : a ≤ b := by
    by_cases e : 1114111 < last + 1
    · have := y7 e; omega
    · obtain ⟨b0, b1, b2⟩ := y8 (by omega) (by omega)
      by_cases e2 : a ≤ b
      · exact e2
      · exfalso
        have := sz_mono s2 (i := b) (j := a) b0 (by omega) (by omega)
        omega
  exact rd_tellFact_l t202 t203 tr hr i2 x7.1 y9.2 (fun g3 hB3 z1 z2 => k g3 hB3 (sz_tell t202 t203 f0 fl l1 hn x1 x2 x4 x5 x7 s2 i2 y1 y2 y3 y4 y5 y6 y7 y8 z1 z2)) _ _ g2 rfl (by omega) hab hB2 (ez_fr.refl _ _) (fun k j _ _ => by rw [if_neg (by omega)])

end EzTf
