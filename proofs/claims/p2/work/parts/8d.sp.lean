/-! Spans: copies and cuts. (Written by wip/p2/py/pv11.py.) -/
theorem ez_sur (v : cz_V) : ∃ u, v = ez_v u := by
  obtain x | x := v
  · exact ⟨.inl x.toInt, by show _ = Sum.inl (Int32.ofInt x.toInt); rw [ez_of]⟩
  · exact ⟨.inr x, rfl⟩
section EzCp
variable {d : Nat} {M : cz_M} {pc : Nat} {L : List (Nat × ez_V)} {st : List ez_V} {h : cz_H} {Q : cz_F → Prop} {τ : Nat → Nat}
/-- a field out of one object into the same field of another one like it -/
theorem ez_cp {x y q0 q1 cl k w t a b : Nat} {ti : dz_I} {c : Nat} {lo hi : Int} {tg : Nat} {ks : List Nat} (hB : ez_B τ h) (ha : τ a = t) (hb : τ b = t) (hc : cz_code M pc = some (.getfield x, 3)) (hq : cz_lk M x = some (q0, cl, k, w)) (hc2 : cz_code M (pc + 3) = some (.putfield y, 3)) (hq2 : cz_lk M y = some (q1, cl, k, 1)) (hti : tz_T t = some ti) (hD : dz_nth ti.2.2.2.2 k = some (c, lo, hi, tg, 0)) (hks : cz_pg.2.1[cl]? = some ks) (hkk : ks[k]? = some c) (hbo : (Nat.ble q0 1 && (Nat.ble q1 1 && ((Nat.beq ti.1 0 && Nat.beq ti.2.1 cl) && Nat.beq ti.2.2.1 1))) = true) (kk : ∀ v, ez_B τ (dz_put h a k v) → qz_I (dz_put h a k v) a k = qz_I h b k → ez_W d M (pc + 6) L st (dz_put h a k v) Q) : ez_W d M pc L (.inr (.inr (some b)) :: .inr (.inr (some a)) :: st) h Q := by
  rw [Bool.and_eq_true] at hbo
  obtain ⟨b1, b2⟩ := hbo
  have b2' := b2
  rw [Bool.and_eq_true, Bool.and_eq_true] at b2'
  obtain ⟨vs, v, o1, o2, o3, o4, -⟩ := ez_fld hB hb hti b2'.2.1 hD
  obtain ⟨u, rfl⟩ := ez_sur v
  refine ez_getf hc hq b1 o1 o2 rfl ?_
  refine ez_pf hB ha hc2 hq2 hti hD hks hkk b2 ⟨o4.1, o4.2.1, o4.2.2.1, ez_m40⟩ (fun g1 g2 => ?_)
  exact kk _ g1 (g2.trans (qz_I_of o3).symm)
end EzCp
section EzSp
variable {d : Nat} {h : cz_H} {τ : Nat → Nat} {Q : cz_F → Prop}
theorem rd_copyFrom {a b : Nat} (hB : ez_B τ h) (ta : τ a = 4) (tb : τ b = 4) (hab : a ≠ b) (k : ∀ g, ez_B τ g → ez_fr (ez_one a) h g → qz_I g a 0 = qz_I h a 0 → (∀ j, 1 ≤ j → j ≤ 8 → qz_I g a j = qz_I h b j) → Q (.inl none, g)) : ez_W d cm_183 0 [(0, .inr (.inr (some a))), (1, .inr (.inr (some b)))] [] h Q := by
  refine ez_go (n := 2) (pc' := 2) (L' := [(0, .inr (.inr (some a))), (1, .inr (.inr (some b)))]) (st' := [.inr (.inr (some b)), .inr (.inr (some a))]) rfl ?_
  refine ez_cp hB ta tb rfl rfl rfl rfl tq_4 rfl rfl rfl rfl (fun v1 g1 w1 => ?_)
  refine ez_go (n := 2) (pc' := 10) (L' := [(0, .inr (.inr (some a))), (1, .inr (.inr (some b)))]) (st' := [.inr (.inr (some b)), .inr (.inr (some a))]) rfl ?_
  refine ez_cp g1 ta tb rfl rfl rfl rfl tq_4 rfl rfl rfl rfl (fun v2 g2 w2 => ?_)
  refine ez_go (n := 2) (pc' := 18) (L' := [(0, .inr (.inr (some a))), (1, .inr (.inr (some b)))]) (st' := [.inr (.inr (some b)), .inr (.inr (some a))]) rfl ?_
  refine ez_cp g2 ta tb rfl rfl rfl rfl tq_4 rfl rfl rfl rfl (fun v3 g3 w3 => ?_)
  refine ez_go (n := 2) (pc' := 26) (L' := [(0, .inr (.inr (some a))), (1, .inr (.inr (some b)))]) (st' := [.inr (.inr (some b)), .inr (.inr (some a))]) rfl ?_
  refine ez_cp g3 ta tb rfl rfl rfl rfl tq_4 rfl rfl rfl rfl (fun v4 g4 w4 => ?_)
  refine ez_go (n := 2) (pc' := 34) (L' := [(0, .inr (.inr (some a))), (1, .inr (.inr (some b)))]) (st' := [.inr (.inr (some b)), .inr (.inr (some a))]) rfl ?_
  refine ez_cp g4 ta tb rfl rfl rfl rfl tq_4 rfl rfl rfl rfl (fun v5 g5 w5 => ?_)
  refine ez_go (n := 2) (pc' := 42) (L' := [(0, .inr (.inr (some a))), (1, .inr (.inr (some b)))]) (st' := [.inr (.inr (some b)), .inr (.inr (some a))]) rfl ?_
  refine ez_cp g5 ta tb rfl rfl rfl rfl tq_4 rfl rfl rfl rfl (fun v6 g6 w6 => ?_)
  refine ez_go (n := 2) (pc' := 50) (L' := [(0, .inr (.inr (some a))), (1, .inr (.inr (some b)))]) (st' := [.inr (.inr (some b)), .inr (.inr (some a))]) rfl ?_
  refine ez_cp g6 ta tb rfl rfl rfl rfl tq_4 rfl rfl rfl rfl (fun v7 g7 w7 => ?_)
  refine ez_go (n := 2) (pc' := 58) (L' := [(0, .inr (.inr (some a))), (1, .inr (.inr (some b)))]) (st' := [.inr (.inr (some b)), .inr (.inr (some a))]) rfl ?_
  refine ez_cp g7 ta tb rfl rfl rfl rfl tq_4 rfl rfl rfl rfl (fun v8 g8 w8 => ?_)
  refine ez_ret0 rfl rfl (k _ g8 (((((((((ez_fr.refl (ez_one a) h).put (show Nat.beq a a = true from Nat.beq_refl a) _ _).put (show Nat.beq a a = true from Nat.beq_refl a) _ _).put (show Nat.beq a a = true from Nat.beq_refl a) _ _).put (show Nat.beq a a = true from Nat.beq_refl a) _ _).put (show Nat.beq a a = true from Nat.beq_refl a) _ _).put (show Nat.beq a a = true from Nat.beq_refl a) _ _).put (show Nat.beq a a = true from Nat.beq_refl a) _ _).put (show Nat.beq a a = true from Nat.beq_refl a) _ _) (by rw [ez_put_I (by omega), ez_put_I (by omega), ez_put_I (by omega), ez_put_I (by omega), ez_put_I (by omega), ez_put_I (by omega), ez_put_I (by omega), ez_put_I (by omega)]) (fun j j1 j8 => ?_))
  have hj : j = 1 ∨ j = 2 ∨ j = 3 ∨ j = 4 ∨ j = 5 ∨ j = 6 ∨ j = 7 ∨ j = 8 := by omega
  rcases hj with rfl | rfl | rfl | rfl | rfl | rfl | rfl | rfl
  · rw [ez_put_I (by omega), ez_put_I (by omega), ez_put_I (by omega), ez_put_I (by omega), ez_put_I (by omega), ez_put_I (by omega), ez_put_I (by omega), w1]
  · rw [ez_put_I (by omega), ez_put_I (by omega), ez_put_I (by omega), ez_put_I (by omega), ez_put_I (by omega), ez_put_I (by omega), w2, ez_put_I (fun w => hab w.1.symm)]
  · rw [ez_put_I (by omega), ez_put_I (by omega), ez_put_I (by omega), ez_put_I (by omega), ez_put_I (by omega), w3, ez_put_I (fun w => hab w.1.symm), ez_put_I (fun w => hab w.1.symm)]
  · rw [ez_put_I (by omega), ez_put_I (by omega), ez_put_I (by omega), ez_put_I (by omega), w4, ez_put_I (fun w => hab w.1.symm), ez_put_I (fun w => hab w.1.symm), ez_put_I (fun w => hab w.1.symm)]
  · rw [ez_put_I (by omega), ez_put_I (by omega), ez_put_I (by omega), w5, ez_put_I (fun w => hab w.1.symm), ez_put_I (fun w => hab w.1.symm), ez_put_I (fun w => hab w.1.symm), ez_put_I (fun w => hab w.1.symm)]
  · rw [ez_put_I (by omega), ez_put_I (by omega), w6, ez_put_I (fun w => hab w.1.symm), ez_put_I (fun w => hab w.1.symm), ez_put_I (fun w => hab w.1.symm), ez_put_I (fun w => hab w.1.symm), ez_put_I (fun w => hab w.1.symm)]
  · rw [ez_put_I (by omega), w7, ez_put_I (fun w => hab w.1.symm), ez_put_I (fun w => hab w.1.symm), ez_put_I (fun w => hab w.1.symm), ez_put_I (fun w => hab w.1.symm), ez_put_I (fun w => hab w.1.symm), ez_put_I (fun w => hab w.1.symm)]
  · rw [w8, ez_put_I (fun w => hab w.1.symm), ez_put_I (fun w => hab w.1.symm), ez_put_I (fun w => hab w.1.symm), ez_put_I (fun w => hab w.1.symm), ez_put_I (fun w => hab w.1.symm), ez_put_I (fun w => hab w.1.symm), ez_put_I (fun w => hab w.1.symm)]
end EzSp
