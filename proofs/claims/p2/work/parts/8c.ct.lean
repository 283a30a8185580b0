/-! Constructors. (Written by wip/p2/py/pv10.py.) -/
/-- Object's constructor -/
theorem ez_ob {d : Nat} {M : cz_M} {pc : Nat} {L : List (Nat × ez_V)} {st : List ez_V} {h : cz_H} {Q : cz_F → Prop} {x a b c r : Nat} (hc : cz_code M pc = some (.invokespecial x, 3)) (hq : cz_lk M x = some (6, a, b, c)) (hs : Nat.ble st.length 20 = true) (k : ez_W (d + 1) M (pc + 3) L st h Q) : ez_W (d + 1) M pc L (.inr (.inr (some r)) :: st) h Q := by
  refine dz_wp_hp (q := (pc + 3, st.map ez_v, h)) hc rfl rfl rfl rfl rfl ?_ k
  show cz_hobj M (d + 1) x pc (.inr (.inr (some r)) :: st.map ez_v) h = _
  unfold cz_hobj
  have e : Nat.ble (st.map ez_v).length 20 = true := by rw [List.length_map]; exact hs
  simp only [hq, e, show Nat.beq 6 6 = true from rfl, show Nat.blt 0 (d + 1) = true from Nat.blt_eq.mpr (Nat.succ_pos d), Bool.and_self, cond_true]
section EzCt
variable {d : Nat} {h : cz_H} {τ : Nat → Nat} {Q : cz_F → Prop} {r : Nat}
theorem rd_Fact_init (hB : ez_B τ h) (tr : τ r = 3) (k : ∀ g, ez_B τ g → ez_fr (ez_one r) h g → (∀ j, j ≠ 1 → j ≠ 5 → j ≠ 6 → j ≠ 7 → qz_I g r j = qz_I h r j) → Q (.inl none, g)) : ez_W (d + 1) cm_134 0 [(0, .inr (.inr (some (r))))] [] h Q := by
  refine ez_go (n := 1) (pc' := 1) (L' := [(0, .inr (.inr (some (r))))]) (st' := [.inr (.inr (some (r)))]) rfl ?_
  refine ez_ob rfl rfl rfl ?_
  refine ez_go (n := 2) (pc' := 8) (L' := [(0, .inr (.inr (some (r))))]) (st' := [.inl (17262), .inr (.inr (some (r)))]) rfl ?_
  refine ez_pf hB tr rfl rfl tq_3 rfl rfl rfl rfl (ez_vdI rfl rfl (by omega) (by omega)) (fun hB1 w2 => ?_)
  refine ez_go (n := 2) (pc' := 13) (L' := [(0, .inr (.inr (some (r))))]) (st' := [.inl (-1), .inr (.inr (some (r)))]) rfl ?_
  refine ez_pf hB1 tr rfl rfl tq_3 rfl rfl rfl rfl (ez_vdI rfl rfl (by omega) (by omega)) (fun hB3 w4 => ?_)
  refine ez_go (n := 2) (pc' := 18) (L' := [(0, .inr (.inr (some (r))))]) (st' := [.inl (-1), .inr (.inr (some (r)))]) rfl ?_
  refine ez_pf hB3 tr rfl rfl tq_3 rfl rfl rfl rfl (ez_vdI rfl rfl (by omega) (by omega)) (fun hB5 w6 => ?_)
  refine ez_go (n := 2) (pc' := 23) (L' := [(0, .inr (.inr (some (r))))]) (st' := [.inl (-1), .inr (.inr (some (r)))]) rfl ?_
  refine ez_pf hB5 tr rfl rfl tq_3 rfl rfl rfl rfl (ez_vdI rfl rfl (by omega) (by omega)) (fun hB7 w8 => ?_)
  exact ez_ret0 rfl rfl (k _ hB7 (((((ez_fr.refl (ez_one r) h).put (show Nat.beq r r = true from Nat.beq_refl r) _ _).put (show Nat.beq r r = true from Nat.beq_refl r) _ _).put (show Nat.beq r r = true from Nat.beq_refl r) _ _).put (show Nat.beq r r = true from Nat.beq_refl r) _ _) (fun j j1 j5 j6 j7 => by rw [ez_put_I (by omega)]; rw [ez_put_I (by omega)]; rw [ez_put_I (by omega)]; rw [ez_put_I (by omega)]))

end EzCt
