/-! L3, part 3: by hand: calls, writes, new cells. -/
def ez_take : Nat → List ez_V → Option (List ez_V × List ez_V)
  | 0, st => some ([], st)
  | _ + 1, [] => none
  | n + 1, v :: r => match ez_take n r with
    | some q => some (v :: q.1, q.2)
    | none => none
theorem ez_take_eq : ∀ {n : Nat} {st ws rest : List ez_V}, ez_take n st = some (ws, rest) → cz_take n (st.map ez_v) = some (ws.map ez_v, rest.map ez_v)
  | 0, st, ws, rest, h => by cases h; rfl
  | n + 1, [], ws, rest, h => by cases h
  | n + 1, v :: r, ws, rest, h => by
    unfold ez_take at h
    split at h
    · rename_i q hq
      cases h
      have := ez_take_eq (ws := q.1) (rest := q.2) hq
      show (match cz_take n (r.map ez_v) with
        | some q => some (ez_v v :: q.1, q.2)
        | none => none) = _
      rw [this]
      rfl
    · cases h
def ez_argl : Nat → List ez_V → List (Nat × ez_V)
  | _, [] => []
  | j, v :: r => (j, v) :: ez_argl (j + (bif ez_lg v then 2 else 1)) r
theorem ez_argl_eq : ∀ (l : List ez_V) (j : Nat), cz_argl j (l.map ez_v) = ez_L (ez_argl j l)
  | [], j => rfl
  | v :: r, j => by
    show cz_argl j (ez_v v :: r.map ez_v) = (j, ez_v v) :: ez_L (ez_argl (j + (bif ez_lg v then 2 else 1)) r)
    rw [← ez_argl_eq r]
    obtain a | a | a := v <;> rfl
def ez_cat (l : List ez_V) : Nat := cz_cat2 (l.map ez_v)
/-- back from a callee -/
def ez_K (d : Nat) (M : cz_M) (pc : Nat) (L : List (Nat × ez_V)) (rest : List ez_V) (Q : cz_F → Prop) : cz_F → Prop := fun q => ∃ n F, cz_sK (cz_x cz_pg n) d M pc (ez_L L) (rest.map ez_v) q = some F ∧ Q F
section EzCall
variable {d : Nat} {M M' : cz_M} {pc : Nat} {L : List (Nat × ez_V)} {stk rest ws : List ez_V} {h h' : cz_H} {Q : cz_F → Prop} {τ : Nat → Nat} {x y n z : Nat}
theorem ez_K0 (k : ez_W d M (pc + 3) L rest h' Q) : ez_K d M pc L rest Q (.inl none, h') := dz_wp_back (o := none) k
theorem ez_K1 {v : ez_V} (k : ez_W d M (pc + 3) L (v :: rest) h' Q) : ez_K d M pc L rest Q (.inl (some (ez_v v)), h') := dz_wp_back (o := some (ez_v v)) k
theorem ez_KA {o : Option Nat} (k : ez_W d M (pc + 3) L (.inr (.inr o) :: rest) h' Q) : ez_K d M pc L rest Q (.inl (some (.inr (.inr o))), h') := dz_wp_back (o := some (.inr (.inr o))) k
theorem ez_KL {a : Int64} (k : ez_W d M (pc + 3) L (.inr (.inl a) :: rest) h' Q) : ez_K d M pc L rest Q (.inl (some (.inr (.inl a))), h') := dz_wp_back (o := some (.inr (.inl a))) k
/-- thrown, and passed on -/
theorem ez_Kp {r kx : Nat} (he : cz_exc h' r = some kx) (hm : M.2.1.2.2.2 = []) (k : Q (.inr r, h')) : ez_K d M pc L rest Q (.inr r, h') :=
  dz_wp_pass he (by rw [hm]; rfl) (by rw [hm]; rfl) k
/-- thrown, and caught here -/
theorem ez_Kc {r kx t : Nat} (he : cz_exc h' r = some kx) (hm : cz_catch M pc kx M.2.1.2.2.2 = some (some t)) (k : ez_W d M t L [.inr (.inr (some r))] h' Q) : ez_K d M pc L rest Q (.inr r, h') :=
  dz_wp_catch he hm k
theorem ez_cnd (hR : cz_room h 0 0 = true) (hb : (Nat.ble (ez_cat rest + (M'.2.1.2.1 + 11)) 100 && Nat.ble (ez_cat ws) M'.2.1.2.1) = true) : ((Nat.blt 0 (d + 1) && cz_room h 0 0) && Nat.ble (cz_cat2 (rest.map ez_v) + (M'.2.1.2.1 + 11)) 100 && Nat.ble (cz_cat2 (ws.map ez_v)) M'.2.1.2.1) = true := by
  simp only [Bool.and_eq_true] at hb ⊢
  exact ⟨⟨⟨Nat.blt_eq.mpr (Nat.succ_pos d), hR⟩, hb.1⟩, hb.2⟩
theorem ez_cs (hR : cz_room h 0 0 = true) (hc : cz_code M pc = some (.invokestatic x, 3)) (hq : cz_lk M x = some (2, y, n, z)) (ht : ez_take n stk = some (ws, rest)) (hM : cz_pg.1[y]? = some M') (hb : (Nat.ble (ez_cat rest + (M'.2.1.2.1 + 11)) 100 && Nat.ble (ez_cat ws.reverse) M'.2.1.2.1) = true) (k : ez_W d M' 0 (ez_argl 0 ws.reverse) [] h (ez_K (d + 1) M pc L rest Q)) : ez_W (d + 1) M pc L stk h Q := by
  refine dz_wp_call (as := ws.reverse.map ez_v) (rest := rest.map ez_v) hc rfl rfl rfl rfl rfl ?_ ?_ hM (ez_cnd hR hb) ?_
  · have h1 : cz_hcpy M (d + 1) x pc (stk.map ez_v) h = none := by
      unfold cz_hcpy
      split
      · rw [hq]; rfl
      · rfl
    have h2 : cz_hci M (d + 1) x pc (stk.map ez_v) h = none := by
      unfold cz_hci
      split
      · rw [hq]; rfl
      · rfl
    show (match cz_hcpy M (d + 1) x pc (stk.map ez_v) h with
      | some q => some q
      | none => cz_hci M (d + 1) x pc (stk.map ez_v) h) = none
    rw [h1]
    exact h2
  · show cz_cS x M (stk.map ez_v) = _
    unfold cz_cS
    simp only [hq, ez_take_eq ht, cond_true, show Nat.beq 2 2 = true from rfl, List.map_reverse]
  · rw [ez_argl_eq]
    exact k
theorem ez_cv (hB : ez_B τ h) {r t c : Nat} {ti : dz_I} (hτ : τ r = t) (hc : cz_code M pc = some (.invokevirtual x, 3)) (hq : cz_lk M x = some (3, y, n, c)) (ht : ez_take n stk = some (ws, .inr (.inr (some r)) :: rest)) (hti : tz_T t = some ti) (hk : (Nat.beq ti.1 0 && Nat.beq ti.2.1 c) = true) (hM : cz_pg.1[y]? = some M') (hb : (Nat.ble (ez_cat rest + (M'.2.1.2.1 + 11)) 100 && Nat.ble (ez_cat (.inr (.inr (some r)) :: ws.reverse)) M'.2.1.2.1) = true) (k : ez_W d M' 0 (ez_argl 0 (.inr (.inr (some r)) :: ws.reverse)) [] h (ez_K (d + 1) M pc L rest Q)) : ez_W (d + 1) M pc L stk h Q := by
  refine dz_wp_call (as := ((.inr (.inr (some r)) : ez_V) :: ws.reverse).map ez_v) (rest := rest.map ez_v) hc rfl rfl rfl rfl rfl ?_ ?_ hM (ez_cnd hB.2.1 hb) ?_
  · show cz_hcl M (d + 1) x pc (stk.map ez_v) h = none
    unfold cz_hcl
    split
    · rw [hq]; rfl
    · rfl
  · show cz_cV x M (stk.map ez_v) h = _
    have ho : ∃ vs, cz_obj h r = some (c, vs) := by
      subst hτ
      simp only [Bool.and_eq_true] at hk
      have e0 := Nat.eq_of_beq_eq_true hk.1
      have e1 := Nat.eq_of_beq_eq_true hk.2
      obtain ⟨vs, o1, -⟩ := dz_obj_at hB (ez_t0 hti (by rw [e0]; rfl)) hti hk.1
      rw [e1] at o1
      exact ⟨vs, o1⟩
    obtain ⟨vs, ho⟩ := ho
    unfold cz_cV
    simp only [hq, ez_take_eq ht, cond_true, show Nat.beq 3 3 = true from rfl, List.map_cons, ez_v, ho, Nat.beq_refl, List.map_reverse]
  · rw [ez_argl_eq]
    exact k
/-- a constructor, or a private method -/
theorem ez_ci (hR : cz_room h 0 0 = true) {r q0 : Nat} (hc : cz_code M pc = some (.invokespecial x, 3)) (hq : cz_lk M x = some (q0, y, n, z)) (h0 : (Nat.beq q0 4 || Nat.beq q0 5) = true) (ht : ez_take n stk = some (ws, .inr (.inr (some r)) :: rest)) (hM : cz_pg.1[y]? = some M') (hb : (Nat.ble (ez_cat rest + (M'.2.1.2.1 + 11)) 100 && Nat.ble (ez_cat (.inr (.inr (some r)) :: ws.reverse)) M'.2.1.2.1) = true) (k : ez_W d M' 0 (ez_argl 0 (.inr (.inr (some r)) :: ws.reverse)) [] h (ez_K (d + 1) M pc L rest Q)) : ez_W (d + 1) M pc L stk h Q := by
  have hne : Nat.beq q0 6 = false := by
    simp only [Bool.or_eq_true] at h0
    rcases h0 with h0 | h0 <;> (rw [Nat.eq_of_beq_eq_true h0]; rfl)
  refine dz_wp_call (as := ((.inr (.inr (some r)) : ez_V) :: ws.reverse).map ez_v) (rest := rest.map ez_v) hc rfl rfl rfl rfl rfl ?_ ?_ hM (ez_cnd hR hb) ?_
  · show cz_hobj M (d + 1) x pc (stk.map ez_v) h = none
    unfold cz_hobj
    split
    · rw [hq]; dsimp only; rw [hne]; rfl
    · rfl
  · show (match cz_cI x M (stk.map ez_v) with
      | some v => some v
      | none => cz_cU x M (stk.map ez_v) h) = _
    have : cz_cI x M (stk.map ez_v) = some (y, ((.inr (.inr (some r)) : ez_V) :: ws.reverse).map ez_v, rest.map ez_v) := by
      unfold cz_cI
      simp only [hq, h0, ez_take_eq ht, cond_true, List.map_cons, ez_v, List.map_reverse]
    rw [this]
  · rw [ez_argl_eq]
    exact k
end EzCall
