/-! L3, part 7: by hand: arrays of all kinds that are made, longs and booleans in arrays, tags that change. -/
section EzY
variable {d : Nat} {M : cz_M} {pc : Nat} {L : List (Nat × ez_V)} {st : List ez_V} {h : cz_H} {Q : cz_F → Prop} {τ : Nat → Nat}
theorem ez_dn (c : Nat) : dz_n (cz_dflt c) = 0 := by
  unfold cz_dflt
  split <;> rfl
/-- a new array's cell -/
theorem ez_newB {k c t : Nat} {n : Int} {ti : dz_I} {D : dz_D} (hB : ez_B τ h) (hti : tz_T t = some ti) (hD : dz_nth ti.2.2.2.2 0 = some D) (b1 : Nat.beq ti.1 1 = true) (b2 : Nat.beq ti.2.1 k = true) (b4 : dz_d0 D = true) (b5 : Nat.beq D.1 c = true) (h0 : 0 ≤ n) (hlo : ti.2.2.2.1.1 ≤ n) (hhi : n ≤ ti.2.2.2.1.2) (h1 : h.1 + 1 ≤ 600192) (h2 : h.2.1 + n.toNat ≤ 7302232) : ez_B (dz_tn τ h.1 t) (cz_push h n.toNat (.inl (k, n.toNat, fun _ => cz_dflt c))) ∧ qz_N (cz_push h n.toNat (.inl (k, n.toNat, fun _ => cz_dflt c))) h.1 = n ∧ (∀ j, qz_I (cz_push h n.toNat (.inl (k, n.toNat, fun _ => cz_dflt c))) h.1 j = 0) ∧ cz_room h 1 n.toNat = true := by
  have e0 := Nat.eq_of_beq_eq_true b1
  have e1 := Nat.eq_of_beq_eq_true b2
  have e5 := Nat.eq_of_beq_eq_true b5
  subst e5
  obtain ⟨r1, r2⟩ := ez_roomp (n := n.toNat) (c := .inl (k, n.toNat, fun _ => cz_dflt D.1)) h1 h2
  have hBn := dz_B_new (n := n.toNat) (c := .inl (k, n.toNat, fun _ => cz_dflt D.1)) hB (ez_t0 hti (by rw [e0]; rfl)) hti ⟨e0, e1.symm, by show _ ≤ (n.toNat : Int); omega, by show (n.toNat : Int) ≤ _; omega⟩ (fun i v hv => by
    have hv : (if i < n.toNat then some (cz_dflt D.1) else none) = some v := hv
    by_cases hi : i < n.toNat
    · rw [if_pos hi] at hv
      cases hv
      refine ⟨D, ?_, ?_⟩
      · unfold dz_ds; rw [e0]; exact hD
      · exact dz_vd0 b4
    · rw [if_neg hi] at hv; cases hv) r2
  have hcell : (cz_push h n.toNat (.inl (k, n.toNat, fun _ => cz_dflt D.1))).2.2 h.1 = .inl (k, n.toNat, fun _ => cz_dflt D.1) := by show (if h.1 = h.1 then _ else _) = _; rw [if_pos rfl]
  refine ⟨hBn.1, ?_, fun j => ?_, r1⟩
  · unfold qz_N
    rw [hcell]
    show (n.toNat : Int) = n
    omega
  · unfold qz_I
    rw [hcell]
    show (match (if j < n.toNat then some (cz_dflt D.1) else none) with | some v => dz_n v | none => 0) = 0
    by_cases hj : j < n.toNat
    · rw [if_pos hj]; exact ez_dn _
    · rw [if_neg hj]
theorem ez_nA {at_ : ArrayType} {k : Nat} {y : Nat × Nat} {t : Nat} {n : Int} {ti : dz_I} {D : dz_D} (hB : ez_B τ h) (hc : cz_code M pc = some (.newarray at_, 2)) (hk : cz_atn at_ = some k) (hy : cz_pg.2.2[k]? = some y) (hti : tz_T t = some ti) (hD : dz_nth ti.2.2.2.2 0 = some D) (hb : ((Nat.beq ti.1 1 && Nat.beq ti.2.1 k) && (dz_d0 D && Nat.beq D.1 y.1)) = true) (h0 : 0 ≤ n) (hlo : ti.2.2.2.1.1 ≤ n) (hhi : n ≤ ti.2.2.2.1.2) (h3 : n ≤ 67108864) (h1 : h.1 + 1 ≤ 600192) (h2 : h.2.1 + n.toNat ≤ 7302232) (kk : ez_B (dz_tn τ h.1 t) (cz_push h n.toNat (.inl (k, n.toNat, fun _ => cz_dflt y.1))) → qz_N (cz_push h n.toNat (.inl (k, n.toNat, fun _ => cz_dflt y.1))) h.1 = n → (∀ j, qz_I (cz_push h n.toNat (.inl (k, n.toNat, fun _ => cz_dflt y.1))) h.1 j = 0) → ez_W d M (pc + 2) L (.inr (.inr (some h.1)) :: st) (cz_push h n.toNat (.inl (k, n.toNat, fun _ => cz_dflt y.1))) Q) : ez_W d M pc L (.inl n :: st) h Q := by
  simp only [Bool.and_eq_true] at hb
  obtain ⟨⟨b1, b2⟩, b4, b5⟩ := hb
  obtain ⟨x1, x2, x3, r1⟩ := ez_newB (h := h) hB hti hD b1 b2 b4 b5 h0 hlo hhi h1 h2
  have en : (Int32.ofInt n).toInt = n := dz_toInt_i (by omega) (by omega)
  refine dz_wp_hp (q := (pc + 2, ez_v (.inr (.inr (some h.1))) :: st.map ez_v, cz_push h n.toNat (.inl (k, n.toNat, fun _ => cz_dflt y.1)))) hc rfl rfl rfl rfl rfl ?_ (kk x1 x2 x3)
  show cz_hna cz_pg at_ pc (.inl (Int32.ofInt n) :: st.map ez_v) h = _
  unfold cz_hna
  have h4 : Nat.ble (n.toNat * 8) 536870912 = true := Nat.ble_eq.mpr (by omega)
  simp only [hk, en, decide_eq_true h0, r1, h4, Bool.and_self, cond_true, hy]
  rfl
/-- a new array of references -/
theorem ez_nQ {x ty a b : Nat} {t : Nat} {n : Int} {ti : dz_I} {D : dz_D} (hB : ez_B τ h) (hc : cz_code M pc = some (.anewarray x, 3)) (hq : cz_lk M (x + 65536) = some (10, ty, a, b)) (hti : tz_T t = some ti) (hD : dz_nth ti.2.2.2.2 0 = some D) (hb : ((Nat.beq ti.1 1 && Nat.beq ti.2.1 ty) && (dz_d0 D && Nat.beq D.1 3)) = true) (h0 : 0 ≤ n) (hlo : ti.2.2.2.1.1 ≤ n) (hhi : n ≤ ti.2.2.2.1.2) (h3 : n ≤ 67108864) (h1 : h.1 + 1 ≤ 600192) (h2 : h.2.1 + n.toNat ≤ 7302232) (kk : ez_B (dz_tn τ h.1 t) (cz_push h n.toNat (.inl (ty, n.toNat, fun _ => cz_dflt 3))) → qz_N (cz_push h n.toNat (.inl (ty, n.toNat, fun _ => cz_dflt 3))) h.1 = n → (∀ j, qz_I (cz_push h n.toNat (.inl (ty, n.toNat, fun _ => cz_dflt 3))) h.1 j = 0) → ez_W d M (pc + 3) L (.inr (.inr (some h.1)) :: st) (cz_push h n.toNat (.inl (ty, n.toNat, fun _ => cz_dflt 3))) Q) : ez_W d M pc L (.inl n :: st) h Q := by
  simp only [Bool.and_eq_true] at hb
  obtain ⟨⟨b1, b2⟩, b4, b5⟩ := hb
  obtain ⟨x1, x2, x3, r1⟩ := ez_newB (h := h) hB hti hD b1 b2 b4 b5 h0 hlo hhi h1 h2
  have en : (Int32.ofInt n).toInt = n := dz_toInt_i (by omega) (by omega)
  refine dz_wp_hp (q := (pc + 3, ez_v (.inr (.inr (some h.1))) :: st.map ez_v, cz_push h n.toNat (.inl (ty, n.toNat, fun _ => cz_dflt 3)))) hc rfl rfl rfl rfl rfl ?_ (kk x1 x2 x3)
  show cz_hnq M x pc (.inl (Int32.ofInt n) :: st.map ez_v) h = _
  unfold cz_hnq
  have h4 : Nat.ble (n.toNat * 8) 536870912 = true := Nat.ble_eq.mpr (by omega)
  simp only [hq, en, decide_eq_true h0, r1, h4, show Nat.beq 10 10 = true from rfl, Bool.and_self, cond_true]
  rfl
/-- a long of an array -/
theorem ez_aL {r t : Nat} {ti : dz_I} {i lo hi : Int} {tg md : Nat} (hB : ez_B τ h) (hτ : τ r = t) (hc : cz_code M pc = some (.laload, 1)) (hti : tz_T t = some ti) (hD : dz_nth ti.2.2.2.2 0 = some (2, lo, hi, tg, md)) (hb : ((Nat.beq ti.1 1 && Nat.blt ti.2.1 11) && (Nat.beq ti.2.1 2 && dz_ile ti.2.2.2.1.2 2147483647)) = true) (h0 : 0 ≤ i) (h1 : i < qz_N h r) (kk : ez_W d M (pc + 1) L (.inr (.inl (Int64.ofInt (qz_I h r i.toNat))) :: st) h Q) : ez_W d M pc L (.inl i :: .inr (.inr (some r)) :: st) h Q := by
  rw [Bool.and_eq_true] at hb
  obtain ⟨b0, b1⟩ := hb
  simp only [Bool.and_eq_true] at b1
  obtain ⟨b1, b3⟩ := b1
  have b3 := dz_ile_ok b3
  obtain ⟨n, f, o1, o2, o3, o4, -, o6⟩ := ez_arr hB hτ hti b0 hD
  rw [o3] at h1 o4
  have hi : i.toNat < n := by omega
  obtain ⟨g1, g2⟩ := o6 _ hi
  have hx : ∃ x : Int64, f i.toNat = .inr (.inl x) := by
    have := g2.1
    revert this
    generalize f i.toNat = v
    intro this
    match v with
    | .inl _ => cases this
    | .inr (.inl x) => exact ⟨x, rfl⟩
    | .inr (.inr _) => cases this
  obtain ⟨x, hx⟩ := hx
  refine ez_alw (u := .inr (.inl (Int64.ofInt (qz_I h r i.toNat)))) hc b1 o1 (ez_ix h0 h1 (by omega)) ?_ kk
  rw [qz_I_of g1, hx]
  show (Sum.inr (Sum.inl x) : cz_V) = .inr (.inl (Int64.ofInt x.toInt))
  rw [Int64.ofInt_toInt]
/-- a boolean into an array -/
theorem ez_az {r t : Nat} {ti : dz_I} {D : dz_D} {i v : Int} (hB : ez_B τ h) (hτ : τ r = t) (hc : cz_code M pc = some (.bastore, 1)) (hti : tz_T t = some ti) (hD : dz_nth ti.2.2.2.2 0 = some D) (hb : ((Nat.beq ti.1 1 && Nat.blt ti.2.1 11) && (Nat.beq ti.2.1 3 && (Nat.beq ti.2.2.1 1 && dz_ile ti.2.2.2.1.2 2147483647))) = true) (h0 : 0 ≤ i) (h1 : i < qz_N h r) (hv01 : v = 0 ∨ v = 1) (hv : dz_vd τ r D (ez_v (.inl v))) (kk : ez_B τ (dz_put h r i.toNat (ez_v (.inl v))) → qz_I (dz_put h r i.toNat (ez_v (.inl v))) r i.toNat = dz_n (ez_v (.inl v)) → ez_W d M (pc + 1) L st (dz_put h r i.toNat (ez_v (.inl v))) Q) : ez_W d M pc L (.inl v :: .inl i :: .inr (.inr (some r)) :: st) h Q := by
  rw [Bool.and_eq_true] at hb
  obtain ⟨b0, b1⟩ := hb
  simp only [Bool.and_eq_true] at b1
  obtain ⟨b1, b2, b3⟩ := b1
  have b3 := dz_ile_ok b3
  obtain ⟨n, f, o1, o2, o3, o4, o5, o6⟩ := ez_arr hB hτ hti b0 hD
  rw [o3] at h1 o4
  have hi : i.toNat < n := by omega
  obtain ⟨g1, g2⟩ := o6 _ hi
  have hr : 192 ≤ r := by
    rcases o5 with w | w
    · rw [w] at b2; cases b2
    · exact w
  have b0' := b0
  rw [Bool.and_eq_true] at b0'
  have e0 := Nat.eq_of_beq_eq_true b0'.1
  have e3 := Nat.eq_of_beq_eq_true b1
  have hds : dz_ds ti i.toNat = some D := by unfold dz_ds; rw [e0]; exact hD
  obtain ⟨x1, x2⟩ := ez_ix h0 h1 (by omega)
  have kk := kk (ez_Bput hB (by rw [hτ]; exact hti) g1 hds hv) (qz_put_I0 g1)
  refine dz_wp_hp (q := (pc + 1, st.map ez_v, dz_put h r i.toNat (ez_v (.inl v)))) hc rfl rfl rfl rfl rfl ?_ kk
  show (match cz_arr h r with
      | some c => bif Nat.beq c.1 0 then cz_astore pc (st.map ez_v) h (Int32.ofInt i) r (.inl (Int32.ofInt v).toInt8.toInt32) (fun t => Nat.beq t 0) else bif decide (Int32.ofInt v = 0) || decide (Int32.ofInt v = 1) then cz_astore pc (st.map ez_v) h (Int32.ofInt i) r (.inl (Int32.ofInt v)) (fun t => Nat.beq t 3) else none
      | none => none) = _
  rw [o1]
  have e01 : (decide (Int32.ofInt v = 0) || decide (Int32.ofInt v = 1)) = true := by rcases hv01 with rfl | rfl <;> rfl
  simp only [e3, e01, show Nat.beq 3 0 = false from rfl, cond_true, cond_false]
  unfold cz_astore
  rw [e3] at o1
  simp only [o1, x1, show Nat.beq 3 3 = true from rfl, Nat.ble_eq.mpr hr, Bool.and_self, cond_true]
  show some (pc + 1, st.map ez_v, cz_setc h r (.inl (3, n, fun j => if j = (Int32.ofInt i).toInt.toNat then ez_v (.inl v) else f j))) = some (pc + 1, st.map ez_v, cz_setc h r (dz_set (h.2.2 r) i.toNat (ez_v (.inl v))))
  rw [o2, x2, e3]
  rfl
theorem ez_ldc2 {x a b z : Nat} (n : Int) (hc : cz_code M pc = some (.ldc2_w x, 3)) (hq : cz_lk M x = some (15, a, b, z)) (hn : (a : Int) - (b : Int) = n) (kk : ez_W d M (pc + 3) L (.inr (.inl (Int64.ofInt n)) :: st) h Q) : ez_W d M pc L st h Q := by
  refine dz_wp_hp (q := (pc + 3, ez_v (.inr (.inl (Int64.ofInt n))) :: st.map ez_v, h)) hc rfl rfl rfl rfl rfl ?_ kk
  show cz_hldc2 M x pc (st.map ez_v) h = _
  unfold cz_hldc2
  simp only [hq, show Nat.beq 15 15 = true from rfl, cond_true]
  rw [hn]
  rfl
theorem ez_vdR1 {r p : Nat} {lo hi : Int} {tg : Nat} (h0 : Nat.beq tg 0 = false) (hp : τ p = tg) (h1 : lo ≤ (p : Int) + 1) (h2 : (p : Int) + 1 ≤ hi) (hrp : r < p) : dz_vd τ r (3, lo, hi, tg, 1) (ez_v (.inr (.inr (some p)))) :=
  ⟨rfl, Or.inr ⟨h1, h2⟩, Or.inr (fun q hq => by cases hq; exact ⟨hp, fun e => by have e : tg = 0 := e; rw [e] at h0; cases h0⟩), Or.inr (Or.inr (by show (r : Int) + 1 < (p : Int) + 1; omega)), Or.inl (by show (1 : Nat) ≠ 3; decide), Or.inl (by show (1 : Nat) ≠ 4; decide)⟩
/-- a chain goes up -/
theorem ez_up (hB : ez_B τ h) {r t cl k : Nat} {ti : dz_I} {lo hi : Int} {tg : Nat} (hτ : τ r = t) (hti : tz_T t = some ti) (hk : (Nat.beq ti.1 0 && Nat.beq ti.2.1 cl) = true) (hD : dz_nth ti.2.2.2.2 k = some (3, lo, hi, tg, 1)) : qz_I h r k = 0 ∨ (r : Int) + 1 < qz_I h r k := by
  obtain ⟨vs, v, -, -, g1, g2, -⟩ := ez_fld hB hτ hti hk hD
  rw [qz_I_of g1]
  rcases g2.2.2.2.1 with w | w
  · exact absurd rfl w
  · exact w
/-- no tag points to t -/
theorem ez_no {t : Nat} (h : tz_I.all (fun ti => ti.2.2.2.2.all (fun D => !(Nat.beq D.2.2.2.1 t))) = true) : ∀ u tu i D, tz_T u = some tu → dz_ds tu i = some D → D.2.2.2.1 ≠ t := by
  intro u tu i D h1 h2 e
  unfold tz_T at h1
  rw [dz_nth_eq] at h1
  have m1 := List.mem_of_getElem? h1
  have a1 := List.all_eq_true.mp h tu m1
  have m2 : D ∈ tu.2.2.2.2 := by
    unfold dz_ds at h2
    split at h2
    · rw [dz_nth_eq] at h2; exact List.mem_of_getElem? h2
    · rw [dz_nth_eq] at h2; exact List.mem_of_getElem? h2
    · cases h2
  have a2 := List.all_eq_true.mp a1 D m2
  rw [e, Nat.beq_refl] at a2
  cases a2
/-- another tag for a cell that nothing points to -/
theorem ez_rt (hB : ez_B τ h) {r t t' : Nat} {ti' : dz_I} (hτ : τ r = t) (hti' : tz_T t' = some ti') (hno : ∀ u tu i D, tz_T u = some tu → dz_ds tu i = some D → D.2.2.2.1 ≠ t) (h0 : t ≠ 0) (hsh : dz_sh ti' (h.2.2 r)) (hw : ti'.2.2.1 = 0 ∨ 192 ≤ r) (hsl : ∀ i v, dz_get (h.2.2 r) i = some v → ∃ D, dz_ds ti' i = some D ∧ dz_vd τ r D v) : ez_B (dz_tn τ r t') h := by
  have hvd : ∀ {u tu i D q v}, tz_T u = some tu → dz_ds tu i = some D → dz_vd τ q D v → dz_vd (dz_tn τ r t') q D v := by
    intro u tu i D q v e1 e2 e3
    refine ⟨e3.1, e3.2.1, e3.2.2.1.imp id (fun e4 z hz => ?_), e3.2.2.2⟩
    obtain ⟨z1, z2⟩ := e4 z hz
    refine ⟨?_, z2⟩
    unfold dz_tn
    by_cases e : z = r
    · subst e
      rw [hτ] at z1
      exact absurd z1.symm (hno u tu i D e1 e2)
    · rw [if_neg e]; exact z1
  refine ⟨fun q hq => ?_, hB.2.1, hB.2.2⟩
  by_cases e : q = r
  · subst e
    refine ⟨(hB.1 q (by rw [hτ]; exact h0)).1, ti', ?_, hsh, hw, fun i v hv => ?_⟩
    · unfold dz_tn; rw [if_pos rfl]; exact hti'
    · obtain ⟨D, d1, d2⟩ := hsl i v hv
      exact ⟨D, d1, hvd hti' d1 d2⟩
  · have eq : dz_tn τ r t' q = τ q := by unfold dz_tn; rw [if_neg e]
    rw [eq] at hq
    obtain ⟨a1, ti, a2, a3, a4, a5⟩ := hB.1 q hq
    refine ⟨a1, ti, by rw [eq]; exact a2, a3, a4, fun i v hv => ?_⟩
    obtain ⟨D, d1, d2⟩ := a5 i v hv
    exact ⟨D, d1, hvd a2 d1 d2⟩
theorem ez_rtO (hB : ez_B τ h) {r t t' : Nat} {ti ti' : dz_I} (hτ : τ r = t) (hti : tz_T t = some ti) (hti' : tz_T t' = some ti') (hno : tz_I.all (fun ti => ti.2.2.2.2.all (fun D => !(Nat.beq D.2.2.2.1 t))) = true) (hk : ((Nat.beq ti.1 0 && Nat.beq ti'.1 0) && ((Nat.beq ti.2.1 ti'.2.1 && Nat.beq ti.2.2.1 ti'.2.2.1) && Nat.beq ti.2.2.2.2.length ti'.2.2.2.2.length)) = true) (hD : ∀ k D v, dz_nth ti.2.2.2.2 k = some D → dz_n v = qz_I h r k → dz_vd τ r D v → ∃ D', dz_nth ti'.2.2.2.2 k = some D' ∧ dz_vd τ r D' v) : ez_B (dz_tn τ r t') h := by
  simp only [Bool.and_eq_true] at hk
  obtain ⟨⟨k1, k2⟩, ⟨k3, k4⟩, k5⟩ := hk
  have k1 := Nat.eq_of_beq_eq_true k1
  have k2 := Nat.eq_of_beq_eq_true k2
  have k3 := Nat.eq_of_beq_eq_true k3
  have k4 := Nat.eq_of_beq_eq_true k4
  have k5 := Nat.eq_of_beq_eq_true k5
  have h0 : t ≠ 0 := ez_t0 hti (by rw [k1]; rfl)
  obtain ⟨a1, ti0, a2, a3, a4, a5⟩ := hB.1 r (by rw [hτ]; exact h0)
  rw [hτ, hti] at a2
  cases a2
  refine ez_rt hB hτ hti' (ez_no hno) h0 ?_ (by rw [← k4]; exact a4) (fun i v hv => ?_)
  · revert a3
    generalize h.2.2 r = c
    intro a3
    match c with
    | .inl q => exact absurd (k1.symm.trans a3.1) (by decide)
    | .inr (.inl q) => exact ⟨k2, a3.2.1.trans k3, a3.2.2.trans k5⟩
    | .inr (.inr k) => exact absurd (k1.symm.trans a3.1) (by decide)
  · obtain ⟨D, d1, d2⟩ := a5 i v hv
    have d1' : dz_nth ti.2.2.2.2 i = some D := by unfold dz_ds at d1; rw [k1] at d1; exact d1
    obtain ⟨D', e1, e2⟩ := hD i D v d1' (qz_I_of hv).symm d2
    refine ⟨D', ?_, e2⟩
    unfold dz_ds
    rw [k2]
    exact e1
theorem ez_tn_ne {τ : Nat → Nat} {r t q : Nat} (h : q ≠ r) : dz_tn τ r t q = τ q := by unfold dz_tn; rw [if_neg h]
theorem ez_tn_eq {τ : Nat → Nat} {r t : Nat} : dz_tn τ r t r = t := by unfold dz_tn; rw [if_pos rfl]
/-- an Entry whose elements are there -/
theorem ez_rtEntry (hB : ez_B τ h) {r : Nat} (hτ : τ r = 8) (h1 : 1 ≤ qz_I h r 1) : ez_B (dz_tn τ r 7) h := by
  refine ez_rtO hB hτ tq_8 tq_7 rfl rfl (fun k D v hD hn hv => ?_)
  match k with
  | 0 => exact ⟨D, hD, hv⟩
  | 1 =>
    cases hD
    refine ⟨_, rfl, hv.1, Or.inr ⟨?_, ?_⟩, hv.2.2.1, hv.2.2.2⟩
    · rw [hn]; exact h1
    · exact (hv.2.1.resolve_left (by decide)).2
  | k + 2 => cases hD
/-- a StringBuilder, a String whose bytes are there -/
theorem ez_rtSB (hB : ez_B τ h) {r : Nat} (hτ : τ r = 29) (h1 : 1 ≤ qz_I h r 0) : ez_B (dz_tn τ r 30) h := by
  refine ez_rtO hB hτ tq_29 tq_30 rfl rfl (fun k D v hD hn hv => ?_)
  match k with
  | 0 =>
    cases hD
    refine ⟨_, rfl, hv.1, Or.inr ⟨?_, ?_⟩, hv.2.2.1, hv.2.2.2⟩
    · rw [hn]; exact h1
    · exact (hv.2.1.resolve_left (by decide)).2
  | 1 => exact ⟨D, hD, hv⟩
  | 2 => exact ⟨D, hD, hv⟩
  | 3 => exact ⟨D, hD, hv⟩
  | k + 4 => cases hD
theorem ez_rtStr (hB : ez_B τ h) {r : Nat} (hτ : τ r = 32) (h1 : 1 ≤ qz_I h r 0) : ez_B (dz_tn τ r 33) h := by
  refine ez_rtO hB hτ tq_32 tq_33 rfl rfl (fun k D v hD hn hv => ?_)
  match k with
  | 0 =>
    cases hD
    refine ⟨_, rfl, hv.1, Or.inr ⟨?_, ?_⟩, hv.2.2.1, hv.2.2.2⟩
    · rw [hn]; exact h1
    · exact (hv.2.1.resolve_left (by decide)).2
  | 1 => exact ⟨D, hD, hv⟩
  | 2 => exact ⟨D, hD, hv⟩
  | 3 => exact ⟨D, hD, hv⟩
  | k + 4 => cases hD
/-- a Line whose rows are there -/
theorem ez_rtLine (hB : ez_B τ h) {r : Nat} (hτ : τ r = 14) (h7 : qz_I h r 7 = (r : Int) + 2) (h8 : qz_I h r 8 = (r : Int) + 3) : ez_B (dz_tn τ r 13) h := by
  refine ez_rtO hB hτ tq_14 tq_13 rfl rfl (fun k D v hD hn hv => ?_)
  match k with
  | 0 => exact ⟨D, hD, hv⟩
  | 1 => exact ⟨D, hD, hv⟩
  | 2 => exact ⟨D, hD, hv⟩
  | 3 => exact ⟨D, hD, hv⟩
  | 4 => exact ⟨D, hD, hv⟩
  | 5 => exact ⟨D, hD, hv⟩
  | 6 => exact ⟨D, hD, hv⟩
  | 7 =>
    cases hD
    refine ⟨_, rfl, hv.1, Or.inr ⟨?_, ?_⟩, Or.inr (hv.2.2.1.resolve_left (by decide)), Or.inl (by decide), Or.inr (by rw [hn]; exact h7), Or.inl (by decide)⟩
    · rw [hn, h7]; show (1 : Int) ≤ _; omega
    · exact (hv.2.1.resolve_left (by decide)).2
  | 8 =>
    cases hD
    refine ⟨_, rfl, hv.1, Or.inr ⟨?_, ?_⟩, Or.inr (hv.2.2.1.resolve_left (by decide)), Or.inl (by decide), Or.inl (by decide), Or.inr (by rw [hn]; exact h8)⟩
    · rw [hn, h8]; show (1 : Int) ≤ _; omega
    · exact (hv.2.1.resolve_left (by decide)).2
  | 9 => exact ⟨D, hD, hv⟩
  | 10 => exact ⟨D, hD, hv⟩
  | 11 => exact ⟨D, hD, hv⟩
  | 12 => exact ⟨D, hD, hv⟩
  | k + 13 => cases hD
theorem ez_vdJ {r : Nat} {x : Int64} : dz_vd τ r (2, 0, 0, 0, 0) (ez_v (.inr (.inl x))) := ⟨rfl, Or.inl rfl, Or.inr (fun q hq => (by cases hq)), ez_m40⟩
theorem ez_tn_xt (hB : ez_B τ h) {t n : Nat} {c : cz_C} : ez_xt τ h (dz_tn τ h.1 t) (cz_push h n c) 1 n ∧ (∀ q, q ≠ h.1 → dz_tn τ h.1 t q = τ q) ∧ dz_tn τ h.1 t h.1 = t ∧ τ h.1 = 0 :=
  ⟨ez_xt_new (t := t) (c := c) hB (Nat.le_refl _) (Nat.le_refl _) (ez_fr.refl _ _), fun _ hq => ez_tn_ne hq, ez_tn_eq, ez_fresh hB⟩
/-- the same, with names for what is new -/
theorem ez_nA' {at_ : ArrayType} {k : Nat} {y : Nat × Nat} {t : Nat} {n : Int} {ti : dz_I} {D : dz_D} (hB : ez_B τ h) (hc : cz_code M pc = some (.newarray at_, 2)) (hk : cz_atn at_ = some k) (hy : cz_pg.2.2[k]? = some y) (hti : tz_T t = some ti) (hD : dz_nth ti.2.2.2.2 0 = some D) (hb : ((Nat.beq ti.1 1 && Nat.beq ti.2.1 k) && (dz_d0 D && Nat.beq D.1 y.1)) = true) (h0 : 0 ≤ n) (hlo : ti.2.2.2.1.1 ≤ n) (hhi : n ≤ ti.2.2.2.1.2) (h3 : n ≤ 67108864) (h1 : h.1 + 1 ≤ 600192) (h2 : h.2.1 + n.toNat ≤ 7302232) (kk : ∀ g τ1 p, ez_B τ1 g → ez_xt τ h τ1 g 1 n.toNat → (∀ q, q ≠ p → τ1 q = τ q) → τ1 p = t → τ p = 0 → p = h.1 → qz_N g p = n → (∀ j, qz_I g p j = 0) → ez_W d M (pc + 2) L (.inr (.inr (some p)) :: st) g Q) : ez_W d M pc L (.inl n :: st) h Q :=
  ez_nA hB hc hk hy hti hD hb h0 hlo hhi h3 h1 h2 (fun a b c => kk _ _ _ a (ez_tn_xt hB).1 (ez_tn_xt (n := n.toNat) (c := .inl (k, n.toNat, fun _ => cz_dflt y.1)) hB).2.1 (ez_tn_xt (n := n.toNat) (c := .inl (k, n.toNat, fun _ => cz_dflt y.1)) hB).2.2.1 (ez_fresh hB) rfl b c)
theorem ez_nQ' {x ty a b : Nat} {t : Nat} {n : Int} {ti : dz_I} {D : dz_D} (hB : ez_B τ h) (hc : cz_code M pc = some (.anewarray x, 3)) (hq : cz_lk M (x + 65536) = some (10, ty, a, b)) (hti : tz_T t = some ti) (hD : dz_nth ti.2.2.2.2 0 = some D) (hb : ((Nat.beq ti.1 1 && Nat.beq ti.2.1 ty) && (dz_d0 D && Nat.beq D.1 3)) = true) (h0 : 0 ≤ n) (hlo : ti.2.2.2.1.1 ≤ n) (hhi : n ≤ ti.2.2.2.1.2) (h3 : n ≤ 67108864) (h1 : h.1 + 1 ≤ 600192) (h2 : h.2.1 + n.toNat ≤ 7302232) (kk : ∀ g τ1 p, ez_B τ1 g → ez_xt τ h τ1 g 1 n.toNat → (∀ q, q ≠ p → τ1 q = τ q) → τ1 p = t → τ p = 0 → p = h.1 → qz_N g p = n → (∀ j, qz_I g p j = 0) → ez_W d M (pc + 3) L (.inr (.inr (some p)) :: st) g Q) : ez_W d M pc L (.inl n :: st) h Q :=
  ez_nQ hB hc hq hti hD hb h0 hlo hhi h3 h1 h2 (fun a b c => kk _ _ _ a (ez_tn_xt hB).1 (ez_tn_xt (n := n.toNat) (c := .inl (ty, n.toNat, fun _ => cz_dflt 3)) hB).2.1 (ez_tn_xt (n := n.toNat) (c := .inl (ty, n.toNat, fun _ => cz_dflt 3)) hB).2.2.1 (ez_fresh hB) rfl b c)
theorem ez_nw' {x cl t z1 z2 : Nat} {ti : dz_I} {ks : List Nat} (hB : ez_B τ h) (hc : cz_code M pc = some (.new x, 3)) (hth : cz_throw M pc (.new x) = none) (hq : cz_lk M x = some (8, cl, z1, z2)) (hti : tz_T t = some ti) (hks : cz_pg.2.1[cl]? = some ks) (hb : ((Nat.beq ti.1 0 && Nat.beq ti.2.1 cl) && (Nat.beq ti.2.2.1 1 && dz_ke ks ti.2.2.2.2)) = true) (h1 : h.1 + 1 ≤ 600192) (h2 : h.2.1 + ks.length ≤ 7302232) (kk : ∀ g τ1 p, ez_B τ1 g → ez_xt τ h τ1 g 1 ks.length → (∀ q, q ≠ p → τ1 q = τ q) → τ1 p = t → τ p = 0 → p = h.1 → (∀ j, qz_I g p j = 0) → ez_W d M (pc + 3) L (.inr (.inr (some p)) :: st) g Q) : ez_W d M pc L st h Q :=
  ez_nw hB hc hth hq hti hks hb h1 h2 (fun a c => kk _ _ _ a (ez_tn_xt hB).1 (ez_tn_xt (n := ks.length) (c := .inr (.inl (cl, ks.map cz_dflt))) hB).2.1 (ez_tn_xt (n := ks.length) (c := .inr (.inl (cl, ks.map cz_dflt))) hB).2.2.1 (ez_fresh hB) rfl c)
/-- cells more, one behind the other -/
theorem ez_xt.trans {τ τ1 τ2 : Nat → Nat} {h g1 g2 : cz_H} {a b c e : Nat} (x : ez_xt τ h τ1 g1 a b) (y : ez_xt τ1 g1 τ2 g2 c e) : ez_xt τ h τ2 g2 (a + c) (b + e) := by
  have h1 := x.2
  have h2 := y.2
  refine ⟨fun q hq => ?_, by omega, by omega⟩
  have q1 := x.1 q hq
  have q2 := y.1 q (by rw [q1.1]; exact hq)
  exact ⟨q2.1.trans q1.1, q2.2.trans q1.2⟩
theorem ez_xt.mono {τ τ1 : Nat → Nat} {h g1 : cz_H} {a b c e : Nat} (x : ez_xt τ h τ1 g1 a b) (h1 : a ≤ c) (h2 : b ≤ e) : ez_xt τ h τ1 g1 c e := by
  have := x.2
  exact ⟨x.1, by omega, by omega⟩
theorem ez_xt.fr {τ τ1 : Nat → Nat} {h g g' : cz_H} {a b r : Nat} (x : ez_xt τ h τ1 g a b) (hf : ez_fr (ez_one r) g g') (hr : τ r = 0) : ez_xt τ h τ1 g' a b := by
  refine ⟨fun q hq => ⟨(x.1 q hq).1, ?_⟩, by rw [hf.1]; exact x.2.1, by rw [hf.2.1]; exact x.2.2⟩
  rw [hf.2.2 q (dz_beq_ne (fun e => by rw [e] at hq; exact hq hr)), (x.1 q hq).2]
theorem ez_xt.xr {τ τ1 : Nat → Nat} {h g : cz_H} {x a b : Nat} (y : ez_xt τ h τ1 g a b) : ez_xr τ h τ1 g x a b := ⟨fun q hq => ⟨(y.1 q hq).1, fun _ => (y.1 q hq).2⟩, y.2⟩
theorem ez_xt.N {τ τ' : Nat → Nat} {h g : cz_H} {dc ds : Nat} (hx : ez_xt τ h τ' g dc ds) {q : Nat} (hq : τ q ≠ 0) : qz_N g q = qz_N h q := by unfold qz_N; rw [(hx.1 q hq).2]
theorem ez_xt.bft {τ τ' : Nat → Nat} {h g : cz_H} {dc ds : Nat} (hx : ez_xt τ h τ' g dc ds) (t193 : τ 193 = 45) (t721 : τ 721 = 53) (t722 : τ 722 = 54) : rz_b g = rz_b h ∧ rz_f g = rz_f h ∧ rz_t g = rz_t h := (hx.xr (x := 720)).bft t193 t721 t722
end EzY
