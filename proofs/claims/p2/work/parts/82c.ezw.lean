/-! L3, part 5: by hand: writes and new cells. -/
theorem ez_put_I {h : cz_H} {r i : Nat} {v : cz_V} {q j : Nat} (e : ¬(q = r ∧ j = i)) : qz_I (dz_put h r i v) q j = qz_I h q j := by
  apply qz_I_eq
  rw [dz_put_at]
  by_cases e1 : q = r
  · subst e1
    rw [if_pos rfl]
    have e2 : j ≠ i := fun w => e ⟨rfl, w⟩
    obtain c | c | c := h.2.2 q
    · show (if j < c.2.1 then some (if j = i then v else c.2.2 j) else none) = (if j < c.2.1 then some (c.2.2 j) else none)
      rw [if_neg e2]
    · exact List.getElem?_set_ne (fun w => e2 w.symm)
    · rfl
  · rw [if_neg e1]
theorem ez_put_P {h : cz_H} {r i : Nat} {v : cz_V} {q j : Nat} (e : ¬(q = r ∧ j = i)) : qz_P (dz_put h r i v) q j = qz_P h q j := by
  unfold qz_P
  rw [ez_put_I e]
theorem ez_put_N {h : cz_H} {r i : Nat} {v : cz_V} (q : Nat) : qz_N (dz_put h r i v) q = qz_N h q := qz_N_eq (qz_put_al _ _ _ _ _)
theorem ez_m40 {r : Nat} {x : Int} : dz_m4 0 r x := ⟨Or.inl (by decide), Or.inl (by decide), Or.inl (by decide)⟩
section EzW
variable {d : Nat} {M : cz_M} {pc : Nat} {L : List (Nat × ez_V)} {st : List ez_V} {h : cz_H} {Q : cz_F → Prop} {τ : Nat → Nat}
theorem ez_vdI {r : Nat} {c : Nat} {lo hi n : Int} {tg : Nat} (hc : (Nat.beq c 0 || (Nat.beq c 1 && (dz_ile 0 lo && dz_ile hi 1))) = true) (hr : (dz_ile (-2147483648) lo && dz_ile hi 2147483647) = true) (h1 : lo ≤ n) (h2 : n ≤ hi) : dz_vd τ r (c, lo, hi, tg, 0) (ez_v (.inl n)) := by
  rw [Bool.and_eq_true] at hr
  have r1 := dz_ile_ok hr.1
  have r2 := dz_ile_ok hr.2
  have e : (Int32.ofInt n).toInt = n := dz_toInt_i (by omega) (by omega)
  refine ⟨?_, Or.inr ?_, Or.inr (fun p hp => (by cases hp)), ez_m40⟩
  · simp only [Bool.or_eq_true, Bool.and_eq_true] at hc
    rcases hc with hc | ⟨hc, hc1, hc2⟩
    · have := Nat.eq_of_beq_eq_true hc; subst this; rfl
    · have := Nat.eq_of_beq_eq_true hc
      subst this
      have c1 := dz_ile_ok hc1
      have c2 := dz_ile_ok hc2
      have : n = 0 ∨ n = 1 := by omega
      rcases this with rfl | rfl <;> rfl
  · show lo ≤ (Int32.ofInt n).toInt ∧ (Int32.ofInt n).toInt ≤ hi
    rw [e]; exact ⟨h1, h2⟩
theorem ez_vdR {r p : Nat} {lo hi : Int} {tg : Nat} (h0 : Nat.beq tg 0 = false) (hp : τ p = tg) (h1 : lo ≤ (p : Int) + 1) (h2 : (p : Int) + 1 ≤ hi) : dz_vd τ r (3, lo, hi, tg, 0) (ez_v (.inr (.inr (some p)))) :=
  ⟨rfl, Or.inr ⟨h1, h2⟩, Or.inr (fun q hq => by cases hq; exact ⟨hp, fun e => by have e : tg = 0 := e; rw [e] at h0; cases h0⟩), ez_m40⟩
theorem ez_vdN {r : Nat} {lo hi : Int} {tg : Nat} (hb : (dz_ile lo 0 && dz_ile 0 hi) = true) : dz_vd τ r (3, lo, hi, tg, 0) (ez_v (.inr (.inr none))) := by
  rw [Bool.and_eq_true] at hb
  exact ⟨rfl, Or.inr ⟨dz_ile_ok hb.1, dz_ile_ok hb.2⟩, Or.inr (fun q hq => (by cases hq)), ez_m40⟩
theorem ez_Bput (hB : ez_B τ h) {r i : Nat} {v old : cz_V} {ti : dz_I} {D : dz_D} (hti : tz_T (τ r) = some ti) (hg : dz_get (h.2.2 r) i = some old) (hD : dz_ds ti i = some D) (hv : dz_vd τ r D v) : ez_B τ (dz_put h r i v) :=
  dz_B_put hB hti hg hD hv hB.2.1
/-- putfield -/
theorem ez_pf {x q0 cl k r t : Nat} {ti : dz_I} {D : dz_D} {ks : List Nat} {v : ez_V} (hB : ez_B τ h) (hτ : τ r = t) (hc : cz_code M pc = some (.putfield x, 3)) (hq : cz_lk M x = some (q0, cl, k, 1)) (hti : tz_T t = some ti) (hD : dz_nth ti.2.2.2.2 k = some D) (hks : cz_pg.2.1[cl]? = some ks) (hkk : ks[k]? = some D.1) (hb : (Nat.ble q0 1 && ((Nat.beq ti.1 0 && Nat.beq ti.2.1 cl) && Nat.beq ti.2.2.1 1)) = true) (hv : dz_vd τ r D (ez_v v)) (kk : ez_B τ (dz_put h r k (ez_v v)) → qz_I (dz_put h r k (ez_v v)) r k = dz_n (ez_v v) → ez_W d M (pc + 3) L st (dz_put h r k (ez_v v)) Q) : ez_W d M pc L (v :: .inr (.inr (some r)) :: st) h Q := by
  rw [Bool.and_eq_true, Bool.and_eq_true] at hb
  obtain ⟨b1, b2, b3⟩ := hb
  obtain ⟨vs, old, o1, o2, o3, o4, o5⟩ := ez_fld hB hτ hti b2 hD
  have hr : 192 ≤ r := by
    rcases o5 with w | w
    · rw [w] at b3; cases b3
    · exact w
  have b2' := b2
  rw [Bool.and_eq_true] at b2'
  have e0 := Nat.eq_of_beq_eq_true b2'.1
  have hds : dz_ds ti k = some D := by unfold dz_ds; rw [e0]; exact hD
  have ho : h.2.2 r = .inr (.inl (cl, vs)) := by
    unfold cz_obj at o1
    cases hh : cz_hereB h r with
    | false => rw [hh] at o1; cases o1
    | true =>
      rw [hh] at o1
      simp only [cond_true] at o1
      split at o1
      · rename_i q hq'
        cases o1
        exact hq'
      · cases o1
  refine dz_wp_hp (q := (pc + 3, st.map ez_v, dz_put h r k (ez_v v))) hc rfl rfl rfl rfl rfl ?_ (kk (ez_Bput hB (by rw [hτ]; exact hti) o3 hds hv) (qz_put_I0 o3))
  show cz_hput cz_pg M x pc (ez_v v :: .inr (.inr (some r)) :: st.map ez_v) h = _
  unfold cz_hput
  have hfit := hv.1
  simp only [hq, b1, o1, hks, hkk, o2, hfit, Nat.beq_refl, Option.isSome_some, Bool.and_self, Nat.ble_eq.mpr hr, cond_true]
  show some (pc + 3, st.map ez_v, cz_setc h r (.inr (.inl (cl, vs.set k (ez_v v))))) = some (pc + 3, st.map ez_v, cz_setc h r (dz_set (h.2.2 r) k (ez_v v)))
  rw [ho]
  rfl
/-- a write into an array -/
noncomputable def ez_aso (op : Instr) (t : Nat) (v : ez_V) : Bool := match op, v with
  | .iastore, .inl _ => Nat.beq t 1
  | .lastore, .inr (.inl _) => Nat.beq t 2
  | _, _ => false
theorem ez_as {r t : Nat} {ti : dz_I} {D : dz_D} {i : Int} {op : Instr} {v : ez_V} (hB : ez_B τ h) (hτ : τ r = t) (hc : cz_code M pc = some (op, 1)) (hti : tz_T t = some ti) (hD : dz_nth ti.2.2.2.2 0 = some D) (hb : ((Nat.beq ti.1 1 && Nat.blt ti.2.1 11) && (ez_aso op ti.2.1 v && (Nat.beq ti.2.2.1 1 && dz_ile ti.2.2.2.1.2 2147483647))) = true) (h0 : 0 ≤ i) (h1 : i < qz_N h r) (hv : dz_vd τ r D (ez_v v)) (kk : ez_B τ (dz_put h r i.toNat (ez_v v)) → qz_I (dz_put h r i.toNat (ez_v v)) r i.toNat = dz_n (ez_v v) → ez_W d M (pc + 1) L st (dz_put h r i.toNat (ez_v v)) Q) : ez_W d M pc L (v :: .inl i :: .inr (.inr (some r)) :: st) h Q := by
  rw [Bool.and_eq_true] at hb
  obtain ⟨b0, b1⟩ := hb
  simp only [Bool.and_eq_true] at b1
  obtain ⟨b1, b2, b3⟩ := b1
  have b3 := dz_ile_ok b3
  obtain ⟨n, f, o1, o2, o3, o4, o5, o6⟩ := ez_arr hB hτ hti b0 hD
  rw [o3] at h1 o4
  have hi : i.toNat < n := by omega
  obtain ⟨g1, g2⟩ := o6 _ hi
  have hr : 192 ≤ r := by
    rcases o5 with w | w
    · rw [w] at b2; cases b2
    · exact w
  have b0' := b0
  rw [Bool.and_eq_true] at b0'
  have e0 := Nat.eq_of_beq_eq_true b0'.1
  have hds : dz_ds ti i.toNat = some D := by unfold dz_ds; rw [e0]; exact hD
  obtain ⟨x1, x2⟩ := ez_ix h0 h1 (by omega)
  have kk := kk (ez_Bput hB (by rw [hτ]; exact hti) g1 hds hv) (qz_put_I0 g1)
  have key : ∀ ok : Nat → Bool, ok ti.2.1 = true → cz_astore pc (st.map ez_v) h (Int32.ofInt i) r (ez_v v) ok = some (pc + 1, st.map ez_v, dz_put h r i.toNat (ez_v v)) := by
    intro ok hok
    unfold cz_astore
    simp only [o1, x1, hok, Nat.ble_eq.mpr hr, Bool.and_self, cond_true]
    show some (pc + 1, st.map ez_v, cz_setc h r (.inl (ti.2.1, n, fun j => if j = (Int32.ofInt i).toInt.toNat then ez_v v else f j))) = some (pc + 1, st.map ez_v, cz_setc h r (dz_set (h.2.2 r) i.toNat (ez_v v)))
    rw [o2, x2]
    rfl
  cases op
  case iastore =>
    obtain a | a | a := v
    · exact dz_wp_hp (q := (pc + 1, st.map ez_v, dz_put h r i.toNat (ez_v (.inl a)))) hc rfl rfl rfl rfl rfl (key (fun t => Nat.beq t 1) b1) kk
    · cases b1
    · cases b1
  case lastore =>
    obtain a | a | a := v
    · cases b1
    · exact dz_wp_hp (q := (pc + 1, st.map ez_v, dz_put h r i.toNat (ez_v (.inr (.inl a))))) hc rfl rfl rfl rfl rfl (key (fun t => Nat.beq t 2) b1) kk
    · cases b1
  all_goals cases b1
/-- an object into an array -/
theorem ez_aa {r t p tp : Nat} {ti tj : dz_I} {D : dz_D} {i : Int} {kd : Nat × Nat} (hB : ez_B τ h) (hτ : τ r = t) (hp : τ p = tp) (hc : cz_code M pc = some (.aastore, 1)) (hti : tz_T t = some ti) (htj : tz_T tp = some tj) (hD : dz_nth ti.2.2.2.2 0 = some D) (hkd : cz_pg.2.2[ti.2.1]? = some kd) (hb : ((Nat.beq ti.1 1 && Nat.blt ti.2.1 11) && ((Nat.beq tj.1 0 && Nat.beq kd.2 tj.2.1) && (Nat.beq ti.2.2.1 1 && dz_ile ti.2.2.2.1.2 2147483647))) = true) (h0 : 0 ≤ i) (h1 : i < qz_N h r) (hv : dz_vd τ r D (ez_v (.inr (.inr (some p))))) (kk : ez_B τ (dz_put h r i.toNat (ez_v (.inr (.inr (some p))))) → qz_I (dz_put h r i.toNat (ez_v (.inr (.inr (some p))))) r i.toNat = (p : Int) + 1 → ez_W d M (pc + 1) L st (dz_put h r i.toNat (ez_v (.inr (.inr (some p))))) Q) : ez_W d M pc L (.inr (.inr (some p)) :: .inl i :: .inr (.inr (some r)) :: st) h Q := by
  rw [Bool.and_eq_true] at hb
  obtain ⟨b0, b1⟩ := hb
  simp only [Bool.and_eq_true] at b1
  obtain ⟨⟨b1, b4⟩, b2, b3⟩ := b1
  have b3 := dz_ile_ok b3
  obtain ⟨n, f, o1, o2, o3, o4, o5, o6⟩ := ez_arr hB hτ hti b0 hD
  rw [o3] at h1 o4
  have hi : i.toNat < n := by omega
  obtain ⟨g1, g2⟩ := o6 _ hi
  have hr : 192 ≤ r := by
    rcases o5 with w | w
    · rw [w] at b2; cases b2
    · exact w
  have b0' := b0
  rw [Bool.and_eq_true] at b0'
  have e0 := Nat.eq_of_beq_eq_true b0'.1
  have hds : dz_ds ti i.toNat = some D := by unfold dz_ds; rw [e0]; exact hD
  obtain ⟨x1, x2⟩ := ez_ix h0 h1 (by omega)
  have kk := kk (ez_Bput hB (by rw [hτ]; exact hti) g1 hds hv) (qz_put_I0 g1)
  have hel : cz_elem cz_pg h (some p) ti.2.1 = true := by
    have ej := Nat.eq_of_beq_eq_true b1
    obtain ⟨vs, w1, -⟩ := dz_obj_at hB (show τ p ≠ 0 by rw [hp]; exact ez_t0 htj (by rw [ej]; rfl)) (by rw [hp]; exact htj) b1
    unfold cz_elem
    simp only [hkd, w1, b4]
  refine dz_wp_hp (q := (pc + 1, st.map ez_v, dz_put h r i.toNat (ez_v (.inr (.inr (some p)))))) hc rfl rfl rfl rfl rfl ?_ kk
  show cz_astore pc (st.map ez_v) h (Int32.ofInt i) r (.inr (.inr (some p))) (cz_elem cz_pg h (some p)) = _
  unfold cz_astore
  simp only [o1, x1, hel, Nat.ble_eq.mpr hr, Bool.and_self, cond_true]
  show some (pc + 1, st.map ez_v, cz_setc h r (.inl (ti.2.1, n, fun j => if j = (Int32.ofInt i).toInt.toNat then _ else f j))) = some (pc + 1, st.map ez_v, cz_setc h r (dz_set (h.2.2 r) i.toNat _))
  rw [o2, x2]
  rfl
/-- what a cell more leaves as it is -/
theorem ez_push_I (hB : ez_B τ h) {n : Nat} {c : cz_C} {r : Nat} (hr : τ r ≠ 0) (j : Nat) : qz_I (cz_push h n c) r j = qz_I h r j := by
  have e : r ≠ h.1 := by have := dz_here_lt (hB.1 r hr).1; omega
  apply qz_I_eq
  show dz_get (if r = h.1 then c else h.2.2 r) j = _
  rw [if_neg e]
theorem ez_push_N (hB : ez_B τ h) {n : Nat} {c : cz_C} {r : Nat} (hr : τ r ≠ 0) : qz_N (cz_push h n c) r = qz_N h r := by
  have e : r ≠ h.1 := by have := dz_here_lt (hB.1 r hr).1; omega
  apply qz_N_eq
  show dz_al (if r = h.1 then c else h.2.2 r) = _
  rw [if_neg e]
theorem ez_roomp {n : Nat} {c : cz_C} (h1 : h.1 + 1 ≤ 600192) (h2 : h.2.1 + n ≤ 7302232) : cz_room h 1 n = true ∧ cz_room (cz_push h n c) 0 0 = true := by
  unfold cz_room
  simp only [Bool.and_eq_true, Nat.ble_eq]
  exact ⟨⟨h1, h2⟩, by show h.1 + 1 + 0 ≤ _; omega, by show h.2.1 + n + 0 ≤ _; omega⟩
/-- a new object, all slots as they begin -/
theorem ez_nw {x cl t z1 z2 : Nat} {ti : dz_I} {ks : List Nat} (hB : ez_B τ h) (hc : cz_code M pc = some (.new x, 3)) (hth : cz_throw M pc (.new x) = none) (hq : cz_lk M x = some (8, cl, z1, z2)) (hti : tz_T t = some ti) (hks : cz_pg.2.1[cl]? = some ks) (hb : ((Nat.beq ti.1 0 && Nat.beq ti.2.1 cl) && (Nat.beq ti.2.2.1 1 && dz_ke ks ti.2.2.2.2)) = true) (h1 : h.1 + 1 ≤ 600192) (h2 : h.2.1 + ks.length ≤ 7302232) (kk : ez_B (dz_tn τ h.1 t) (cz_push h ks.length (.inr (.inl (cl, ks.map cz_dflt)))) → (∀ j, qz_I (cz_push h ks.length (.inr (.inl (cl, ks.map cz_dflt)))) h.1 j = 0) → ez_W d M (pc + 3) L (.inr (.inr (some h.1)) :: st) (cz_push h ks.length (.inr (.inl (cl, ks.map cz_dflt)))) Q) : ez_W d M pc L st h Q := by
  simp only [Bool.and_eq_true] at hb
  obtain ⟨⟨b1, b2⟩, b3, b4⟩ := hb
  have e0 := Nat.eq_of_beq_eq_true b1
  have e1 := Nat.eq_of_beq_eq_true b2
  obtain ⟨k1, k2⟩ := dz_ke_ok b4
  obtain ⟨r1, r2⟩ := ez_roomp (c := .inr (.inl (cl, ks.map cz_dflt))) h1 h2
  have hget : ∀ i v, dz_get (.inr (.inl (cl, ks.map cz_dflt))) i = some v → ∃ c, ks[i]? = some c ∧ v = cz_dflt c := by
    intro i v hv
    have hv : (ks.map cz_dflt)[i]? = some v := hv
    rw [List.getElem?_map, Option.map_eq_some_iff] at hv
    obtain ⟨c, w1, w2⟩ := hv
    exact ⟨c, w1, w2.symm⟩
  have hBn := dz_B_new (n := ks.length) (c := .inr (.inl (cl, ks.map cz_dflt))) hB (ez_t0 hti (by rw [e0]; rfl)) hti ⟨e0, e1.symm, by rw [List.length_map]; exact k1⟩ (fun i v hv => by
    obtain ⟨c, w1, rfl⟩ := hget i v hv
    have hlt : i < ti.2.2.2.2.length := by have := (List.getElem?_eq_some_iff.mp w1).1; omega
    have hD : ti.2.2.2.2[i]? = some ti.2.2.2.2[i] := List.getElem?_eq_getElem hlt
    obtain ⟨y1, y2⟩ := k2 i _ hD
    rw [w1] at y1
    have y1 := Option.some.inj y1
    refine ⟨ti.2.2.2.2[i], ?_, ?_⟩
    · unfold dz_ds; rw [e0]; show dz_nth _ i = _; rw [dz_nth_eq]; exact hD
    · rw [y1]; exact dz_vd0 y2) r2
  refine dz_wp_hp (q := (pc + 3, ez_v (.inr (.inr (some h.1))) :: st.map ez_v, cz_push h ks.length (.inr (.inl (cl, ks.map cz_dflt))))) hc rfl rfl rfl rfl hth ?_ (kk hBn.1 (fun j => ?_))
  · show cz_hnew cz_pg M x pc (st.map ez_v) h = _
    unfold cz_hnew
    simp only [hq, hks, r1, cond_true, show Nat.beq 8 8 = true from rfl]
    rfl
  · unfold qz_I
    have : (cz_push h ks.length (.inr (.inl (cl, ks.map cz_dflt)))).2.2 h.1 = .inr (.inl (cl, ks.map cz_dflt)) := by show (if h.1 = h.1 then _ else _) = _; rw [if_pos rfl]
    rw [this]
    split
    · rename_i v hv
      obtain ⟨c, -, rfl⟩ := hget j v hv
      exact dz_dflt_n c
    · rfl
/-- a new array of ints -/
theorem ez_na {t : Nat} {n : Int} {ti : dz_I} {D : dz_D} (hB : ez_B τ h) (hc : cz_code M pc = some (.newarray .int, 2)) (hti : tz_T t = some ti) (hD : dz_nth ti.2.2.2.2 0 = some D) (hb : (((Nat.beq ti.1 1 && Nat.beq ti.2.1 1) && Nat.beq ti.2.2.1 1) && (dz_d0 D && Nat.beq D.1 0)) = true) (h0 : 0 ≤ n) (hlo : ti.2.2.2.1.1 ≤ n) (hhi : n ≤ ti.2.2.2.1.2) (h3 : n ≤ 67108864) (h1 : h.1 + 1 ≤ 600192) (h2 : h.2.1 + n.toNat ≤ 7302232) (kk : ez_B (dz_tn τ h.1 t) (cz_push h n.toNat (.inl (1, n.toNat, fun _ => .inl 0))) → qz_N (cz_push h n.toNat (.inl (1, n.toNat, fun _ => .inl 0))) h.1 = n → (∀ j, qz_I (cz_push h n.toNat (.inl (1, n.toNat, fun _ => .inl 0))) h.1 j = 0) → ez_W d M (pc + 2) L (.inr (.inr (some h.1)) :: st) (cz_push h n.toNat (.inl (1, n.toNat, fun _ => .inl 0))) Q) : ez_W d M pc L (.inl n :: st) h Q := by
  simp only [Bool.and_eq_true] at hb
  obtain ⟨⟨⟨b1, b2⟩, b3⟩, b4, b5⟩ := hb
  have e0 := Nat.eq_of_beq_eq_true b1
  have e1 := Nat.eq_of_beq_eq_true b2
  have e5 := Nat.eq_of_beq_eq_true b5
  obtain ⟨r1, r2⟩ := ez_roomp (n := n.toNat) (c := .inl (1, n.toNat, fun _ => .inl 0)) h1 h2
  have hBn := dz_B_new (n := n.toNat) (c := .inl (1, n.toNat, fun _ => .inl 0)) hB (ez_t0 hti (by rw [e0]; rfl)) hti ⟨e0, e1.symm, by show _ ≤ (n.toNat : Int); omega, by show (n.toNat : Int) ≤ _; omega⟩ (fun i v hv => by
    have hv : (if i < n.toNat then some (Sum.inl 0 : cz_V) else none) = some v := hv
    by_cases hi : i < n.toNat
    · rw [if_pos hi] at hv
      cases hv
      refine ⟨D, ?_, ?_⟩
      · unfold dz_ds; rw [e0]; exact hD
      · have := dz_vd0 (τ := τ) (r := h.1) b4
        rw [e5] at this
        exact this
    · rw [if_neg hi] at hv; cases hv) r2
  have hcell : (cz_push h n.toNat (.inl (1, n.toNat, fun _ => .inl 0))).2.2 h.1 = .inl (1, n.toNat, fun _ => .inl 0) := by show (if h.1 = h.1 then _ else _) = _; rw [if_pos rfl]
  have en : (Int32.ofInt n).toInt = n := dz_toInt_i (by omega) (by omega)
  refine dz_wp_hp (q := (pc + 2, ez_v (.inr (.inr (some h.1))) :: st.map ez_v, cz_push h n.toNat (.inl (1, n.toNat, fun _ => .inl 0)))) hc rfl rfl rfl rfl rfl ?_ (kk hBn.1 ?_ (fun j => ?_))
  · show cz_hna cz_pg .int pc (.inl (Int32.ofInt n) :: st.map ez_v) h = _
    unfold cz_hna
    have h4 : Nat.ble (n.toNat * 8) 536870912 = true := Nat.ble_eq.mpr (by omega)
    simp only [cz_atn, en, decide_eq_true h0, r1, h4, Bool.and_self, cond_true]
    rfl
  · unfold qz_N
    rw [hcell]
    show (n.toNat : Int) = n
    omega
  · unfold qz_I
    rw [hcell]
    show (match (if j < n.toNat then some (Sum.inl 0 : cz_V) else none) with | some v => dz_n v | none => 0) = 0
    by_cases hj : j < n.toNat
    · rw [if_pos hj]; rfl
    · rw [if_neg hj]
end EzW
