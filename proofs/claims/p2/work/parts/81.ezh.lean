/-! L3, part 2: by hand: reading and writing cells whose tags are known. -/
def ez_B (τ : Nat → Nat) (h : cz_H) : Prop := dz_B tz_T (fun _ g => cz_room g 0 0 = true) τ h
section EzHeap
variable {d : Nat} {M : cz_M} {pc : Nat} {L : List (Nat × ez_V)} {st : List ez_V} {h : cz_H} {Q : cz_F → Prop} {τ : Nat → Nat}
theorem ez_t0 {t : Nat} {ti : dz_I} (hti : tz_T t = some ti) (hk : Nat.beq ti.1 9 = false) : t ≠ 0 := fun e => by
  subst e
  have h0 : tz_T 0 = some (9, 0, 0, (0, 0), []) := rfl
  rw [h0] at hti
  cases hti
  cases hk
theorem ez_fld (hB : ez_B τ h) {r t cl k : Nat} {ti : dz_I} {D : dz_D} (hτ : τ r = t) (hti : tz_T t = some ti) (hk : (Nat.beq ti.1 0 && Nat.beq ti.2.1 cl) = true) (hD : dz_nth ti.2.2.2.2 k = some D) : ∃ vs v, cz_obj h r = some (cl, vs) ∧ vs[k]? = some v ∧ dz_get (h.2.2 r) k = some v ∧ dz_vd τ r D v ∧ (ti.2.2.1 = 0 ∨ 192 ≤ r) := by
  subst hτ
  simp only [Bool.and_eq_true] at hk
  have e0 := Nat.eq_of_beq_eq_true hk.1
  have e1 := Nat.eq_of_beq_eq_true hk.2
  have h0 : τ r ≠ 0 := ez_t0 hti (by rw [e0]; rfl)
  obtain ⟨vs, o1, o2, o3, o4, o5⟩ := dz_obj_at hB h0 hti hk.1
  have hlt : k < ti.2.2.2.2.length := by
    rw [dz_nth_eq] at hD
    exact (List.getElem?_eq_some_iff.mp hD).1
  have hv : vs[k]? = some vs[k] := List.getElem?_eq_getElem (by omega)
  have hg : dz_get (h.2.2 r) k = some vs[k] := by rw [o2]; exact hv
  obtain ⟨D', d1, d2⟩ := o5 k _ hg
  have d1 : dz_ds ti k = some D' := d1
  unfold dz_ds at d1
  rw [e0] at d1
  have d1 : dz_nth ti.2.2.2.2 k = some D' := d1
  rw [hD] at d1
  cases d1
  rw [e1] at o1
  exact ⟨vs, _, o1, hv, hg, d2, o4⟩
theorem ez_getf {x q0 cl k w r : Nat} {vs : List cz_V} {v : cz_V} {u : ez_V} (hc : cz_code M pc = some (.getfield x, 3)) (hq : cz_lk M x = some (q0, cl, k, w)) (hq0 : Nat.ble q0 1 = true) (ho : cz_obj h r = some (cl, vs)) (hv : vs[k]? = some v) (hu : v = ez_v u) (kk : ez_W d M (pc + 3) L (u :: st) h Q) : ez_W d M pc L (.inr (.inr (some r)) :: st) h Q := by
  subst hu
  refine dz_wp_hp (q := (pc + 3, ez_v u :: st.map ez_v, h)) hc rfl rfl rfl rfl rfl ?_ kk
  show cz_hget M x pc (.inr (.inr (some r)) :: st.map ez_v) h = _
  unfold cz_hget
  simp only [hq, hq0, ho, hv, cond_true, Nat.beq_refl]
def ez_int (c : Nat) : Bool := Nat.beq c 0 || (Nat.beq c 1 || Nat.beq c 4)
theorem ez_fit {c : Nat} {v : cz_V} (hc : ez_int c = true) (hf : cz_fitc c v = true) : ∃ x : Int32, v = .inl x := by
  obtain a | a | a := v
  · exact ⟨a, rfl⟩
  all_goals
    simp only [ez_int, Bool.or_eq_true] at hc
    rcases hc with hc | hc | hc <;> (have e := Nat.eq_of_beq_eq_true hc; subst e; cases hf)
/-- an int in a slot -/
theorem ez_slI {r i : Nat} {v : cz_V} {D : dz_D} (hg : dz_get (h.2.2 r) i = some v) (hd : dz_vd τ r D v) (hc : ez_int D.1 = true) : v = ez_v (.inl (qz_I h r i)) ∧ D.2.1 ≤ qz_I h r i ∧ qz_I h r i ≤ D.2.2.1 := by
  obtain ⟨x, rfl⟩ := ez_fit hc hd.1
  have e : qz_I h r i = x.toInt := qz_I_of hg
  rw [e]
  refine ⟨by show _ = Sum.inl (Int32.ofInt x.toInt); rw [ez_of], ?_⟩
  rcases hd.2.1 with w | w
  · rw [w] at hc; cases hc
  · exact w
theorem ez_fitR {v : cz_V} (hf : cz_fitc 3 v = true) : ∃ o : Option Nat, v = .inr (.inr o) := by
  obtain a | a | a := v
  · cases hf
  · cases hf
  · exact ⟨a, rfl⟩
/-- a reference in a slot that isn't null -/
theorem ez_slR {r i : Nat} {v : cz_V} {D : dz_D} (hg : dz_get (h.2.2 r) i = some v) (hd : dz_vd τ r D v) (hc : D.1 = 3) (hm : D.2.2.2.2 ≠ 2) (h1 : 1 ≤ qz_I h r i) : v = ez_v (.inr (.inr (some (qz_P h r i)))) ∧ τ (qz_P h r i) = D.2.2.2.1 ∧ D.2.2.2.1 ≠ 0 := by
  obtain ⟨c, lo, hi, tg, md⟩ := D
  have hc : c = 3 := hc
  subst hc
  obtain ⟨o, rfl⟩ := ez_fitR hd.1
  have e := qz_I_of hg
  cases o with
  | none => exfalso; have e : qz_I h r i = 0 := e; omega
  | some p =>
    have e : qz_I h r i = (p : Int) + 1 := e
    have ep : qz_P h r i = p := by unfold qz_P; rw [e]; omega
    rw [ep]
    rcases hd.2.2.1 with w | w
    · exact absurd w hm
    · exact ⟨rfl, w p rfl⟩
theorem ez_slN {r i : Nat} {v : cz_V} {D : dz_D} (hg : dz_get (h.2.2 r) i = some v) (hd : dz_vd τ r D v) (hc : D.1 = 3) (h1 : qz_I h r i = 0) : v = ez_v (.inr (.inr none)) := by
  obtain ⟨c, lo, hi, tg, md⟩ := D
  have hc : c = 3 := hc
  subst hc
  obtain ⟨o, rfl⟩ := ez_fitR hd.1
  have e := qz_I_of hg
  cases o with
  | none => rfl
  | some p => exfalso; have e : qz_I h r i = (p : Int) + 1 := e; omega
theorem ez_slB {r i : Nat} {v : cz_V} {D : dz_D} (hg : dz_get (h.2.2 r) i = some v) (hd : dz_vd τ r D v) (hc : D.1 ≠ 2) : D.2.1 ≤ qz_I h r i ∧ qz_I h r i ≤ D.2.2.1 := by
  rw [qz_I_of hg]
  rcases hd.2.1 with w | w
  · exact absurd w hc
  · exact w
section EzGet
variable {x q0 cl k w r t : Nat} {ti : dz_I} {c : Nat} {lo hi : Int} {tg md : Nat}
theorem ez_gI (hB : ez_B τ h) (hτ : τ r = t) (hc : cz_code M pc = some (.getfield x, 3)) (hq : cz_lk M x = some (q0, cl, k, w)) (hti : tz_T t = some ti) (hD : dz_nth ti.2.2.2.2 k = some (c, lo, hi, tg, md)) (hb : (Nat.ble q0 1 && ((Nat.beq ti.1 0 && Nat.beq ti.2.1 cl) && ez_int c)) = true) (kk : lo ≤ qz_I h r k → qz_I h r k ≤ hi → ez_W d M (pc + 3) L (.inl (qz_I h r k) :: st) h Q) : ez_W d M pc L (.inr (.inr (some r)) :: st) h Q := by
  rw [Bool.and_eq_true, Bool.and_eq_true] at hb
  obtain ⟨vs, v, o1, o2, o3, o4, -⟩ := ez_fld hB hτ hti hb.2.1 hD
  obtain ⟨e1, e2, e3⟩ := ez_slI o3 o4 hb.2.2
  exact ez_getf hc hq hb.1 o1 o2 e1 (kk e2 e3)
/-- a reference to a fixed place -/
theorem ez_gC {p : Nat} (hB : ez_B τ h) (hτ : τ r = t) (hc : cz_code M pc = some (.getfield x, 3)) (hq : cz_lk M x = some (q0, cl, k, w)) (hti : tz_T t = some ti) (hD : dz_nth ti.2.2.2.2 k = some (3, Int.ofNat (p + 1), Int.ofNat (p + 1), tg, 0)) (hb : (Nat.ble q0 1 && (Nat.beq ti.1 0 && Nat.beq ti.2.1 cl)) = true) (kk : τ p = tg → ez_W d M (pc + 3) L (.inr (.inr (some p)) :: st) h Q) : ez_W d M pc L (.inr (.inr (some r)) :: st) h Q := by
  rw [Bool.and_eq_true] at hb
  obtain ⟨vs, v, o1, o2, o3, o4, -⟩ := ez_fld hB hτ hti hb.2 hD
  have hbd := ez_slB o3 o4 (by show (3 : Nat) ≠ 2; decide)
  have hbd : ((p + 1 : Nat) : Int) ≤ qz_I h r k ∧ qz_I h r k ≤ ((p + 1 : Nat) : Int) := hbd
  obtain ⟨e1, e2, e3⟩ := ez_slR o3 o4 rfl (by show (0 : Nat) ≠ 2; decide) (by omega)
  have ep : qz_P h r k = p := by unfold qz_P; omega
  rw [ep] at e1 e2
  exact ez_getf hc hq hb.1 o1 o2 e1 (kk e2)
/-- a reference that is never null -/
theorem ez_gR (hB : ez_B τ h) (hτ : τ r = t) (hc : cz_code M pc = some (.getfield x, 3)) (hq : cz_lk M x = some (q0, cl, k, w)) (hti : tz_T t = some ti) (hD : dz_nth ti.2.2.2.2 k = some (3, lo, hi, tg, md)) (hb : (Nat.ble q0 1 && ((Nat.beq ti.1 0 && Nat.beq ti.2.1 cl) && (dz_ile 1 lo && !(Nat.beq md 2)))) = true) (kk : τ (qz_P h r k) = tg → 1 ≤ qz_I h r k → ez_W d M (pc + 3) L (.inr (.inr (some (qz_P h r k))) :: st) h Q) : ez_W d M pc L (.inr (.inr (some r)) :: st) h Q := by
  simp only [Bool.and_eq_true, Bool.not_eq_true'] at hb
  obtain ⟨b1, b2, b3, b4⟩ := hb
  obtain ⟨vs, v, o1, o2, o3, o4, -⟩ := ez_fld hB hτ hti (by rw [Bool.and_eq_true]; exact b2) hD
  have hbd := ez_slB o3 o4 (by show (3 : Nat) ≠ 2; decide)
  have b3 := dz_ile_ok b3
  have h1 : 1 ≤ qz_I h r k := by have h2 : lo ≤ qz_I h r k := hbd.1; omega
  obtain ⟨e1, e2, e3⟩ := ez_slR o3 o4 rfl (fun e => by have e : md = 2 := e; rw [e] at b4; cases b4) h1
  exact ez_getf hc hq b1 o1 o2 e1 (kk e2 h1)
/-- a reference that may be null -/
theorem ez_gN (hB : ez_B τ h) (hτ : τ r = t) (hc : cz_code M pc = some (.getfield x, 3)) (hq : cz_lk M x = some (q0, cl, k, w)) (hti : tz_T t = some ti) (hD : dz_nth ti.2.2.2.2 k = some (3, lo, hi, tg, md)) (hb : (Nat.ble q0 1 && ((Nat.beq ti.1 0 && Nat.beq ti.2.1 cl) && (dz_ile 0 lo && !(Nat.beq md 2)))) = true) (k0 : qz_I h r k = 0 → ez_W d M (pc + 3) L (.inr (.inr none) :: st) h Q) (k1 : τ (qz_P h r k) = tg → 1 ≤ qz_I h r k → ez_W d M (pc + 3) L (.inr (.inr (some (qz_P h r k))) :: st) h Q) : ez_W d M pc L (.inr (.inr (some r)) :: st) h Q := by
  simp only [Bool.and_eq_true, Bool.not_eq_true'] at hb
  obtain ⟨b1, b2, b3, b4⟩ := hb
  obtain ⟨vs, v, o1, o2, o3, o4, -⟩ := ez_fld hB hτ hti (by rw [Bool.and_eq_true]; exact b2) hD
  have hbd := ez_slB o3 o4 (by show (3 : Nat) ≠ 2; decide)
  have b3 := dz_ile_ok b3
  have h0 : lo ≤ qz_I h r k := hbd.1
  by_cases h1 : qz_I h r k = 0
  · exact ez_getf hc hq b1 o1 o2 (ez_slN o3 o4 rfl h1) (k0 h1)
  · have h1 : 1 ≤ qz_I h r k := by omega
    obtain ⟨e1, e2, e3⟩ := ez_slR o3 o4 rfl (fun e => by have e : md = 2 := e; rw [e] at b4; cases b4) h1
    exact ez_getf hc hq b1 o1 o2 e1 (k1 e2 h1)
end EzGet
/-- an array by its tag -/
theorem ez_arr (hB : ez_B τ h) {r t : Nat} {ti : dz_I} {D : dz_D} (hτ : τ r = t) (hti : tz_T t = some ti) (hk : (Nat.beq ti.1 1 && Nat.blt ti.2.1 11) = true) (hD : dz_nth ti.2.2.2.2 0 = some D) : ∃ n f, cz_arr h r = some (ti.2.1, n, f) ∧ h.2.2 r = .inl (ti.2.1, n, f) ∧ qz_N h r = (n : Int) ∧ (ti.2.2.2.1.1 ≤ qz_N h r ∧ qz_N h r ≤ ti.2.2.2.1.2) ∧ (ti.2.2.1 = 0 ∨ 192 ≤ r) ∧ ∀ i, i < n → dz_get (h.2.2 r) i = some (f i) ∧ dz_vd τ r D (f i) := by
  subst hτ
  simp only [Bool.and_eq_true] at hk
  have e0 := Nat.eq_of_beq_eq_true hk.1
  have h0 : τ r ≠ 0 := ez_t0 hti (by rw [e0]; rfl)
  obtain ⟨n, f, o1, o2, o3, o4, o5⟩ := dz_arr_at hB h0 hti hk.1 hk.2
  have hN : qz_N h r = (n : Int) := by unfold qz_N; rw [o2]
  refine ⟨n, f, o1, o2, hN, by rw [hN]; exact o3, o4, fun i hi => ⟨?_, ?_⟩⟩
  · rw [o2]; show (if i < n then some (f i) else none) = _; rw [if_pos hi]
  · obtain ⟨D', d1, d2⟩ := o5 i hi
    rw [hD] at d1
    cases d1
    exact d2
theorem ez_len (hB : ez_B τ h) {r t : Nat} {ti : dz_I} (hτ : τ r = t) (hti : tz_T t = some ti) (hk : (Nat.beq ti.1 1 && Nat.blt ti.2.1 11) = true) : ti.2.2.2.1.1 ≤ qz_N h r ∧ qz_N h r ≤ ti.2.2.2.1.2 := by
  subst hτ
  simp only [Bool.and_eq_true] at hk
  have e0 := Nat.eq_of_beq_eq_true hk.1
  have h0 : τ r ≠ 0 := ez_t0 hti (by rw [e0]; rfl)
  obtain ⟨n, f, o1, o2, o3, -⟩ := dz_arr_at hB h0 hti hk.1 hk.2
  have hN : qz_N h r = (n : Int) := by unfold qz_N; rw [o2]
  rw [hN]; exact o3
theorem ez_ix {i : Int} {n : Nat} (h0 : 0 ≤ i) (h1 : i < (n : Int)) (h2 : (n : Int) ≤ 2147483647) : cz_ix (Int32.ofInt i) n = true ∧ (Int32.ofInt i).toInt.toNat = i.toNat := by
  have e : (Int32.ofInt i).toInt = i := dz_toInt_i (by omega) (by omega)
  unfold cz_ix
  rw [e]
  refine ⟨?_, rfl⟩
  rw [Bool.and_eq_true, decide_eq_true_iff]
  exact ⟨h0, Nat.blt_eq.mpr (by omega)⟩
section EzAl
variable {r t : Nat} {ti : dz_I} {c : Nat} {lo hi : Int} {tg md : Nat} {i : Int} {op : Instr}
/-- the instruction reads arrays of that type -/
noncomputable def ez_alo (op : Instr) (t : Nat) : Bool := match op with
  | .iaload => Nat.beq t 1
  | .baload => Nat.beq t 0 || Nat.beq t 3
  | .aaload => Nat.ble 4 t
  | .laload => Nat.beq t 2
  | _ => false
theorem ez_alw {u : ez_V} {n ty : Nat} {f : Nat → cz_V} (hc : cz_code M pc = some (op, 1)) (ho : ez_alo op ty = true) (ha : cz_arr h r = some (ty, n, f)) (hx : cz_ix (Int32.ofInt i) n = true ∧ (Int32.ofInt i).toInt.toNat = i.toNat) (hu : f i.toNat = ez_v u) (kk : ez_W d M (pc + 1) L (u :: st) h Q) : ez_W d M pc L (.inl i :: .inr (.inr (some r)) :: st) h Q := by
  have key : ∀ ok : Nat → Bool, ok ty = true → cz_hal ok pc (.inl (Int32.ofInt i) :: .inr (.inr (some r)) :: st.map ez_v) h = some (pc + 1, ez_v u :: st.map ez_v, h) := by
    intro ok hok
    show cz_aload pc (st.map ez_v) h (Int32.ofInt i) r ok = _
    unfold cz_aload
    simp only [ha, hx.1, hok, Bool.and_self, cond_true, hx.2, hu]
  cases op
  case iaload => exact dz_wp_hp (q := (pc + 1, ez_v u :: st.map ez_v, h)) hc rfl rfl rfl rfl rfl (key _ ho) kk
  case baload => exact dz_wp_hp (q := (pc + 1, ez_v u :: st.map ez_v, h)) hc rfl rfl rfl rfl rfl (key _ ho) kk
  case laload => exact dz_wp_hp (q := (pc + 1, ez_v u :: st.map ez_v, h)) hc rfl rfl rfl rfl rfl (key _ ho) kk
  case aaload => exact dz_wp_hp (q := (pc + 1, ez_v u :: st.map ez_v, h)) hc rfl rfl rfl rfl rfl (key _ ho) kk
  all_goals cases ho
theorem ez_aI (hB : ez_B τ h) (hτ : τ r = t) (hc : cz_code M pc = some (op, 1)) (hti : tz_T t = some ti) (hD : dz_nth ti.2.2.2.2 0 = some (c, lo, hi, tg, md)) (hb : ((Nat.beq ti.1 1 && Nat.blt ti.2.1 11) && (ez_alo op ti.2.1 && (ez_int c && dz_ile ti.2.2.2.1.2 2147483647))) = true) (h0 : 0 ≤ i) (h1 : i < qz_N h r) (kk : lo ≤ qz_I h r i.toNat → qz_I h r i.toNat ≤ hi → ez_W d M (pc + 1) L (.inl (qz_I h r i.toNat) :: st) h Q) : ez_W d M pc L (.inl i :: .inr (.inr (some r)) :: st) h Q := by
  rw [Bool.and_eq_true] at hb
  obtain ⟨b0, b1⟩ := hb
  simp only [Bool.and_eq_true] at b1
  obtain ⟨b1, b2, b3⟩ := b1
  have b3 := dz_ile_ok b3
  obtain ⟨n, f, o1, o2, o3, o4, -, o6⟩ := ez_arr hB hτ hti b0 hD
  rw [o3] at h1 o4
  have hi : i.toNat < n := by omega
  obtain ⟨g1, g2⟩ := o6 _ hi
  obtain ⟨e1, e2, e3⟩ := ez_slI g1 g2 b2
  exact ez_alw hc b1 o1 (ez_ix h0 h1 (by omega)) e1 (kk e2 e3)
theorem ez_aR (hB : ez_B τ h) (hτ : τ r = t) (hc : cz_code M pc = some (.aaload, 1)) (hti : tz_T t = some ti) (hD : dz_nth ti.2.2.2.2 0 = some (3, lo, hi, tg, md)) (hb : ((Nat.beq ti.1 1 && Nat.blt ti.2.1 11) && (Nat.ble 4 ti.2.1 && (!(Nat.beq md 2) && dz_ile ti.2.2.2.1.2 2147483647))) = true) (h0 : 0 ≤ i) (h1 : i < qz_N h r) (h2 : 1 ≤ qz_I h r i.toNat) (kk : τ (qz_P h r i.toNat) = tg → ez_W d M (pc + 1) L (.inr (.inr (some (qz_P h r i.toNat))) :: st) h Q) : ez_W d M pc L (.inl i :: .inr (.inr (some r)) :: st) h Q := by
  rw [Bool.and_eq_true] at hb
  obtain ⟨b0, b1⟩ := hb
  simp only [Bool.and_eq_true, Bool.not_eq_true'] at b1
  obtain ⟨b1, b2, b3⟩ := b1
  have b3 := dz_ile_ok b3
  obtain ⟨n, f, o1, o2, o3, o4, -, o6⟩ := ez_arr hB hτ hti b0 hD
  rw [o3] at h1 o4
  have hi : i.toNat < n := by omega
  obtain ⟨g1, g2⟩ := o6 _ hi
  obtain ⟨e1, e2, e3⟩ := ez_slR g1 g2 rfl (fun e => by have e : md = 2 := e; rw [e] at b2; cases b2) h2
  exact ez_alw hc b1 o1 (ez_ix h0 h1 (by omega)) e1 (kk e2)
theorem ez_al (hB : ez_B τ h) (hτ : τ r = t) (hc : cz_code M pc = some (.arraylength, 1)) (hti : tz_T t = some ti) (hb : (Nat.beq ti.1 1 && Nat.blt ti.2.1 11) = true) (kk : ti.2.2.2.1.1 ≤ qz_N h r → qz_N h r ≤ ti.2.2.2.1.2 → ez_W d M (pc + 1) L (.inl (qz_N h r) :: st) h Q) : ez_W d M pc L (.inr (.inr (some r)) :: st) h Q := by
  subst hτ
  have hb' := hb
  simp only [Bool.and_eq_true] at hb
  have e0 := Nat.eq_of_beq_eq_true hb.1
  have h0 : τ r ≠ 0 := ez_t0 hti (by rw [e0]; rfl)
  obtain ⟨n, f, o1, o2, o3, -⟩ := dz_arr_at hB h0 hti hb.1 hb.2
  have hN : qz_N h r = (n : Int) := by unfold qz_N; rw [o2]
  rw [hN] at kk
  refine dz_wp_hp (q := (pc + 1, ez_v (.inl (n : Int)) :: st.map ez_v, h)) hc rfl rfl rfl rfl rfl ?_ (kk o3.1 o3.2)
  show cz_hlen pc (.inr (.inr (some r)) :: st.map ez_v) h = _
  unfold cz_hlen
  simp only [o1]
  rfl
end EzAl
end EzHeap
