/-! L2, part 10: writing slots. What the invariant beside the tags needs is asked by sd. -/
abbrev dz_Sd : Type := dz_S → Nat → dz_E → dz_E → dz_A → dz_Hn → Bool
def dz_XW (T : dz_TT) (X : dz_X) (sd : dz_Sd) : Prop := ∀ (S : dz_S) (ρ : Nat → Int) (τ : Nat → Nat) (h : cz_H) (L : List (Nat × cz_V)) (st : List cz_V) (r i t : Nat) (v old : cz_V) (a : dz_A) (p ix : dz_E) (hn : dz_Hn), dz_G T X S ρ τ h L st → dz_ok S.1 ρ p ((r : Int) + 1) → τ r = t → t ≠ 0 → dz_ok S.1 ρ ix (i : Int) → dz_get (h.2.2 r) i = some old → dz_vo S.1 ρ τ a v → sd S t p ix a hn = true → X τ (dz_put h r i v)
noncomputable def dz_is0 (e : dz_E) : Bool := match e with
  | (c, []) => dz_z c
  | _ => false
theorem dz_is0_ok {n : Nat} {ρ : Nat → Int} {e : dz_E} {x : Int} (he : dz_ok n ρ e x) (h : dz_is0 e = true) : x = 0 := by
  obtain ⟨c, l⟩ := e
  cases l with
  | nil => have := dz_cst_eq he; have := dz_z_ok h; omega
  | cons a b => cases h
/-- any int at all -/
noncomputable def dz_fu (D : dz_D) : Bool := Nat.beq D.1 0 && (dz_ile D.2.1 (-2147483648) && dz_ile 2147483647 D.2.2.1)
/-- may the value lie in the slot -/
noncomputable def dz_wr (Γ : List dz_E) (D : dz_D) (p : dz_E) (a : dz_A) (hn : dz_Hn) : Bool :=
  (Nat.blt D.1 5 && Nat.beq a.1 (dz_kc D.1)) && (((Nat.beq D.1 2 || dz_fu D) || (dz_pf Γ (dz_ct hn 3) (dz_plus a.2.1 (-D.2.1)) && dz_pf Γ (dz_ct hn 4) (dz_sub (dz_cst D.2.2.1) a.2.1))) && ((!(Nat.beq D.1 1) || (dz_ile 0 D.2.1 && dz_ile D.2.2.1 1)) && ((!(Nat.beq D.1 4) || (dz_ile (-128) D.2.1 && dz_ile D.2.2.1 127)) && ((Nat.beq D.2.2.2.2 2 || (Nat.beq a.2.2 D.2.2.2.1 || dz_is0 a.2.1)) && ((!(Nat.beq D.2.2.2.2 1) || (dz_is0 a.2.1 || dz_pf Γ (dz_ct hn 5) (dz_plus (dz_sub a.2.1 p) (-1)))) && ((!(Nat.beq D.2.2.2.2 3) || dz_same a.2.1 (dz_plus p 1)) && (!(Nat.beq D.2.2.2.2 4) || dz_same a.2.1 (dz_plus p 2))))))))
theorem dz_wr_ok {n : Nat} {ρ : Nat → Int} {τ : Nat → Nat} {Γ : List dz_E} (hΓ : dz_Gm n ρ Γ) {D : dz_D} {p : dz_E} {a : dz_A} {hn : dz_Hn} {v : cz_V} {r : Nat} (hp : dz_ok n ρ p ((r : Int) + 1)) (ha : dz_vo n ρ τ a v) (h : dz_wr Γ D p a hn = true) : dz_vd τ r D v := by
  simp only [dz_wr, Bool.and_eq_true, Bool.or_eq_true] at h
  obtain ⟨⟨c1, c2⟩, c3, c4, c5, c6, c7, c8, c9⟩ := h
  have c1 : D.1 < 5 := Nat.blt_eq.mp c1
  have c2 := Nat.eq_of_beq_eq_true c2
  obtain ⟨a1, a2, a3⟩ := ha
  have hb : D.1 = 2 ∨ (D.2.1 ≤ dz_n v ∧ dz_n v ≤ D.2.2.1) := by
    rcases c3 with (c3 | c3) | c3
    · exact Or.inl (Nat.eq_of_beq_eq_true c3)
    · simp only [dz_fu, Bool.and_eq_true] at c3
      have f0 := Nat.eq_of_beq_eq_true c3.1
      have f1 := dz_ile_ok c3.2.1
      have f2 := dz_ile_ok c3.2.2
      rw [c2, f0] at a1
      obtain x | x | x := v
      · have hr := dz_rg_v x
        exact Or.inr ⟨by show _ ≤ x.toInt; omega, by show x.toInt ≤ _; omega⟩
      · cases a1
      · cases a1
    · have b1 := dz_pf_ok hΓ (dz_ok_plus (-D.2.1) a2) c3.1
      have b2 := dz_pf_ok hΓ (dz_ok_sub (dz_ok_cst D.2.2.1) a2) c3.2
      exact Or.inr ⟨by omega, by omega⟩
  refine ⟨?_, hb, ?_, ?_⟩
  · rw [c2] at a1
    obtain ⟨c, lo, hi, t, y⟩ := D
    have c1 : c < 5 := c1
    have a1 : dz_k v = dz_kc c := a1
    have hb : c = 2 ∨ (lo ≤ dz_n v ∧ dz_n v ≤ hi) := hb
    match c, c1, a1, hb, c4, c5 with
    | 0, _, a1, _, _, _ => obtain x | x | x := v <;> first | rfl | cases a1
    | 2, _, a1, _, _, _ => obtain x | x | x := v <;> first | rfl | cases a1
    | 3, _, a1, _, _, _ => obtain x | x | x := v <;> first | rfl | cases a1
    | 1, _, a1, hb, c4, _ =>
      rcases c4 with c4 | c4
      · cases c4
      · have d1 := dz_ile_ok c4.1
        have d2 := dz_ile_ok c4.2
        have hb : lo ≤ dz_n v ∧ dz_n v ≤ hi := by rcases hb with q | q; cases q; exact q
        have d1 : 0 ≤ lo := d1
        have d2 : hi ≤ 1 := d2
        obtain x | x | x := v
        · have e : dz_n (.inl x) = x.toInt := rfl
          rw [e] at hb
          show (decide (x = 0) || decide (x = 1)) = true
          by_cases e0 : x.toInt = 0
          · rw [decide_eq_true (Int32.toInt_inj.mp (by rw [e0]; rfl) : x = 0)]; rfl
          · rw [decide_eq_true (Int32.toInt_inj.mp (by rw [show x.toInt = 1 by omega]; rfl) : x = 1), Bool.or_true]
        · cases a1
        · cases a1
    | 4, _, a1, hb, _, c5 =>
      rcases c5 with c5 | c5
      · cases c5
      · have d1 := dz_ile_ok c5.1
        have d2 := dz_ile_ok c5.2
        have hb : lo ≤ dz_n v ∧ dz_n v ≤ hi := by rcases hb with q | q; cases q; exact q
        have d1 : -128 ≤ lo := d1
        have d2 : hi ≤ 127 := d2
        obtain x | x | x := v
        · have e : dz_n (.inl x) = x.toInt := rfl
          rw [e] at hb
          exact decide_eq_true (dz_i2b_s (by omega) (by omega))
        · cases a1
        · cases a1
  · rcases c6 with c6 | c6 | c6
    · exact Or.inl (Nat.eq_of_beq_eq_true c6)
    · have c6 := Nat.eq_of_beq_eq_true c6
      right
      rw [← c6]; exact a3
    · have := dz_is0_ok a2 c6
      right
      intro q hq
      rw [hq] at this
      have : (q : Int) + 1 = 0 := this
      omega
  · refine ⟨?_, ?_, ?_⟩
    · rcases c7 with c7 | c7 | c7
      · left
        intro e
        rw [e] at c7
        cases c7
      · exact Or.inr (Or.inl (dz_is0_ok a2 c7))
      · have b1 := dz_pf_ok hΓ (dz_ok_plus (-1) (dz_ok_sub a2 hp)) c7
        exact Or.inr (Or.inr (by omega))
    · rcases c8 with c8 | c8
      · left
        intro e
        rw [e] at c8
        cases c8
      · right
        have := dz_same_ok a2 (dz_ok_plus 1 hp) c8
        omega
    · rcases c9 with c9 | c9
      · left
        intro e
        rw [e] at c9
        cases c9
      · right
        have := dz_same_ok a2 (dz_ok_plus 2 hp) c9
        omega
/-- putfield -/
noncomputable def dz_pfd (T : dz_TT) (P : cz_P) (sd : dz_Sd) (M : cz_M) (x : Nat) (hn : dz_Hn) (S : dz_S) : Option dz_S := match S.2.2.2.1 with
  | b :: a :: r => bif Nat.beq a.1 3 && dz_pf S.2.1 (dz_ct hn 0) (dz_plus a.2.1 (-1)) then (match cz_lk M x with
    | some q => (match T a.2.2, P.2.1[q.2.1]? with
      | some ti, some ks => bif (Nat.ble q.1 1 && Nat.beq q.2.2.2 1) && ((Nat.beq ti.1 0 && Nat.beq ti.2.1 q.2.1) && Nat.beq ti.2.2.1 1) then (match dz_ds ti q.2.2.1, ks[q.2.2.1]? with
        | some D, some k => bif (Nat.beq k D.1 && dz_wr S.2.1 D a.2.1 b hn) && sd S a.2.2 a.2.1 (dz_cst (.ofNat q.2.2.1)) b hn then some (S.1, S.2.1, S.2.2.1, r, dz_ms S a.2.1 a.2.2 (dz_cst (.ofNat q.2.2.1)) b, S.2.2.2.2.2) else none
        | _, _ => none) else none
      | _, _ => none)
    | none => none) else none
  | _ => none
section DzWr
variable {T : dz_TT} {X : dz_X} {S S' : dz_S} {ρ : Nat → Int} {τ : Nat → Nat} {h : cz_H} {L : List (Nat × cz_V)} {st w : List cz_V}
theorem dz_ko_obj {n : Nat} {k : dz_K} (hk : dz_ko n ρ τ h k) {r i : Nat} {v : cz_V} {q : (Nat × List cz_V) ⊕ Nat} (hc : h.2.2 r = .inr q) : dz_ko n ρ τ (dz_put h r i v) k := by
  obtain ⟨r', qq, s, u, lo, hi, h1, h2, h3, h4⟩ := hk
  have e : r' ≠ r := fun e => by rw [e, hc] at h3; cases h3
  exact ⟨r', qq, s, u, lo, hi, h1, h2, by rw [dz_put_at, if_neg e]; exact h3, h4⟩
theorem dz_pfd_ok {P : cz_P} {sd : dz_Sd} (hX : dz_XW T X sd) {M : cz_M} {d pc x : Nat} {hn : dz_Hn} (hG : dz_G T X S ρ τ h L st) (hp : dz_pfd T P sd M x hn S = some S') : ∃ st' r i v, cz_hp P M d pc st h (.putfield x) = some (pc + 3, st', dz_put h r i v) ∧ dz_G T X S' ρ τ (dz_put h r i v) L st' ∧ S'.1 = S.1 ∧ τ r ≠ 0 ∧ (∃ a b rest q, S.2.2.2.1 = b :: a :: rest ∧ τ r = a.2.2 ∧ cz_lk M x = some q ∧ i = q.2.2.1) ∧ (∃ old, dz_get (h.2.2 r) i = some old) := by
  have hs := hG.2.2.1
  unfold dz_pfd at hp
  split at hp
  · rename_i b a r he
    rw [he] at hs
    obtain ⟨v2, w1, rfl, hb, h20⟩ := hs.inv
    obtain ⟨v1, w, rfl, ha, h2⟩ := h20.inv
    cases hc : (Nat.beq a.1 3 && dz_pf S.2.1 (dz_ct hn 0) (dz_plus a.2.1 (-1))) with
    | false => rw [hc] at hp; cases hp
    | true =>
      rw [hc] at hp
      simp only [Bool.and_eq_true] at hc
      simp only [cond_true] at hp
      obtain ⟨rr, rfl, k1, k2, k3⟩ := ha.at hc.1 (fun x hx => by have := dz_pf_ok hG.1 (dz_ok_plus (-1) hx) hc.2; omega)
      split at hp
      · rename_i q hq
        split at hp
        · rename_i ti ks hti hks
          cases hbb : ((Nat.ble q.1 1 && Nat.beq q.2.2.2 1) && ((Nat.beq ti.1 0 && Nat.beq ti.2.1 q.2.1) && Nat.beq ti.2.2.1 1)) with
          | false => rw [hbb] at hp; cases hp
          | true =>
            rw [hbb] at hp
            simp only [Bool.and_eq_true] at hbb
            simp only [cond_true] at hp
            split at hp
            · rename_i D k hD hk
              cases hw : ((Nat.beq k D.1 && dz_wr S.2.1 D a.2.1 b hn) && sd S a.2.2 a.2.1 (dz_cst (.ofNat q.2.2.1)) b hn) with
              | false => rw [hw] at hp; cases hp
              | true =>
                rw [hw] at hp
                cases hp
                simp only [Bool.and_eq_true] at hw
                obtain ⟨vs, o1, o2, o3, o4, o5⟩ := dz_obj_at hG.2.2.2.2.2.2.2 (r := rr) (by rw [k2]; exact k3) (by rw [k2]; exact hti) hbb.2.1.1
                have h192 : 192 ≤ rr := by
                  rcases o4 with o4 | o4
                  · rw [o4] at hbb; exact absurd hbb.2.2 (by decide)
                  · exact o4
                have hlen : q.2.2.1 < vs.length := by
                  have e0 := Nat.eq_of_beq_eq_true hbb.2.1.1
                  unfold dz_ds at hD
                  rw [e0] at hD
                  have hD : dz_nth ti.2.2.2.2 q.2.2.1 = some D := hD
                  rw [dz_nth_eq] at hD
                  rw [o3]
                  exact (List.getElem?_eq_some_iff.mp hD).1
                have hget : dz_get (h.2.2 rr) q.2.2.1 = some vs[q.2.2.1] := by
                  rw [o2]
                  exact List.getElem?_eq_getElem hlen
                have hvd := dz_wr_ok hG.1 k1 hb hw.1.2
                have hXn := hX S ρ τ h L _ rr q.2.2.1 a.2.2 v2 _ b a.2.1 (dz_cst (.ofNat q.2.2.1)) hn hG k1 k2 k3 (dz_ok_cst _) hget hb hw.2
                have hput : dz_put h rr q.2.2.1 v2 = cz_setc h rr (.inr (.inl (ti.2.1, vs.set q.2.2.1 v2))) := by
                  unfold dz_put
                  rw [o2]
                  rfl
                refine ⟨w, rr, q.2.2.1, v2, ?_, ?_, rfl, by rw [k2]; exact k3, ⟨a, b, r, q, he, k2, hq, rfl⟩, _, hget⟩
                · have e : cz_hput P M x pc (v2 :: .inr (.inr (some rr)) :: w) h = some (pc + 3, w, dz_put h rr q.2.2.1 v2) := by
                    unfold cz_hput
                    simp only [hq]
                    rw [hbb.1.1, hbb.1.2, Nat.ble_eq.mpr h192]
                    simp only [Bool.and_true, cond_true, o1, hks]
                    rw [hbb.2.1.2, List.getElem?_eq_getElem hlen]
                    simp only [Option.isSome, Bool.and_true, cond_true, hk]
                    rw [Nat.eq_of_beq_eq_true hw.1.1, hvd.1, hput]
                    rfl
                  exact e
                · refine hG.put k1 k2 k3 (dz_ok_cst _) hget hb hti hD hvd hXn h2 (fun k hk => ?_)
                  exact dz_ko_obj (hG.2.2.2.2.1 k hk) o2
            · cases hp
        · cases hp
      · cases hp
  · cases hp
/-- what is known of arrays behind a write of one slot -/
noncomputable def dz_kws (Γ : List dz_E) (p : dz_E) (t : Nat) (e : dz_E) (hn : dz_Hn) (l : List dz_K) : Nat → List dz_K := List.rec (fun _ => []) (fun k _ ih j => dz_kw Γ p t e k (dz_ct hn j) (dz_ct hn (Nat.add j 1)) :: ih (Nat.add j 2)) l
theorem dz_kws_ok {n : Nat} {Γ : List dz_E} (hΓ : dz_Gm n ρ Γ) {p e : dz_E} {t r i : Nat} {v old : cz_V} {hn : dz_Hn} (hp : dz_ok n ρ p ((r : Int) + 1)) (ht : τ r = t) (hg : dz_get (h.2.2 r) i = some old) (he : dz_ok n ρ e (dz_n v)) : ∀ {l : List dz_K}, (∀ k ∈ l, dz_ko n ρ τ h k) → ∀ j, ∀ k ∈ dz_kws Γ p t e hn l j, dz_ko n ρ τ (dz_put h r i v) k
  | [], _, j => fun k hk => by cases hk
  | k0 :: r0, hl, j => fun k hk => by
    have hk : k ∈ dz_kw Γ p t e k0 (dz_ct hn j) (dz_ct hn (Nat.add j 1)) :: dz_kws Γ p t e hn r0 (Nat.add j 2) := hk
    rcases List.mem_cons.mp hk with rfl | hk
    · exact dz_kw_ok hΓ (hl k0 List.mem_cons_self) hp ht hg he _ _
    · exact dz_kws_ok hΓ hp ht hg he (fun q hq => hl q (List.mem_cons_of_mem _ hq)) _ k hk
/-- the value as an array takes it: code 1 as it is (and told to be a byte), 0 a new unknown; of other arrays as it is -/
noncomputable def dz_stv (ty : Nat) (hn : dz_Hn) (S : dz_S) (c : dz_A) : Option (dz_S × dz_A) := bif Nat.beq ty 0 then (bif Nat.beq c.1 0 then (bif Nat.beq hn.1 1 then (bif dz_pf S.2.1 (dz_ct hn 3) (dz_plus c.2.1 128) && dz_pf S.2.1 (dz_ct hn 4) (dz_sub (dz_cst 127) c.2.1) then some (S, c) else none)
    else dz_fn (Nat.add S.1 1) (fun m => some ((m, dz_bd S.1 (-128) 127 ++ S.2.1, S.2.2), (0, dz_var S.1, 0)))) else none) else some (S, c)
/-- what an array of references takes -/
noncomputable def dz_elm (T : dz_TT) (P : cz_P) (ty : Nat) (Γ : List dz_E) (hn : dz_Hn) (c : dz_A) : Bool := match P.2.2[ty]?, T c.2.2 with
  | some k, some ti => (Nat.beq ti.1 0 && Nat.beq k.2 ti.2.1) && dz_pf Γ (dz_ct hn 5) (dz_plus c.2.1 (-1))
  | _, _ => false
/-- by the instruction: 0 bytes and booleans, 1 ints, 2 longs, 3 references -/
noncomputable def dz_wh (wh ty : Nat) : Bool := bif Nat.beq wh 0 then Nat.beq ty 0 || Nat.beq ty 3 else bif Nat.beq wh 3 then Nat.ble 4 ty else Nat.beq wh ty
def dz_tyc (ty : Nat) : Nat := match ty with
  | 0 => 4
  | 1 => 0
  | 2 => 2
  | 3 => 1
  | _ => 3
noncomputable def dz_sto (T : dz_TT) (P : cz_P) (sd : dz_Sd) (wh : Nat) (hn : dz_Hn) (S : dz_S) : Option dz_S := match S.2.2.2.1 with
  | c :: b :: a :: r => bif (Nat.beq a.1 3 && Nat.beq b.1 0) && (dz_pf S.2.1 (dz_ct hn 0) (dz_plus a.2.1 (-1)) && dz_pf S.2.1 (dz_ct hn 1) b.2.1) then (match T a.2.2 with
    | some ti => bif ((Nat.beq ti.1 1 && Nat.blt ti.2.1 11) && (Nat.beq ti.2.2.1 1 && dz_wh wh ti.2.1)) && (!(Nat.beq wh 3) || dz_elm T P ti.2.1 S.2.1 hn c) then (match dz_len S a.2.1 a.2.2 ti (dz_num hn 1), dz_nth ti.2.2.2.2 0, dz_stv ti.2.1 hn S c with
      | some n, some D, some (S1, c1) => bif dz_pf S.2.1 (dz_ct hn 2) (dz_plus (dz_sub n b.2.1) (-1)) && ((Nat.beq D.1 (dz_tyc ti.2.1) && dz_wr S1.2.1 D a.2.1 c1 hn) && sd S1 a.2.2 a.2.1 b.2.1 c1 hn) then
          some (S1.1, S1.2.1, S1.2.2.1, r, dz_ms S1 a.2.1 a.2.2 b.2.1 c1, dz_kws S1.2.1 a.2.1 a.2.2 c1.2.1 hn S1.2.2.2.2.2.1 6, S1.2.2.2.2.2.2) else none
      | _, _, _ => none) else none
    | none => none) else none
  | _ => none
theorem dz_stv_ok (hG : dz_G T X S ρ τ h L st) {ty : Nat} {hn : dz_Hn} {c c1 : dz_A} {S1 : dz_S} {v : cz_V} (hc : dz_vo S.1 ρ τ c v) (hs : dz_stv ty hn S c = some (S1, c1)) : ∃ ρ' v1, dz_G T X S1 ρ' τ h L st ∧ dz_ext S.1 ρ S1.1 ρ' ∧ dz_vo S1.1 ρ' τ c1 v1 ∧ ((ty = 0 ∧ ∃ x : Int32, v = .inl x ∧ v1 = .inl x.toInt8.toInt32) ∨ (ty ≠ 0 ∧ v1 = v)) := by
  unfold dz_stv at hs
  cases h0 : Nat.beq ty 0 with
  | false =>
    rw [h0] at hs; cases hs
    exact ⟨ρ, v, hG, dz_ext.refl _ _, hc, Or.inr ⟨fun e => (by rw [e] at h0; cases h0), rfl⟩⟩
  | true =>
    rw [h0] at hs
    have h0 := Nat.eq_of_beq_eq_true h0
    simp only [cond_true] at hs
    cases hk : Nat.beq c.1 0 with
    | false => rw [hk] at hs; cases hs
    | true =>
      rw [hk] at hs
      obtain ⟨x, rfl, hx⟩ := hc.int hk
      simp only [cond_true] at hs
      cases h1 : Nat.beq hn.1 1 with
      | true =>
        rw [h1] at hs
        simp only [cond_true] at hs
        cases hb : (dz_pf S.2.1 (dz_ct hn 3) (dz_plus c.2.1 128) && dz_pf S.2.1 (dz_ct hn 4) (dz_sub (dz_cst 127) c.2.1)) with
        | false => rw [hb] at hs; cases hs
        | true =>
          rw [hb] at hs; cases hs
          simp only [Bool.and_eq_true] at hb
          have b1 := dz_pf_ok hG.1 (dz_ok_plus 128 hx) hb.1
          have b2 := dz_pf_ok hG.1 (dz_ok_sub (dz_ok_cst 127) hx) hb.2
          exact ⟨ρ, .inl x, hG, dz_ext.refl _ _, hc, Or.inl ⟨h0, x, rfl, by rw [dz_i2b_s (by omega) (by omega)]⟩⟩
      | false =>
        rw [h1] at hs
        simp only [cond_false, dz_fn_eq] at hs
        cases hs
        have hx2 := dz_ext.up S.1 ρ (x.toInt8.toInt32).toInt
        have g := hG.ext hx2
        have hb := dz_i2b_v x
        exact ⟨_, .inl x.toInt8.toInt32, ⟨g.1.app (dz_bd_ok hb.1 hb.2), g.2⟩, hx2, ⟨rfl, dz_ok_new _, fun r hr => by cases hr⟩, Or.inl ⟨h0, x, rfl, rfl⟩⟩
set_option maxHeartbeats 4000000 in
theorem dz_sto_ok {P : cz_P} {sd : dz_Sd} (hX : dz_XW T X sd) {pc wh : Nat} {hn : dz_Hn} (hG : dz_G T X S ρ τ h L st) (hwh : wh < 4) (hp : dz_sto T P sd wh hn S = some S') : ∃ st' r i v ρ', cz_hst P wh pc st h = some (pc + 1, st', dz_put h r i v) ∧ dz_G T X S' ρ' τ (dz_put h r i v) L st' ∧ dz_ext S.1 ρ S'.1 ρ' ∧ τ r ≠ 0 ∧ (∃ a b c rest, S.2.2.2.1 = c :: b :: a :: rest ∧ τ r = a.2.2 ∧ dz_ok S.1 ρ b.2.1 (i : Int)) ∧ (∃ old, dz_get (h.2.2 r) i = some old) := by
  have hs := hG.2.2.1
  unfold dz_sto at hp
  split at hp
  · rename_i c b a r he
    rw [he] at hs
    obtain ⟨v3, w2, rfl, hcv, h30⟩ := hs.inv
    obtain ⟨v2, w1, rfl, hb, h20⟩ := h30.inv
    obtain ⟨v1, w, rfl, ha, h2⟩ := h20.inv
    cases hc : ((Nat.beq a.1 3 && Nat.beq b.1 0) && (dz_pf S.2.1 (dz_ct hn 0) (dz_plus a.2.1 (-1)) && dz_pf S.2.1 (dz_ct hn 1) b.2.1)) with
    | false => rw [hc] at hp; cases hp
    | true =>
      rw [hc] at hp
      simp only [Bool.and_eq_true] at hc
      simp only [cond_true] at hp
      obtain ⟨rr, rfl, k1, k2, k3⟩ := ha.at hc.1.1 (fun x hx => by have := dz_pf_ok hG.1 (dz_ok_plus (-1) hx) hc.2.1; omega)
      obtain ⟨x, rfl, hx⟩ := hb.int hc.1.2
      have hx0 := dz_pf_ok hG.1 hx hc.2.2
      split at hp
      · rename_i ti hti
        cases hq : (((Nat.beq ti.1 1 && Nat.blt ti.2.1 11) && (Nat.beq ti.2.2.1 1 && dz_wh wh ti.2.1)) && (!(Nat.beq wh 3) || dz_elm T P ti.2.1 S.2.1 hn c)) with
        | false => rw [hq] at hp; cases hp
        | true =>
          rw [hq] at hp
          simp only [Bool.and_eq_true] at hq
          simp only [cond_true] at hp
          obtain ⟨n, f, o1, o2, o3, o4, o5⟩ := dz_arr_at hG.2.2.2.2.2.2.2 (r := rr) (by rw [k2]; exact k3) (by rw [k2]; exact hti) hq.1.1.1 hq.1.1.2
          have h192 : 192 ≤ rr := by
            rcases o4 with o4 | o4
            · rw [o4] at hq; exact absurd hq.1.2.1 (by decide)
            · exact o4
          split at hp
          · rename_i ne D S1 c1 hne hD hst
            cases hl : (dz_pf S.2.1 (dz_ct hn 2) (dz_plus (dz_sub ne b.2.1) (-1)) && ((Nat.beq D.1 (dz_tyc ti.2.1) && dz_wr S1.2.1 D a.2.1 c1 hn) && sd S1 a.2.2 a.2.1 b.2.1 c1 hn)) with
            | false => rw [hl] at hp; cases hp
            | true =>
              rw [hl] at hp
              cases hp
              simp only [Bool.and_eq_true] at hl
              obtain ⟨nx, n1, n2⟩ := dz_len_ok hG k1 o2 o3.1 hne
              have hlt := dz_pf_ok hG.1 (dz_ok_plus (-1) (dz_ok_sub n1 hx)) hl.1
              have hxi : x.toInt = ((x.toInt.toNat : Nat) : Int) := by omega
              have hi : x.toInt.toNat < n := by omega
              have hx2 : dz_ok S.1 ρ b.2.1 ((x.toInt.toNat : Nat) : Int) := by rw [← hxi]; exact hx
              have hget : dz_get (h.2.2 rr) x.toInt.toNat = some (f x.toInt.toNat) := by
                rw [o2]
                show (if x.toInt.toNat < n then some (f x.toInt.toNat) else none) = _
                rw [if_pos hi]
              obtain ⟨ρ', vv, g1, g2, g3, g4⟩ := dz_stv_ok hG hcv hst
              have hvd := dz_wr_ok g1.1 (k1.ext g2) g3 hl.2.1.2
              have hXn := hX S1 ρ' τ h L _ rr x.toInt.toNat a.2.2 vv _ c1 a.2.1 b.2.1 hn g1 (k1.ext g2) k2 k3 (hx2.ext g2) hget g3 hl.2.2
              have hput : dz_put h rr x.toInt.toNat vv = cz_setc h rr (.inl (ti.2.1, n, fun j => if j = x.toInt.toNat then vv else f j)) := by
                unfold dz_put
                rw [o2]
                rfl
              have hDs : dz_ds ti x.toInt.toNat = some D := by
                unfold dz_ds
                rw [Nat.eq_of_beq_eq_true hq.1.1.1]
                exact hD
              refine ⟨w, rr, x.toInt.toNat, vv, ρ', ?_, ?_, g2, by rw [k2]; exact k3, ⟨a, b, c, r, he, k2, hx2⟩, _, hget⟩
              · have hix := (dz_ix_ok hxi hi).1
                have has : ∀ (ok : Nat → Bool), ok ti.2.1 = true → cz_astore pc w h x rr vv ok = some (pc + 1, w, dz_put h rr x.toInt.toNat vv) := by
                  intro ok hok
                  unfold cz_astore
                  rw [o1]
                  show (bif Nat.ble 192 rr && cz_ix x n && ok ti.2.1 then _ else none) = _
                  rw [Nat.ble_eq.mpr h192, hix, hok, hput]
                  rfl
                have hwt := hq.1.2.2
                have hcode := Nat.eq_of_beq_eq_true hl.2.1.1
                have hfit := hvd.1
                rw [hcode] at hfit
                match wh, hwh, hwt, hq.2 with
                | 0, _, hwt, _ =>
                  have hwt : (Nat.beq ti.2.1 0 || Nat.beq ti.2.1 3) = true := hwt
                  rcases g4 with ⟨e0, y, rfl, rfl⟩ | ⟨e0, rfl⟩
                  · show (match cz_arr h rr with
                      | some c => bif Nat.beq c.1 0 then cz_astore pc w h x rr (.inl y.toInt8.toInt32) (fun t => Nat.beq t 0) else bif decide (y = 0) || decide (y = 1) then cz_astore pc w h x rr (.inl y) (fun t => Nat.beq t 3) else none
                      | none => none) = _
                    rw [o1]
                    show (bif Nat.beq ti.2.1 0 then _ else _) = _
                    rw [e0]
                    exact has (fun t => Nat.beq t 0) (by show Nat.beq ti.2.1 0 = true; rw [e0]; rfl)
                  · have e3 : ti.2.1 = 3 := by
                      simp only [Bool.or_eq_true] at hwt
                      rcases hwt with q | q
                      · exact absurd (Nat.eq_of_beq_eq_true q) e0
                      · exact Nat.eq_of_beq_eq_true q
                    rw [e3] at hfit
                    obtain y | y | y := vv
                    · have hfit : (decide (y = 0) || decide (y = 1)) = true := hfit
                      show (match cz_arr h rr with
                        | some c => bif Nat.beq c.1 0 then cz_astore pc w h x rr (.inl y.toInt8.toInt32) (fun t => Nat.beq t 0) else bif decide (y = 0) || decide (y = 1) then cz_astore pc w h x rr (.inl y) (fun t => Nat.beq t 3) else none
                        | none => none) = _
                      rw [o1]
                      show (bif Nat.beq ti.2.1 0 then _ else _) = _
                      rw [dz_beq_ne e0, hfit]
                      exact has (fun t => Nat.beq t 3) (by show Nat.beq ti.2.1 3 = true; rw [e3]; rfl)
                    · cases hfit
                    · cases hfit
                | 1, _, hwt, _ =>
                  have e1 : 1 = ti.2.1 := Nat.eq_of_beq_eq_true hwt
                  rcases g4 with ⟨e0, _⟩ | ⟨e0, rfl⟩
                  · omega
                  · rw [← e1] at hfit
                    obtain y | y | y := vv
                    · exact has (fun t => Nat.beq t 1) (by show Nat.beq ti.2.1 1 = true; rw [← e1]; rfl)
                    · cases hfit
                    · cases hfit
                | 2, _, hwt, _ =>
                  have e1 : 2 = ti.2.1 := Nat.eq_of_beq_eq_true hwt
                  rcases g4 with ⟨e0, _⟩ | ⟨e0, rfl⟩
                  · omega
                  · rw [← e1] at hfit
                    obtain y | y | y := vv
                    · cases hfit
                    · exact has (fun t => Nat.beq t 2) (by show Nat.beq ti.2.1 2 = true; rw [← e1]; rfl)
                    · cases hfit
                | 3, _, hwt, hel =>
                  have e1 : 4 ≤ ti.2.1 := Nat.ble_eq.mp hwt
                  rcases g4 with ⟨e0, _⟩ | ⟨e0, rfl⟩
                  · omega
                  · have hel : (false || dz_elm T P ti.2.1 S.2.1 hn c) = true := hel
                    rw [Bool.false_or] at hel
                    unfold dz_elm at hel
                    split at hel
                    · rename_i kk ti2 hkk hti2
                      simp only [Bool.and_eq_true] at hel
                      have hk3 : dz_k vv = 3 := by
                        have e6 : dz_tyc ti.2.1 = 3 := by
                          match ti.2.1, e1 with
                          | n + 4, _ => rfl
                        rw [e6] at hfit
                        exact dz_fit_k hfit
                      obtain ⟨vr, rfl, q1, q2, q3⟩ := hcv.at (by rw [← hcv.1, hk3]; rfl) (fun z hz => by have := dz_pf_ok hG.1 (dz_ok_plus (-1) hz) hel.2; omega)
                      obtain ⟨vs, u1, _⟩ := dz_obj_at hG.2.2.2.2.2.2.2 (r := vr) (by rw [q2]; exact q3) (by rw [q2]; exact hti2) hel.1.1
                      refine has (cz_elem P h (some vr)) ?_
                      show (match P.2.2[ti.2.1]? with
                        | some k => (match cz_obj h vr with
                          | some o => Nat.beq k.2 o.1
                          | none => false)
                        | none => false) = true
                      rw [hkk]
                      dsimp only
                      rw [u1]
                      exact hel.1.2
                    · cases hel
              · refine g1.put (k1.ext g2) k2 k3 (hx2.ext g2) hget g3 hti hDs hvd hXn (h2.ext g2) ?_
                exact dz_kws_ok g1.1 (k1.ext g2) k2 hget g3.2.1 g1.2.2.2.2.1 6
          · cases hp
      · cases hp
  · cases hp
end DzWr
