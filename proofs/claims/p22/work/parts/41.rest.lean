/-! L2, part 12: constants of the pool, Object's constructor, arraycopy, are two references one. -/
def dz_XE (X : dz_X) (ex : Nat → Nat) : Prop := ∀ (τ : Nat → Nat) (h : cz_H), X τ h → ∀ r, r < 192 → ex r ≠ 0 → τ r = ex r
noncomputable def dz_ldc (ex : Nat → Nat) (M : cz_M) (x : Nat) (S : dz_S) : Option dz_S := match cz_lk M x with
  | some q => bif Nat.beq q.1 11 then dz_pc S (-2147483648) 2147483647 (Int.sub (.ofNat q.2.1) (.ofNat q.2.2.1)) else bif Nat.beq q.1 12 && (Nat.blt q.2.1 192 && !(Nat.beq (ex q.2.1) 0)) then some (dz_stk S ((3, dz_cst (.ofNat (Nat.add q.2.1 1)), ex q.2.1) :: S.2.2.2.1)) else none
  | none => none
noncomputable def dz_ldc2 (M : cz_M) (x : Nat) (S : dz_S) : Option dz_S := match cz_lk M x with
  | some q => bif Nat.beq q.1 15 && (dz_ile (-9223372036854775808) (Int.sub (.ofNat q.2.1) (.ofNat q.2.2.1)) && dz_ile (Int.sub (.ofNat q.2.1) (.ofNat q.2.2.1)) 9223372036854775807) then dz_fi (Int.sub (.ofNat q.2.1) (.ofNat q.2.2.1)) (fun v => some (dz_stk S ((2, dz_cst v, 0) :: S.2.2.2.1))) else none
  | none => none
noncomputable def dz_gs (M : cz_M) (x : Nat) (S : dz_S) : Option dz_S := match cz_lk M x with
  | some q => bif Nat.beq q.1 16 && Nat.ble q.2.1 2147483647 then some (dz_stk S ((0, dz_cst (.ofNat q.2.1), 0) :: S.2.2.2.1)) else none
  | none => none
noncomputable def dz_ob (M : cz_M) (dn x : Nat) (hn : dz_Hn) (S : dz_S) : Option dz_S := match S.2.2.2.1 with
  | a :: r => (match cz_lk M x with
    | some q => bif (Nat.beq q.1 6 && (Nat.blt 0 dn && Nat.ble r.length 20)) && (Nat.beq a.1 3 && dz_pf S.2.1 (dz_ct hn 0) (dz_plus a.2.1 (-1))) then some (dz_stk S r) else none
    | none => none)
  | _ => none
section DzRest
variable {T : dz_TT} {X : dz_X} {S S' : dz_S} {ρ : Nat → Int} {τ : Nat → Nat} {h : cz_H} {L : List (Nat × cz_V)} {st w : List cz_V}
theorem dz_ldc_ok {ex : Nat → Nat} (hE : dz_XE X ex) {M : cz_M} {wd pc x : Nat} (hG : dz_G T X S ρ τ h L st) (hp : dz_ldc ex M x S = some S') : ∃ st', cz_hldc wd M x pc st h = some (pc + wd, st', h) ∧ dz_G T X S' ρ τ h L st' ∧ S'.1 = S.1 := by
  unfold dz_ldc at hp
  split at hp
  · rename_i q hq
    cases h1 : Nat.beq q.1 11 with
    | true =>
      rw [h1] at hp
      have e : Int.sub (.ofNat q.2.1) (.ofNat q.2.2.1) = (q.2.1 : Int) - (q.2.2.1 : Int) := rfl
      rw [e] at hp
      obtain ⟨g1, g2⟩ := dz_pc_ok hG hp (x := Int32.ofInt ((q.2.1 : Int) - (q.2.2.1 : Int))) (fun a b => dz_toInt_i a b)
      refine ⟨_, ?_, g1, g2⟩
      unfold cz_hldc
      rw [hq]
      dsimp only
      rw [h1]
      rfl
    | false =>
      rw [h1] at hp
      simp only [cond_false] at hp
      cases h2 : (Nat.beq q.1 12 && (Nat.blt q.2.1 192 && !(Nat.beq (ex q.2.1) 0))) with
      | false => rw [h2] at hp; cases hp
      | true =>
        rw [h2] at hp
        cases hp
        simp only [Bool.and_eq_true, Bool.not_eq_true'] at h2
        have h3 : ex q.2.1 ≠ 0 := fun e => by have := h2.2.2; rw [e] at this; cases this
        have h4 := hE τ h hG.2.2.2.2.2.2.2.2.1 q.2.1 (Nat.blt_eq.mp h2.2.1) h3
        refine ⟨.inr (.inr (some q.2.1)) :: st, ?_, hG.stack ⟨⟨rfl, ?_, fun r hr => ?_⟩, hG.2.2.1⟩, rfl⟩
        · unfold cz_hldc
          rw [hq]
          dsimp only
          rw [h1, h2.1]
          rfl
        · exact dz_ok_cst _
        · cases hr
          exact ⟨h4, h3⟩
  · cases hp
theorem dz_ldc2_ok {M : cz_M} {pc x : Nat} (hG : dz_G T X S ρ τ h L st) (hp : dz_ldc2 M x S = some S') : ∃ st', cz_hldc2 M x pc st h = some (pc + 3, st', h) ∧ dz_G T X S' ρ τ h L st' ∧ S'.1 = S.1 := by
  unfold dz_ldc2 at hp
  split at hp
  · rename_i q hq
    have e : Int.sub (.ofNat q.2.1) (.ofNat q.2.2.1) = (q.2.1 : Int) - (q.2.2.1 : Int) := rfl
    rw [e] at hp
    cases h1 : (Nat.beq q.1 15 && (dz_ile (-9223372036854775808) ((q.2.1 : Int) - (q.2.2.1 : Int)) && dz_ile ((q.2.1 : Int) - (q.2.2.1 : Int)) 9223372036854775807)) with
    | false => rw [h1] at hp; cases hp
    | true =>
      rw [h1] at hp
      simp only [cond_true, dz_fi_eq] at hp
      cases hp
      simp only [Bool.and_eq_true] at h1
      have a1 := dz_ile_ok h1.2.1
      have a2 := dz_ile_ok h1.2.2
      refine ⟨.inr (.inl (Int64.ofInt ((q.2.1 : Int) - (q.2.2.1 : Int)))) :: st, ?_, hG.stack ⟨⟨rfl, ?_, fun r hr => by cases hr⟩, hG.2.2.1⟩, rfl⟩
      · unfold cz_hldc2
        rw [hq]
        dsimp only
        rw [h1.1]
        rfl
      · show dz_ok S.1 ρ (dz_cst _) (Int64.ofInt ((q.2.1 : Int) - (q.2.2.1 : Int))).toInt
        rw [Int64.toInt_ofInt_of_le (by show (-9223372036854775808 : Int) ≤ _; exact a1) (by show _ < (9223372036854775808 : Int); omega)]
        exact dz_ok_cst _
  · cases hp
theorem dz_gs_ok {M : cz_M} {pc x : Nat} (hG : dz_G T X S ρ τ h L st) (hp : dz_gs M x S = some S') : ∃ st', cz_hgs M x pc st h = some (pc + 3, st', h) ∧ dz_G T X S' ρ τ h L st' ∧ S'.1 = S.1 := by
  unfold dz_gs at hp
  split at hp
  · rename_i q hq
    cases h1 : (Nat.beq q.1 16 && Nat.ble q.2.1 2147483647) with
    | false => rw [h1] at hp; cases hp
    | true =>
      rw [h1] at hp
      cases hp
      simp only [Bool.and_eq_true] at h1
      have a1 := Nat.ble_eq.mp h1.2
      refine ⟨.inl (Int32.ofNat q.2.1) :: st, ?_, hG.stack ⟨⟨rfl, ?_, fun r hr => by cases hr⟩, hG.2.2.1⟩, rfl⟩
      · unfold cz_hgs
        rw [hq]
        dsimp only
        rw [h1.1]
        rfl
      · show dz_ok S.1 ρ (dz_cst _) (Int32.ofNat q.2.1).toInt
        rw [Int32.toInt_ofNat_of_lt (by show q.2.1 < 2147483648; omega)]
        exact dz_ok_cst _
  · cases hp
theorem dz_so_len {n : Nat} : ∀ {l : List dz_A} {s : List cz_V}, dz_so n ρ τ l s → l.length = s.length
  | [], [], _ => rfl
  | a :: r, v :: w, h => by simp only [List.length_cons, dz_so_len h.2]
theorem dz_ob_ok {P : cz_P} {M : cz_M} {d dn pc x : Nat} {hn : dz_Hn} (hd : dn ≤ d) (hG : dz_G T X S ρ τ h L st) (hp : dz_ob M dn x hn S = some S') : ∃ st', cz_hp P M d pc st h (.invokespecial x) = some (pc + 3, st', h) ∧ dz_G T X S' ρ τ h L st' ∧ S'.1 = S.1 := by
  have hs := hG.2.2.1
  unfold dz_ob at hp
  split at hp
  · rename_i a r he
    rw [he] at hs
    obtain ⟨v, w, rfl, ha, h2⟩ := hs.inv
    split at hp
    · rename_i q hq
      cases h1 : ((Nat.beq q.1 6 && (Nat.blt 0 dn && Nat.ble r.length 20)) && (Nat.beq a.1 3 && dz_pf S.2.1 (dz_ct hn 0) (dz_plus a.2.1 (-1)))) with
      | false => rw [h1] at hp; cases hp
      | true =>
        rw [h1] at hp
        cases hp
        simp only [Bool.and_eq_true] at h1
        obtain ⟨⟨b1, b2, b3⟩, b4, b5⟩ := h1
        obtain ⟨rr, rfl, k1, k2, k3⟩ := ha.at b4 (fun x hx => by have := dz_pf_ok hG.1 (dz_ok_plus (-1) hx) b5; omega)
        refine ⟨w, ?_, hG.stack h2, rfl⟩
        have h0 : Nat.blt 0 d = true := Nat.blt_eq.mpr (by have := Nat.blt_eq.mp b2; omega)
        have hl : Nat.ble w.length 20 = true := by rw [← dz_so_len h2]; exact b3
        show cz_hobj M d x pc (.inr (.inr (some rr)) :: w) h = _
        unfold cz_hobj
        simp only [hq, b1, h0, hl, Bool.and_self, cond_true]
    · cases hp
  · cases hp
end DzRest
/-- arraycopy -/
def dz_XC (X : dz_X) (sc : Nat → Bool) : Prop := ∀ (τ : Nat → Nat) (h : cz_H) (r : Nat) (q : Nat × Nat × (Nat → cz_V)) (f : Nat → cz_V), X τ h → h.2.2 r = .inl q → sc (τ r) = true → X τ (cz_setc h r (.inl (q.1, q.2.1, f)))
noncomputable def dz_cpy (T : dz_TT) (sc : Nat → Bool) (M : cz_M) (dn x : Nat) (hn : dz_Hn) (S : dz_S) : Option dz_S := match S.2.2.2.1 with
  | n :: dp :: b :: sp :: a :: r => (match cz_lk M x, T a.2.2, T b.2.2 with
    | some q, some t1, some t2 => (match dz_nth t1.2.2.2.2 0, dz_nth t2.2.2.2.2 0, dz_len S a.2.1 a.2.2 t1 (dz_num hn 0), dz_len S b.2.1 b.2.2 t2 (dz_num hn 1) with
      | some D1, some D2, some l1, some l2 => bif (Nat.beq q.1 13 && (Nat.blt 0 dn && Nat.ble r.length 20)) && (((Nat.beq n.1 0 && Nat.beq dp.1 0) && (Nat.beq sp.1 0 && (Nat.beq a.1 3 && Nat.beq b.1 3))) && (((Nat.beq t1.1 1 && Nat.beq t2.1 1) && ((Nat.beq t1.2.1 t2.2.1 && Nat.ble t1.2.1 1) && Nat.beq t2.2.2.1 1)) && ((((Nat.beq D1.1 (dz_tyc t1.2.1) && Nat.beq D2.1 D1.1) && (dz_ile D2.2.1 D1.2.1 && dz_ile D1.2.2.1 D2.2.2.1)) && (Nat.beq D2.2.2.2.2 0 && sc b.2.2)) &&
          ((dz_pf S.2.1 (dz_ct hn 0) (dz_plus b.2.1 (-1)) && dz_pf S.2.1 (dz_ct hn 1) (dz_plus a.2.1 (-1))) && ((dz_pf S.2.1 (dz_ct hn 2) n.2.1 && (dz_pf S.2.1 (dz_ct hn 3) dp.2.1 && dz_pf S.2.1 (dz_ct hn 4) sp.2.1)) && (dz_pf S.2.1 (dz_ct hn 5) (dz_sub (dz_sub l1 sp.2.1) n.2.1) && dz_pf S.2.1 (dz_ct hn 6) (dz_sub (dz_sub l2 dp.2.1) n.2.1))))))) then
            some (S.1, S.2.1, S.2.2.1, r, cz_fil (fun m => !(Nat.beq m.2.1 b.2.2)) S.2.2.2.2.1, S.2.2.2.2.2.1.map (fun k => bif Nat.beq k.2.1 b.2.2 then dz_kl k else k), S.2.2.2.2.2.2) else none
      | _, _, _, _ => none)
    | _, _, _ => none)
  | _ => none
section DzCpy
variable {T : dz_TT} {X : dz_X} {S S' : dz_S} {ρ : Nat → Int} {τ : Nat → Nat} {h : cz_H} {L : List (Nat × cz_V)} {st w : List cz_V}
theorem dz_clamp {x : Int32} (h : 0 ≤ x.toInt) : ((x.toNatClampNeg : Nat) : Int) = x.toInt := by
  show ((x.toInt.toNat : Nat) : Int) = x.toInt
  omega
set_option maxHeartbeats 4000000 in
theorem dz_cpy_ok {P : cz_P} {sc : Nat → Bool} (hX : dz_XC X sc) {M : cz_M} {d dn pc x : Nat} {hn : dz_Hn} (hd : dn ≤ d) (hG : dz_G T X S ρ τ h L st) (hp : dz_cpy T sc M dn x hn S = some S') : ∃ st' r q f, cz_hp P M d pc st h (.invokestatic x) = some (pc + 3, st', cz_setc h r (.inl (q.1, q.2.1, f))) ∧ dz_G T X S' ρ τ (cz_setc h r (.inl (q.1, q.2.1, f))) L st' ∧ S'.1 = S.1 ∧ τ r ≠ 0 ∧ h.2.2 r = .inl q ∧ (∃ a1 a2 b rest, S.2.2.2.1 = a1 :: a2 :: b :: rest ∧ τ r = b.2.2) := by
  have hs := hG.2.2.1
  unfold dz_cpy at hp
  split at hp
  · rename_i n dp b sp a r he
    rw [he] at hs
    obtain ⟨v1, w1, rfl, hvn, s1⟩ := hs.inv
    obtain ⟨v2, w2, rfl, hvd, s2⟩ := s1.inv
    obtain ⟨v3, w3, rfl, hvb, s3⟩ := s2.inv
    obtain ⟨v4, w4, rfl, hvs, s4⟩ := s3.inv
    obtain ⟨v5, w, rfl, hva, s5⟩ := s4.inv
    split at hp
    · rename_i q t1 t2 hq ht1 ht2
      split at hp
      · rename_i D1 D2 l1 l2 hD1 hD2 hl1 hl2
        cases hb : ((Nat.beq q.1 13 && (Nat.blt 0 dn && Nat.ble r.length 20)) && (((Nat.beq n.1 0 && Nat.beq dp.1 0) && (Nat.beq sp.1 0 && (Nat.beq a.1 3 && Nat.beq b.1 3))) && (((Nat.beq t1.1 1 && Nat.beq t2.1 1) && ((Nat.beq t1.2.1 t2.2.1 && Nat.ble t1.2.1 1) && Nat.beq t2.2.2.1 1)) && ((((Nat.beq D1.1 (dz_tyc t1.2.1) && Nat.beq D2.1 D1.1) && (dz_ile D2.2.1 D1.2.1 && dz_ile D1.2.2.1 D2.2.2.1)) && (Nat.beq D2.2.2.2.2 0 && sc b.2.2)) && ((dz_pf S.2.1 (dz_ct hn 0) (dz_plus b.2.1 (-1)) && dz_pf S.2.1 (dz_ct hn 1) (dz_plus a.2.1 (-1))) && ((dz_pf S.2.1 (dz_ct hn 2) n.2.1 && (dz_pf S.2.1 (dz_ct hn 3) dp.2.1 && dz_pf S.2.1 (dz_ct hn 4) sp.2.1)) && (dz_pf S.2.1 (dz_ct hn 5) (dz_sub (dz_sub l1 sp.2.1) n.2.1) && dz_pf S.2.1 (dz_ct hn 6) (dz_sub (dz_sub l2 dp.2.1) n.2.1)))))))) with
        | false => rw [hb] at hp; cases hp
        | true =>
          rw [hb] at hp
          cases hp
          simp only [Bool.and_eq_true] at hb
          obtain ⟨⟨b1, b2, b3⟩, ⟨⟨b4, b5⟩, b6, b7, b8⟩, ⟨⟨b9, b10⟩, ⟨b11, b12⟩, b13⟩, ⟨⟨⟨b14, b15⟩, b16, b17⟩, b18, b19⟩, ⟨b20, b21⟩, ⟨b22, b23, b24⟩, b25, b26⟩ := hb
          obtain ⟨nn, rfl, hn1⟩ := hvn.int b4
          obtain ⟨dd, rfl, hd1⟩ := hvd.int b5
          obtain ⟨ss, rfl, hs1⟩ := hvs.int b6
          obtain ⟨ra, rfl, ka1, ka2, ka3⟩ := hva.at b7 (fun x hx => by have := dz_pf_ok hG.1 (dz_ok_plus (-1) hx) b21; omega)
          obtain ⟨rb, rfl, kb1, kb2, kb3⟩ := hvb.at b8 (fun x hx => by have := dz_pf_ok hG.1 (dz_ok_plus (-1) hx) b20; omega)
          have e11 := Nat.eq_of_beq_eq_true b11
          have e12 := Nat.ble_eq.mp b12
          have hlt1 : Nat.blt t1.2.1 11 = true := Nat.blt_eq.mpr (by omega)
          have hlt2 : Nat.blt t2.2.1 11 = true := by rw [← e11]; exact hlt1
          obtain ⟨n1, f1, o1, o2, o3, o4, o5⟩ := dz_arr_at hG.2.2.2.2.2.2.2 (r := ra) (by rw [ka2]; exact ka3) (by rw [ka2]; exact ht1) b9 hlt1
          obtain ⟨n2, f2, p1, p2, p3, p4, p5⟩ := dz_arr_at hG.2.2.2.2.2.2.2 (r := rb) (by rw [kb2]; exact kb3) (by rw [kb2]; exact ht2) b10 hlt2
          have h192 : 192 ≤ rb := by
            rcases p4 with p4 | p4
            · rw [p4] at b13; cases b13
            · exact p4
          have c22 := dz_pf_ok hG.1 hn1 b22
          have c23 := dz_pf_ok hG.1 hd1 b23
          have c24 := dz_pf_ok hG.1 hs1 b24
          obtain ⟨x1, y1, z1⟩ := dz_len_ok hG ka1 o2 o3.1 hl1
          obtain ⟨x2, y2, z2⟩ := dz_len_ok hG kb1 p2 p3.1 hl2
          have c25 := dz_pf_ok hG.1 (dz_ok_sub (dz_ok_sub y1 hs1) hn1) b25
          have c26 := dz_pf_ok hG.1 (dz_ok_sub (dz_ok_sub y2 hd1) hn1) b26
          have en := dz_clamp c22
          have ed := dz_clamp c23
          have es := dz_clamp c24
          have hr1 : ss.toNatClampNeg + nn.toNatClampNeg ≤ n1 := by omega
          have hr2 : dd.toNatClampNeg + nn.toNatClampNeg ≤ n2 := by omega
          have hvdE : ∀ i, i < n1 → dz_vd τ rb D2 (f1 i) := by
            intro i hi
            obtain ⟨D', d1, d2⟩ := o5 i hi
            rw [hD1] at d1
            cases d1
            have e14 := Nat.eq_of_beq_eq_true b14
            have e15 := Nat.eq_of_beq_eq_true b15
            have e16 := dz_ile_ok b16
            have e17 := dz_ile_ok b17
            have hc01 : D1.1 = 4 ∨ D1.1 = 0 := by
              rw [e14]
              have : t1.2.1 = 0 ∨ t1.2.1 = 1 := by omega
              rcases this with e | e <;> rw [e]
              · exact Or.inl rfl
              · exact Or.inr rfl
            have hk0 : dz_k (f1 i) = 0 := by
              rw [dz_fit_k d2.1]
              rcases hc01 with e | e <;> rw [e] <;> rfl
            have e18 := Nat.eq_of_beq_eq_true b18
            refine ⟨by rw [e15]; exact d2.1, ?_, Or.inr ?_, Or.inl (by omega), Or.inl (by omega), Or.inl (by omega)⟩
            · right
              rcases d2.2.1 with e | e
              · omega
              · exact ⟨by omega, by omega⟩
            · intro r' hr'
              rw [hr'] at hk0
              cases hk0
          have hall : (List.range nn.toNatClampNeg).all (fun i => cz_fitc (bif Nat.beq t1.2.1 0 then 4 else 0) (f1 (ss.toNatClampNeg + i))) = true := by
            rw [List.all_eq_true]
            intro i hi
            have hi := List.mem_range.mp hi
            obtain ⟨D', d1, d2⟩ := o5 (ss.toNatClampNeg + i) (by omega)
            rw [hD1] at d1
            cases d1
            have e14 := Nat.eq_of_beq_eq_true b14
            have hcc : (bif Nat.beq t1.2.1 0 then 4 else 0) = D1.1 := by
              rw [e14]
              have : t1.2.1 = 0 ∨ t1.2.1 = 1 := by omega
              rcases this with e | e <;> rw [e] <;> rfl
            rw [hcc]
            exact d2.1
          have hXn : X τ (cz_setc h rb (.inl (t2.2.1, n2, va_cpy f1 f2 ss.toNatClampNeg dd.toNatClampNeg nn.toNatClampNeg))) := hX τ h rb (t2.2.1, n2, f2) _ hG.2.2.2.2.2.2.2.2.1 p2 (by rw [kb2]; exact b19)
          have hcell : ∀ r', (cz_setc h rb (.inl (t2.2.1, n2, va_cpy f1 f2 ss.toNatClampNeg dd.toNatClampNeg nn.toNatClampNeg))).2.2 r' = if r' = rb then .inl (t2.2.1, n2, va_cpy f1 f2 ss.toNatClampNeg dd.toNatClampNeg nn.toNatClampNeg) else h.2.2 r' := fun _ => rfl
          have hal : ∀ r', dz_al ((cz_setc h rb (.inl (t2.2.1, n2, va_cpy f1 f2 ss.toNatClampNeg dd.toNatClampNeg nn.toNatClampNeg))).2.2 r') = dz_al (h.2.2 r') := by
            intro r'
            rw [hcell]
            by_cases e : r' = rb
            · rw [if_pos e, e, p2]; rfl
            · rw [if_neg e]
          refine ⟨w, rb, (t2.2.1, n2, f2), va_cpy f1 f2 ss.toNatClampNeg dd.toNatClampNeg nn.toNatClampNeg, ?_, ?_, rfl, by rw [kb2]; exact kb3, p2, ⟨n, dp, b, _, he, kb2⟩⟩
          · have h0 : Nat.blt 0 d = true := Nat.blt_eq.mpr (by have := Nat.blt_eq.mp b2; omega)
            have hl : Nat.ble w.length 20 = true := by rw [← dz_so_len s5]; exact b3
            have hh : cz_hcpy M d x pc (.inl nn :: .inl dd :: .inr (.inr (some rb)) :: .inl ss :: .inr (.inr (some ra)) :: w) h = some (pc + 3, w, cz_setc h rb (.inl (t2.2.1, n2, va_cpy f1 f2 ss.toNatClampNeg dd.toNatClampNeg nn.toNatClampNeg))) := by
              unfold cz_hcpy
              simp only [hq, b1, h0, hl, Bool.and_self, cond_true, o1, p1]
              rw [b11, b12, Nat.ble_eq.mpr h192, decide_eq_true c22, decide_eq_true c23, decide_eq_true c24, Nat.ble_eq.mpr hr1, Nat.ble_eq.mpr hr2, hall]
              rfl
            show (match cz_hcpy M d x pc (.inl nn :: .inl dd :: .inr (.inr (some rb)) :: .inl ss :: .inr (.inr (some ra)) :: w) h with
              | some q => some q
              | none => cz_hci M d x pc (.inl nn :: .inl dd :: .inr (.inr (some rb)) :: .inl ss :: .inr (.inr (some ra)) :: w) h) = _
            rw [hh]
          · obtain ⟨g1, g2, g3, g4, g5, g6, g7, g8⟩ := hG
            refine ⟨g1, g2, s5, ?_, ?_, g6, g7, ⟨?_, hXn, g8.2.2⟩⟩
            · intro m hm
              obtain ⟨m1, m2⟩ := dz_fil_mem hm
              obtain ⟨r', i', v', q1, q2, q3, q4, q5⟩ := g4 m m1
              have hne : r' ≠ rb := fun e => by
                rw [e, kb2] at q2
                have m2 : (!(Nat.beq m.2.1 b.2.2)) = true := m2
                rw [← q2.1, Nat.beq_refl] at m2
                cases m2
              exact ⟨r', i', v', q1, q2, q3, by rw [hcell, if_neg hne]; exact q4, q5⟩
            · intro k hk
              obtain ⟨k0, k1, rfl⟩ := List.mem_map.mp hk
              cases hkb : Nat.beq k0.2.1 b.2.2 with
              | true => exact dz_ko_kl (g5 k0 k1) (fun r' _ => hal r')
              | false =>
                obtain ⟨r', qq, s, u, lo, hi, q1, q2, q3, q4⟩ := g5 k0 k1
                have hne : r' ≠ rb := fun e => by
                  rw [e, kb2] at q2
                  rw [← q2.1, Nat.beq_refl] at hkb
                  cases hkb
                exact ⟨r', qq, s, u, lo, hi, q1, q2, by rw [hcell, if_neg hne]; exact q3, q4⟩
            · intro r' hr'
              obtain ⟨i1, ti', i2, i3, i4, i5⟩ := g8.1 r' hr'
              refine ⟨i1, ti', i2, dz_sh_al (hal r') i3, i4, ?_⟩
              by_cases e : r' = rb
              · subst e
                intro i v hv
                rw [hcell, if_pos rfl] at hv
                rw [kb2, ht2] at i2
                cases i2
                have hv : (if i < n2 then some (va_cpy f1 f2 ss.toNatClampNeg dd.toNatClampNeg nn.toNatClampNeg i) else none) = some v := hv
                by_cases ei : i < n2
                · rw [if_pos ei] at hv
                  cases hv
                  refine ⟨D2, ?_, ?_⟩
                  · unfold dz_ds
                    rw [Nat.eq_of_beq_eq_true b10]
                    exact hD2
                  · unfold va_cpy
                    by_cases ec : dd.toNatClampNeg ≤ i ∧ i < dd.toNatClampNeg + nn.toNatClampNeg
                    · rw [if_pos ec]; exact hvdE _ (by omega)
                    · rw [if_neg ec]
                      obtain ⟨D', d1, d2⟩ := p5 i ei
                      rw [hD2] at d1
                      cases d1
                      exact d2
                · rw [if_neg ei] at hv; cases hv
              · intro i v hv
                rw [hcell, if_neg e] at hv
                exact i5 i v hv
      · cases hp
    · cases hp
  · cases hp
end DzCpy
/-- String.checkIndex -/
noncomputable def dz_ci (M : cz_M) (dn x : Nat) (hn : dz_Hn) (S : dz_S) : Option dz_S := match S.2.2.2.1 with
  | b :: a :: r => (match cz_lk M x with
    | some q => bif (Nat.beq q.1 18 && (Nat.blt 1 dn && Nat.ble r.length 20)) && ((Nat.beq a.1 0 && Nat.beq b.1 0) && (dz_pf S.2.1 (dz_ct hn 0) a.2.1 && dz_pf S.2.1 (dz_ct hn 1) (dz_plus (dz_sub b.2.1 a.2.1) (-1)))) then some (dz_stk S r) else none
    | none => none)
  | _ => none
/-- a clone: a new array, then what stood in the old one -/
noncomputable def dz_cln (T : dz_TT) (sa : dz_Sa) (sc : Nat → Bool) (M : cz_M) (dn x : Nat) (hn : dz_Hn) (S : dz_S) : Option dz_S := match S.2.2.2.1 with
  | a :: r => (match cz_lk M x, T a.2.2 with
    | some q, some t1 => (match dz_nth t1.2.2.2.2 0, dz_nth S.2.2.2.2.2.1 (dz_num hn 2) with
      | some D, some k => bif ((Nat.beq q.1 19 && (Nat.blt 0 dn && Nat.ble r.length 20)) && ((Nat.beq a.1 3 && dz_pf S.2.1 (dz_ct hn 6) (dz_plus a.2.1 (-1))) && ((Nat.beq t1.1 1 && (Nat.beq t1.2.1 0 && Nat.beq t1.2.2.1 1)) && ((Nat.beq D.1 4 && Nat.beq D.2.2.2.2 0) && ((Nat.beq (dz_num hn 0) a.2.2 && sc a.2.2) && ((dz_same k.1 a.2.1 && Nat.beq k.2.1 a.2.2) && dz_pf S.2.1 (dz_ct hn 3) (dz_sub (dz_cst 67108864) k.2.2.1))))))) then
          (match dz_mka T sa 0 4 hn (dz_stk S ((0, k.2.2.1, 0) :: r)) with
          | some S1 => some (S1.1, S1.2.1, S1.2.2.1, S1.2.2.2.1, cz_fil (fun m => !(Nat.beq m.2.1 a.2.2)) S1.2.2.2.2.1, S1.2.2.2.2.2.1.map (fun k => bif Nat.beq k.2.1 a.2.2 then dz_kl k else k), S1.2.2.2.2.2.2)
          | none => none) else none
      | _, _ => none)
    | _, _ => none)
  | _ => none
/-- a cast -/
noncomputable def dz_ckt (T : dz_TT) (M : cz_M) (x : Nat) (hn : dz_Hn) (S : dz_S) : Option dz_S := match S.2.2.2.1 with
  | a :: r => (match cz_lk M x, T a.2.2 with
    | some q, some t1 => bif Nat.beq q.1 17 && ((Nat.beq a.1 3 && dz_pf S.2.1 (dz_ct hn 0) (dz_plus a.2.1 (-1))) && ((Nat.beq t1.1 1 && Nat.beq t1.2.1 0) && Nat.beq t1.2.2.1 1)) then some S else none
    | _, _ => none)
  | _ => none
section DzJdk
variable {T : dz_TT} {X : dz_X} {S S' : dz_S} {ρ : Nat → Int} {τ : Nat → Nat} {h : cz_H} {L : List (Nat × cz_V)} {st w : List cz_V}
theorem dz_ci_ok {P : cz_P} (hR : ∀ τ h, X τ h → cz_room h 0 0 = true) {M : cz_M} {d dn pc x : Nat} {hn : dz_Hn} (hd : dn ≤ d) (hG : dz_G T X S ρ τ h L st) (hp : dz_ci M dn x hn S = some S') : ∃ st', cz_hp P M d pc st h (.invokestatic x) = some (pc + 3, st', h) ∧ dz_G T X S' ρ τ h L st' ∧ S'.1 = S.1 := by
  have hs := hG.2.2.1
  unfold dz_ci at hp
  split at hp
  · rename_i b a r he
    rw [he] at hs
    obtain ⟨v1, w1, rfl, hb, s1⟩ := hs.inv
    obtain ⟨v2, w, rfl, ha, s2⟩ := s1.inv
    split at hp
    · rename_i q hq
      cases h1 : ((Nat.beq q.1 18 && (Nat.blt 1 dn && Nat.ble r.length 20)) && ((Nat.beq a.1 0 && Nat.beq b.1 0) && (dz_pf S.2.1 (dz_ct hn 0) a.2.1 && dz_pf S.2.1 (dz_ct hn 1) (dz_plus (dz_sub b.2.1 a.2.1) (-1))))) with
      | false => rw [h1] at hp; cases hp
      | true =>
        rw [h1] at hp
        cases hp
        simp only [Bool.and_eq_true] at h1
        obtain ⟨⟨b1, b2, b3⟩, ⟨b4, b5⟩, b6, b7⟩ := h1
        obtain ⟨ii, rfl, hi⟩ := ha.int b4
        obtain ⟨nn, rfl, hn1⟩ := hb.int b5
        have c6 := dz_pf_ok hG.1 hi b6
        have c7 := dz_pf_ok hG.1 (dz_ok_plus (-1) (dz_ok_sub hn1 hi)) b7
        refine ⟨w, ?_, hG.stack s2, rfl⟩
        have h0 : Nat.blt 1 d = true := Nat.blt_eq.mpr (by have := Nat.blt_eq.mp b2; omega)
        have hl : Nat.ble w.length 20 = true := by rw [← dz_so_len s2]; exact b3
        have h9 : cz_hcpy M d x pc (.inl nn :: .inl ii :: w) h = none := by
          unfold cz_hcpy
          split
          · rw [hq]
            dsimp only
            rw [Nat.eq_of_beq_eq_true b1]
            rfl
          · rfl
        show (match cz_hcpy M d x pc (.inl nn :: .inl ii :: w) h with
          | some q => some q
          | none => cz_hci M d x pc (.inl nn :: .inl ii :: w) h) = _
        rw [h9]
        show cz_hci M d x pc (.inl nn :: .inl ii :: w) h = _
        unfold cz_hci
        simp only [hq, b1, h0, hl, hR τ h hG.2.2.2.2.2.2.2.2.1, Bool.and_self, cond_true, decide_eq_true c6, decide_eq_true (show ii.toInt < nn.toInt by omega)]
    · cases hp
  · cases hp
theorem dz_ckt_ok {P : cz_P} {M : cz_M} {d pc x : Nat} {hn : dz_Hn} (hG : dz_G T X S ρ τ h L st) (hp : dz_ckt T M x hn S = some S') : cz_hp P M d pc st h (.checkcast x) = some (pc + 3, st, h) ∧ S' = S := by
  have hs := hG.2.2.1
  unfold dz_ckt at hp
  split at hp
  · rename_i a r he
    rw [he] at hs
    obtain ⟨v1, w, rfl, ha, s1⟩ := hs.inv
    split at hp
    · rename_i q t1 hq ht1
      cases h1 : (Nat.beq q.1 17 && ((Nat.beq a.1 3 && dz_pf S.2.1 (dz_ct hn 0) (dz_plus a.2.1 (-1))) && ((Nat.beq t1.1 1 && Nat.beq t1.2.1 0) && Nat.beq t1.2.2.1 1))) with
      | false => rw [h1] at hp; cases hp
      | true =>
        rw [h1] at hp
        cases hp
        simp only [Bool.and_eq_true] at h1
        obtain ⟨b1, ⟨b2, b3⟩, ⟨b4, b5⟩, b6⟩ := h1
        obtain ⟨ra, rfl, ka1, ka2, ka3⟩ := ha.at b2 (fun x hx => by have := dz_pf_ok hG.1 (dz_ok_plus (-1) hx) b3; omega)
        have e5 := Nat.eq_of_beq_eq_true b5
        obtain ⟨n1, f1, o1, o2, o3, o4, o5⟩ := dz_arr_at hG.2.2.2.2.2.2.2 (r := ra) (by rw [ka2]; exact ka3) (by rw [ka2]; exact ht1) b4 (Nat.blt_eq.mpr (by omega))
        have h192 : Nat.ble 192 ra = true := by
          rcases o4 with o4 | o4
          · rw [o4] at b6; cases b6
          · exact Nat.ble_eq.mpr o4
        refine ⟨?_, rfl⟩
        show cz_hcc M x pc (.inr (.inr (some ra)) :: w) h = _
        unfold cz_hcc
        simp only [hq, b1, cond_true, o1, b5, h192, Bool.and_self]
    · cases hp
  · cases hp
/-- an array that is filled anew -/
theorem dz_fill_ok {sc : Nat → Bool} (hX : dz_XC X sc) (hG : dz_G T X S ρ τ h L st) {r t n ty : Nat} {f f' : Nat → cz_V} {ti : dz_I} {D : dz_D} (hr : τ r = t) (ht : T t = some ti) (hk : Nat.beq ti.1 1 = true) (hc : h.2.2 r = .inl (ty, n, f)) (hD : dz_nth ti.2.2.2.2 0 = some D) (hf : ∀ i, i < n → dz_vd τ r D (f' i)) (hs : sc t = true) : dz_G T X (S.1, S.2.1, S.2.2.1, S.2.2.2.1, cz_fil (fun m => !(Nat.beq m.2.1 t)) S.2.2.2.2.1, S.2.2.2.2.2.1.map (fun k => bif Nat.beq k.2.1 t then dz_kl k else k), S.2.2.2.2.2.2) ρ τ (cz_setc h r (.inl (ty, n, f'))) L st := by
  have hXn : X τ (cz_setc h r (.inl (ty, n, f'))) := hX τ h r (ty, n, f) f' hG.2.2.2.2.2.2.2.2.1 hc (by rw [hr]; exact hs)
  have hcell : ∀ r', (cz_setc h r (.inl (ty, n, f'))).2.2 r' = if r' = r then .inl (ty, n, f') else h.2.2 r' := fun _ => rfl
  have hal : ∀ r', dz_al ((cz_setc h r (.inl (ty, n, f'))).2.2 r') = dz_al (h.2.2 r') := by
    intro r'
    rw [hcell]
    by_cases e : r' = r
    · rw [if_pos e, e, hc]; rfl
    · rw [if_neg e]
  obtain ⟨g1, g2, g3, g4, g5, g6, g7, g8⟩ := hG
  refine ⟨g1, g2, g3, ?_, ?_, g6, g7, ⟨?_, hXn, g8.2.2⟩⟩
  · intro m hm
    obtain ⟨m1, m2⟩ := dz_fil_mem hm
    obtain ⟨r', i', v', q1, q2, q3, q4, q5⟩ := g4 m m1
    have hne : r' ≠ r := fun e => by
      rw [e, hr] at q2
      have m2 : (!(Nat.beq m.2.1 t)) = true := m2
      rw [← q2.1, Nat.beq_refl] at m2
      cases m2
    exact ⟨r', i', v', q1, q2, q3, by rw [hcell, if_neg hne]; exact q4, q5⟩
  · intro k hk'
    obtain ⟨k0, k1, rfl⟩ := List.mem_map.mp hk'
    cases hkb : Nat.beq k0.2.1 t with
    | true => exact dz_ko_kl (g5 k0 k1) (fun r' _ => hal r')
    | false =>
      obtain ⟨r', qq, s, u, lo, hi, q1, q2, q3, q4⟩ := g5 k0 k1
      have hne : r' ≠ r := fun e => by
        rw [e, hr] at q2
        rw [← q2.1, Nat.beq_refl] at hkb
        cases hkb
      exact ⟨r', qq, s, u, lo, hi, q1, q2, by rw [hcell, if_neg hne]; exact q3, q4⟩
  · intro r' hr'
    obtain ⟨i1, ti', i2, i3, i4, i5⟩ := g8.1 r' hr'
    refine ⟨i1, ti', i2, dz_sh_al (hal r') i3, i4, ?_⟩
    by_cases e : r' = r
    · subst e
      intro i v hv
      rw [hcell, if_pos rfl] at hv
      rw [hr, ht] at i2
      cases i2
      have hv : (if i < n then some (f' i) else none) = some v := hv
      by_cases ei : i < n
      · rw [if_pos ei] at hv
        cases hv
        refine ⟨D, ?_, hf i ei⟩
        unfold dz_ds
        rw [Nat.eq_of_beq_eq_true hk]
        exact hD
      · rw [if_neg ei] at hv; cases hv
    · intro i v hv
      rw [hcell, if_neg e] at hv
      exact i5 i v hv
set_option maxHeartbeats 4000000 in
theorem dz_cln_ok {P : cz_P} {sa : dz_Sa} (hXA : dz_XA T X sa) {sc : Nat → Bool} (hX : dz_XC X sc) {M : cz_M} {d dn pc x : Nat} {hn : dz_Hn} (hd : dn ≤ d) (hG : dz_G T X S ρ τ h L st) (hp : dz_cln T sa sc M dn x hn S = some S') : ∃ st' n t f, cz_hp P M d pc st h (.invokevirtual x) = some (pc + 3, st', cz_setc (cz_push h n (.inl (0, n, fun _ => .inl 0))) h.1 (.inl (0, n, f))) ∧ dz_G T X S' ρ (dz_tn τ h.1 t) (cz_setc (cz_push h n (.inl (0, n, fun _ => .inl 0))) h.1 (.inl (0, n, f))) L st' ∧ S'.1 = S.1 ∧ (∀ r, τ r ≠ 0 → dz_tn τ h.1 t r = τ r) ∧ (∀ r, τ r ≠ 0 → (cz_setc (cz_push h n (.inl (0, n, fun _ => .inl 0))) h.1 (.inl (0, n, f))).2.2 r = h.2.2 r) := by
  have hs := hG.2.2.1
  unfold dz_cln at hp
  split at hp
  · rename_i a r he
    rw [he] at hs
    obtain ⟨v1, w, rfl, ha, s1⟩ := hs.inv
    split at hp
    · rename_i q t1 hq ht1
      split at hp
      · rename_i D k hD hk
        cases h1 : ((Nat.beq q.1 19 && (Nat.blt 0 dn && Nat.ble r.length 20)) && ((Nat.beq a.1 3 && dz_pf S.2.1 (dz_ct hn 6) (dz_plus a.2.1 (-1))) && ((Nat.beq t1.1 1 && (Nat.beq t1.2.1 0 && Nat.beq t1.2.2.1 1)) && ((Nat.beq D.1 4 && Nat.beq D.2.2.2.2 0) && ((Nat.beq (dz_num hn 0) a.2.2 && sc a.2.2) && ((dz_same k.1 a.2.1 && Nat.beq k.2.1 a.2.2) && dz_pf S.2.1 (dz_ct hn 3) (dz_sub (dz_cst 67108864) k.2.2.1))))))) with
        | false => rw [h1] at hp; cases hp
        | true =>
          rw [h1] at hp
          simp only [cond_true] at hp
          simp only [Bool.and_eq_true] at h1
          obtain ⟨⟨b1, b2, b3⟩, ⟨b4, b5⟩, ⟨b6, b7, b7w⟩, ⟨b8, b9⟩, ⟨b10, b11⟩, ⟨b12, b13⟩, b14⟩ := h1
          obtain ⟨ra, rfl, ka1, ka2, ka3⟩ := ha.at b4 (fun x hx => by have := dz_pf_ok hG.1 (dz_ok_plus (-1) hx) b5; omega)
          have e7 := Nat.eq_of_beq_eq_true b7
          have e8 := Nat.eq_of_beq_eq_true b8
          have e9 := Nat.eq_of_beq_eq_true b9
          have e10 := Nat.eq_of_beq_eq_true b10
          obtain ⟨n1, f1, o1, o2, o3, o4, o5⟩ := dz_arr_at hG.2.2.2.2.2.2.2 (r := ra) (by rw [ka2]; exact ka3) (by rw [ka2]; exact ht1) b6 (Nat.blt_eq.mpr (by omega))
          rw [e7] at o1 o2
          have hln : dz_ok S.1 ρ k.2.2.1 (n1 : Int) := by
            obtain ⟨r', q', s', u', lo, hi, k1, k2, k3, k4, _⟩ := hG.2.2.2.2.1 k (dz_nth_mem hk)
            have e1 := dz_same_ok k1 ka1 b12
            have e1 : r' = ra := by omega
            subst e1
            rw [o2] at k3
            cases k3
            exact k4
          have c14 := dz_pf_ok hG.1 (dz_ok_sub (dz_ok_cst 67108864) hln) b14
          have hx : (Int32.ofNat n1).toInt = (n1 : Int) := Int32.toInt_ofNat_of_lt (by omega)
          have hG0 : dz_G T X (dz_stk S ((0, k.2.2.1, 0) :: r)) ρ τ h L (.inl (Int32.ofNat n1) :: w) := hG.stack ⟨⟨rfl, by show dz_ok S.1 ρ k.2.2.1 (Int32.ofNat n1).toInt; rw [hx]; exact hln, fun r' hr' => by cases hr'⟩, s1⟩
          split at hp
          · rename_i S1 hS1
            cases hp
            obtain ⟨x', wst, t, hst, ⟨ht0, htn⟩, hx0, hroom, _, hG1, hS1n, hτ1, hc1⟩ := dz_mka_ok hXA hG0 hS1
            cases hst
            rw [hx, Int.toNat_natCast] at hroom hG1 hc1
            have hτ0 : τ h.1 = 0 := by
              by_cases e : τ h.1 = 0
              · exact e
              · have := dz_here_lt (hG.2.2.2.2.2.2.2.1 h.1 e).1
                omega
            have hpl : (cz_push h n1 (.inl (0, n1, fun _ => cz_dflt 4))).2.2 h.1 = .inl (0, n1, fun _ => cz_dflt 4) := by
              show (if h.1 = h.1 then _ else _) = _
              rw [if_pos rfl]
            have hτh : dz_tn τ h.1 t h.1 = t := by unfold dz_tn; rw [if_pos rfl]
            have hta : t = a.2.2 := by rw [htn]; exact e10
            have hfl := dz_fill_ok hX hG1 (r := h.1) (t := t) (f' := f1) hτh (by rw [hta]; exact ht1) b6 hpl hD (fun i hi => by
              obtain ⟨D', d1, d2⟩ := o5 i hi
              rw [hD] at d1
              cases d1
              have hk0 : dz_k (f1 i) = 0 := by rw [dz_fit_k d2.1, e8]; rfl
              refine ⟨d2.1, d2.2.1, Or.inr ?_, Or.inl (by omega), Or.inl (by omega), Or.inl (by omega)⟩
              intro r' hr'
              rw [hr'] at hk0
              cases hk0) (by rw [hta]; exact b11)
            rw [hta] at hfl
            refine ⟨_, n1, a.2.2, f1, ?_, hfl, hS1n, ?_, ?_⟩
            · have h0 : Nat.blt 0 d = true := Nat.blt_eq.mpr (by have := Nat.blt_eq.mp b2; omega)
              have hl : Nat.ble w.length 20 = true := by rw [← dz_so_len s1]; exact b3
              have hall : (List.range n1).all (fun i => cz_fitc 4 (f1 i)) = true := by
                rw [List.all_eq_true]
                intro i hi
                obtain ⟨D', d1, d2⟩ := o5 i (List.mem_range.mp hi)
                rw [hD] at d1
                cases d1
                rw [← e8]
                exact d2.1
              have h192 : Nat.ble 192 ra = true := by
                rcases o4 with o4 | o4
                · rw [o4] at b7w; cases b7w
                · exact Nat.ble_eq.mpr o4
              show cz_hcl M d x pc (.inr (.inr (some ra)) :: w) h = _
              unfold cz_hcl
              simp only [hq, b1, h0, hl, Bool.and_self, cond_true, o1, hroom, hall, h192]
              rfl
            · rw [← hta]; exact hτ1
            · intro r' hr'
              show (if r' = h.1 then _ else (cz_push h n1 (.inl (0, n1, fun _ => .inl 0))).2.2 r') = _
              rw [if_neg (fun e => hr' (by rw [e]; exact hτ0))]
              exact hc1 r' hr'
          · cases hp
      · cases hp
    · cases hp
  · cases hp
end DzJdk
