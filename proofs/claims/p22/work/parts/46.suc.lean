/-! L2, part 17: instructions with something told. -/
noncomputable def dz_mdP (md : dz_Md) (M : cz_M) (x : Nat) (S : dz_S) : Bool := match S.2.2.2.1, cz_lk M x with
  | _ :: a :: _, some q => dz_mdf md a.2.2 q.2.2.1
  | _, _ => false
noncomputable def dz_md3 (md : dz_Md) (S : dz_S) : Bool := match S.2.2.2.1 with
  | _ :: _ :: a :: _ => dz_mda md a.2.2
  | _ => false
noncomputable def dz_mdS (md : dz_Md) (S : dz_S) : Bool := match S.2.2.2.1 with
  | _ :: b :: a :: _ => dz_mda md a.2.2 || (match b.2.1 with
    | (.ofNat i, []) => dz_mdf md a.2.2 i
    | _ => false)
  | _ => false
noncomputable def dz_to (n : Nat) (o : Option dz_S) : Option (List (Nat × dz_S)) := match o with
  | some q => dz_fn n (fun n => some [(n, q)])
  | none => none
theorem dz_to_ok {n : Nat} {o : Option dz_S} {R : List (Nat × dz_S)} (h : dz_to n o = some R) : ∃ q, o = some q ∧ R = [(n, q)] := by
  cases o with
  | none => cases h
  | some q => cases h; exact ⟨q, rfl, rfl⟩
/-- on the cells -/
noncomputable def dz_hs (T : dz_TT) (cf : dz_Cf) (P : cz_P) (M : cz_M) (md : dz_Md) (dn : Nat) (i : Instr) (pc : Nat) (hn : dz_Hn) (S : dz_S) : Option (List (Nat × dz_S)) := match i with
  | .getfield x => dz_to (Nat.add pc 3) (dz_gf T M x hn S)
  | .putfield x => bif dz_mdP md M x S then dz_to (Nat.add pc 3) (dz_pfd T P cf.2.2.1 M x hn S) else none
  | .iaload => dz_to (Nat.add pc 1) (dz_ld T (fun t => Nat.beq t 1) hn S)
  | .baload => dz_to (Nat.add pc 1) (dz_ld T (fun t => Nat.beq t 0 || Nat.beq t 3) hn S)
  | .laload => dz_to (Nat.add pc 1) (dz_ld T (fun t => Nat.beq t 2) hn S)
  | .aaload => dz_to (Nat.add pc 1) (dz_ld T (fun t => Nat.ble 4 t) hn S)
  | .iastore => bif dz_mdS md S then dz_to (Nat.add pc 1) (dz_sto T P cf.2.2.1 1 hn S) else none
  | .bastore => bif dz_mdS md S then dz_to (Nat.add pc 1) (dz_sto T P cf.2.2.1 0 hn S) else none
  | .lastore => bif dz_mdS md S then dz_to (Nat.add pc 1) (dz_sto T P cf.2.2.1 2 hn S) else none
  | .aastore => bif dz_mdS md S then dz_to (Nat.add pc 1) (dz_sto T P cf.2.2.1 3 hn S) else none
  | .arraylength => dz_to (Nat.add pc 1) (dz_al_i T hn S)
  | .new x => (match cz_throw M pc (.new x) with
    | some _ => none
    | none => dz_to (Nat.add pc 3) (dz_new T P cf.2.2.2.1 M x hn S))
  | .newarray t => dz_to (Nat.add pc 2) (dz_na T P cf.2.2.2.1 t hn S)
  | .anewarray x => dz_to (Nat.add pc 3) (dz_nq T cf.2.2.2.1 M x hn S)
  | .invokespecial x => dz_to (Nat.add pc 3) (dz_ob M dn x hn S)
  | .invokestatic x => (match dz_ci M dn x hn S with
    | some q => dz_to (Nat.add pc 3) (some q)
    | none => bif dz_md3 md S then dz_to (Nat.add pc 3) (dz_cpy T cf.2.2.2.2.1 M dn x hn S) else none)
  | .invokevirtual x => dz_to (Nat.add pc 3) (dz_cln T cf.2.2.2.1 cf.2.2.2.2.1 M dn x hn S)
  | .checkcast x => dz_to (Nat.add pc 3) (dz_ckt T M x hn S)
  | _ => none
section DzSuc
variable {T : dz_TT} {X : dz_X} {cf : dz_Cf} {S S' : dz_S} {ρ : Nat → Int} {τ : Nat → Nat} {h : cz_H} {L : List (Nat × cz_V)} {st w : List cz_V} {P : cz_P} {d dn : Nat} {M : cz_M} {pc : Nat} {md : dz_Md} {hn : dz_Hn} {R : List (Nat × dz_S)}
/-- one step, of whatever kind -/
def dz_stp (T : dz_TT) (X : dz_X) (P : cz_P) (d : Nat) (M : cz_M) (md : dz_Md) (S : dz_S) (ρ : Nat → Int) (τ : Nat → Nat) (pc : Nat) (L : List (Nat × cz_V)) (st : List cz_V) (h : cz_H) (R : List (Nat × dz_S)) : Prop := ∃ p' S' L' st' h' τ' ρ', (p', S') ∈ R ∧ dz_G T X S' ρ' τ' h' L' st' ∧ dz_ext S.1 ρ S'.1 ρ' ∧ dz_Fr md τ h τ' h' ∧ dz_go P d M pc L st h p' L' st' h'
theorem dz_same_ext {S S' : dz_S} (ρ : Nat → Int) (h : S'.1 = S.1) : dz_ext S.1 ρ S'.1 ρ := by rw [h]; exact dz_ext.refl _ _
theorem dz_sto_stp (hC : dz_okC T X cf) {i : Instr} {wh : Nat} (hwh : wh < 4) (hi : cz_hp P M d pc st h i = cz_hst P wh pc st h) (hc : cz_code M pc = some (i, 1)) (hl : cz_len i = 1) (e1 : cz_pure i M.2.1.2.1 L st = none) (e2 : cz_br i pc st = none) (e3 : cz_ret i M.2.1.2.2.1 st = none) (e4 : cz_throw M pc i = none) (hG : dz_G T X S ρ τ h L st) (hm : dz_mdS md S = true) (hp : dz_sto T P cf.2.2.1 wh hn S = some S') : dz_stp T X P d M md S ρ τ pc L st h [(pc + 1, S')] := by
  obtain ⟨st', r, i', v, ρ', z1, z2, z3, z4, ⟨a, b, c, rest, z5, z6, z8⟩, old, z7⟩ := dz_sto_ok (pc := pc) hC.2.2.1 hG hwh hp
  refine ⟨pc + 1, S', L, st', _, τ, ρ', List.mem_cons_self, z2, z3, dz_Fr.put z7 ?_, fun Q k => dz_wp_hp (q := (pc + 1, st', dz_put h r i' v)) hc (by rw [hl]; rfl) e1 e2 e3 e4 (by rw [hi]; exact z1) k⟩
  unfold dz_mdS at hm
  rw [z5] at hm
  rw [z6]
  have hm : (dz_mda md a.2.2 || (match b.2.1 with
    | (.ofNat i, []) => dz_mdf md a.2.2 i
    | _ => false)) = true := hm
  rw [Bool.or_eq_true] at hm
  rcases hm with hm | hm
  · exact dz_mda_f hm i'
  · split at hm
    · rename_i k hk
      rw [hk] at z8
      have e := dz_cst_eq z8
      have e : (i' : Int) = (k : Int) := e
      have e : i' = k := by omega
      rw [e]
      exact hm
    · cases hm
theorem dz_ld_stp {i : Instr} {ok : Nat → Bool} (hi : cz_hp P M d pc st h i = cz_hal ok pc st h) (hc : cz_code M pc = some (i, 1)) (hl : cz_len i = 1) (e1 : cz_pure i M.2.1.2.1 L st = none) (e2 : cz_br i pc st = none) (e3 : cz_ret i M.2.1.2.2.1 st = none) (e4 : cz_throw M pc i = none) (hG : dz_G T X S ρ τ h L st) (hp : dz_ld T ok hn S = some S') : dz_stp T X P d M md S ρ τ pc L st h [(pc + 1, S')] := by
  obtain ⟨st', ρ', z1, z2, z3⟩ := dz_ld_ok (pc := pc) hG hp
  exact ⟨pc + 1, S', L, st', h, τ, ρ', List.mem_cons_self, z2, z3, dz_Fr.refl _ _ _, fun Q k => dz_wp_hp (q := (pc + 1, st', h)) hc (by rw [hl]; rfl) e1 e2 e3 e4 (by rw [hi]; exact z1) k⟩
set_option maxHeartbeats 4000000 in
theorem dz_hs_ok (hC : dz_okC T X cf) (hd : dn ≤ d) {i : Instr} {len : Nat} (hc : cz_code M pc = some (i, len)) (hl : Nat.beq len (cz_len i) = true) (hG : dz_G T X S ρ τ h L st) (hp : dz_hs T cf P M md dn i pc hn S = some R) : dz_stp T X P d M md S ρ τ pc L st h R := by
  have hl' := Nat.eq_of_beq_eq_true hl
  cases i
  case getfield x =>
    obtain ⟨q, hq, rfl⟩ := dz_to_ok hp
    obtain ⟨st', ρ', z1, z2, z3⟩ := dz_gf_ok (P := P) (d := d) (pc := pc) hG hq
    exact ⟨_, q, L, st', h, τ, ρ', List.mem_cons_self, z2, z3, dz_Fr.refl _ _ _, fun Q k => dz_wp_hp (q := (pc + 3, st', h)) hc hl rfl rfl rfl rfl z1 k⟩
  case putfield x =>
    simp only [dz_hs] at hp
    cases hm : dz_mdP md M x S with
    | false => rw [hm] at hp; cases hp
    | true =>
      rw [hm] at hp
      obtain ⟨q, hq, rfl⟩ := dz_to_ok hp
      obtain ⟨st', r, i', v, z1, z2, z3, z4, ⟨a, b, rest, qq, z5, z6, z7, z8⟩, old, z9⟩ := dz_pfd_ok (P := P) (d := d) (pc := pc) hC.2.2.1 hG hq
      refine ⟨_, q, L, st', _, τ, ρ, List.mem_cons_self, z2, dz_same_ext ρ z3, dz_Fr.put z9 ?_, fun Q k => dz_wp_hp (q := (pc + 3, st', dz_put h r i' v)) hc hl rfl rfl rfl rfl z1 k⟩
      unfold dz_mdP at hm
      rw [z5, z7] at hm
      rw [z6, z8]
      exact hm
  case iaload =>
    obtain ⟨q, hq, rfl⟩ := dz_to_ok hp
    exact dz_ld_stp rfl (by rw [hc, hl']; rfl) rfl rfl rfl rfl rfl hG hq
  case baload =>
    obtain ⟨q, hq, rfl⟩ := dz_to_ok hp
    exact dz_ld_stp rfl (by rw [hc, hl']; rfl) rfl rfl rfl rfl rfl hG hq
  case laload =>
    obtain ⟨q, hq, rfl⟩ := dz_to_ok hp
    exact dz_ld_stp rfl (by rw [hc, hl']; rfl) rfl rfl rfl rfl rfl hG hq
  case aaload =>
    obtain ⟨q, hq, rfl⟩ := dz_to_ok hp
    exact dz_ld_stp rfl (by rw [hc, hl']; rfl) rfl rfl rfl rfl rfl hG hq
  case iastore =>
    simp only [dz_hs] at hp
    cases hm : dz_mdS md S with
    | false => rw [hm] at hp; cases hp
    | true =>
      rw [hm] at hp
      obtain ⟨q, hq, rfl⟩ := dz_to_ok hp
      exact dz_sto_stp hC (by decide) rfl (by rw [hc, hl']; rfl) rfl rfl rfl rfl rfl hG hm hq
  case bastore =>
    simp only [dz_hs] at hp
    cases hm : dz_mdS md S with
    | false => rw [hm] at hp; cases hp
    | true =>
      rw [hm] at hp
      obtain ⟨q, hq, rfl⟩ := dz_to_ok hp
      exact dz_sto_stp hC (by decide) rfl (by rw [hc, hl']; rfl) rfl rfl rfl rfl rfl hG hm hq
  case lastore =>
    simp only [dz_hs] at hp
    cases hm : dz_mdS md S with
    | false => rw [hm] at hp; cases hp
    | true =>
      rw [hm] at hp
      obtain ⟨q, hq, rfl⟩ := dz_to_ok hp
      exact dz_sto_stp hC (by decide) rfl (by rw [hc, hl']; rfl) rfl rfl rfl rfl rfl hG hm hq
  case aastore =>
    simp only [dz_hs] at hp
    cases hm : dz_mdS md S with
    | false => rw [hm] at hp; cases hp
    | true =>
      rw [hm] at hp
      obtain ⟨q, hq, rfl⟩ := dz_to_ok hp
      exact dz_sto_stp hC (by decide) rfl (by rw [hc, hl']; rfl) rfl rfl rfl rfl rfl hG hm hq
  case arraylength =>
    obtain ⟨q, hq, rfl⟩ := dz_to_ok hp
    obtain ⟨st', ρ', z1, z2, z3⟩ := dz_al_i_ok (pc := pc) hG hq
    exact ⟨_, q, L, st', h, τ, ρ', List.mem_cons_self, z2, z3, dz_Fr.refl _ _ _, fun Q k => dz_wp_hp (q := (pc + 1, st', h)) hc hl rfl rfl rfl rfl z1 k⟩
  case new x =>
    simp only [dz_hs] at hp
    split at hp
    · cases hp
    · rename_i ht
      obtain ⟨q, hq, rfl⟩ := dz_to_ok hp
      obtain ⟨st', n, c, t, z0, z1, z2, z3, z4, z5⟩ := dz_new_ok (P := P) (d := d) (pc := pc) hC.2.2.2.1 hG hq
      exact ⟨_, q, L, st', _, _, ρ, List.mem_cons_self, z2, dz_same_ext ρ z3, dz_Fr.new z4 z5, fun Q k => dz_wp_hp (q := (pc + 3, st', cz_push h n c)) hc hl rfl rfl rfl ht z1 k⟩
  case newarray t =>
    obtain ⟨q, hq, rfl⟩ := dz_to_ok hp
    obtain ⟨st', n, c, t, z0, z1, z2, z3, z4, z5⟩ := dz_na_ok (P := P) (M := M) (d := d) (pc := pc) hC.2.2.2.1 hG hq
    exact ⟨_, q, L, st', _, _, ρ, List.mem_cons_self, z2, dz_same_ext ρ z3, dz_Fr.new z4 z5, fun Q k => dz_wp_hp (q := (pc + 2, st', cz_push h n c)) hc hl rfl rfl rfl rfl z1 k⟩
  case anewarray x =>
    obtain ⟨q, hq, rfl⟩ := dz_to_ok hp
    obtain ⟨st', n, c, t, z0, z1, z2, z3, z4, z5⟩ := dz_nq_ok (P := P) (d := d) (pc := pc) hC.2.2.2.1 hG hq
    exact ⟨_, q, L, st', _, _, ρ, List.mem_cons_self, z2, dz_same_ext ρ z3, dz_Fr.new z4 z5, fun Q k => dz_wp_hp (q := (pc + 3, st', cz_push h n c)) hc hl rfl rfl rfl rfl z1 k⟩
  case invokespecial x =>
    obtain ⟨q, hq, rfl⟩ := dz_to_ok hp
    obtain ⟨st', z1, z2, z3⟩ := dz_ob_ok (P := P) (pc := pc) hd hG hq
    exact ⟨_, q, L, st', h, τ, ρ, List.mem_cons_self, z2, dz_same_ext ρ z3, dz_Fr.refl _ _ _, fun Q k => dz_wp_hp (q := (pc + 3, st', h)) hc hl rfl rfl rfl rfl z1 k⟩
  case invokestatic x =>
    simp only [dz_hs] at hp
    split at hp
    · rename_i q0 hq0
      obtain ⟨q, hq, rfl⟩ := dz_to_ok hp
      cases hq
      obtain ⟨st', z1, z2, z3⟩ := dz_ci_ok (P := P) (pc := pc) hC.2.2.2.2.2.1 hd hG hq0
      exact ⟨_, q0, L, st', h, τ, ρ, List.mem_cons_self, z2, dz_same_ext ρ z3, dz_Fr.refl _ _ _, fun Q k => dz_wp_hp (q := (pc + 3, st', h)) hc hl rfl rfl rfl rfl z1 k⟩
    cases hm : dz_md3 md S with
    | false => rw [hm] at hp; cases hp
    | true =>
      rw [hm] at hp
      obtain ⟨q, hq, rfl⟩ := dz_to_ok hp
      obtain ⟨st', r, qq, f, z1, z2, z3, z4, z5, ⟨a1, a2, b, rest, z6, z7⟩⟩ := dz_cpy_ok (P := P) (pc := pc) hC.2.2.2.2.1 hd hG hq
      refine ⟨_, q, L, st', _, τ, ρ, List.mem_cons_self, z2, dz_same_ext ρ z3, dz_Fr.cpy z5 ?_, fun Q k => dz_wp_hp (q := (pc + 3, st', cz_setc h r (.inl (qq.1, qq.2.1, f)))) hc hl rfl rfl rfl rfl z1 k⟩
      unfold dz_md3 at hm
      rw [z6] at hm
      rw [z7]
      exact hm
  case invokevirtual x =>
    obtain ⟨q, hq, rfl⟩ := dz_to_ok hp
    obtain ⟨st', n, t, f, z1, z2, z3, z4, z5⟩ := dz_cln_ok (P := P) (pc := pc) hC.2.2.2.1 hC.2.2.2.2.1 hd hG hq
    refine ⟨_, q, L, st', _, _, ρ, List.mem_cons_self, z2, dz_same_ext ρ z3, ⟨z4, fun r hr => by rw [z5 r hr], fun r hr i _ => by rw [z5 r hr], ?_⟩, fun Q k => dz_wp_hp (q := (pc + 3, st', cz_setc (cz_push h n (.inl (0, n, fun _ => .inl 0))) h.1 (.inl (0, n, f)))) hc hl rfl rfl rfl rfl z1 k⟩
    show h.1 ≤ h.1 + 1
    omega
  case checkcast x =>
    obtain ⟨q, hq, rfl⟩ := dz_to_ok hp
    obtain ⟨z1, rfl⟩ := dz_ckt_ok (P := P) (d := d) (pc := pc) hG hq
    exact ⟨_, _, L, st, h, τ, ρ, List.mem_cons_self, hG, dz_ext.refl _ _, dz_Fr.refl _ _ _, fun Q k => dz_wp_hp (q := (pc + 3, st, h)) hc hl rfl rfl rfl rfl z1 k⟩
  all_goals (exact absurd hp (by simp [dz_hs]))
/-- any instruction with something told, but calls and ends -/
noncomputable def dz_suc (T : dz_TT) (cf : dz_Cf) (P : cz_P) (M : cz_M) (md : dz_Md) (dn : Nat) (i : Instr) (len pc : Nat) (hn : dz_Hn) (S : dz_S) : Option (List (Nat × dz_S)) :=
  match dz_br i pc hn S with
  | some R => bif Nat.beq len (cz_len i) || cz_isw i then some R else none
  | none => bif Nat.beq len (cz_len i) then (match dz_b2 i hn S with
    | some q => dz_to (Nat.add pc (cz_len i)) (some q)
    | none => match dz_hs T cf P M md dn i pc hn S with
      | some R => some R
      | none => match dz_l2 i hn M.2.1.2.1 S with
        | some q => dz_to (Nat.add pc (cz_len i)) (some q)
        | none => match dz_u1 i hn S with
          | some q => dz_to (Nat.add pc (cz_len i)) (some q)
          | none => dz_acm T i pc hn S) else none
theorem dz_suc_ok (hC : dz_okC T X cf) (hd : dn ≤ d) {i : Instr} {len : Nat} (hc : cz_code M pc = some (i, len)) (hG : dz_G T X S ρ τ h L st) (hp : dz_suc T cf P M md dn i len pc hn S = some R) : dz_stp T X P d M md S ρ τ pc L st h R := by
  unfold dz_suc at hp
  split at hp
  · rename_i R' hR
    cases hb : (Nat.beq len (cz_len i) || cz_isw i) with
    | false => rw [hb] at hp; cases hp
    | true =>
      rw [hb] at hp
      cases hp
      obtain ⟨z0, p', S', st', z1, z2, z3, z4⟩ := dz_br_ok (nL := M.2.1.2.1) hG hR
      exact ⟨p', S', L, st', h, τ, ρ, z1, z3, dz_same_ext ρ z4, dz_Fr.refl _ _ _, fun Q k => dz_wp_br (q := (p', st')) hc hb z0 z2 k⟩
  · cases hl : Nat.beq len (cz_len i) with
    | false => rw [hl] at hp; cases hp
    | true =>
      rw [hl] at hp
      simp only [cond_true] at hp
      split at hp
      · rename_i q hq
        obtain ⟨q', hq', rfl⟩ := dz_to_ok hp
        cases hq'
        obtain ⟨z, ρ', z1, z2, z3⟩ := dz_b2_ok (nL := M.2.1.2.1) hG hq
        exact ⟨_, q, z.1, z.2, h, τ, ρ', List.mem_cons_self, z2, z3, dz_Fr.refl _ _ _, fun Q k => dz_wp_pure hc hl z1 k⟩
      · split at hp
        · rename_i R' hR
          cases hp
          exact dz_hs_ok hC hd hc hl hG hR
        · split at hp
          · rename_i q hq
            obtain ⟨q', hq', rfl⟩ := dz_to_ok hp
            cases hq'
            obtain ⟨z, ρ', z1, z2, z3⟩ := dz_l2_ok (nL := M.2.1.2.1) hG hq
            exact ⟨_, q, z.1, z.2, h, τ, ρ', List.mem_cons_self, z2, z3, dz_Fr.refl _ _ _, fun Q k => dz_wp_pure hc hl z1 k⟩
          · split at hp
            · rename_i q hq
              obtain ⟨q', hq', rfl⟩ := dz_to_ok hp
              cases hq'
              obtain ⟨z, ρ', z1, z2, z3⟩ := dz_u1_ok (nL := M.2.1.2.1) hG hq
              exact ⟨_, q, z.1, z.2, h, τ, ρ', List.mem_cons_self, z2, z3, dz_Fr.refl _ _ _, fun Q k => dz_wp_pure hc hl z1 k⟩
            · obtain ⟨z0, p', S', st', z1, z2, z3, z4⟩ := dz_acm_ok (nL := M.2.1.2.1) hG hp
              exact ⟨p', S', L, st', h, τ, ρ, z1, z3, dz_same_ext ρ z4, dz_Fr.refl _ _ _, fun Q k => dz_wp_br (q := (p', st')) hc (by rw [hl]; rfl) z0 z2 k⟩
end DzSuc
