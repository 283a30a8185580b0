/-! L2, part 18: the run over a method's pieces, from cut to cut. -/
/-- a cut: place, what is known, its rank -/
abbrev dz_Cu : Type := Nat × dz_Tp × dz_E
/-- how a return ends -/
noncomputable def dz_rt (i : Instr) (t : Option FieldType) (hn : dz_Hn) (S : dz_S) : Option (Nat × List (Nat × dz_A)) := match i with
  | .return_ => (match S.2.2.2.1, t with
    | [], none => some (0, [])
    | _, _ => none)
  | .ireturn => (match S.2.2.2.1, t with
    | [a], some .int => bif Nat.beq a.1 0 then some (1, [(0, a)]) else none
    | [a], some .boolean => bif Nat.beq a.1 0 && (dz_pf S.2.1 (dz_ct hn 0) a.2.1 && dz_pf S.2.1 (dz_ct hn 1) (dz_sub (dz_cst 1) a.2.1)) then some (1, [(0, a)]) else none
    | [a], some .byte => bif Nat.beq a.1 0 && (dz_pf S.2.1 (dz_ct hn 0) (dz_plus a.2.1 128) && dz_pf S.2.1 (dz_ct hn 1) (dz_sub (dz_cst 127) a.2.1)) then some (1, [(0, a)]) else none
    | [a], some .char => bif Nat.beq a.1 0 && (dz_pf S.2.1 (dz_ct hn 0) a.2.1 && dz_pf S.2.1 (dz_ct hn 1) (dz_sub (dz_cst 65535) a.2.1)) then some (1, [(0, a)]) else none
    | _, _ => none)
  | .lreturn => (match S.2.2.2.1, t with
    | [a], some .long => bif Nat.beq a.1 2 then some (1, [(0, a)]) else none
    | _, _ => none)
  | .areturn => (match S.2.2.2.1, t with
    | [a], some (.object _) => bif Nat.beq a.1 3 then some (1, [(0, a)]) else none
    | [a], some (.array _) => bif Nat.beq a.1 3 then some (1, [(0, a)]) else none
    | _, _ => none)
  | _ => none
def dz_lst (S : dz_S) (l : List (Nat × dz_A)) : dz_S := (S.1, S.2.1, l, [], S.2.2.2.2)
section DzRt
variable {T : dz_TT} {X : dz_X} {S : dz_S} {ρ : Nat → Int} {τ : Nat → Nat} {h : cz_H} {L : List (Nat × cz_V)} {st : List cz_V}
theorem dz_lo1 {n : Nat} {a : dz_A} {v : cz_V} (hv : dz_vo n ρ τ a v) : dz_lo n ρ τ [(0, a)] [(0, v)] := by
  intro q hq
  rw [List.mem_singleton.mp hq]
  exact ⟨v, rfl, hv⟩
theorem dz_c16 {x : Int32} (h1 : 0 ≤ x.toInt) (h2 : x.toInt ≤ 65535) : x.toUInt32.toUInt16.toUInt32.toInt32 = x := by
  have e : x.toUInt32.toUInt16.toUInt32 = x.toUInt32 % 65536 := by
    apply UInt32.toNat_inj.mp
    rw [UInt16.toNat_toUInt32, UInt32.toNat_toUInt16, UInt32.toNat_mod]
    rfl
  rw [e]
  exact dz_i2c_s h1 h2
theorem dz_rt_ok {i : Instr} {t : Option FieldType} {hn : dz_Hn} {k nL pc : Nat} {l : List (Nat × dz_A)} (hG : dz_G T X S ρ τ h L st) (hr : dz_rt i t hn S = some (k, l)) : cz_pure i nL L st = none ∧ cz_br i pc st = none ∧ ∃ v L2, cz_ret i t st = some v ∧ dz_G T X (dz_lst S l) ρ τ h L2 [] ∧ dz_res k (.inl v, h) L2 := by
  have hs := hG.2.2.1
  have hgo : ∀ a v, dz_vo S.1 ρ τ a v → dz_G T X (dz_lst S [(0, a)]) ρ τ h [(0, v)] [] := fun a v hv => ⟨hG.1, dz_lo1 hv, trivial, hG.2.2.2⟩
  cases i
  case return_ =>
    refine ⟨rfl, rfl, ?_⟩
    simp only [dz_rt] at hr
    split at hr
    · rename_i hst
      cases hr
      rw [hst] at hs
      have := hs.nil
      subst this
      exact ⟨none, [], rfl, ⟨hG.1, fun q hq => (by cases hq), trivial, hG.2.2.2⟩, rfl⟩
    · cases hr
  case ireturn =>
    refine ⟨rfl, rfl, ?_⟩
    simp only [dz_rt] at hr
    split at hr
    · rename_i a hst
      cases hb : Nat.beq a.1 0 with
      | false => rw [hb] at hr; cases hr
      | true =>
        rw [hb] at hr
        cases hr
        rw [hst] at hs
        obtain ⟨v, w, rfl, h1, h2⟩ := hs.inv
        have := h2.nil
        subst this
        obtain ⟨x, rfl, hx⟩ := h1.int hb
        exact ⟨some (.inl x), [(0, .inl x)], rfl, hgo _ _ h1, _, rfl, rfl⟩
    · rename_i a hst
      cases hb : (Nat.beq a.1 0 && (dz_pf S.2.1 (dz_ct hn 0) a.2.1 && dz_pf S.2.1 (dz_ct hn 1) (dz_sub (dz_cst 1) a.2.1))) with
      | false => rw [hb] at hr; cases hr
      | true =>
        rw [hb] at hr
        cases hr
        simp only [Bool.and_eq_true] at hb
        rw [hst] at hs
        obtain ⟨v, w, rfl, h1, h2⟩ := hs.inv
        have := h2.nil
        subst this
        obtain ⟨x, rfl, hx⟩ := h1.int hb.1
        have b1 := dz_pf_ok hG.1 hx hb.2.1
        have b2 := dz_pf_ok hG.1 (dz_ok_sub (dz_ok_cst 1) hx) hb.2.2
        refine ⟨some (.inl x), [(0, .inl x)], ?_, hgo _ _ h1, _, rfl, rfl⟩
        have e : (decide (x = 0) || decide (x = 1)) = true := by
          by_cases e0 : x.toInt = 0
          · rw [decide_eq_true (Int32.toInt_inj.mp (by rw [e0]; rfl) : x = 0)]; rfl
          · rw [decide_eq_true (Int32.toInt_inj.mp (by rw [show x.toInt = 1 by omega]; rfl) : x = 1), Bool.or_true]
        show (bif decide (x = 0) || decide (x = 1) then some (some (Sum.inl x)) else none) = _
        rw [e]; rfl
    · rename_i a hst
      cases hb : (Nat.beq a.1 0 && (dz_pf S.2.1 (dz_ct hn 0) (dz_plus a.2.1 128) && dz_pf S.2.1 (dz_ct hn 1) (dz_sub (dz_cst 127) a.2.1))) with
      | false => rw [hb] at hr; cases hr
      | true =>
        rw [hb] at hr
        cases hr
        simp only [Bool.and_eq_true] at hb
        rw [hst] at hs
        obtain ⟨v, w, rfl, h1, h2⟩ := hs.inv
        have := h2.nil
        subst this
        obtain ⟨x, rfl, hx⟩ := h1.int hb.1
        have b1 := dz_pf_ok hG.1 (dz_ok_plus 128 hx) hb.2.1
        have b2 := dz_pf_ok hG.1 (dz_ok_sub (dz_ok_cst 127) hx) hb.2.2
        refine ⟨some (.inl x), [(0, .inl x)], ?_, hgo _ _ h1, _, rfl, rfl⟩
        show (bif decide (x.toInt8.toInt32 = x) then some (some (Sum.inl x)) else none) = _
        rw [decide_eq_true (dz_i2b_s (by omega) (by omega))]; rfl
    · rename_i a hst
      cases hb : (Nat.beq a.1 0 && (dz_pf S.2.1 (dz_ct hn 0) a.2.1 && dz_pf S.2.1 (dz_ct hn 1) (dz_sub (dz_cst 65535) a.2.1))) with
      | false => rw [hb] at hr; cases hr
      | true =>
        rw [hb] at hr
        cases hr
        simp only [Bool.and_eq_true] at hb
        rw [hst] at hs
        obtain ⟨v, w, rfl, h1, h2⟩ := hs.inv
        have := h2.nil
        subst this
        obtain ⟨x, rfl, hx⟩ := h1.int hb.1
        have b1 := dz_pf_ok hG.1 hx hb.2.1
        have b2 := dz_pf_ok hG.1 (dz_ok_sub (dz_ok_cst 65535) hx) hb.2.2
        refine ⟨some (.inl x), [(0, .inl x)], ?_, hgo _ _ h1, _, rfl, rfl⟩
        show (bif decide (x.toUInt32.toUInt16.toUInt32.toInt32 = x) then some (some (Sum.inl x)) else none) = _
        rw [decide_eq_true (dz_c16 b1 (by omega))]; rfl
    · cases hr
  case lreturn =>
    refine ⟨rfl, rfl, ?_⟩
    simp only [dz_rt] at hr
    split at hr
    · rename_i a hst
      cases hb : Nat.beq a.1 2 with
      | false => rw [hb] at hr; cases hr
      | true =>
        rw [hb] at hr
        cases hr
        rw [hst] at hs
        obtain ⟨v, w, rfl, h1, h2⟩ := hs.inv
        have := h2.nil
        subst this
        obtain ⟨x, rfl, hx⟩ := h1.long hb
        exact ⟨some (.inr (.inl x)), [(0, .inr (.inl x))], rfl, hgo _ _ h1, _, rfl, rfl⟩
    · cases hr
  case areturn =>
    refine ⟨rfl, rfl, ?_⟩
    simp only [dz_rt] at hr
    split at hr
    · rename_i a _ hst
      cases hb : Nat.beq a.1 3 with
      | false => rw [hb] at hr; cases hr
      | true =>
        rw [hb] at hr
        cases hr
        rw [hst] at hs
        obtain ⟨v, w, rfl, h1, h2⟩ := hs.inv
        have := h2.nil
        subst this
        obtain ⟨x, rfl, hx⟩ := h1.ref hb
        exact ⟨some (.inr (.inr x)), [(0, .inr (.inr x))], rfl, hgo _ _ h1, _, rfl, rfl⟩
    · rename_i a _ hst
      cases hb : Nat.beq a.1 3 with
      | false => rw [hb] at hr; cases hr
      | true =>
        rw [hb] at hr
        cases hr
        rw [hst] at hs
        obtain ⟨v, w, rfl, h1, h2⟩ := hs.inv
        have := h2.nil
        subst this
        obtain ⟨x, rfl, hx⟩ := h1.ref hb
        exact ⟨some (.inr (.inr x)), [(0, .inr (.inr x))], rfl, hgo _ _ h1, _, rfl, rfl⟩
    · cases hr
  all_goals (exact absurd hr (by simp [dz_rt]))
end DzRt
noncomputable def dz_hd (hn : dz_Hn) (n : Nat) : dz_Hn := (0, dz_drop hn.2.1 n, hn.2.2)
/-- into an end of the method -/
noncomputable def dz_end (sp : dz_Sp) (np : Nat) (S : dz_S) (k j : Nat) (hn : dz_Hn) : Bool := match dz_nth sp.2.2.2.1 j with
  | some al => Nat.beq al.1 k && (Nat.beq al.2.1 np && (dz_into al.2 S (dz_vars 0 np) hn).isSome)
  | none => false
/-- an exception made and thrown -/
noncomputable def dz_thr (T : dz_TT) (cf : dz_Cf) (k dn : Nat) (hn : dz_Hn) (S : dz_S) : Option dz_S := match T (cf.2.2.2.2.2.1 k) with
  | some ti => bif (Nat.beq ti.1 2 && (Nat.beq ti.2.1 k && Nat.blt k 5)) && ((!(Nat.beq (cf.2.2.2.2.2.1 k) 0) && (dz_room S (dz_ct hn 0) (dz_ct hn 1) (dz_cst 6) && cf.2.2.2.1 S (cf.2.2.2.2.2.1 k) hn)) && (Nat.ble 6 dn && Nat.ble (dz_cat2 S.2.2.2.1) 20)) then
      some (dz_lst (dz_nw S [] [] [] (dz_cst 6)) [(0, (3, dz_plus S.2.2.2.2.2.2.1 1, cf.2.2.2.2.2.1 k))]) else none
  | none => none
section DzThr
variable {T : dz_TT} {X : dz_X} {cf : dz_Cf} {S S' : dz_S} {ρ : Nat → Int} {τ : Nat → Nat} {h : cz_H} {L : List (Nat × cz_V)} {st : List cz_V} {md : dz_Md}
theorem dz_thr_ok (hC : dz_okC T X cf) {k d dn : Nat} {hn : dz_Hn} (hd : dn ≤ d) (hG : dz_G T X S ρ τ h L st) (ht : dz_thr T cf k dn hn S = some S') : (cz_room h 1 6 && Nat.ble 6 d && Nat.ble (cz_cat2 st) 20) = true ∧ ∃ τ', dz_G T X S' ρ τ' (cz_push h 6 (.inr (.inr k))) [(0, .inr (.inr (some h.1)))] [] ∧ S'.1 = S.1 ∧ dz_Fr md τ h τ' (cz_push h 6 (.inr (.inr k))) ∧ cz_exc (cz_push h 6 (.inr (.inr k))) h.1 = some k := by
  unfold dz_thr at ht
  split at ht
  · rename_i ti hti
    cases hb : ((Nat.beq ti.1 2 && (Nat.beq ti.2.1 k && Nat.blt k 5)) && ((!(Nat.beq (cf.2.2.2.2.2.1 k) 0) && (dz_room S (dz_ct hn 0) (dz_ct hn 1) (dz_cst 6) && cf.2.2.2.1 S (cf.2.2.2.2.2.1 k) hn)) && (Nat.ble 6 dn && Nat.ble (dz_cat2 S.2.2.2.1) 20))) with
    | false => rw [hb] at ht; cases ht
    | true =>
      rw [hb] at ht
      cases ht
      simp only [Bool.and_eq_true, Bool.not_eq_true'] at hb
      obtain ⟨⟨b1, b2, b3⟩, ⟨b4, b5, b6⟩, b7, b8⟩ := hb
      have h0 : cf.2.2.2.2.2.1 k ≠ 0 := fun e => by rw [e] at b4; cases b4
      have hroom := dz_room_ok hG (k := 6) (dz_ok_cst 6) b5
      have hX := hC.2.2.2.1 S ρ τ h L st 6 (cf.2.2.2.2.2.1 k) (.inr (.inr k)) hn hG h0 hroom (fun i v hv => by cases hv) b6
      have hgo := hG.new (n := 6) (as := []) (w := []) (Ms := []) (Ks := []) (ne := dz_cst 6) h0 hti (c := .inr (.inr k)) ⟨Nat.eq_of_beq_eq_true b1, (Nat.eq_of_beq_eq_true b2).symm⟩ (fun i v hv => by cases hv) hX (dz_ok_cst 6) trivial (fun m hm => by cases hm) (fun k hk => by cases hk)
      refine ⟨?_, dz_tn τ h.1 (cf.2.2.2.2.2.1 k), ⟨hgo.1.1, dz_lo1 (dz_new_ref hG h0), trivial, hgo.1.2.2.2⟩, rfl, dz_Fr.new hgo.2.1 hgo.2.2, ?_⟩
      · rw [hroom, Nat.ble_eq.mpr (by have := Nat.ble_eq.mp b7; omega : 6 ≤ d), dz_cat2_ok hG.2.2.1, b8]
        rfl
      · have hB := hgo.1.2.2.2.2.2.2.2
        have hh := (hB.1 h.1 (by unfold dz_tn; rw [if_pos rfl]; exact h0)).1
        unfold cz_exc
        rw [hh]
        show (match (if h.1 = h.1 then (Sum.inr (Sum.inr k) : cz_C) else h.2.2 h.1) with
          | .inr (.inr k) => bif Nat.blt k 5 then some k else none
          | _ => none) = some k
        rw [if_pos rfl]
        show (bif Nat.blt k 5 then some k else none) = some k
        rw [b3]
        rfl
  · cases ht
end DzThr
/-- over all of a list, what is told handed on -/
noncomputable def dz_seq {α : Type} (f : α → List dz_Hn → Option (List dz_Hn)) (R : List α) : List dz_Hn → Option (List dz_Hn) := List.rec (fun hs => some hs) (fun q _ ih hs => match f q hs with
  | some hs' => ih hs'
  | none => none) R
theorem dz_seq_ok {α : Type} {f : α → List dz_Hn → Option (List dz_Hn)} : ∀ {R : List α} {a b : List dz_Hn}, dz_seq f R a = some b → ∀ q ∈ R, ∃ x y, f q x = some y
  | [], a, b, h, q, hq => by cases hq
  | r :: R, a, b, h, q, hq => by
    have h : (match f r a with
      | some hs' => dz_seq f R hs'
      | none => none) = some b := h
    split at h
    · rename_i c hc
      rcases List.mem_cons.mp hq with rfl | hq
      · exact ⟨a, c, hc⟩
      · exact dz_seq_ok h q hq
    · cases h
abbrev dz_It : Type := Bool → Nat → dz_S → List dz_Hn → Option (List dz_Hn)
/-- all that stays the same in a piece: tags, config, program, own method, own spec, callees, cuts; unknowns at the start, rank at the start -/
abbrev dz_Ev : Type := (dz_TT × dz_Cf × cz_P) × (cz_M × dz_Sp × List dz_Sp × List dz_Cu) × Nat × Option dz_E
noncomputable def dz_isc (cu : List dz_Cu) (pc : Nat) : Bool := List.rec false (fun q _ ih => Nat.beq q.1 pc || ih) cu
noncomputable def dz_exi (E : dz_Ev) (pc : Nat) (S : dz_S) (hn : dz_Hn) : Bool := match dz_nth E.2.1.2.2.2 (Nat.sub hn.1 200) with
  | some c => bif Nat.beq c.1 pc && S.2.2.2.1.isEmpty then (match dz_into c.2.1 S (dz_vars 0 E.2.2.1) (dz_hd hn 2) with
    | some θ => (match dz_sb θ c.2.2 with
      | some e => dz_pf S.2.1 (dz_ct hn 0) e && (match E.2.2.2 with
        | none => true
        | some r => dz_pf S.2.1 (dz_ct hn 1) (dz_plus (dz_sub r e) (-1)))
      | none => false)
    | none => false) else false
  | none => false
noncomputable def dz_prs (E : dz_Ev) (ih : dz_It) (fst : Bool) (pc : Nat) (S : dz_S) (hn : dz_Hn) (hs : List dz_Hn) : Option (List dz_Hn) :=
  bif Nat.beq hn.1 110 then (match dz_fl (dz_num hn 2) S.2.2.1 with
    | some a => bif Nat.beq a.1 0 then (match dz_cmp2 S .le a.2.1 (dz_cst (.ofNat (dz_num hn 3))) 0 0 hn with
      | some R => dz_seq (fun q hs => ih fst pc q.2 hs) R hs
      | none => none) else none
    | none => none)
  else bif Nat.beq hn.1 111 then (bif dz_pf S.2.1 (dz_ct hn 0) (dz_cst (-1)) then some hs else none)
  else bif Nat.beq hn.1 107 then (match dz_ret E.1.1 E.1.2.1.2.2.2.2.2.2.1 hn S with
    | some S' => ih fst pc S' hs
    | none => none)
  else (match dz_pre E.1.1 E.1.2.1.1 E.1.2.1.2.1 E.1.2.1.2.2.2.2.2.2.2 hn S with
    | some S' => ih fst pc S' hs
    | none => none)
/-- one of a callee's ends -/
noncomputable def dz_alt (E : dz_Ev) (ih : dz_It) (pc : Nat) (S : dz_S) (θ : List dz_E) (md : dz_Md) (ar : List dz_A) (al : dz_Al) (hs : List dz_Hn) : Option (List dz_Hn) :=
  bif Nat.ble al.2.1 (dz_ini al.2).1 && Nat.beq al.2.1 θ.length then dz_fn (Nat.sub (dz_ini al.2).1 al.2.1) (fun m => dz_fn (Nat.add S.1 m) (fun n => match al.1 with
    | 0 => dz_fn (Nat.add pc 3) (fun p => ih false p (dz_aft S (θ ++ dz_vars S.1 m) al md n S.2.2.1 ar) hs)
    | 1 => (match dz_fl 0 (dz_ini al.2).2.2.1 with
      | some a => dz_fn (Nat.add pc 3) (fun p => ih false p (dz_aft S (θ ++ dz_vars S.1 m) al md n S.2.2.1 (dz_sbA (θ ++ dz_vars S.1 m) a :: ar)) hs)
      | none => none)
    | k + 2 => (match dz_fl 0 (dz_ini al.2).2.2.1, cz_catch E.2.1.1 pc k E.2.1.1.2.1.2.2.2 with
      | some a, some (some t) => dz_fn t (fun t => ih false t (dz_aft S (θ ++ dz_vars S.1 m) al md n S.2.2.1 [dz_sbA (θ ++ dz_vars S.1 m) a]) hs)
      | some a, some none => bif E.2.1.1.2.1.2.2.2.isEmpty then (match hs with
        | hn :: hs => bif Nat.beq hn.1 111 then (bif dz_pf (dz_aft S (θ ++ dz_vars S.1 m) al md n [(0, dz_sbA (θ ++ dz_vars S.1 m) a)] []).2.1 (dz_ct hn 0) (dz_cst (-1)) then some hs else none) else bif dz_end E.2.1.2.1 E.2.2.1 (dz_aft S (θ ++ dz_vars S.1 m) al md n [(0, dz_sbA (θ ++ dz_vars S.1 m) a)] []) (k + 2) (Nat.sub hn.1 300) hn then some hs else none
        | [] => none) else none
      | _, _ => none))) else none
noncomputable def dz_cl (E : dz_Ev) (ih : dz_It) (i : Instr) (len pc : Nat) (S : dz_S) (hn : dz_Hn) (hs : List dz_Hn) : Option (List dz_Hn) := match dz_nth E.2.1.2.2.1 (Nat.sub hn.1 400), dz_cal E.1.1 i E.2.1.1 hn S with
  | some sp, some (y, aas, ar) => (match E.1.2.2.1[y]? with
    | some M' => bif (Nat.beq len 3 && (Nat.beq y sp.1 && Nat.blt sp.2.1 E.2.1.2.1.2.1)) && ((Nat.ble (Nat.add (dz_cat2 ar) (Nat.add M'.2.1.2.1 11)) 100 && Nat.ble (dz_cat2 aas) M'.2.1.2.1) && dz_mds sp.2.2.2.2 E.2.1.2.1.2.2.2.2) then
        (match dz_into sp.2.2.1 (dz_lst S (dz_argl aas 0)) [] (dz_hd hn 1) with
        | some θ => dz_seq (fun al hs => dz_alt E ih pc S θ sp.2.2.2.2 ar al hs) sp.2.2.2.1 hs
        | none => none) else none
    | none => none)
  | _, _ => none
noncomputable def dz_inn (E : dz_Ev) (ih : dz_It) (i : Instr) (len pc : Nat) (S : dz_S) (hn : dz_Hn) (hs : List dz_Hn) : Option (List dz_Hn) :=
  bif Nat.ble 400 hn.1 then dz_cl E ih i len pc S hn hs
  else bif Nat.ble 300 hn.1 then (bif Nat.beq len (cz_len i) then (match cz_throw E.2.1.1 pc i with
      | some k => (match dz_thr E.1.1 E.1.2.1 k E.2.1.2.1.2.1 hn S with
        | some S' => bif dz_end E.2.1.2.1 E.2.2.1 S' (k + 2) (Nat.sub hn.1 300) (dz_hd hn 2) then some hs else none
        | none => none)
      | none => (match dz_rt i E.2.1.1.2.1.2.2.1 hn S with
        | some (k, l) => bif dz_end E.2.1.2.1 E.2.2.1 (dz_lst S l) k (Nat.sub hn.1 300) (dz_hd hn 2) then some hs else none
        | none => none)) else none)
  else (match dz_suc E.1.1 E.1.2.1 E.1.2.2 E.2.1.1 E.2.1.2.1.2.2.2.2 E.2.1.2.1.2.1 i len pc hn S with
    | some R => dz_seq (fun q hs => ih false q.1 q.2 hs) R hs
    | none => none)
noncomputable def dz_ck1 (E : dz_Ev) (ih : dz_It) (fst : Bool) (pc : Nat) (S : dz_S) (hs : List dz_Hn) : Option (List dz_Hn) :=
  bif !fst && dz_isc E.2.1.2.2.2 pc then (match hs with
    | hn :: hs => bif Nat.ble 200 hn.1 then (bif dz_exi E pc S hn then some hs else none) else dz_prs E ih fst pc S hn hs
    | [] => none)
  else (match cz_code E.2.1.1 pc with
    | some (i, len) => (match dz_n0 E.1.2.1 E.2.1.1 i pc len S with
      | some q => ih false q.1 q.2 hs
      | none => (match hs with
        | hn :: hs => bif Nat.ble 100 hn.1 && Nat.blt hn.1 200 then dz_prs E ih fst pc S hn hs else dz_inn E ih i len pc S hn hs
        | [] => none))
    | none => none)
noncomputable def dz_ck (E : dz_Ev) (n : Nat) : dz_It := Nat.rec (fun _ _ _ _ => none) (fun _ ih => dz_ck1 E ih) n
