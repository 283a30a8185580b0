/-! L1's soundness, the theorem: what the run says, the machine does. -/
def cz_allA : Prop := ∀ t : ArrayType, ∀ n : Nat, cz_atn t = some n → px_in (.arrayClass (newarray.typeOf t))
/-- String.checkIndex does nothing where the index is good -/
def cz_okI : Prop := ∀ {p : Program} {l : Launch} {e : Env} {R : Room} {s : State} {m : MethodId} {args : Array Value} {below : List Frame} {meth : Method} {c : Code} {H : Heap} {locs : List Loc} {cells slots : Nat} {Q : State → Prop}
  {K : cz_K} {E : cz_E} {M : cz_M} {d C0 S0 pc : Nat} {ls : Array Slot} {h : cz_H} {st : List cz_V} {S : cz_N} (_ : cz_Cx p e R s m meth c K E M d C0 S0) (_ : cz_okM M) {x : Nat} (_ : ls.size = M.2.1.2.1) (_ : decode M.2.1.1 pc = .ok (.invokestatic x, 3)) (_ : cz_hci M d x pc st h = some S)
  (_ : cz_HP cz_cl K E h H) (_ : ∀ y ∈ locs, E.2 ≤ y.base) (_ : C0 + cells = h.1) (_ : S0 + slots = h.2.1) (_ : cz_Go p l e R s m args below meth c Q K E C0 S0 ls S),
  W p l e R s m args below meth c H locs cells slots Q (F0 m pc ls (st.map (cz_v E)))
section CzThm
variable {p : Program} {l : Launch} {e : Env} {R : Room} {s : State} {m : MethodId} {args : Array Value} {below : List Frame} {meth : Method} {c : Code} {H : Heap} {locs : List Loc} {cells slots : Nat} {Q : State → Prop}
variable {K : cz_K} {E : cz_E} {M : cz_M} {d C0 S0 pc : Nat} {ls : Array Slot} {h : cz_H} {st : List cz_V} {S : cz_N}
theorem cz_hp_ok (hI : cz_okI) (hC : cz_allC) (hA : cz_allA) (X : cz_Cx p e R s m meth c K E M d C0 S0) (hM : cz_okM M) (hsz : ls.size = M.2.1.2.1) {i : Instr} (hd : decode M.2.1.1 pc = .ok (i, cz_len i)) (hf : cz_hp cz_pg M d pc st h i = some S)
    (hP : cz_HP cz_cl K E h H) (hL : ∀ y ∈ locs, E.2 ≤ y.base) (hc : C0 + cells = h.1) (hs : S0 + slots = h.2.1) (k : cz_Go p l e R s m args below meth c Q K E C0 S0 ls S) :
    W p l e R s m args below meth c H locs cells slots Q (F0 m pc ls (st.map (cz_v E))) := by
  cases i
  case getfield x => exact cz_get_ok hC X hM hd hf hP hL hc hs k
  case putfield x => exact cz_put_ok hC X hM hd hf hP hL hc hs k
  case new x => exact cz_new_ok hC X hM hd hf hP hL hc hs k
  case newarray t =>
    refine cz_na_ok X ?_ hd hf hP hL hc hs k
    cases ht : cz_atn t with
    | some n => exact hA t n ht
    | none =>
      exfalso
      have hf : cz_hna cz_pg t pc st h = some S := hf
      unfold cz_hna at hf
      split at hf
      · rw [ht] at hf; cases hf
      · cases hf
  case anewarray x => exact cz_nq_ok X hM hd hf hP hL hc hs k
  case arraylength => exact cz_len_ok X hd hf hP hL hc hs k
  case iaload => exact cz_ial_ok X hd hf hP hL hc hs k
  case baload => exact cz_bal_ok X hd hf hP hL hc hs k
  case laload => exact cz_lal_ok X hd hf hP hL hc hs k
  case aaload => exact cz_aal_ok X hd hf hP hL hc hs k
  case iastore => exact cz_ist_ok X hd hf hP hL hc hs k
  case bastore => exact cz_bst_ok X hd hf hP hL hc hs k
  case lastore => exact cz_lst_ok X hd hf hP hL hc hs k
  case aastore => exact cz_ast_ok X hd hf hP hL hc hs k
  case ldc x => exact cz_ldc_ok X hM hd hf hP hL hc hs k
  case ldc_w x => exact cz_ldcW_ok X hM hd hf hP hL hc hs k
  case ldc2_w x => exact cz_ldc2_ok X hM hd hf hP hL hc hs k
  case getstatic x => exact cz_gs_ok X hM hd hf hP hL hc hs k
  case invokespecial x => exact cz_obj0_ok X hM hsz hd hf hP hL hc hs k
  case invokestatic x =>
    have hf : (match cz_hcpy M d x pc st h with
      | some q => some q
      | none => cz_hci M d x pc st h) = some S := hf
    cases h1 : cz_hcpy M d x pc st h with
    | some q =>
      rw [h1] at hf
      cases hf
      exact cz_cpy_ok X hM hsz hd h1 hP hL hc hs k
    | none =>
      rw [h1] at hf
      exact hI X hM hsz hd hf hP hL hc hs k
  case invokevirtual x => exact cz_hcl_ok X hM hsz hd hf hP hL hc hs k
  case checkcast x => exact cz_hcc_ok X hM hd hf hP hL hc hs k
  all_goals (exact absurd hf (by simp [cz_hp]))
theorem cz_call_len {i : Instr} {h : cz_H} {q : Nat × List cz_V × List cz_V} (h : cz_call i M st h = some q) : cz_len i = 3 := by
  cases i <;> first | rfl | (exact absurd h (by simp [cz_call]))
theorem cz_isw_ok {i : Instr} (h : cz_isw i = true) : (∃ a b c d, i = .tableswitch a b c d) ∨ ∃ a b, i = .lookupswitch a b := by
  cases i <;> first | (exact Or.inl ⟨_, _, _, _, rfl⟩) | (exact Or.inr ⟨_, _, rfl⟩) | (exact absurd h (by simp [cz_isw]))
theorem cz_sound (hI : cz_okI) (hC : cz_allC) (hA : cz_allA) (hX : px_allX) (hAll : cz_allM) : ∀ n, cz_IH n
  | 0 => fun d M pc L st h lv hx => by cases hx
  | n + 1 => by
    intro d M pc L st h lv hx hM p l e R s m args below meth c H locs cells slots ls K E C0 S0 X hl hP hL hc hs
    have hn := cz_sound hI hC hA hX hAll n
    have hx1 : (match cz_code M pc with
      | some (i, len) => cz_s cz_pg (cz_x cz_pg n) d M pc L st h i len
      | none => none) = some lv := hx
    split at hx1
    · rename_i i len hcode
      have hd : decode M.2.1.1 pc = .ok (i, len) := hM.1 pc _ hcode
      have hb : c.code = M.2.1.1 := X.2.2.1
      unfold cz_s at hx1
      split at hx1
      · rename_i q hp
        cases hlen : Nat.beq len (cz_len i) with
        | false => rw [hlen] at hx1; cases hx1
        | true =>
          rw [hlen] at hx1
          have hlen := Nat.eq_of_beq_eq_true hlen
          subst hlen
          exact cz_pure_ok X.1 hb hd hl hp (fun ls' hl' => hn d M (pc + cz_len i) q.1 q.2 h lv hx1 hM p l e R s m args below meth c H locs cells slots ls' K E C0 S0 X hl' hP hL hc hs)
      · split at hx1
        · rename_i q hS
          cases hlen : (Nat.beq len (cz_len i) || cz_isw i) with
          | false => rw [hlen] at hx1; cases hx1
          | true =>
            rw [hlen] at hx1
            refine cz_br_ok X.1 hb hd ?_ hS (hn d M q.1 L q.2 h lv hx1 hM p l e R s m args below meth c H locs cells slots ls K E C0 S0 X hl hP hL hc hs)
            simp only [Bool.or_eq_true] at hlen
            rcases hlen with hlen | hlen
            · exact Or.inl (Nat.eq_of_beq_eq_true hlen).symm
            · exact Or.inr (cz_isw_ok hlen)
        · cases hlen : Nat.beq len (cz_len i) with
          | false => rw [hlen] at hx1; cases hx1
          | true =>
            rw [hlen] at hx1
            have hlen := Nat.eq_of_beq_eq_true hlen
            subst hlen
            simp only [cond_true] at hx1
            split at hx1
            · rename_i v hv
              cases hx1
              exact cz_ret_ok X hd hv hP hL hc hs
            · split at hx1
              · rename_i kx hk
                cases hroom : (cz_room h 1 6 && Nat.ble 6 d && Nat.ble (cz_cat2 st) 20) with
                | false => rw [hroom] at hx1; cases hx1
                | true =>
                  rw [hroom] at hx1
                  have hx4 : some (.inr h.1, cz_push h 6 (.inr (.inr kx))) = some lv := hx1
                  cases hx4
                  exact cz_throw_ok hX X hM hl.1 hd hk hroom hP hL hc hs
              · split at hx1
                · rename_i q hS
                  exact cz_hp_ok hI hC hA X hM hl.1 hd hS hP hL hc hs (fun H' locs' cells' slots' hP' hL' hc' hs' => hn d M q.1 L q.2.1 q.2.2 lv hx1 hM p l e R s m args below meth c H' locs' cells' slots' ls K E C0 S0 X hl hP' hL' hc' hs')
                · cases hcall : cz_call i M st h with
                  | none => rw [hcall] at hx1; cases hx1
                  | some q =>
                    have h3 := cz_call_len hcall
                    rw [h3] at hd
                    exact cz_call_ok hn hAll X hM hl hd hx1 hP hL hc hs
    · cases hx1
end CzThm
