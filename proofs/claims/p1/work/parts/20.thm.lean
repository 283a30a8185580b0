/-! Soundness, the theorem. -/
def px_allA : Prop := ∀ t : ArrayType, ∀ n : Nat, px_atn t = some n → px_in (.arrayClass (newarray.typeOf t))
section PxThm
variable {p : Program} {l : Launch} {e : Env} {R : Room} {s : State} {m : MethodId} {args : Array Value} {below : List Frame} {meth : Method} {c : Code} {H : Heap} {locs : List Loc} {cells slots : Nat} {Q : State → Prop}
variable {K : px_K} {E : px_E} {M : px_M} {d C0 S0 pc : Nat} {ls : Array Slot} {h : px_H} {g : px_G} {st : List px_V} {S : px_N}
theorem px_hp_ok (hC : px_allC) (hA : px_allA) (X : px_Cx p e R s m meth c K E M d C0 S0) (hM : px_okM M) (hsz : ls.size = M.2.1.2.1) {i : Instr} (hd : decode M.2.1.1 pc = .ok (i, px_len i)) {f : px_P → px_M → Nat → Nat → List px_V → px_H → px_G → Option px_N} (hi : px_hpB i = some f) (hf : f px_pg M d pc st h g = some S)
    (hP : px_HP px_cl K E h H) (hG : px_Gok E.1 g) (hL : ∀ y ∈ locs, E.2.2 ≤ y.base) (hc : C0 + cells = h.1) (hs : S0 + slots = h.2.1) (k : px_Go p l e R s m args below meth c Q K E C0 S0 ls S) :
    W p l e R s m args below meth c H locs cells slots Q (F0 m pc ls (st.map (px_v E))) := by
  cases i
  case getfield x => cases hi; exact px_get_ok hC X hM hd hf hP hG hL hc hs k
  case putfield x => cases hi; exact px_put_ok hC X hM hd hf hP hG hL hc hs k
  case new x => cases hi; exact px_new_ok hC X hM hd hf hP hG hL hc hs k
  case newarray t =>
    cases hi
    refine px_na_ok X ?_ hd hf hP hG hL hc hs k
    cases ht : px_atn t with
    | some n => exact hA t n ht
    | none =>
      exfalso
      have hf : px_hna px_pg t pc st h g = some S := hf
      unfold px_hna at hf
      split at hf
      · rw [ht] at hf; cases hf
      · cases hf
  case anewarray x => cases hi; exact px_nq_ok X hM hd hf hP hG hL hc hs k
  case multianewarray x y => cases hi; exact px_mul_ok X hM hd hf hP hG hL hc hs k
  case arraylength => cases hi; exact px_len_ok X hd hf hP hG hL hc hs k
  case iaload => cases hi; exact px_ial_ok X hd hf hP hG hL hc hs k
  case laload => cases hi; exact px_lal_ok X hd hf hP hG hL hc hs k
  case aaload => cases hi; exact px_aal_ok X hd hf hP hG hL hc hs k
  case iastore => cases hi; exact px_hst_ok hC X (Or.inl ⟨rfl, rfl⟩) hd hf hP hG hL hc hs k
  case bastore => cases hi; exact px_hst_ok hC X (Or.inr (Or.inl ⟨rfl, rfl⟩)) hd hf hP hG hL hc hs k
  case lastore => cases hi; exact px_hst_ok hC X (Or.inr (Or.inr (Or.inl ⟨rfl, rfl⟩))) hd hf hP hG hL hc hs k
  case aastore => cases hi; exact px_hst_ok hC X (Or.inr (Or.inr (Or.inr ⟨rfl, rfl⟩))) hd hf hP hG hL hc hs k
  case ldc x => cases hi; exact px_ldc_ok X hM hd hf hP hG hL hc hs k
  case invokespecial x => cases hi; exact px_obj0_ok X hM hsz hd hf hP hG hL hc hs k
  case invokestatic x => cases hi; exact px_cpy_ok X hM hsz hd hf hP hG hL hc hs k
  all_goals (exact absurd hi (by simp [px_hpB]))
theorem px_call_len {i : Instr} {f : px_M → List px_V → px_H → Option (Nat × List px_V × List px_V)} (h : px_callB i = some f) : px_len i = 3 := by
  cases i <;> first | rfl | (exact absurd h (by simp [px_callB]))
theorem px_isw_ok {i : Instr} (h : px_isw i = true) : (∃ a b c d, i = .tableswitch a b c d) ∨ ∃ a b, i = .lookupswitch a b := by
  cases i <;> first | (exact Or.inl ⟨_, _, _, _, rfl⟩) | (exact Or.inr ⟨_, _, rfl⟩) | (exact absurd h (by simp [px_isw]))
theorem px_sound (hC : px_allC) (hA : px_allA) (hX : px_allX) (hAll : px_allM) : ∀ n, px_IH n
  | 0 => fun d M pc L st h g lv hx => by cases hx
  | n + 1 => by
    intro d M pc L st h g lv hx hM p l e R s m args below meth c H locs cells slots ls K E C0 S0 X hl hP hG hL hc hs
    have hn := px_sound hC hA hX hAll n
    have hx1 : px_s1 px_pg (px_x px_pg n) d M pc L st h g (px_code M pc) = some lv := hx
    unfold px_s1 at hx1
    split at hx1
    · rename_i i len hcode
      have hd : decode M.2.1.1 pc = .ok (i, len) := hM.1 pc _ hcode
      have hb : c.code = M.2.1.1 := X.2.2.1
      have h6 : E.1 6 = E.1 0 &&& 31 := X.2.2.2.2.2.2.2.2.2.1.2.2.2.2.2.2.2.2.2.2.2
      split at hx1
      · rename_i f hf
        cases hlen : Nat.beq len (px_len i) with
        | false => rw [hlen] at hx1; cases hx1
        | true =>
          rw [hlen] at hx1
          have hlen := Nat.eq_of_beq_eq_true hlen
          subst hlen
          have hx2 : px_sP (px_x px_pg n) d M pc (px_len i) h g (f M.2.1.2.1 g L st) = some lv := hx1
          rw [px_pureB_ok i hf] at hx2
          unfold px_sP at hx2
          split at hx2
          · rename_i L' st' hp
            exact px_pure_ok X.1 hb hd h6 hG hl hp (fun ls' hl' => hn d M (pc + px_len i) L' st' h g lv hx2 hM p l e R s m args below meth c H locs cells slots ls' K E C0 S0 X hl' hP hG hL hc hs)
          · cases hx2
      · have hx2 : px_s2 px_pg (px_x px_pg n) d M pc L st h g i len = some lv := hx1
        unfold px_s2 at hx2
        split at hx2
        · rename_i f hf
          cases hlen : (Nat.beq len (px_len i) || px_isw i) with
          | false => rw [hlen] at hx2; cases hx2
          | true =>
            rw [hlen] at hx2
            have hx3 : px_sB (px_x px_pg n) d M L h (f pc st g) = some lv := hx2
            rw [px_brB_ok i hf] at hx3
            unfold px_sB at hx3
            split at hx3
            · rename_i S' hS
              refine px_br_ok X.1 hb hd ?_ hG hS (fun q hq hg => ?_)
              · simp only [Bool.or_eq_true] at hlen
                rcases hlen with hlen | hlen
                · exact Or.inl (Nat.eq_of_beq_eq_true hlen).symm
                · exact Or.inr (px_isw_ok hlen)
              · obtain ⟨lq, h1, h2⟩ := px_alln_ok hx3 q hq
                exact px_Wmono (fun t ht => ht.mono h2) (hn d M q.1 L q.2.1 h q.2.2 lq h1 hM p l e R s m args below meth c H locs cells slots ls K E C0 S0 X hl hP hg hL hc hs)
            · cases hx3
        · cases hlen : Nat.beq len (px_len i) with
          | false => rw [hlen] at hx2; cases hx2
          | true =>
            rw [hlen] at hx2
            have hlen := Nat.eq_of_beq_eq_true hlen
            subst hlen
            simp only [cond_true] at hx2
            split at hx2
            · rename_i f hf
              split at hx2
              · rename_i v hv
                cases hx2
                exact px_ret_ok X hd hf hv hP hG hL hc hs
              · cases hx2
            · have hx3 : px_s3 px_pg (px_x px_pg n) d M pc L st h g i = some lv := hx2
              have hcall : px_s4 px_pg (px_x px_pg n) d M pc L st h g i = some lv → W p l e R s m args below meth c H locs cells slots (px_Q K E C0 S0 s below lv) (F0 m pc ls (st.map (px_v E))) := by
                intro h4
                unfold px_s4 at h4
                split at h4
                · rename_i f hf
                  rw [px_call_len hf] at hd
                  exact px_call_ok hn hAll X hM hl hd hf h4 hP hG hL hc hs
                · cases h4
              unfold px_s3 at hx3
              split at hx3
              · rename_i kx hk
                cases hroom : (px_room h 1 6 && Nat.ble 6 d && Nat.ble (px_cat2 st) 20) with
                | false => rw [hroom] at hx3; cases hx3
                | true =>
                  rw [hroom] at hx3
                  have hx4 : some [(g, .inr h.1, px_push h 6 (.inr (.inr kx)))] = some lv := hx3
                  cases hx4
                  exact px_throw_ok hX X hM hl.1 hd hk hroom hP hG hL hc hs
              · split at hx3
                · rename_i f hf
                  split at hx3
                  · rename_i S' hS
                    refine px_hp_ok hC hA X hM hl.1 hd hf hS hP hG hL hc hs (fun q hq H' locs' cells' slots' hP' hG' hL' hc' hs' => ?_)
                    obtain ⟨lq, h1, h2⟩ := px_alln_ok hx3 q hq
                    exact px_Wmono (fun t ht => ht.mono h2) (hn d M q.1 L q.2.1 q.2.2.1 q.2.2.2 lq h1 hM p l e R s m args below meth c H' locs' cells' slots' ls K E C0 S0 X hl hP' hG' hL' hc' hs')
                  · exact hcall hx3
                · exact hcall hx3
    · cases hx1
end PxThm
