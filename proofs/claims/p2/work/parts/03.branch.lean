/-! A machine of plain values, part 2: branches and switches. -/
noncomputable def cz_to (pc : Nat) (off : Int) : Option Nat := bif decide (0 ≤ (pc : Int) + off) then some ((pc : Int) + off).toNat else none
theorem cz_to_ok {pc : Nat} {off : Int} {t : Nat} (h : cz_to pc off = some t) : (pc : Int) + off = (t : Int) := by
  unfold cz_to at h
  by_cases q : 0 ≤ (pc : Int) + off
  · rw [decide_eq_true q] at h
    have h1 : ((pc : Int) + off).toNat = t := Option.some.inj h
    omega
  · rw [decide_eq_false q] at h
    cases h
noncomputable def cz_cd (c : ClassFile.Cond) (a b : Int32) : Bool := match c with
  | .eq => decide (a = b)
  | .ne => !decide (a = b)
  | .lt => decide (a < b)
  | .ge => decide (b ≤ a)
  | .gt => decide (b < a)
  | .le => decide (a ≤ b)
/-- are two references one: told of made cells and null alone -/
noncomputable def cz_same (a b : Option Nat) : Option Bool := match a, b with
  | none, none => some true
  | none, some r => some false
  | some r, none => some false
  | some r, some q => bif Nat.ble 192 r && Nat.ble 192 q then some (Nat.beq r q) else none
noncomputable def cz_tab (dflt lo hi : Int) (offs : Array Int) (n : Int) : Option Int := bif decide (n < lo) || decide (hi < n) then some dflt else offs[(n - lo).toNat]?
noncomputable def cz_lookup (dflt : Int) (ps : Array (Int × Int)) (n : Int) : Option Int := bif (ps.toList.zip (ps.toList.drop 1)).all (fun (a, next) => a.1 < next.1) then some (Op.lookupswitch.offset ps.toList dflt n) else none
noncomputable def cz_br (i : Instr) (pc : Nat) (st : List cz_V) : Option (Nat × List cz_V) := match i with
  | .ifCond cd off => match st with
    | .inl a :: r => match cz_to pc off with
      | some t => some (bif cz_cd cd a 0 then t else pc + 3, r)
      | none => none
    | _ => none
  | .if_icmp cd off => match st with
    | .inl b :: .inl a :: r => match cz_to pc off with
      | some t => some (bif cz_cd cd a b then t else pc + 3, r)
      | none => none
    | _ => none
  | .if_acmp eq off => match st with
    | .inr (.inr b) :: .inr (.inr a) :: r => match cz_to pc off, cz_same a b with
      | some t, some y => match eq with
        | .eq => some (bif y then t else pc + 3, r)
        | .ne => some (bif y then pc + 3 else t, r)
      | _, _ => none
    | _ => none
  | .goto off => match cz_to pc off with
    | some t => some (t, st)
    | none => none
  | .ifnull off => match st with
    | .inr (.inr none) :: r => match cz_to pc off with
      | some t => some (t, r)
      | none => none
    | .inr (.inr (some _)) :: r => some (pc + 3, r)
    | _ => none
  | .ifnonnull off => match st with
    | .inr (.inr (some _)) :: r => match cz_to pc off with
      | some t => some (t, r)
      | none => none
    | .inr (.inr none) :: r => some (pc + 3, r)
    | _ => none
  | .tableswitch dflt lo hi offs => match st with
    | .inl a :: r => match cz_tab dflt lo hi offs a.toInt with
      | some off => match cz_to pc off with
        | some t => some (t, r)
        | none => none
      | none => none
    | _ => none
  | .lookupswitch dflt ps => match st with
    | .inl a :: r => match cz_lookup dflt ps a.toInt with
      | some off => match cz_to pc off with
        | some t => some (t, r)
        | none => none
      | none => none
    | _ => none
  | _ => none
theorem cz_ad_inj (E : cz_E) {r q : Nat} (h : 192 ≤ r) (h1 : 192 ≤ q) (e : cz_ad E r = cz_ad E q) : r = q := by
  unfold cz_ad at e
  rw [if_neg (by omega), if_neg (by omega)] at e
  omega
theorem cz_rf (E : cz_E) (a : Option Nat) : cz_v E (.inr (.inr a)) = va_rf (a.map (cz_ad E)) := by
  cases a <;> rfl
theorem cz_same_ok (E : cz_E) {a b : Option Nat} {y : Bool} (h : cz_same a b = some y) : (y = true ↔ a.map (cz_ad E) = b.map (cz_ad E)) := by
  cases a with
  | none => cases b with
    | none => cases h; simp
    | some r => cases h; simp
  | some r => cases b with
    | none => cases h; simp
    | some q =>
      cases hn : (Nat.ble 192 r && Nat.ble 192 q) with
      | false => simp only [cz_same, hn, cond_false] at h; cases h
      | true =>
        simp only [cz_same, hn, cond_true, Option.some.injEq] at h
        simp only [Bool.and_eq_true, Nat.ble_eq] at hn
        subst h
        rw [Nat.beq_eq]
        constructor
        · intro w; rw [w]
        · intro w; exact cz_ad_inj E hn.1 hn.2 (Option.some.inj w)
section CzBr
variable {p : Program} {l : Launch} {e : Env} {R : Room} {s : State} {m : MethodId} {args : Array Value} {below : List Frame} {meth : Method} {c : Code} {H : Heap} {locs : List Loc} {cells slots : Nat} {Q : State → Prop}
variable {cc : ByteArray} {pc pc' : Nat} {ls : Array Slot} {E : cz_E} {st st' : List cz_V}
set_option maxHeartbeats 4000000 in
theorem cz_br_ok (hx : p.tables.exec = Jvm.exec) (hb : c.code = cc) {i : Instr} {len : Nat} (hd : decode cc pc = .ok (i, len)) (hlen : cz_len i = len ∨ (∃ a b c d, i = .tableswitch a b c d) ∨ ∃ a b, i = .lookupswitch a b) (hp : cz_br i pc st = some (pc', st'))
    (k : W p l e R s m args below meth c H locs cells slots Q (F0 m pc' ls (st'.map (cz_v E)))) : W p l e R s m args below meth c H locs cells slots Q (F0 m pc ls (st.map (cz_v E))) := by
  cases i
  case ifCond cd off =>
    have hlen : (3 : Nat) = len := by rcases hlen with h | ⟨_, _, _, _, h⟩ | ⟨_, _, h⟩ <;> first | exact h | cases h
    subst hlen
    simp only [cz_br] at hp
    split at hp
    · rename_i a r
      split at hp
      · rename_i t ht
        have ht := cz_to_ok ht
        cases cd
        · refine lv_if_eq hx hb hd ht (fun q => ?_) (fun q => ?_)
          · rw [show cz_cd .eq a 0 = true from decide_eq_true q] at hp; cases hp; exact k
          · rw [show cz_cd .eq a 0 = false from decide_eq_false q] at hp; cases hp; exact k
        · refine lv_if_ne hx hb hd ht (fun q => ?_) (fun q => ?_)
          · rw [show cz_cd .ne a 0 = true by show (!decide (a = 0)) = true; rw [decide_eq_false q]; rfl] at hp; cases hp; exact k
          · rw [show cz_cd .ne a 0 = false by show (!decide (a = 0)) = false; rw [decide_eq_true q]; rfl] at hp; cases hp; exact k
        · refine lv_if_lt hx hb hd ht (fun q => ?_) (fun q => ?_)
          · rw [show cz_cd .lt a 0 = true from decide_eq_true q] at hp; cases hp; exact k
          · rw [show cz_cd .lt a 0 = false from decide_eq_false q] at hp; cases hp; exact k
        · refine lv_if_ge hx hb hd ht (fun q => ?_) (fun q => ?_)
          · rw [show cz_cd .ge a 0 = true from decide_eq_true q] at hp; cases hp; exact k
          · rw [show cz_cd .ge a 0 = false from decide_eq_false q] at hp; cases hp; exact k
        · refine lv_if_gt hx hb hd ht (fun q => ?_) (fun q => ?_)
          · rw [show cz_cd .gt a 0 = true from decide_eq_true q] at hp; cases hp; exact k
          · rw [show cz_cd .gt a 0 = false from decide_eq_false q] at hp; cases hp; exact k
        · refine lv_if_le hx hb hd ht (fun q => ?_) (fun q => ?_)
          · rw [show cz_cd .le a 0 = true from decide_eq_true q] at hp; cases hp; exact k
          · rw [show cz_cd .le a 0 = false from decide_eq_false q] at hp; cases hp; exact k
      · cases hp
    · cases hp
  case if_icmp cd off =>
    have hlen : (3 : Nat) = len := by rcases hlen with h | ⟨_, _, _, _, h⟩ | ⟨_, _, h⟩ <;> first | exact h | cases h
    subst hlen
    simp only [cz_br] at hp
    split at hp
    · rename_i b a r
      split at hp
      · rename_i t ht
        have ht := cz_to_ok ht
        cases cd
        · refine lv_icmp_eq hx hb hd ht (fun q => ?_) (fun q => ?_)
          · rw [show cz_cd .eq a b = true from decide_eq_true q] at hp; cases hp; exact k
          · rw [show cz_cd .eq a b = false from decide_eq_false q] at hp; cases hp; exact k
        · refine lv_icmp_ne hx hb hd ht (fun q => ?_) (fun q => ?_)
          · rw [show cz_cd .ne a b = true by show (!decide (a = b)) = true; rw [decide_eq_false q]; rfl] at hp; cases hp; exact k
          · rw [show cz_cd .ne a b = false by show (!decide (a = b)) = false; rw [decide_eq_true q]; rfl] at hp; cases hp; exact k
        · refine lv_icmp_lt hx hb hd ht (fun q => ?_) (fun q => ?_)
          · rw [show cz_cd .lt a b = true from decide_eq_true q] at hp; cases hp; exact k
          · rw [show cz_cd .lt a b = false from decide_eq_false q] at hp; cases hp; exact k
        · refine lv_icmp_ge hx hb hd ht (fun q => ?_) (fun q => ?_)
          · rw [show cz_cd .ge a b = true from decide_eq_true q] at hp; cases hp; exact k
          · rw [show cz_cd .ge a b = false from decide_eq_false q] at hp; cases hp; exact k
        · refine lv_icmp_gt hx hb hd ht (fun q => ?_) (fun q => ?_)
          · rw [show cz_cd .gt a b = true from decide_eq_true q] at hp; cases hp; exact k
          · rw [show cz_cd .gt a b = false from decide_eq_false q] at hp; cases hp; exact k
        · refine lv_icmp_le hx hb hd ht (fun q => ?_) (fun q => ?_)
          · rw [show cz_cd .le a b = true from decide_eq_true q] at hp; cases hp; exact k
          · rw [show cz_cd .le a b = false from decide_eq_false q] at hp; cases hp; exact k
      · cases hp
    · cases hp
  case if_acmp eq off =>
    have hlen : (3 : Nat) = len := by rcases hlen with h | ⟨_, _, _, _, h⟩ | ⟨_, _, h⟩ <;> first | exact h | cases h
    subst hlen
    simp only [cz_br] at hp
    split at hp
    · rename_i b a r
      split at hp
      · rename_i t y ht hy
        have ht := cz_to_ok ht
        have hs := cz_same_ok E hy
        simp only [List.map_cons, cz_rf]
        cases eq
        · refine lv_acmp_eq hx hb hd ht (fun q => ?_) (fun q => ?_)
          · rw [hs.mpr q] at hp; cases hp; exact k
          · rw [Bool.eq_false_iff.mpr (fun w => q (hs.mp w))] at hp; cases hp; exact k
        · refine lv_acmp_ne hx hb hd ht (fun q => ?_) (fun q => ?_)
          · rw [Bool.eq_false_iff.mpr (fun w => q (hs.mp w))] at hp; cases hp; exact k
          · rw [hs.mpr q] at hp; cases hp; exact k
      · cases hp
    · cases hp
  case goto off =>
    have hlen : (3 : Nat) = len := by rcases hlen with h | ⟨_, _, _, _, h⟩ | ⟨_, _, h⟩ <;> first | exact h | cases h
    subst hlen
    simp only [cz_br] at hp
    split at hp
    · rename_i t ht
      cases hp
      exact lv_goto hx hb hd (cz_to_ok ht) k
    · cases hp
  case ifnull off =>
    have hlen : (3 : Nat) = len := by rcases hlen with h | ⟨_, _, _, _, h⟩ | ⟨_, _, h⟩ <;> first | exact h | cases h
    subst hlen
    simp only [cz_br] at hp
    split at hp
    · split at hp
      · rename_i t ht
        cases hp
        exact lv_ifnullN hx hb hd (cz_to_ok ht) k
      · cases hp
    · cases hp
      exact lv_ifnull hx hb hd k
    · cases hp
  case ifnonnull off =>
    have hlen : (3 : Nat) = len := by rcases hlen with h | ⟨_, _, _, _, h⟩ | ⟨_, _, h⟩ <;> first | exact h | cases h
    subst hlen
    simp only [cz_br] at hp
    split at hp
    · split at hp
      · rename_i t ht
        cases hp
        exact lv_ifnonnull hx hb hd (cz_to_ok ht) k
      · cases hp
    · cases hp
      exact lv_ifnonnullN hx hb hd k
    · cases hp
  case tableswitch dflt lo hi offs =>
    simp only [cz_br] at hp
    split at hp
    · rename_i a r
      split at hp
      · rename_i off h3
        split at hp
        · rename_i t h4
          cases hp
          have h4 := cz_to_ok h4
          unfold cz_tab at h3
          by_cases h7 : a.toInt < lo ∨ hi < a.toInt
          · rw [show (decide (a.toInt < lo) || decide (hi < a.toInt)) = true by simpa using h7] at h3
            simp only [cond_true, Option.some.injEq] at h3
            subst h3
            exact lv_tableOut hx hb hd h7 h4 k
          · rw [show (decide (a.toInt < lo) || decide (hi < a.toInt)) = false by rw [Bool.eq_false_iff]; intro q; simp only [Bool.or_eq_true, decide_eq_true_eq] at q; exact h7 q] at h3
            exact lv_tableIn hx hb hd (by omega) (by omega) h3 h4 k
        · cases hp
      · cases hp
    · cases hp
  case lookupswitch dflt ps =>
    simp only [cz_br] at hp
    split at hp
    · rename_i a r
      split at hp
      · rename_i off h3
        split at hp
        · rename_i t h4
          cases hp
          have h4 := cz_to_ok h4
          unfold cz_lookup at h3
          cases h7 : (ps.toList.zip (ps.toList.drop 1)).all (fun (a, next) => a.1 < next.1) with
          | false => rw [h7] at h3; cases h3
          | true =>
            rw [h7] at h3
            simp only [cond_true, Option.some.injEq] at h3
            exact lv_lookup hx hb hd h7 h3 h4 k
        · cases hp
      · cases hp
    · cases hp
  all_goals (exact absurd hp (by simp [cz_br]))
end CzBr
