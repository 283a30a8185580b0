/-! L2, part 4: instructions on the frame alone. -/
theorem dz_so.inv {n : Nat} {ρ : Nat → Int} {τ : Nat → Nat} {a : dz_A} {r : List dz_A} {st : List cz_V} (h : dz_so n ρ τ (a :: r) st) : ∃ v w, st = v :: w ∧ dz_vo n ρ τ a v ∧ dz_so n ρ τ r w := by
  cases st with
  | nil => cases h
  | cons v w => exact ⟨v, w, rfl, h.1, h.2⟩
theorem dz_so.nil {n : Nat} {ρ : Nat → Int} {τ : Nat → Nat} {st : List cz_V} (h : dz_so n ρ τ [] st) : st = [] := by
  cases st with
  | nil => rfl
  | cons v w => cases h
theorem dz_vo.int {n : Nat} {ρ : Nat → Int} {τ : Nat → Nat} {a : dz_A} {v : cz_V} (h : dz_vo n ρ τ a v) (hk : Nat.beq a.1 0 = true) : ∃ x : Int32, v = .inl x ∧ dz_ok n ρ a.2.1 x.toInt := by
  have hk := Nat.eq_of_beq_eq_true hk
  obtain ⟨h1, h2, h3⟩ := h
  rw [hk] at h1
  obtain x | x | x := v
  · exact ⟨x, rfl, h2⟩
  · cases h1
  · cases h1
theorem dz_vo.long {n : Nat} {ρ : Nat → Int} {τ : Nat → Nat} {a : dz_A} {v : cz_V} (h : dz_vo n ρ τ a v) (hk : Nat.beq a.1 2 = true) : ∃ x : Int64, v = .inr (.inl x) ∧ dz_ok n ρ a.2.1 x.toInt := by
  have hk := Nat.eq_of_beq_eq_true hk
  obtain ⟨h1, h2, h3⟩ := h
  rw [hk] at h1
  obtain x | x | x := v
  · cases h1
  · exact ⟨x, rfl, h2⟩
  · cases h1
theorem dz_vo.ref {n : Nat} {ρ : Nat → Int} {τ : Nat → Nat} {a : dz_A} {v : cz_V} (h : dz_vo n ρ τ a v) (hk : Nat.beq a.1 3 = true) : ∃ o : Option Nat, v = .inr (.inr o) ∧ dz_ok n ρ a.2.1 (dz_n v) ∧ dz_tg τ a.2.2 v := by
  have hk := Nat.eq_of_beq_eq_true hk
  obtain ⟨h1, h2, h3⟩ := h
  rw [hk] at h1
  obtain x | x | x := v
  · cases h1
  · cases h1
  · exact ⟨x, rfl, h2, h3⟩
/-- a reference that isn't null -/
theorem dz_vo.at {n : Nat} {ρ : Nat → Int} {τ : Nat → Nat} {a : dz_A} {v : cz_V} (h : dz_vo n ρ τ a v) (hk : Nat.beq a.1 3 = true) (hp : ∀ x, dz_ok n ρ a.2.1 x → 1 ≤ x) : ∃ r : Nat, v = .inr (.inr (some r)) ∧ dz_ok n ρ a.2.1 ((r : Int) + 1) ∧ τ r = a.2.2 ∧ a.2.2 ≠ 0 := by
  obtain ⟨o, rfl, h2, h3⟩ := h.ref hk
  cases o with
  | none => exact absurd (hp _ h2) (by show ¬ (1 : Int) ≤ 0; omega)
  | some r => exact ⟨r, rfl, h2, h3 r rfl⟩
theorem dz_vo_lg {n : Nat} {ρ : Nat → Int} {τ : Nat → Nat} {a : dz_A} {v : cz_V} (h : dz_vo n ρ τ a v) : cz_lg v = Nat.beq a.1 2 := by
  rw [← h.1]
  obtain x | x | x := v <;> rfl
noncomputable def dz_fl (j : Nat) (l : List (Nat × dz_A)) : Option dz_A := List.rec none (fun q _ ih => bif Nat.beq q.1 j then some q.2 else ih) l
theorem dz_fl_mem {j : Nat} {a : dz_A} : ∀ {l : List (Nat × dz_A)}, dz_fl j l = some a → (j, a) ∈ l
  | [], h => by cases h
  | q :: r, h => by
    have h' : (bif Nat.beq q.1 j then some q.2 else dz_fl j r) = some a := h
    cases hq : Nat.beq q.1 j with
    | true =>
      rw [hq] at h'
      have h1 : q.2 = a := Option.some.inj h'
      have h2 := Nat.eq_of_beq_eq_true hq
      rw [← h1, ← h2]
      exact List.mem_cons_self
    | false =>
      rw [hq] at h'
      exact List.mem_cons_of_mem _ (dz_fl_mem h')
theorem cz_find_cons (j : Nat) (q : Nat × cz_V) (r : List (Nat × cz_V)) : cz_find j (q :: r) = bif Nat.beq q.1 j then some q.2 else cz_find j r := rfl
theorem cz_find_fil {f : Nat × cz_V → Bool} {j : Nat} {w : cz_V} (hf : f (j, w) = true) : ∀ {L : List (Nat × cz_V)}, cz_find j L = some w → cz_find j (cz_fil f L) = some w
  | [], h => by cases h
  | q :: r, h => by
    rw [cz_find_cons] at h
    show cz_find j (bif f q then q :: cz_fil f r else cz_fil f r) = some w
    cases hq : Nat.beq q.1 j with
    | true =>
      rw [hq] at h
      have h1 : q.2 = w := Option.some.inj h
      have h2 := Nat.eq_of_beq_eq_true hq
      have h3 : q = (j, w) := by rw [← h1, ← h2]
      rw [h3, hf]
      show (bif Nat.beq j j then some w else _) = some w
      rw [Nat.beq_refl]
      rfl
    | false =>
      rw [hq] at h
      have ih := cz_find_fil hf (L := r) h
      cases f q with
      | true =>
        show (bif Nat.beq q.1 j then some q.2 else cz_find j (cz_fil f r)) = some w
        rw [hq]
        exact ih
      | false => exact ih
theorem dz_beq_ne {a b : Nat} (h : a ≠ b) : Nat.beq a b = false := Bool.eq_false_iff.mpr (fun w => h (Nat.eq_of_beq_eq_true w))
theorem cz_find_sto {L : List (Nat × cz_V)} {i j : Nat} {v w : cz_V} (hne : j ≠ i) (hl : j + 1 = i → cz_lg w = false) (h : cz_find j L = some w) : cz_find j (cz_sto L i v) = some w := by
  show (bif Nat.beq i j then some v else cz_find j (cz_fil _ L)) = some w
  rw [dz_beq_ne (Ne.symm hne)]
  refine cz_find_fil ?_ h
  show (bif Nat.beq j i then false else bif Nat.beq (Nat.succ j) i then !(cz_lg w) else true) = true
  rw [dz_beq_ne hne]
  by_cases e : j + 1 = i
  · rw [show Nat.beq (Nat.succ j) i = true from Nat.beq_eq.mpr e, hl e]; rfl
  · rw [show Nat.beq (Nat.succ j) i = false from dz_beq_ne e]; rfl
theorem cz_find_sto2 {L : List (Nat × cz_V)} {i j : Nat} {v w : cz_V} (hne : j ≠ i) (hne2 : j ≠ i + 1) (hl : j + 1 = i → cz_lg w = false) (h : cz_find j L = some w) : cz_find j (cz_sto2 L i v) = some w := by
  show (bif Nat.beq i j then some v else cz_find j (cz_fil _ L)) = some w
  rw [dz_beq_ne (Ne.symm hne)]
  refine cz_find_fil ?_ h
  show (bif Nat.beq j i then false else bif Nat.beq j (Nat.succ i) then false else bif Nat.beq (Nat.succ j) i then !(cz_lg w) else true) = true
  rw [dz_beq_ne hne, dz_beq_ne hne2]
  by_cases e : j + 1 = i
  · rw [show Nat.beq (Nat.succ j) i = true from Nat.beq_eq.mpr e, hl e]; rfl
  · rw [show Nat.beq (Nat.succ j) i = false from dz_beq_ne e]; rfl
theorem cz_find_sto_self (L : List (Nat × cz_V)) (i : Nat) (v : cz_V) : cz_find i (cz_sto L i v) = some v := by
  show (bif Nat.beq i i then some v else _) = some v
  rw [Nat.beq_refl]
  rfl
theorem cz_find_sto2_self (L : List (Nat × cz_V)) (i : Nat) (v : cz_V) : cz_find i (cz_sto2 L i v) = some v := by
  show (bif Nat.beq i i then some v else _) = some v
  rw [Nat.beq_refl]
  rfl
noncomputable def dz_ls1 (j : Nat) (a : dz_A) (l : List (Nat × dz_A)) : List (Nat × dz_A) := (j, a) :: cz_fil (fun q => bif Nat.beq q.1 j then false else bif Nat.beq (Nat.succ q.1) j then !(Nat.beq q.2.1 2) else true) l
noncomputable def dz_ls2 (j : Nat) (a : dz_A) (l : List (Nat × dz_A)) : List (Nat × dz_A) := (j, a) :: cz_fil (fun q => bif Nat.beq q.1 j then false else bif Nat.beq q.1 (Nat.succ j) then false else bif Nat.beq (Nat.succ q.1) j then !(Nat.beq q.2.1 2) else true) l
theorem dz_lo.sto {n : Nat} {ρ : Nat → Int} {τ : Nat → Nat} {l : List (Nat × dz_A)} {L : List (Nat × cz_V)} (hl : dz_lo n ρ τ l L) {j : Nat} {a : dz_A} {v : cz_V} (ha : dz_vo n ρ τ a v) : dz_lo n ρ τ (dz_ls1 j a l) (cz_sto L j v) := by
  intro q hq
  rcases List.mem_cons.mp hq with rfl | hq
  · exact ⟨v, cz_find_sto_self L j v, ha⟩
  · rw [cz_fil_eq] at hq
    obtain ⟨hm, hf⟩ := List.mem_filter.mp hq
    obtain ⟨w, h1, h2⟩ := hl q hm
    have hne : q.1 ≠ j := fun e => by rw [show Nat.beq q.1 j = true from Nat.beq_eq.mpr e] at hf; cases hf
    rw [dz_beq_ne hne] at hf
    refine ⟨w, cz_find_sto hne (fun e => ?_) h1, h2⟩
    rw [show Nat.beq (Nat.succ q.1) j = true from Nat.beq_eq.mpr e] at hf
    rw [dz_vo_lg h2]
    simpa using hf
theorem dz_lo.sto2 {n : Nat} {ρ : Nat → Int} {τ : Nat → Nat} {l : List (Nat × dz_A)} {L : List (Nat × cz_V)} (hl : dz_lo n ρ τ l L) {j : Nat} {a : dz_A} {v : cz_V} (ha : dz_vo n ρ τ a v) : dz_lo n ρ τ (dz_ls2 j a l) (cz_sto2 L j v) := by
  intro q hq
  rcases List.mem_cons.mp hq with rfl | hq
  · exact ⟨v, cz_find_sto2_self L j v, ha⟩
  · rw [cz_fil_eq] at hq
    obtain ⟨hm, hf⟩ := List.mem_filter.mp hq
    obtain ⟨w, h1, h2⟩ := hl q hm
    have hne : q.1 ≠ j := fun e => by rw [show Nat.beq q.1 j = true from Nat.beq_eq.mpr e] at hf; cases hf
    rw [dz_beq_ne hne] at hf
    have hne2 : q.1 ≠ j + 1 := fun e => by rw [show Nat.beq q.1 (Nat.succ j) = true from Nat.beq_eq.mpr e] at hf; cases hf
    rw [show Nat.beq q.1 (Nat.succ j) = false from dz_beq_ne hne2] at hf
    refine ⟨w, cz_find_sto2 hne hne2 (fun e => ?_) h1, h2⟩
    rw [show Nat.beq (Nat.succ q.1) j = true from Nat.beq_eq.mpr e] at hf
    rw [dz_vo_lg h2]
    simpa using hf
/-- the stack anew -/
noncomputable def dz_stk (S : dz_S) (as : List dz_A) : dz_S := (S.1, S.2.1, S.2.2.1, as, S.2.2.2.2)
def dz_ile (a b : Int) : Bool := dz_nn (Int.sub b a)
theorem dz_ile_ok {a b : Int} (h : dz_ile a b = true) : a ≤ b := by
  have := dz_nn_ok h
  have h2 : Int.sub b a = b - a := rfl
  omega
noncomputable def dz_pc (S : dz_S) (lo hi n : Int) : Option dz_S := bif dz_ile lo n && dz_ile n hi then dz_fi n (fun m => some (dz_stk S ((0, dz_cst m, 0) :: S.2.2.2.1))) else none
noncomputable def dz_ldv (S : dz_S) (j k : Nat) : Option dz_S := match dz_fl j S.2.2.1 with
  | some a => bif Nat.beq a.1 k then some (dz_stk S (a :: S.2.2.2.1)) else none
  | none => none
noncomputable def dz_st1 (S : dz_S) (nL j k : Nat) : Option dz_S := match S.2.2.2.1 with
  | a :: r => bif Nat.beq a.1 k && Nat.blt j nL then some (S.1, S.2.1, dz_ls1 j a S.2.2.1, r, S.2.2.2.2) else none
  | [] => none
noncomputable def dz_st2 (S : dz_S) (nL j : Nat) : Option dz_S := match S.2.2.2.1 with
  | a :: r => bif Nat.beq a.1 2 && Nat.blt (j + 1) nL then some (S.1, S.2.1, dz_ls2 j a S.2.2.1, r, S.2.2.2.2) else none
  | [] => none
/-- instructions that need no more than the frame, and nothing to be told -/
noncomputable def dz_p0 (i : Instr) (nL : Nat) (S : dz_S) : Option dz_S := match i with
  | .iconst n => dz_pc S (-128) 127 n
  | .bipush n => dz_pc S (-128) 127 n
  | .sipush n => dz_pc S (-32768) 32767 n
  | .lconst n => some (dz_stk S ((2, dz_cst (.ofNat n.val), 0) :: S.2.2.2.1))
  | .aconst_null => some (dz_stk S ((3, dz_cst 0, 0) :: S.2.2.2.1))
  | .iload_n k => dz_ldv S k 0
  | .iload k => dz_ldv S k 0
  | .lload_n k => dz_ldv S k 2
  | .lload k => dz_ldv S k 2
  | .aload_n k => dz_ldv S k 3
  | .aload k => dz_ldv S k 3
  | .istore_n k => dz_st1 S nL k 0
  | .istore k => dz_st1 S nL k 0
  | .astore_n k => dz_st1 S nL k 3
  | .astore k => dz_st1 S nL k 3
  | .lstore_n k => dz_st2 S nL k
  | .lstore k => dz_st2 S nL k
  | .i2l => (match S.2.2.2.1 with
    | a :: r => bif Nat.beq a.1 0 then some (dz_stk S ((2, a.2.1, 0) :: r)) else none
    | _ => none)
  | .dup => (match S.2.2.2.1 with
    | a :: r => bif Nat.beq a.1 2 then none else some (dz_stk S (a :: a :: r))
    | _ => none)
  | .pop => (match S.2.2.2.1 with
    | a :: r => bif Nat.beq a.1 2 then none else some (dz_stk S r)
    | _ => none)
  | .dup2 => (match S.2.2.2.1 with
    | a :: b :: r => bif Nat.beq a.1 2 || Nat.beq b.1 2 then none else some (dz_stk S (a :: b :: a :: b :: r))
    | _ => none)
  | .dup_x1 => (match S.2.2.2.1 with
    | a :: b :: r => bif Nat.beq a.1 2 || Nat.beq b.1 2 then none else some (dz_stk S (a :: b :: a :: r))
    | _ => none)
  | _ => none
theorem dz_toInt_i {n : Int} (h1 : -2147483648 ≤ n) (h2 : n ≤ 2147483647) : (Int32.ofInt n).toInt = n := Int32.toInt_ofInt_of_le (by show -2147483648 ≤ n; exact h1) (by show n < 2147483648; omega)
section DzP0
variable {T : dz_TT} {X : dz_X} {S S' : dz_S} {ρ : Nat → Int} {τ : Nat → Nat} {h : cz_H} {L : List (Nat × cz_V)} {st : List cz_V} {nL : Nat}
theorem dz_pc_ok (hG : dz_G T X S ρ τ h L st) {lo hi n : Int} (hp : dz_pc S lo hi n = some S') {x : Int32} (hx : lo ≤ n → n ≤ hi → x.toInt = n) : dz_G T X S' ρ τ h L (.inl x :: st) ∧ S'.1 = S.1 := by
  unfold dz_pc at hp
  cases hb : (dz_ile lo n && dz_ile n hi) with
  | false => rw [hb] at hp; cases hp
  | true =>
    rw [hb] at hp
    simp only [Bool.and_eq_true] at hb
    simp only [cond_true, dz_fi_eq] at hp
    cases hp
    have hx := hx (dz_ile_ok hb.1) (dz_ile_ok hb.2)
    refine ⟨hG.stack ⟨⟨rfl, ?_, fun r hr => by cases hr⟩, hG.2.2.1⟩, rfl⟩
    show dz_ok S.1 ρ (dz_cst n) x.toInt
    rw [hx]
    exact dz_ok_cst n
theorem dz_ldv_ok (hG : dz_G T X S ρ τ h L st) {j k : Nat} (hp : dz_ldv S j k = some S') : ∃ v, cz_find j L = some v ∧ dz_k v = k ∧ dz_G T X S' ρ τ h L (v :: st) ∧ S'.1 = S.1 := by
  unfold dz_ldv at hp
  split at hp
  · rename_i a ha
    cases hb : Nat.beq a.1 k with
    | false => rw [hb] at hp; cases hp
    | true =>
      rw [hb] at hp
      cases hp
      obtain ⟨v, h1, h2⟩ := hG.2.1 _ (dz_fl_mem ha)
      exact ⟨v, h1, h2.1.trans (Nat.eq_of_beq_eq_true hb), hG.stack ⟨h2, hG.2.2.1⟩, rfl⟩
  · cases hp
theorem dz_ld_i {j : Nat} {v : cz_V} (h1 : cz_find j L = some v) (h2 : dz_k v = 0) : cz_ld L j cz_isI = some v := by
  unfold cz_ld
  rw [h1]
  obtain x | x | x := v
  · rfl
  · cases h2
  · cases h2
theorem dz_ld_l {j : Nat} {v : cz_V} (h1 : cz_find j L = some v) (h2 : dz_k v = 2) : cz_ld L j cz_lg = some v := by
  unfold cz_ld
  rw [h1]
  obtain x | x | x := v
  · cases h2
  · rfl
  · cases h2
theorem dz_ld_a {j : Nat} {v : cz_V} (h1 : cz_find j L = some v) (h2 : dz_k v = 3) : cz_ld L j cz_isR = some v := by
  unfold cz_ld
  rw [h1]
  obtain x | x | x := v
  · cases h2
  · cases h2
  · rfl
theorem dz_st1_ok (hG : dz_G T X S ρ τ h L st) {j k : Nat} (hp : dz_st1 S nL j k = some S') : ∃ v w, st = v :: w ∧ dz_k v = k ∧ Nat.blt j nL = true ∧ dz_G T X S' ρ τ h (cz_sto L j v) w ∧ S'.1 = S.1 := by
  unfold dz_st1 at hp
  have hs := hG.2.2.1
  split at hp
  · rename_i a r he
    rw [he] at hs
    obtain ⟨v, w, rfl, h1, h2⟩ := hs.inv
    cases hb : (Nat.beq a.1 k && Nat.blt j nL) with
    | false => rw [hb] at hp; cases hp
    | true =>
      rw [hb] at hp
      cases hp
      simp only [Bool.and_eq_true] at hb
      exact ⟨v, w, rfl, h1.1.trans (Nat.eq_of_beq_eq_true hb.1), hb.2, hG.frame (hG.2.1.sto h1) h2, rfl⟩
  · cases hp
theorem dz_st2_ok (hG : dz_G T X S ρ τ h L st) {j : Nat} (hp : dz_st2 S nL j = some S') : ∃ v w, st = v :: w ∧ dz_k v = 2 ∧ Nat.blt (j + 1) nL = true ∧ dz_G T X S' ρ τ h (cz_sto2 L j v) w ∧ S'.1 = S.1 := by
  unfold dz_st2 at hp
  have hs := hG.2.2.1
  split at hp
  · rename_i a r he
    rw [he] at hs
    obtain ⟨v, w, rfl, h1, h2⟩ := hs.inv
    cases hb : (Nat.beq a.1 2 && Nat.blt (j + 1) nL) with
    | false => rw [hb] at hp; cases hp
    | true =>
      rw [hb] at hp
      cases hp
      simp only [Bool.and_eq_true] at hb
      exact ⟨v, w, rfl, h1.1.trans (Nat.eq_of_beq_eq_true hb.1), hb.2, hG.frame (hG.2.1.sto2 h1) h2, rfl⟩
  · cases hp
set_option maxHeartbeats 4000000 in
theorem dz_p0_ok (hG : dz_G T X S ρ τ h L st) {i : Instr} (hp : dz_p0 i nL S = some S') : ∃ q, cz_pure i nL L st = some q ∧ dz_G T X S' ρ τ h q.1 q.2 ∧ S'.1 = S.1 := by
  cases i
  case iconst n =>
    obtain ⟨h1, h2⟩ := dz_pc_ok hG hp (x := Int32.ofInt n) (fun a b => dz_toInt_i (by omega) (by omega))
    exact ⟨_, rfl, h1, h2⟩
  case bipush n =>
    obtain ⟨h1, h2⟩ := dz_pc_ok hG hp (x := (Int8.ofInt n).toInt32) (fun a b => by rw [Int8.toInt_toInt32]; exact Int8.toInt_ofInt_of_le (by show -128 ≤ n; omega) (by show n < 128; omega))
    exact ⟨_, rfl, h1, h2⟩
  case sipush n =>
    obtain ⟨h1, h2⟩ := dz_pc_ok hG hp (x := (Int16.ofInt n).toInt32) (fun a b => by rw [Int16.toInt_toInt32]; exact Int16.toInt_ofInt_of_le (by show -32768 ≤ n; omega) (by show n < 32768; omega))
    exact ⟨_, rfl, h1, h2⟩
  case lconst n =>
    cases hp
    refine ⟨_, rfl, hG.stack ⟨⟨rfl, ?_, fun r hr => by cases hr⟩, hG.2.2.1⟩, rfl⟩
    show dz_ok S.1 ρ (dz_cst (.ofNat n.val)) (Int64.ofInt (n.val : Nat)).toInt
    have hn1 : (0 : Int) ≤ ((n.val : Nat) : Int) := Int.natCast_nonneg _
    have hn2 : ((n.val : Nat) : Int) < 2 := by have := n.isLt; exact Int.ofNat_lt.mpr this
    rw [Int64.toInt_ofInt_of_le (Int.le_trans (by decide) hn1) (Int.lt_of_lt_of_le hn2 (by decide))]
    exact dz_ok_cst _
  case aconst_null =>
    cases hp
    exact ⟨_, rfl, hG.stack ⟨⟨rfl, dz_ok_cst 0, fun r hr => by cases hr⟩, hG.2.2.1⟩, rfl⟩
  case iload_n k =>
    obtain ⟨v, h1, h2, h3, h4⟩ := dz_ldv_ok hG hp
    exact ⟨(L, v :: st), by show (cz_ld L k cz_isI).map _ = _; rw [dz_ld_i h1 h2]; rfl, h3, h4⟩
  case iload k =>
    obtain ⟨v, h1, h2, h3, h4⟩ := dz_ldv_ok hG hp
    exact ⟨(L, v :: st), by show (cz_ld L k cz_isI).map _ = _; rw [dz_ld_i h1 h2]; rfl, h3, h4⟩
  case lload_n k =>
    obtain ⟨v, h1, h2, h3, h4⟩ := dz_ldv_ok hG hp
    exact ⟨(L, v :: st), by show (cz_ld L k cz_lg).map _ = _; rw [dz_ld_l h1 h2]; rfl, h3, h4⟩
  case lload k =>
    obtain ⟨v, h1, h2, h3, h4⟩ := dz_ldv_ok hG hp
    exact ⟨(L, v :: st), by show (cz_ld L k cz_lg).map _ = _; rw [dz_ld_l h1 h2]; rfl, h3, h4⟩
  case aload_n k =>
    obtain ⟨v, h1, h2, h3, h4⟩ := dz_ldv_ok hG hp
    exact ⟨(L, v :: st), by show (cz_ld L k cz_isR).map _ = _; rw [dz_ld_a h1 h2]; rfl, h3, h4⟩
  case aload k =>
    obtain ⟨v, h1, h2, h3, h4⟩ := dz_ldv_ok hG hp
    exact ⟨(L, v :: st), by show (cz_ld L k cz_isR).map _ = _; rw [dz_ld_a h1 h2]; rfl, h3, h4⟩
  case istore_n k =>
    obtain ⟨v, w, rfl, h2, h3, h4, h5⟩ := dz_st1_ok hG hp
    obtain x | x | x := v
    · exact ⟨(cz_sto L k (.inl x), w), by show (bif Nat.blt k nL then some (cz_sto L k (.inl x), w) else none) = _; rw [h3]; rfl, h4, h5⟩
    · cases h2
    · cases h2
  case istore k =>
    obtain ⟨v, w, rfl, h2, h3, h4, h5⟩ := dz_st1_ok hG hp
    obtain x | x | x := v
    · exact ⟨(cz_sto L k (.inl x), w), by show (bif Nat.blt k nL then some (cz_sto L k (.inl x), w) else none) = _; rw [h3]; rfl, h4, h5⟩
    · cases h2
    · cases h2
  case astore_n k =>
    obtain ⟨v, w, rfl, h2, h3, h4, h5⟩ := dz_st1_ok hG hp
    obtain x | x | x := v
    · cases h2
    · cases h2
    · exact ⟨(cz_sto L k (.inr (.inr x)), w), by show (bif Nat.blt k nL then some (cz_sto L k (.inr (.inr x)), w) else none) = _; rw [h3]; rfl, h4, h5⟩
  case astore k =>
    obtain ⟨v, w, rfl, h2, h3, h4, h5⟩ := dz_st1_ok hG hp
    obtain x | x | x := v
    · cases h2
    · cases h2
    · exact ⟨(cz_sto L k (.inr (.inr x)), w), by show (bif Nat.blt k nL then some (cz_sto L k (.inr (.inr x)), w) else none) = _; rw [h3]; rfl, h4, h5⟩
  case lstore_n k =>
    obtain ⟨v, w, rfl, h2, h3, h4, h5⟩ := dz_st2_ok hG hp
    obtain x | x | x := v
    · cases h2
    · exact ⟨(cz_sto2 L k (.inr (.inl x)), w), by show (bif Nat.blt (k + 1) nL then some (cz_sto2 L k (.inr (.inl x)), w) else none) = _; rw [h3]; rfl, h4, h5⟩
    · cases h2
  case lstore k =>
    obtain ⟨v, w, rfl, h2, h3, h4, h5⟩ := dz_st2_ok hG hp
    obtain x | x | x := v
    · cases h2
    · exact ⟨(cz_sto2 L k (.inr (.inl x)), w), by show (bif Nat.blt (k + 1) nL then some (cz_sto2 L k (.inr (.inl x)), w) else none) = _; rw [h3]; rfl, h4, h5⟩
    · cases h2
  case i2l =>
    have hs := hG.2.2.1
    simp only [dz_p0] at hp
    split at hp
    · rename_i a r he
      rw [he] at hs
      obtain ⟨v, w, rfl, h1, h2⟩ := hs.inv
      cases hb : Nat.beq a.1 0 with
      | false => rw [hb] at hp; cases hp
      | true =>
        rw [hb] at hp
        cases hp
        obtain ⟨x, rfl, hx⟩ := h1.int hb
        refine ⟨(L, .inr (.inl x.toInt64) :: w), rfl, hG.stack ⟨⟨rfl, ?_, fun r hr => by cases hr⟩, h2⟩, rfl⟩
        show dz_ok S.1 ρ a.2.1 x.toInt64.toInt
        rw [Int32.toInt_toInt64]
        exact hx
    · cases hp
  case dup =>
    have hs := hG.2.2.1
    simp only [dz_p0] at hp
    split at hp
    · rename_i a r he
      rw [he] at hs
      obtain ⟨v, w, rfl, h1, h2⟩ := hs.inv
      cases hb : Nat.beq a.1 2 with
      | true => rw [hb] at hp; cases hp
      | false =>
        rw [hb] at hp
        cases hp
        refine ⟨(L, v :: v :: w), ?_, hG.stack ⟨h1, h1, h2⟩, rfl⟩
        show (bif cz_lg v then none else some (L, v :: v :: w)) = _
        rw [dz_vo_lg h1, hb]
        rfl
    · cases hp
  case pop =>
    have hs := hG.2.2.1
    simp only [dz_p0] at hp
    split at hp
    · rename_i a r he
      rw [he] at hs
      obtain ⟨v, w, rfl, h1, h2⟩ := hs.inv
      cases hb : Nat.beq a.1 2 with
      | true => rw [hb] at hp; cases hp
      | false =>
        rw [hb] at hp
        cases hp
        refine ⟨(L, w), ?_, hG.stack h2, rfl⟩
        show (bif cz_lg v then none else some (L, w)) = _
        rw [dz_vo_lg h1, hb]
        rfl
    · cases hp
  case dup2 =>
    have hs := hG.2.2.1
    simp only [dz_p0] at hp
    split at hp
    · rename_i a b r he
      rw [he] at hs
      obtain ⟨v, w, rfl, h1, h2⟩ := hs.inv
      obtain ⟨v2, w, rfl, h3, h4⟩ := h2.inv
      cases hb : (Nat.beq a.1 2 || Nat.beq b.1 2) with
      | true => rw [hb] at hp; cases hp
      | false =>
        rw [hb] at hp
        cases hp
        refine ⟨(L, v :: v2 :: v :: v2 :: w), ?_, hG.stack ⟨h1, h3, h1, h3, h4⟩, rfl⟩
        show (bif cz_lg v || cz_lg v2 then none else some (L, v :: v2 :: v :: v2 :: w)) = _
        rw [dz_vo_lg h1, dz_vo_lg h3, hb]
        rfl
    · cases hp
  case dup_x1 =>
    have hs := hG.2.2.1
    simp only [dz_p0] at hp
    split at hp
    · rename_i a b r he
      rw [he] at hs
      obtain ⟨v, w, rfl, h1, h2⟩ := hs.inv
      obtain ⟨v2, w, rfl, h3, h4⟩ := h2.inv
      cases hb : (Nat.beq a.1 2 || Nat.beq b.1 2) with
      | true => rw [hb] at hp; cases hp
      | false =>
        rw [hb] at hp
        cases hp
        refine ⟨(L, v :: v2 :: v :: w), ?_, hG.stack ⟨h1, h3, h1, h4⟩, rfl⟩
        show (bif cz_lg v || cz_lg v2 then none else some (L, v :: v2 :: v :: w)) = _
        rw [dz_vo_lg h1, dz_vo_lg h3, hb]
        rfl
    · cases hp
  all_goals (exact absurd hp (by simp [dz_p0]))
end DzP0
