/-! L2, part 7: branches. Of each way out: 0 it is gone on with, 1 it can't be (a certificate that -1 is at least 0); where two numbers differ, 2 or 3: one is known to be at least the other. -/
noncomputable def dz_cc (c : ClassFile.Cond) (a b : dz_E) : List dz_E := match c with
  | .eq => [dz_sub a b, dz_sub b a]
  | .ne => []
  | .lt => [dz_plus (dz_sub b a) (-1)]
  | .ge => [dz_sub a b]
  | .gt => [dz_plus (dz_sub a b) (-1)]
  | .le => [dz_sub b a]
def dz_cn (c : ClassFile.Cond) : ClassFile.Cond := match c with
  | .eq => .ne
  | .ne => .eq
  | .lt => .ge
  | .ge => .lt
  | .gt => .le
  | .le => .gt
def dz_cv (c : ClassFile.Cond) (x y : Int) : Prop := match c with
  | .eq => x = y
  | .ne => x ≠ y
  | .lt => x < y
  | .ge => y ≤ x
  | .gt => y < x
  | .le => x ≤ y
theorem dz_one {n : Nat} {ρ : Nat → Int} {e1 : dz_E} {x : Int} (h1 : dz_ok n ρ e1 x) (h2 : 0 ≤ x) : dz_all n ρ [e1] := by
  intro e he
  rw [List.mem_singleton.mp he]
  exact ⟨x, h2, h1⟩
theorem dz_cc_ok {n : Nat} {ρ : Nat → Int} {a b : dz_E} {x y : Int} {c : ClassFile.Cond} (ha : dz_ok n ρ a x) (hb : dz_ok n ρ b y) (h : dz_cv c x y) : dz_all n ρ (dz_cc c a b) := by
  cases c
  · have h : x = y := h
    exact dz_two (dz_ok_sub ha hb) (by omega) (dz_ok_sub hb ha) (by omega)
  · exact dz_none_all
  · have h : x < y := h
    exact dz_one (dz_ok_plus (-1) (dz_ok_sub hb ha)) (by omega)
  · have h : y ≤ x := h
    exact dz_one (dz_ok_sub ha hb) (by omega)
  · have h : y < x := h
    exact dz_one (dz_ok_plus (-1) (dz_ok_sub ha hb)) (by omega)
  · have h : x ≤ y := h
    exact dz_one (dz_ok_sub hb ha) (by omega)
def dz_isne (c : ClassFile.Cond) : Bool := match c with
  | .ne => true
  | _ => false
def dz_gam (S : dz_S) (es : List dz_E) : dz_S := (S.1, es ++ S.2.1, S.2.2)
/-- one way out -/
noncomputable def dz_way (S : dz_S) (c : ClassFile.Cond) (a b : dz_E) (m : Nat) (ct : dz_Ct) : Option (Option dz_S) :=
  bif Nat.beq m 0 then some (some (dz_gam S (dz_cc c a b)))
  else bif Nat.beq m 1 then (bif dz_pf (dz_cc c a b ++ S.2.1) ct (dz_cst (-1)) then some none else none)
  else bif dz_isne c then (bif Nat.beq m 2 then (bif dz_pf S.2.1 ct (dz_sub a b) then some (some (dz_gam S [dz_plus (dz_sub a b) (-1)])) else none)
    else (bif dz_pf S.2.1 ct (dz_sub b a) then some (some (dz_gam S [dz_plus (dz_sub b a) (-1)])) else none))
  else none
section DzBr
variable {T : dz_TT} {X : dz_X} {S S' : dz_S} {ρ : Nat → Int} {τ : Nat → Nat} {h : cz_H} {L : List (Nat × cz_V)} {st w : List cz_V} {nL : Nat}
theorem dz_G.gam (hG : dz_G T X S ρ τ h L st) {es : List dz_E} (he : dz_all S.1 ρ es) : dz_G T X (dz_gam S es) ρ τ h L st := ⟨hG.1.app he, hG.2⟩
theorem dz_way_ok (hG : dz_G T X S ρ τ h L st) {c : ClassFile.Cond} {a b : dz_E} {x y : Int} (ha : dz_ok S.1 ρ a x) (hb : dz_ok S.1 ρ b y) (hc : dz_cv c x y) {m : Nat} {ct : dz_Ct} {o : Option dz_S} (hw : dz_way S c a b m ct = some o) : ∃ S', o = some S' ∧ dz_G T X S' ρ τ h L st ∧ S'.1 = S.1 := by
  have hall := dz_cc_ok ha hb hc
  unfold dz_way at hw
  cases h0 : Nat.beq m 0 with
  | true =>
    rw [h0] at hw; cases hw
    exact ⟨_, rfl, hG.gam hall, rfl⟩
  | false =>
    rw [h0] at hw
    simp only [cond_false] at hw
    cases h1 : Nat.beq m 1 with
    | true =>
      rw [h1] at hw
      simp only [cond_true] at hw
      cases hp : dz_pf (dz_cc c a b ++ S.2.1) ct (dz_cst (-1)) with
      | false => rw [hp] at hw; cases hw
      | true =>
        exact absurd (dz_pf_ok (hG.1.app hall) (dz_ok_cst (-1)) hp) (by omega)
    | false =>
      rw [h1] at hw
      simp only [cond_false] at hw
      cases hn : dz_isne c with
      | false => rw [hn] at hw; cases hw
      | true =>
        rw [hn] at hw
        simp only [cond_true] at hw
        have hne : x ≠ y := by cases c <;> first | exact hc | (cases hn)
        cases h2 : Nat.beq m 2 with
        | true =>
          rw [h2] at hw
          simp only [cond_true] at hw
          cases hp : dz_pf S.2.1 ct (dz_sub a b) with
          | false => rw [hp] at hw; cases hw
          | true =>
            rw [hp] at hw; cases hw
            have := dz_pf_ok hG.1 (dz_ok_sub ha hb) hp
            exact ⟨_, rfl, hG.gam (dz_one (dz_ok_plus (-1) (dz_ok_sub ha hb)) (by omega)), rfl⟩
        | false =>
          rw [h2] at hw
          simp only [cond_false] at hw
          cases hp : dz_pf S.2.1 ct (dz_sub b a) with
          | false => rw [hp] at hw; cases hw
          | true =>
            rw [hp] at hw; cases hw
            have := dz_pf_ok hG.1 (dz_ok_sub hb ha) hp
            exact ⟨_, rfl, hG.gam (dz_one (dz_ok_plus (-1) (dz_ok_sub hb ha)) (by omega)), rfl⟩
/-- the two ways of a comparison: target, then what follows -/
noncomputable def dz_cmp2 (S : dz_S) (c : ClassFile.Cond) (a b : dz_E) (t f : Nat) (hn : dz_Hn) : Option (List (Nat × dz_S)) := match hn.2.2, hn.2.1 with
  | m1 :: m2 :: _, c1 :: c2 :: _ => (match dz_way S c a b m1 c1, dz_way S (dz_cn c) a b m2 c2 with
    | some o1, some o2 => some ((match o1 with | some q => [(t, q)] | none => []) ++ (match o2 with | some q => [(f, q)] | none => []))
    | _, _ => none)
  | _, _ => none
theorem dz_cmp2_ok (hG : dz_G T X S ρ τ h L st) {c : ClassFile.Cond} {a b : dz_E} {x y : Int} (ha : dz_ok S.1 ρ a x) (hb : dz_ok S.1 ρ b y) {t f : Nat} {hn : dz_Hn} {R : List (Nat × dz_S)} (hr : dz_cmp2 S c a b t f hn = some R) : (dz_cv c x y → ∃ S', (t, S') ∈ R ∧ dz_G T X S' ρ τ h L st ∧ S'.1 = S.1) ∧ (dz_cv (dz_cn c) x y → ∃ S', (f, S') ∈ R ∧ dz_G T X S' ρ τ h L st ∧ S'.1 = S.1) := by
  unfold dz_cmp2 at hr
  split at hr
  · split at hr
    · rename_i o1 o2 h1 h2
      cases hr
      constructor
      · intro hc
        obtain ⟨S', rfl, h3, h4⟩ := dz_way_ok hG ha hb hc h1
        exact ⟨S', List.mem_append.mpr (Or.inl List.mem_cons_self), h3, h4⟩
      · intro hc
        obtain ⟨S', rfl, h3, h4⟩ := dz_way_ok hG ha hb hc h2
        exact ⟨S', List.mem_append.mpr (Or.inr List.mem_cons_self), h3, h4⟩
    · cases hr
  · cases hr
theorem dz_cv_or (c : ClassFile.Cond) (x y : Int) : dz_cv c x y ∨ dz_cv (dz_cn c) x y := by
  cases c
  · exact Decidable.em (x = y)
  · by_cases e : x = y
    · exact Or.inr e
    · exact Or.inl e
  · show x < y ∨ y ≤ x; omega
  · show y ≤ x ∨ x < y; omega
  · show y < x ∨ x ≤ y; omega
  · show x ≤ y ∨ y < x; omega
theorem dz_cd_eq {c : ClassFile.Cond} {x y : Int32} : (dz_cv c x.toInt y.toInt → cz_cd c x y = true) ∧ (dz_cv (dz_cn c) x.toInt y.toInt → cz_cd c x y = false) := by
  cases c
  · exact ⟨fun e => decide_eq_true (Int32.toInt_inj.mp e), fun e => decide_eq_false (fun w => e (by rw [w]))⟩
  · refine ⟨fun e => ?_, fun e => ?_⟩
    · show (!decide (x = y)) = true
      rw [decide_eq_false (fun w => e (by rw [w]))]; rfl
    · show (!decide (x = y)) = false
      rw [decide_eq_true (Int32.toInt_inj.mp e)]; rfl
  · exact ⟨fun e => decide_eq_true (Int32.lt_iff_toInt_lt.mpr e), fun e => decide_eq_false (fun w => by have := Int32.lt_iff_toInt_lt.mp w; have e : y.toInt ≤ x.toInt := e; omega)⟩
  · exact ⟨fun e => decide_eq_true (Int32.le_iff_toInt_le.mpr e), fun e => decide_eq_false (fun w => by have := Int32.le_iff_toInt_le.mp w; have e : x.toInt < y.toInt := e; omega)⟩
  · exact ⟨fun e => decide_eq_true (Int32.lt_iff_toInt_lt.mpr e), fun e => decide_eq_false (fun w => by have := Int32.lt_iff_toInt_lt.mp w; have e : x.toInt ≤ y.toInt := e; omega)⟩
  · exact ⟨fun e => decide_eq_true (Int32.le_iff_toInt_le.mpr e), fun e => decide_eq_false (fun w => by have := Int32.le_iff_toInt_le.mp w; have e : y.toInt < x.toInt := e; omega)⟩
/-- the ways of a switch -/
noncomputable def dz_tabs (S : dz_S) (a : dz_E) (pc : Nat) : List Int → Int → List Nat → List dz_Ct → Option (List (Nat × dz_S)) := List.rec (fun _ _ _ => some []) (fun off _ ih v ms cs => match ms, cs with
  | m :: ms, c :: cs => (match cz_to pc off, dz_way S .eq a (dz_cst v) m c, dz_fi (Int.add v 1) (fun u => ih u ms cs) with
    | some t, some o, some R => dz_fn t (fun t => some ((match o with | some q => [(t, q)] | none => []) ++ R))
    | _, _, _ => none)
  | _, _ => none)
theorem dz_tabs_cons (S : dz_S) (a : dz_E) (pc : Nat) (off : Int) (r : List Int) (v : Int) (ms : List Nat) (cs : List dz_Ct) : dz_tabs S a pc (off :: r) v ms cs = match ms, cs with
  | m :: ms, c :: cs => (match cz_to pc off, dz_way S .eq a (dz_cst v) m c, dz_tabs S a pc r (v + 1) ms cs with
    | some t, some o, some R => some ((match o with | some q => [(t, q)] | none => []) ++ R)
    | _, _, _ => none)
  | _, _ => none := by
  show (match ms, cs with
    | m :: ms, c :: cs => (match cz_to pc off, dz_way S .eq a (dz_cst v) m c, dz_fi (Int.add v 1) (fun u => dz_tabs S a pc r u ms cs) with
      | some t, some o, some R => dz_fn t (fun t => some ((match o with | some q => [(t, q)] | none => []) ++ R))
      | _, _, _ => none)
    | _, _ => none) = _
  simp only [dz_fi_eq, dz_fn_eq]
  rfl
theorem dz_tabs_ok (hG : dz_G T X S ρ τ h L st) {a : dz_E} {x : Int} (ha : dz_ok S.1 ρ a x) {pc : Nat} : ∀ {offs : List Int} {v : Int} {ms : List Nat} {cs : List dz_Ct} {R : List (Nat × dz_S)}, dz_tabs S a pc offs v ms cs = some R → ∀ j : Nat, j < offs.length → x = v + j → ∃ off t S', offs[j]? = some off ∧ cz_to pc off = some t ∧ (t, S') ∈ R ∧ dz_G T X S' ρ τ h L st ∧ S'.1 = S.1
  | [], v, ms, cs, R, hr, j, hj, hx => absurd hj (Nat.not_lt_zero j)
  | off :: r, v, ms, cs, R, hr, j, hj, hx => by
    rw [dz_tabs_cons] at hr
    split at hr
    · split at hr
      · rename_i t o R' h1 h2 h3
        cases hr
        cases j with
        | zero =>
          obtain ⟨S', rfl, h4, h5⟩ := dz_way_ok hG ha (dz_ok_cst v) (c := .eq) (by show x = v; omega) h2
          exact ⟨off, t, S', rfl, h1, List.mem_append.mpr (Or.inl List.mem_cons_self), h4, h5⟩
        | succ j =>
          obtain ⟨off', t', S', h4, h5, h6, h7⟩ := dz_tabs_ok hG ha h3 j (by simpa using hj) (by omega)
          exact ⟨off', t', S', h4, h5, List.mem_append.mpr (Or.inr h6), h7⟩
      · cases hr
    · cases hr
/-- null or not -/
noncomputable def dz_br (i : Instr) (pc : Nat) (hn : dz_Hn) (S : dz_S) : Option (List (Nat × dz_S)) := match i with
  | .ifCond c off => (match S.2.2.2.1 with
    | a :: r => bif Nat.beq a.1 0 then (match cz_to pc off with
      | some t => dz_fn t (fun t => dz_fn (Nat.add pc 3) (fun f => dz_cmp2 (dz_stk S r) c a.2.1 (dz_cst 0) t f hn))
      | none => none) else none
    | _ => none)
  | .if_icmp c off => (match S.2.2.2.1 with
    | b :: a :: r => bif Nat.beq a.1 0 && Nat.beq b.1 0 then (match cz_to pc off with
      | some t => dz_fn t (fun t => dz_fn (Nat.add pc 3) (fun f => dz_cmp2 (dz_stk S r) c a.2.1 b.2.1 t f hn))
      | none => none) else none
    | _ => none)
  | .ifnull off => (match S.2.2.2.1 with
    | a :: r => bif Nat.beq a.1 3 then (match cz_to pc off with
      | some t => dz_fn t (fun t => dz_fn (Nat.add pc 3) (fun f => dz_cmp2 (dz_stk S r) .le a.2.1 (dz_cst 0) t f hn))
      | none => none) else none
    | _ => none)
  | .ifnonnull off => (match S.2.2.2.1 with
    | a :: r => bif Nat.beq a.1 3 then (match cz_to pc off with
      | some t => dz_fn t (fun t => dz_fn (Nat.add pc 3) (fun f => dz_cmp2 (dz_stk S r) .gt a.2.1 (dz_cst 0) t f hn))
      | none => none) else none
    | _ => none)
  | .goto off => (match cz_to pc off with
    | some t => dz_fn t (fun t => some [(t, S)])
    | none => none)
  | .tableswitch dflt lo hi offs => (match S.2.2.2.1 with
    | a :: r => bif Nat.beq a.1 0 && dz_z (Int.sub (Int.add (Int.sub hi lo) 1) (.ofNat offs.toList.length)) then (match cz_to pc dflt, hn.2.2, hn.2.1 with
      | some t, m1 :: m2 :: ms, c1 :: c2 :: cs => (match dz_way (dz_stk S r) .lt a.2.1 (dz_cst lo) m1 c1, dz_way (dz_stk S r) .gt a.2.1 (dz_cst hi) m2 c2, dz_tabs (dz_stk S r) a.2.1 pc offs.toList lo ms cs with
        | some o1, some o2, some R => dz_fn t (fun t => some ((match o1 with | some q => [(t, q)] | none => []) ++ ((match o2 with | some q => [(t, q)] | none => []) ++ R)))
        | _, _, _ => none)
      | _, _, _ => none) else none
    | _ => none)
  | _ => none
theorem dz_null_n (o : Option Nat) : dz_n (.inr (.inr o)) ≤ 0 ↔ o = none := by
  cases o with
  | none => exact ⟨fun _ => rfl, fun _ => Int.le_refl 0⟩
  | some r => exact ⟨fun w => by have : (r : Int) + 1 ≤ 0 := w; omega, fun w => by cases w⟩
set_option maxHeartbeats 4000000 in
theorem dz_br_ok (hG : dz_G T X S ρ τ h L st) {i : Instr} {pc : Nat} {hn : dz_Hn} {R : List (Nat × dz_S)} (hr : dz_br i pc hn S = some R) : cz_pure i nL L st = none ∧ ∃ p' S' st', (p', S') ∈ R ∧ cz_br i pc st = some (p', st') ∧ dz_G T X S' ρ τ h L st' ∧ S'.1 = S.1 := by
  have hs := hG.2.2.1
  cases i
  case ifCond c off =>
    refine ⟨rfl, ?_⟩
    simp only [dz_br] at hr
    split at hr
    · rename_i a r he
      rw [he] at hs
      obtain ⟨v, w, rfl, h1, h2⟩ := hs.inv
      cases hk : Nat.beq a.1 0 with
      | false => rw [hk] at hr; cases hr
      | true =>
        rw [hk] at hr
        obtain ⟨x, rfl, hx⟩ := h1.int hk
        simp only [cond_true] at hr
        split at hr
        · rename_i t ht
          simp only [dz_fn_eq] at hr
          have hG2 : dz_G T X (dz_stk S r) ρ τ h L w := hG.stack h2
          obtain ⟨k1, k2⟩ := dz_cmp2_ok hG2 (x := x.toInt) (y := (0 : Int32).toInt) hx (dz_ok_cst 0) hr
          rcases dz_cv_or c x.toInt (0 : Int32).toInt with q | q
          · obtain ⟨S', h3, h4, h5⟩ := k1 q
            refine ⟨t, S', w, h3, ?_, h4, h5⟩
            show (match cz_to pc off with
              | some t => some (bif cz_cd c x 0 then t else pc + 3, w)
              | none => none) = _
            rw [ht, dz_cd_eq.1 q]; rfl
          · obtain ⟨S', h3, h4, h5⟩ := k2 q
            refine ⟨pc + 3, S', w, h3, ?_, h4, h5⟩
            show (match cz_to pc off with
              | some t => some (bif cz_cd c x 0 then t else pc + 3, w)
              | none => none) = _
            rw [ht, dz_cd_eq.2 q]; rfl
        · cases hr
    · cases hr
  case if_icmp c off =>
    refine ⟨rfl, ?_⟩
    simp only [dz_br] at hr
    split at hr
    · rename_i b a r he
      rw [he] at hs
      obtain ⟨v2, w1, rfl, hb, h20⟩ := hs.inv
      obtain ⟨v1, w, rfl, ha, h2⟩ := h20.inv
      cases hk : (Nat.beq a.1 0 && Nat.beq b.1 0) with
      | false => rw [hk] at hr; cases hr
      | true =>
        rw [hk] at hr
        simp only [Bool.and_eq_true] at hk
        obtain ⟨x, rfl, hx⟩ := ha.int hk.1
        obtain ⟨y, rfl, hy⟩ := hb.int hk.2
        simp only [cond_true] at hr
        split at hr
        · rename_i t ht
          simp only [dz_fn_eq] at hr
          have hG2 : dz_G T X (dz_stk S r) ρ τ h L w := hG.stack h2
          obtain ⟨k1, k2⟩ := dz_cmp2_ok hG2 hx hy hr
          rcases dz_cv_or c x.toInt y.toInt with q | q
          · obtain ⟨S', h3, h4, h5⟩ := k1 q
            refine ⟨t, S', w, h3, ?_, h4, h5⟩
            show (match cz_to pc off with
              | some t => some (bif cz_cd c x y then t else pc + 3, w)
              | none => none) = _
            rw [ht, dz_cd_eq.1 q]; rfl
          · obtain ⟨S', h3, h4, h5⟩ := k2 q
            refine ⟨pc + 3, S', w, h3, ?_, h4, h5⟩
            show (match cz_to pc off with
              | some t => some (bif cz_cd c x y then t else pc + 3, w)
              | none => none) = _
            rw [ht, dz_cd_eq.2 q]; rfl
        · cases hr
    · cases hr
  case ifnull off =>
    refine ⟨rfl, ?_⟩
    simp only [dz_br] at hr
    split at hr
    · rename_i a r he
      rw [he] at hs
      obtain ⟨v, w, rfl, h1, h2⟩ := hs.inv
      cases hk : Nat.beq a.1 3 with
      | false => rw [hk] at hr; cases hr
      | true =>
        rw [hk] at hr
        obtain ⟨o, rfl, hx, _⟩ := h1.ref hk
        simp only [cond_true] at hr
        split at hr
        · rename_i t ht
          simp only [dz_fn_eq] at hr
          have hG2 : dz_G T X (dz_stk S r) ρ τ h L w := hG.stack h2
          obtain ⟨k1, k2⟩ := dz_cmp2_ok hG2 hx (dz_ok_cst 0) hr
          cases o with
          | none =>
            obtain ⟨S', h3, h4, h5⟩ := k1 ((dz_null_n none).mpr rfl)
            refine ⟨t, S', w, h3, ?_, h4, h5⟩
            show (match cz_to pc off with
              | some t => some (t, w)
              | none => none) = _
            rw [ht]
          | some z =>
            obtain ⟨S', h3, h4, h5⟩ := k2 (by show (0 : Int) < (z : Int) + 1; omega)
            exact ⟨pc + 3, S', w, h3, rfl, h4, h5⟩
        · cases hr
    · cases hr
  case ifnonnull off =>
    refine ⟨rfl, ?_⟩
    simp only [dz_br] at hr
    split at hr
    · rename_i a r he
      rw [he] at hs
      obtain ⟨v, w, rfl, h1, h2⟩ := hs.inv
      cases hk : Nat.beq a.1 3 with
      | false => rw [hk] at hr; cases hr
      | true =>
        rw [hk] at hr
        obtain ⟨o, rfl, hx, _⟩ := h1.ref hk
        simp only [cond_true] at hr
        split at hr
        · rename_i t ht
          simp only [dz_fn_eq] at hr
          have hG2 : dz_G T X (dz_stk S r) ρ τ h L w := hG.stack h2
          obtain ⟨k1, k2⟩ := dz_cmp2_ok hG2 hx (dz_ok_cst 0) hr
          cases o with
          | none =>
            obtain ⟨S', h3, h4, h5⟩ := k2 ((dz_null_n none).mpr rfl)
            exact ⟨pc + 3, S', w, h3, rfl, h4, h5⟩
          | some z =>
            obtain ⟨S', h3, h4, h5⟩ := k1 (by show (0 : Int) < (z : Int) + 1; omega)
            refine ⟨t, S', w, h3, ?_, h4, h5⟩
            show (match cz_to pc off with
              | some t => some (t, w)
              | none => none) = _
            rw [ht]
        · cases hr
    · cases hr
  case goto off =>
    refine ⟨rfl, ?_⟩
    simp only [dz_br] at hr
    split at hr
    · rename_i t ht
      simp only [dz_fn_eq] at hr
      cases hr
      refine ⟨t, S, st, List.mem_cons_self, ?_, hG, rfl⟩
      show (match cz_to pc off with
        | some t => some (t, st)
        | none => none) = _
      rw [ht]
    · cases hr
  case tableswitch dflt lo hi offs =>
    refine ⟨rfl, ?_⟩
    simp only [dz_br] at hr
    split at hr
    · rename_i a r he
      rw [he] at hs
      obtain ⟨v, w, rfl, h1, h2⟩ := hs.inv
      cases hk : (Nat.beq a.1 0 && dz_z (Int.sub (Int.add (Int.sub hi lo) 1) (.ofNat offs.toList.length))) with
      | false => rw [hk] at hr; cases hr
      | true =>
        rw [hk] at hr
        simp only [Bool.and_eq_true] at hk
        have hz := dz_z_ok hk.2
        have hz : hi - lo + 1 - (offs.toList.length : Int) = 0 := hz
        obtain ⟨x, rfl, hx⟩ := h1.int hk.1
        simp only [cond_true] at hr
        split at hr
        · rename_i t m1 m2 ms c1 c2 cs ht _ _
          split at hr
          · rename_i o1 o2 R' k1 k2 k3
            simp only [dz_fn_eq] at hr
            cases hr
            have hG2 : dz_G T X (dz_stk S r) ρ τ h L w := hG.stack h2
            have hgo : ∀ off p', cz_tab dflt lo hi offs x.toInt = some off → cz_to pc off = some p' → cz_br (.tableswitch dflt lo hi offs) pc (.inl x :: w) = some (p', w) := by
              intro off p' e1 e2
              show (match cz_tab dflt lo hi offs x.toInt with
                | some off => match cz_to pc off with
                  | some t => some (t, w)
                  | none => none
                | none => none) = _
              rw [e1]; dsimp only; rw [e2]
            by_cases q1 : x.toInt < lo
            · obtain ⟨S', rfl, h4, h5⟩ := dz_way_ok hG2 hx (dz_ok_cst lo) (c := .lt) q1 k1
              refine ⟨t, S', w, List.mem_append.mpr (Or.inl List.mem_cons_self), hgo dflt t ?_ ht, h4, h5⟩
              unfold cz_tab; rw [decide_eq_true q1]; rfl
            · by_cases q2 : hi < x.toInt
              · obtain ⟨S', rfl, h4, h5⟩ := dz_way_ok hG2 hx (dz_ok_cst hi) (c := .gt) q2 k2
                refine ⟨t, S', w, List.mem_append.mpr (Or.inr (List.mem_append.mpr (Or.inl List.mem_cons_self))), hgo dflt t ?_ ht, h4, h5⟩
                unfold cz_tab; rw [decide_eq_true q2, Bool.or_true]; rfl
              · obtain ⟨off, t', S', h4, h5, h6, h7⟩ := dz_tabs_ok hG2 hx k3 (x.toInt - lo).toNat (by omega) (by omega)
                refine ⟨t', S', w, List.mem_append.mpr (Or.inr (List.mem_append.mpr (Or.inr h6))), hgo off t' ?_ h5, h7⟩
                unfold cz_tab; rw [decide_eq_false q1, decide_eq_false q2]
                show offs[(x.toInt - lo).toNat]? = some off
                rw [← h4, Array.getElem?_toList]
          · cases hr
        · cases hr
    · cases hr
  all_goals (exact absurd hr (by simp [dz_br]))
end DzBr
