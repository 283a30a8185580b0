/-! L2, part 2: the machine ends from here, and so that .. (more fuel changes nothing); a step at a time. -/
def dz_le (i1 i2 : cz_Ih) : Prop := ∀ d M pc L st h F, i1 d M pc L st h = some F → i2 d M pc L st h = some F
theorem dz_sK_mono {i1 i2 : cz_Ih} (hi : dz_le i1 i2) {d : Nat} {M : cz_M} {pc : Nat} {L : List (Nat × cz_V)} {rest : List cz_V} {q F : cz_F} (h : cz_sK i1 d M pc L rest q = some F) : cz_sK i2 d M pc L rest q = some F := by
  obtain ⟨(_ | w) | r, hh⟩ := q
  · exact hi _ _ _ _ _ _ _ h
  · exact hi _ _ _ _ _ _ _ h
  · have h1 : (match cz_exc hh r with
      | some k => (match cz_catch M pc k M.2.1.2.2.2 with
        | some (some t) => i1 d M t L [.inr (.inr (some r))] hh
        | some none => bif M.2.1.2.2.2.isEmpty then some (.inr r, hh) else none
        | none => none)
      | none => none) = some F := h
    show (match cz_exc hh r with
      | some k => (match cz_catch M pc k M.2.1.2.2.2 with
        | some (some t) => i2 d M t L [.inr (.inr (some r))] hh
        | some none => bif M.2.1.2.2.2.isEmpty then some (.inr r, hh) else none
        | none => none)
      | none => none) = some F
    revert h1
    cases cz_exc hh r with
    | none => exact id
    | some k =>
      dsimp only
      cases cz_catch M pc k M.2.1.2.2.2 with
      | none => exact id
      | some o => cases o with
        | none => exact id
        | some t => exact hi _ _ _ _ _ _ _
theorem dz_sC_mono {P : cz_P} {i1 i2 : cz_Ih} (hi : dz_le i1 i2) {d : Nat} {M : cz_M} {pc : Nat} {L : List (Nat × cz_V)} {h : cz_H} {o : Option (Nat × List cz_V × List cz_V)} {F : cz_F} (hx : cz_sC P i1 d M pc L h o = some F) : cz_sC P i2 d M pc L h o = some F := by
  obtain _ | ⟨y, as, rest⟩ := o
  · cases hx
  · have h1 : (match P.1[y]? with
      | some M' => bif (Nat.blt 0 d && cz_room h 0 0) && Nat.ble (cz_cat2 rest + (M'.2.1.2.1 + 11)) 100 && Nat.ble (cz_cat2 as) M'.2.1.2.1 then (match i1 (d - 1) M' 0 (cz_argl 0 as) [] h with
        | some q => cz_sK i1 d M pc L rest q
        | none => none) else none
      | none => none) = some F := hx
    show (match P.1[y]? with
      | some M' => bif (Nat.blt 0 d && cz_room h 0 0) && Nat.ble (cz_cat2 rest + (M'.2.1.2.1 + 11)) 100 && Nat.ble (cz_cat2 as) M'.2.1.2.1 then (match i2 (d - 1) M' 0 (cz_argl 0 as) [] h with
        | some q => cz_sK i2 d M pc L rest q
        | none => none) else none
      | none => none) = some F
    revert h1
    cases P.1[y]? with
    | none => exact id
    | some M' =>
      dsimp only
      cases ((Nat.blt 0 d && cz_room h 0 0) && Nat.ble (cz_cat2 rest + (M'.2.1.2.1 + 11)) 100 && Nat.ble (cz_cat2 as) M'.2.1.2.1) with
      | false => exact id
      | true =>
        dsimp only [cond_true]
        cases h2 : i1 (d - 1) M' 0 (cz_argl 0 as) [] h with
        | none => intro w; cases w
        | some q =>
          rw [hi _ _ _ _ _ _ _ h2]
          exact dz_sK_mono hi
theorem dz_s_mono {P : cz_P} {i1 i2 : cz_Ih} (hi : dz_le i1 i2) {d : Nat} {M : cz_M} {pc : Nat} {L : List (Nat × cz_V)} {st : List cz_V} {h : cz_H} {i : Instr} {len : Nat} {F : cz_F} (hx : cz_s P i1 d M pc L st h i len = some F) : cz_s P i2 d M pc L st h i len = some F := by
  unfold cz_s at hx ⊢
  revert hx
  cases cz_pure i M.2.1.2.1 L st with
  | some q =>
    dsimp only
    cases Nat.beq len (cz_len i) with
    | false => exact id
    | true => exact hi _ _ _ _ _ _ _
  | none =>
    dsimp only
    cases cz_br i pc st with
    | some q =>
      dsimp only
      cases (Nat.beq len (cz_len i) || cz_isw i) with
      | false => exact id
      | true => exact hi _ _ _ _ _ _ _
    | none =>
      dsimp only
      cases Nat.beq len (cz_len i) with
      | false => exact id
      | true =>
        dsimp only [cond_true]
        cases cz_ret i M.2.1.2.2.1 st with
        | some v => exact id
        | none =>
          dsimp only
          cases cz_throw M pc i with
          | some k => exact id
          | none =>
            dsimp only
            cases cz_hp P M d pc st h i with
            | some q => exact hi _ _ _ _ _ _ _
            | none => exact dz_sC_mono hi
theorem dz_x_succ (P : cz_P) : ∀ n, dz_le (cz_x P n) (cz_x P (n + 1))
  | 0 => fun d M pc L st h F hx => by cases hx
  | n + 1 => fun d M pc L st h F hx => by
    have ih := dz_x_succ P n
    have h1 : (match cz_code M pc with
      | some (i, len) => cz_s P (cz_x P n) d M pc L st h i len
      | none => none) = some F := hx
    show (match cz_code M pc with
      | some (i, len) => cz_s P (cz_x P (n + 1)) d M pc L st h i len
      | none => none) = some F
    revert h1
    cases cz_code M pc with
    | none => exact id
    | some q => exact dz_s_mono ih
theorem dz_x_mono (P : cz_P) (n : Nat) : ∀ k, dz_le (cz_x P n) (cz_x P (n + k))
  | 0 => fun d M pc L st h F hx => hx
  | k + 1 => fun d M pc L st h F hx => dz_x_succ P (n + k) d M pc L st h F (dz_x_mono P n k d M pc L st h F hx)
/-- it ends from here, and so -/
def dz_WP (P : cz_P) (d : Nat) (M : cz_M) (pc : Nat) (L : List (Nat × cz_V)) (st : List cz_V) (h : cz_H) (Q : cz_F → Prop) : Prop := ∃ n F, cz_x P n d M pc L st h = some F ∧ Q F
section DzWp
variable {P : cz_P} {d : Nat} {M : cz_M} {pc : Nat} {L : List (Nat × cz_V)} {st : List cz_V} {h : cz_H} {Q : cz_F → Prop} {i : Instr} {len : Nat}
theorem dz_wp_s (hc : cz_code M pc = some (i, len)) (k : ∃ n F, cz_s P (cz_x P n) d M pc L st h i len = some F ∧ Q F) : dz_WP P d M pc L st h Q := by
  obtain ⟨n, F, h1, h2⟩ := k
  refine ⟨n + 1, F, ?_, h2⟩
  show (match cz_code M pc with
    | some (i, len) => cz_s P (cz_x P n) d M pc L st h i len
    | none => none) = some F
  rw [hc]
  exact h1
theorem dz_wp_pure (hc : cz_code M pc = some (i, len)) (hl : Nat.beq len (cz_len i) = true) {q : List (Nat × cz_V) × List cz_V} (hp : cz_pure i M.2.1.2.1 L st = some q) (k : dz_WP P d M (pc + cz_len i) q.1 q.2 h Q) : dz_WP P d M pc L st h Q := by
  obtain ⟨n, F, h1, h2⟩ := k
  refine dz_wp_s hc ⟨n, F, ?_, h2⟩
  unfold cz_s
  rw [hp]
  dsimp only
  rw [hl]
  exact h1
theorem dz_wp_br (hc : cz_code M pc = some (i, len)) (hl : (Nat.beq len (cz_len i) || cz_isw i) = true) (hp : cz_pure i M.2.1.2.1 L st = none) {q : Nat × List cz_V} (hb : cz_br i pc st = some q) (k : dz_WP P d M q.1 L q.2 h Q) : dz_WP P d M pc L st h Q := by
  obtain ⟨n, F, h1, h2⟩ := k
  refine dz_wp_s hc ⟨n, F, ?_, h2⟩
  unfold cz_s
  rw [hp]
  dsimp only
  rw [hb]
  dsimp only
  rw [hl]
  exact h1
theorem dz_wp_ret (hc : cz_code M pc = some (i, len)) (hl : Nat.beq len (cz_len i) = true) (hp : cz_pure i M.2.1.2.1 L st = none) (hb : cz_br i pc st = none) {v : Option cz_V} (hr : cz_ret i M.2.1.2.2.1 st = some v) (k : Q (.inl v, h)) : dz_WP P d M pc L st h Q := by
  refine dz_wp_s hc ⟨0, _, ?_, k⟩
  unfold cz_s
  rw [hp]
  dsimp only
  rw [hb]
  dsimp only
  rw [hl]
  dsimp only [cond_true]
  rw [hr]
theorem dz_wp_throw (hc : cz_code M pc = some (i, len)) (hl : Nat.beq len (cz_len i) = true) (hp : cz_pure i M.2.1.2.1 L st = none) (hb : cz_br i pc st = none) (hr : cz_ret i M.2.1.2.2.1 st = none) {kx : Nat} (ht : cz_throw M pc i = some kx) (hroom : (cz_room h 1 6 && Nat.ble 6 d && Nat.ble (cz_cat2 st) 20) = true) (k : Q (.inr h.1, cz_push h 6 (.inr (.inr kx)))) : dz_WP P d M pc L st h Q := by
  refine dz_wp_s hc ⟨0, _, ?_, k⟩
  unfold cz_s
  rw [hp]
  dsimp only
  rw [hb]
  dsimp only
  rw [hl]
  dsimp only [cond_true]
  rw [hr]
  dsimp only
  rw [ht]
  dsimp only
  rw [hroom]
  rfl
theorem dz_wp_hp (hc : cz_code M pc = some (i, len)) (hl : Nat.beq len (cz_len i) = true) (hp : cz_pure i M.2.1.2.1 L st = none) (hb : cz_br i pc st = none) (hr : cz_ret i M.2.1.2.2.1 st = none) (ht : cz_throw M pc i = none) {q : cz_N} (hh : cz_hp P M d pc st h i = some q) (k : dz_WP P d M q.1 L q.2.1 q.2.2 Q) : dz_WP P d M pc L st h Q := by
  obtain ⟨n, F, h1, h2⟩ := k
  refine dz_wp_s hc ⟨n, F, ?_, h2⟩
  unfold cz_s
  rw [hp]
  dsimp only
  rw [hb]
  dsimp only
  rw [hl]
  dsimp only [cond_true]
  rw [hr]
  dsimp only
  rw [ht]
  dsimp only
  rw [hh]
  exact h1
theorem dz_wp_call (hc : cz_code M pc = some (i, len)) (hl : Nat.beq len (cz_len i) = true) (hp : cz_pure i M.2.1.2.1 L st = none) (hb : cz_br i pc st = none) (hr : cz_ret i M.2.1.2.2.1 st = none) (ht : cz_throw M pc i = none) (hh : cz_hp P M d pc st h i = none)
    {y : Nat} {as rest : List cz_V} (hca : cz_call i M st h = some (y, as, rest)) {M' : cz_M} (hM : P.1[y]? = some M') (hcond : ((Nat.blt 0 d && cz_room h 0 0) && Nat.ble (cz_cat2 rest + (M'.2.1.2.1 + 11)) 100 && Nat.ble (cz_cat2 as) M'.2.1.2.1) = true)
    (k : dz_WP P (d - 1) M' 0 (cz_argl 0 as) [] h (fun q => ∃ n F, cz_sK (cz_x P n) d M pc L rest q = some F ∧ Q F)) : dz_WP P d M pc L st h Q := by
  obtain ⟨n1, q, h1, n2, F, h2, h3⟩ := k
  refine dz_wp_s hc ⟨n1 + n2, F, ?_, h3⟩
  unfold cz_s
  rw [hp]
  dsimp only
  rw [hb]
  dsimp only
  rw [hl]
  dsimp only [cond_true]
  rw [hr]
  dsimp only
  rw [ht]
  dsimp only
  rw [hh]
  dsimp only
  unfold cz_sC
  rw [hca]
  dsimp only
  rw [hM]
  dsimp only
  rw [hcond]
  dsimp only [cond_true]
  rw [dz_x_mono P n1 n2 _ _ _ _ _ _ _ h1]
  dsimp only
  have hle : dz_le (cz_x P n2) (cz_x P (n1 + n2)) := by
    have := dz_x_mono P n2 n1
    rw [Nat.add_comm n2 n1] at this
    exact this
  exact dz_sK_mono hle h2
/-- back from a callee that returned -/
theorem dz_wp_back {o : Option cz_V} (k : dz_WP P d M (pc + 3) L (match o with | none => st | some w => w :: st) h Q) : ∃ n F, cz_sK (cz_x P n) d M pc L st (.inl o, h) = some F ∧ Q F := by
  obtain ⟨n, F, h1, h2⟩ := k
  cases o <;> exact ⟨n, F, h1, h2⟩
theorem dz_wp_catch {r kx t : Nat} (he : cz_exc h r = some kx) (hc : cz_catch M pc kx M.2.1.2.2.2 = some (some t)) (k : dz_WP P d M t L [.inr (.inr (some r))] h Q) : ∃ n F, cz_sK (cz_x P n) d M pc L st (.inr r, h) = some F ∧ Q F := by
  obtain ⟨n, F, h1, h2⟩ := k
  refine ⟨n, F, ?_, h2⟩
  show (match cz_exc h r with
    | some k => (match cz_catch M pc k M.2.1.2.2.2 with
      | some (some t) => cz_x P n d M t L [.inr (.inr (some r))] h
      | some none => bif M.2.1.2.2.2.isEmpty then some (.inr r, h) else none
      | none => none)
    | none => none) = some F
  rw [he]
  dsimp only
  rw [hc]
  exact h1
theorem dz_wp_pass {r kx : Nat} (he : cz_exc h r = some kx) (hc : cz_catch M pc kx M.2.1.2.2.2 = some none) (hm : M.2.1.2.2.2.isEmpty = true) (k : Q (.inr r, h)) : ∃ n F, cz_sK (cz_x P n) d M pc L st (.inr r, h) = some F ∧ Q F := by
  refine ⟨0, (.inr r, h), ?_, k⟩
  show (match cz_exc h r with
    | some k => (match cz_catch M pc k M.2.1.2.2.2 with
      | some (some t) => cz_x P 0 d M t L [.inr (.inr (some r))] h
      | some none => bif M.2.1.2.2.2.isEmpty then some (.inr r, h) else none
      | none => none)
    | none => none) = some (.inr r, h)
  rw [he]
  dsimp only
  rw [hc]
  dsimp only
  rw [hm]
  rfl
end DzWp
theorem dz_WP.imp {P : cz_P} {d : Nat} {M : cz_M} {pc : Nat} {L : List (Nat × cz_V)} {st : List cz_V} {h : cz_H} {Q R : cz_F → Prop} (w : dz_WP P d M pc L st h Q) (k : ∀ F, Q F → R F) : dz_WP P d M pc L st h R := by
  obtain ⟨n, F, h1, h2⟩ := w
  exact ⟨n, F, h1, k F h2⟩
