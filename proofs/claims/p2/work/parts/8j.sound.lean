section EzDv
variable {d : Nat} {M : cz_M} {pc : Nat} {L : List (Nat × ez_V)} {st : List ez_V} {h : cz_H} {Q : cz_F → Prop}
theorem nz_div {a b : Int} (a0 : 0 ≤ a) (a1 : a ≤ 2147483647) (b0 : 0 < b) (b1 : b ≤ 2147483647) : Int32.ofInt a / Int32.ofInt b = Int32.ofInt (a / b) := by
  apply Int32.toInt_inj.mp
  have ea : (Int32.ofInt a).toInt = a := dz_toInt_i (by omega) (by omega)
  have eb : (Int32.ofInt b).toInt = b := dz_toInt_i (by omega) (by omega)
  have hq : 0 ≤ a / b := Int.ediv_nonneg a0 (by omega)
  have hq2 : a / b ≤ a := Int.ediv_le_self b a0
  rw [Int32.toInt_div, ea, eb, dz_toInt_i (n := a / b) (by omega) (by omega), Int.tdiv_eq_ediv_of_nonneg a0]
  rw [Int.bmod_eq_of_le (by omega) (by omega)]
theorem nz_rem {a b : Int} (a0 : 0 ≤ a) (a1 : a ≤ 2147483647) (b0 : 0 < b) (b1 : b ≤ 2147483647) : Int32.ofInt a - Int32.ofInt a / Int32.ofInt b * Int32.ofInt b = Int32.ofInt (a % b) := by
  rw [nz_div a0 a1 b0 b1, ← Int32.ofInt_mul, ← Int32.ofInt_sub, Int.emod_def, Int.mul_comm]
theorem ez_div {a b : Int} (hc : cz_code M pc = some (.idiv, 1)) (a0 : 0 ≤ a) (a1 : a ≤ 2147483647) (b0 : 0 < b) (b1 : b ≤ 2147483647) (k : ez_W d M (pc + 1) L (.inl (a / b) :: st) h Q) : ez_W d M pc L (.inl b :: .inl a :: st) h Q := by
  have eb : (Int32.ofInt b).toInt = b := dz_toInt_i (by omega) (by omega)
  have hb : Int32.ofInt b ≠ 0 := fun e => by rw [e] at eb; have : (0 : Int32).toInt = 0 := rfl; omega
  refine dz_wp_pure (q := (ez_L L, .inl (Int32.ofInt (a / b)) :: st.map ez_v)) hc rfl ?_ k
  show (bif decide (Int32.ofInt b = 0) then none else some (ez_L L, (.inl (Int32.ofInt a / Int32.ofInt b) : cz_V) :: st.map ez_v)) = _
  rw [decide_eq_false hb, nz_div a0 a1 b0 b1]
  rfl
theorem ez_rem {a b : Int} (hc : cz_code M pc = some (.irem, 1)) (a0 : 0 ≤ a) (a1 : a ≤ 2147483647) (b0 : 0 < b) (b1 : b ≤ 2147483647) (k : ez_W d M (pc + 1) L (.inl (a % b) :: st) h Q) : ez_W d M pc L (.inl b :: .inl a :: st) h Q := by
  have eb : (Int32.ofInt b).toInt = b := dz_toInt_i (by omega) (by omega)
  have hb : Int32.ofInt b ≠ 0 := fun e => by rw [e] at eb; have : (0 : Int32).toInt = 0 := rfl; omega
  refine dz_wp_pure (q := (ez_L L, .inl (Int32.ofInt (a % b)) :: st.map ez_v)) hc rfl ?_ k
  show (bif decide (Int32.ofInt b = 0) then none else some (ez_L L, (.inl (Int32.ofInt a - Int32.ofInt a / Int32.ofInt b * Int32.ofInt b) : cz_V) :: st.map ez_v)) = _
  rw [decide_eq_false hb, nz_rem a0 a1 b0 b1]
  rfl
end EzDv
/-! SOUND, as a property of what is told of each point. -/
abbrev hz (x : Int) : Prop := 44032 ≤ x ∧ x ≤ 55203
def hz_sy (x : Int) : List Int := if (x - 44032) % 28 = 0 then [4352 + (x - 44032) / 588, 4449 + (x - 44032) % 588 / 28] else [4352 + (x - 44032) / 588, 4449 + (x - 44032) % 588 / 28, 4519 + (x - 44032) % 28]
def hz_pair (a b : Int) : Prop := ((4352 ≤ a ∧ a ≤ 4370) ∧ 4449 ≤ b ∧ b ≤ 4469) ∨ (hz a ∧ (a - 44032) % 28 = 0 ∧ 4520 ≤ b ∧ b ≤ 4546)
def uz_L (f : Int → Option (List Int)) : List Int → Option (List Int)
  | [] => some []
  | v :: vs => match f v, uz_L f vs with
    | some a, some b => some (a ++ b)
    | _, _ => none
/-- the full decomposition, with so much fuel -/
def uz_f (F : rz_W) (c : Bool) : Nat → Int → Option (List Int)
  | 0, _ => none
  | n + 1, x => if hz x then some (hz_sy x) else match (F x).2 with
    | none => some [x]
    | some q => if c = true ∨ q.1 = 0 then uz_L (uz_f F c n) q.2 else some [x]
def uz_F (F : rz_W) (c : Bool) (x : Int) (l : List Int) : Prop := ∃ n, uz_f F c n x = some l
def uz_FL (F : rz_W) (c : Bool) (vs l : List Int) : Prop := ∃ n, uz_L (uz_f F c n) vs = some l
theorem uz_L_mono {f g : Int → Option (List Int)} (h : ∀ x l, f x = some l → g x = some l) : ∀ vs l, uz_L f vs = some l → uz_L g vs = some l
  | [], l, hl => hl
  | v :: vs, l, hl => by
    unfold uz_L at hl ⊢
    cases h1 : f v with
    | none => rw [h1] at hl; cases hl
    | some a =>
      cases h2 : uz_L f vs with
      | none => rw [h1, h2] at hl; cases hl
      | some b =>
        rw [h1, h2] at hl
        rw [h v a h1, uz_L_mono h vs b h2]
        exact hl
theorem uz_f_succ (F : rz_W) (c : Bool) : ∀ n x l, uz_f F c n x = some l → uz_f F c (n + 1) x = some l
  | 0, x, l, h => by cases h
  | n + 1, x, l, h => by
    unfold uz_f at h ⊢
    split at h
    · rename_i e; rw [if_pos e]; exact h
    · rename_i e
      rw [if_neg e]
      split at h
      · exact h
      · rename_i q _
        split at h
        · rename_i e2
          rw [if_pos e2]
          exact uz_L_mono (fun x l => uz_f_succ F c n x l) _ _ h
        · rename_i e2
          rw [if_neg e2]; exact h
theorem uz_f_mono (F : rz_W) (c : Bool) (n : Nat) (x : Int) (l : List Int) (h : uz_f F c n x = some l) : ∀ k, uz_f F c (n + k) x = some l
  | 0 => h
  | k + 1 => uz_f_succ F c (n + k) x l (uz_f_mono F c n x l h k)
theorem uz_FL_mono {F : rz_W} {c : Bool} {n : Nat} {vs l : List Int} (h : uz_L (uz_f F c n) vs = some l) (k : Nat) : uz_L (uz_f F c (n + k)) vs = some l := uz_L_mono (fun x l w => uz_f_mono F c n x l w k) vs l h
theorem uz_uniq {F : rz_W} {c : Bool} {x : Int} {l l' : List Int} (h : uz_F F c x l) (h' : uz_F F c x l') : l = l' := by
  obtain ⟨n, h⟩ := h
  obtain ⟨m, h'⟩ := h'
  have e := uz_f_mono F c n x l h m
  have e' := uz_f_mono F c m x l' h' n
  rw [Nat.add_comm m n, e] at e'
  cases e'
  rfl
theorem uz_L_uniq {F : rz_W} {c : Bool} {vs l l' : List Int} (h : uz_FL F c vs l) (h' : uz_FL F c vs l') : l = l' := by
  obtain ⟨n, h⟩ := h
  obtain ⟨m, h'⟩ := h'
  have e := uz_FL_mono h m
  have e' := uz_FL_mono h' n
  rw [Nat.add_comm m n, e] at e'
  cases e'
  rfl
theorem uz_nil (F : rz_W) (c : Bool) : uz_FL F c [] [] := ⟨0, rfl⟩
theorem uz_cons {F : rz_W} {c : Bool} {v : Int} {vs a b : List Int} (h1 : uz_F F c v a) (h2 : uz_FL F c vs b) : uz_FL F c (v :: vs) (a ++ b) := by
  obtain ⟨n, h1⟩ := h1
  obtain ⟨m, h2⟩ := h2
  refine ⟨n + m, ?_⟩
  unfold uz_L
  have e1 := uz_f_mono F c n v a h1 m
  have e2 := uz_FL_mono h2 n
  rw [Nat.add_comm m n] at e2
  rw [e1, e2]
theorem uz_cons_inv {F : rz_W} {c : Bool} {v : Int} {vs l : List Int} (h : uz_FL F c (v :: vs) l) : ∃ a b, uz_F F c v a ∧ uz_FL F c vs b ∧ l = a ++ b := by
  obtain ⟨n, h⟩ := h
  unfold uz_L at h
  cases h1 : uz_f F c n v with
  | none => rw [h1] at h; cases h
  | some a =>
    cases h2 : uz_L (uz_f F c n) vs with
    | none => rw [h1, h2] at h; cases h
    | some b => rw [h1, h2] at h; cases h; exact ⟨a, b, ⟨n, h1⟩, ⟨n, h2⟩, rfl⟩
theorem uz_snoc {F : rz_W} {c : Bool} {v : Int} {b : List Int} (h2 : uz_F F c v b) : ∀ {vs a : List Int}, uz_FL F c vs a → uz_FL F c (vs ++ [v]) (a ++ b)
  | [], a, h1 => by
    have e : a = [] := uz_L_uniq h1 (uz_nil F c)
    subst e
    have := uz_cons h2 (uz_nil F c)
    rw [List.append_nil] at this
    exact this
  | w :: vs, a, h1 => by
    obtain ⟨p, q, p1, p2, rfl⟩ := uz_cons_inv h1
    rw [List.append_assoc]
    exact uz_cons p1 (uz_snoc h2 p2)
theorem uz_syl {F : rz_W} {c : Bool} {x : Int} (h : hz x) : uz_F F c x (hz_sy x) := ⟨1, by unfold uz_f; rw [if_pos h]⟩
theorem uz_leaf {F : rz_W} {c : Bool} {x : Int} (h : ¬ hz x) (h1 : (F x).2 = none) : uz_F F c x [x] := ⟨1, by unfold uz_f; rw [if_neg h, h1]⟩
theorem uz_row {F : rz_W} {c : Bool} {x cp : Int} {vs l : List Int} (h : ¬ hz x) (h1 : (F x).2 = some (cp, vs)) (h2 : c = true ∨ cp = 0) (h3 : uz_FL F c vs l) : uz_F F c x l := by
  obtain ⟨n, h3⟩ := h3
  refine ⟨n + 1, ?_⟩
  unfold uz_f
  rw [if_neg h, h1]
  dsimp only
  rw [if_pos h2]
  exact h3
theorem uz_keep {F : rz_W} {c : Bool} {x cp : Int} {vs : List Int} (h : ¬ hz x) (h1 : (F x).2 = some (cp, vs)) (h2 : ¬ (c = true ∨ cp = 0)) : uz_F F c x [x] := by
  refine ⟨1, ?_⟩
  unfold uz_f
  rw [if_neg h, h1]
  dsimp only
  rw [if_neg h2]
theorem uz_row_inv {F : rz_W} {c : Bool} {x cp : Int} {vs l : List Int} (h : ¬ hz x) (h1 : (F x).2 = some (cp, vs)) (h2 : c = true ∨ cp = 0) (h3 : uz_F F c x l) : uz_FL F c vs l := by
  obtain ⟨n, h3⟩ := h3
  cases n with
  | zero => cases h3
  | succ n =>
    unfold uz_f at h3
    rw [if_neg h, h1] at h3
    dsimp only at h3
    rw [if_pos h2] at h3
    exact ⟨n, h3⟩
/-- no chain of decompositions without end from there -/
def az (F : rz_W) : Nat → Int → Prop
  | 0, _ => False
  | n + 1, x => hz x ∨ (F x).2 = none ∨ ∃ cp vs, (F x).2 = some (cp, vs) ∧ ∀ v ∈ vs, az F n v
theorem az_succ (F : rz_W) : ∀ n x, az F n x → az F (n + 1) x
  | 0, x, h => h.elim
  | n + 1, x, h => by
    rcases h with h | h | ⟨cp, vs, h1, h2⟩
    · exact Or.inl h
    · exact Or.inr (Or.inl h)
    · exact Or.inr (Or.inr ⟨cp, vs, h1, fun v hv => az_succ F n v (h2 v hv)⟩)
theorem az_mono (F : rz_W) (n : Nat) (x : Int) (h : az F n x) : ∀ k, az F (n + k) x
  | 0 => h
  | k + 1 => az_succ F (n + k) x (az_mono F n x h k)
def az_e (F : rz_W) (x : Int) : Prop := ∃ n, az F n x
theorem az_list (F : rz_W) : ∀ vs : List Int, (∀ v ∈ vs, az_e F v) → ∃ n, ∀ v ∈ vs, az F n v
  | [], _ => ⟨0, fun v hv => by cases hv⟩
  | w :: vs, h => by
    obtain ⟨n, hn⟩ := az_list F vs (fun v hv => h v (List.mem_cons_of_mem _ hv))
    obtain ⟨m, hm⟩ := h w List.mem_cons_self
    refine ⟨n + m, fun v hv => ?_⟩
    rcases List.mem_cons.mp hv with rfl | hv
    · rw [Nat.add_comm]; exact az_mono F m _ hm n
    · exact az_mono F n v (hn v hv) m
theorem az_row {F : rz_W} {x cp : Int} {vs : List Int} (h1 : (F x).2 = some (cp, vs)) (h : ∀ v ∈ vs, az_e F v) : az_e F x := by
  obtain ⟨n, hn⟩ := az_list F vs h
  exact ⟨n + 1, Or.inr (Or.inr ⟨cp, vs, h1, hn⟩)⟩
theorem az_leaf {F : rz_W} {x : Int} (h : hz x ∨ (F x).2 = none) : az_e F x := ⟨1, h.elim Or.inl (fun w => Or.inr (Or.inl w))⟩
theorem az_row_inv {F : rz_W} {x cp : Int} {vs : List Int} (h0 : ¬ hz x) (h1 : (F x).2 = some (cp, vs)) (h : az_e F x) : ∀ v ∈ vs, az_e F v := by
  obtain ⟨n, h⟩ := h
  cases n with
  | zero => exact h.elim
  | succ n =>
    rcases h with h | h | ⟨cp', vs', h2, h3⟩
    · exact absurd h h0
    · rw [h1] at h; cases h
    · rw [h1] at h2; cases h2
      exact fun v hv => ⟨n, h3 v hv⟩
/-- a set without end -/
theorem az_cycle {F : rz_W} {Z : Int → Prop} (h : ∀ z, Z z → ¬ hz z ∧ ∃ cp vs, (F z).2 = some (cp, vs) ∧ ∃ v ∈ vs, Z v) : ∀ n z, Z z → ¬ az F n z
  | 0, z, _, w => w
  | n + 1, z, hz', w => by
    obtain ⟨h0, cp, vs, h1, v, h2, h3⟩ := h z hz'
    rcases w with w | w | ⟨cp', vs', w1, w2⟩
    · exact h0 w
    · rw [h1] at w; cases w
    · rw [h1] at w1; cases w1
      exact az_cycle h n v h3 (w2 v h2)
theorem az_ful (F : rz_W) (c : Bool) : ∀ n x, az F n x → ∃ l, uz_F F c x l
  | 0, x, h => h.elim
  | n + 1, x, h => by
    by_cases e : hz x
    · exact ⟨_, uz_syl e⟩
    · rcases h with h | h | ⟨cp, vs, h1, h2⟩
      · exact absurd h e
      · exact ⟨_, uz_leaf e h⟩
      · by_cases e2 : c = true ∨ cp = 0
        · have : ∀ ws : List Int, (∀ v ∈ ws, az F n v) → ∃ l, uz_FL F c ws l := by
            intro ws
            induction ws with
            | nil => intro _; exact ⟨_, uz_nil F c⟩
            | cons w ws ih =>
              intro hw
              obtain ⟨b, hb⟩ := ih (fun v hv => hw v (List.mem_cons_of_mem _ hv))
              obtain ⟨a, ha⟩ := az_ful F c n w (hw w List.mem_cons_self)
              exact ⟨_, uz_cons ha hb⟩
          obtain ⟨l, hl⟩ := this vs h2
          exact ⟨l, uz_row e h1 e2 hl⟩
        · exact ⟨_, uz_keep e h1 e2⟩
/-- excluded from composition -/
def ez_x (F : rz_W) (E : Int → Prop) (x : Int) : Prop := (E x ∨ 0 < (F x).1) ∨ ∃ a b, (F x).2 = some (0, [a, b]) ∧ 0 < (F a).1
/-- a primary composite with its pair -/
def ez_p (F : rz_W) (E : Int → Prop) (x a b : Int) : Prop := (F x).2 = some (0, [a, b]) ∧ ¬ ez_x F E x
def uz_S1 (F : rz_W) : Prop := ∀ x cp vs, (F x).2 = some (cp, vs) → ¬ hz x ∧ (cp = 0 → vs.length ≤ 2)
def uz_S2 (F : rz_W) : Prop := ∀ x, (F x).2 ≠ none → az_e F x
def uz_S3 (F : rz_W) : Prop := ∀ x, (F x).2 ≠ none → ∀ c, ∃ l, uz_F F c x l ∧ l.length ≤ 40
def uz_S4 (F : rz_W) (E : Int → Prop) : Prop := (∀ x a b, ez_p F E x a b → ¬ hz_pair a b) ∧ ∀ x y a b, ez_p F E x a b → ez_p F E y a b → x = y
def uz_S (F : rz_W) (E : Int → Prop) : Prop := uz_S1 F ∧ uz_S2 F ∧ uz_S3 F ∧ uz_S4 F E
/-- what is told is of the right kind -/
def uz_wf (F : rz_W) : Prop := ∀ x, 0 ≤ (F x).1 ∧ ∀ cp vs, (F x).2 = some (cp, vs) → (cp = 0 ∨ cp = 1) ∧ (1 ≤ vs.length ∧ vs.length ≤ 18) ∧ (∀ v ∈ vs, 0 ≤ v ∧ v ≤ 1114111) ∧ 0 ≤ x ∧ x ≤ 1114111
theorem rz_row_bd (b : Int → Int) : ∀ (m : Nat) (a t : Int) (l : List Int), rz_row b m a t = some l → ∀ v ∈ l, 0 ≤ v ∧ v ≤ 1114111
  | 0, a, t, l, h, v, hv => by
    unfold rz_row at h
    cases h
    cases hv
  | m + 1, a, t, l, h, v, hv => by
    unfold rz_row at h
    split at h
    · cases h
    · rename_i e
      obtain ⟨l', h1, h2⟩ := Option.map_eq_some_iff.mp h
      subst h2
      rcases List.mem_cons.mp hv with rfl | hv
      · have := rz_code_bd b (rz_skip b (t - a).toNat a) (rz_tok b (t - rz_skip b (t - a).toNat a).toNat (rz_skip b (t - a).toNat a))
        omega
      · exact rz_row_bd b m _ t _ h1 v hv
theorem uz_wf_step {b : Int → Int} {n kind : Int} {F F' : rz_W} {E E' : Int → Prop} (hw : uz_wf F) (h : rz_step b n kind F E F' E') : uz_wf F' := by
  by_cases k0 : kind = 0
  · rcases h.1 k0 with ⟨f, l, c, dd, a1, a2, a3⟩ | ⟨a1, a2, a3⟩
    · intro x
      rw [a2 x]
      split
      · rename_i hx
        obtain ⟨A, hA, hF⟩ := a1
        refine ⟨hF.2.2.1.2.1.1, fun cp vs e => ?_⟩
        dsimp only at e
        rcases hF.2.2.2.1 with ⟨w1, w2⟩ | ⟨w1, cp', bg, vs', w2, w3, w4⟩
        · rw [w2] at e; cases e
        · rw [w4] at e; cases e
          have hc := rz_db_cp w2
          have hl := rz_rw_len w3
          unfold rz_rw at w3
          split at w3
          · rename_i hb
            have bl := rz_last_bd b (rz_ff b A 0) (rz_tt b A 0)
            have bf := rz_code_bd b (rz_ff b A 0) (rz_dots b (rz_tt b A 0 - rz_ff b A 0).toNat (rz_ff b A 0))
            have ef2 : rz_first b (rz_ff b A 0) (rz_tt b A 0) = rz_code b (rz_ff b A 0) (rz_dots b (rz_tt b A 0 - rz_ff b A 0).toNat (rz_ff b A 0)) := rfl
            have q := hF.1
            refine ⟨hc, by omega, rz_row_bd b _ _ _ _ w3, by omega, by omega⟩
          · cases w3
      · exact hw x
    · rw [a2]; exact hw
  · by_cases k3 : kind = 3
    · rcases h.2.1 k3 with ⟨f, l, a1, a2, a3⟩ | ⟨a1, a2, a3⟩
      · rw [a2]; exact hw
      · rw [a2]; exact hw
    · rw [(h.2.2 k0 k3).1]; exact hw
/-- sums of weights -/
def wz (W : Int → Nat) : List Int → Nat
  | [] => 0
  | x :: xs => W x + wz W xs
theorem wz_le {W W' : Int → Nat} : ∀ {xs : List Int}, (∀ x, W' x ≤ W x) → wz W' xs ≤ wz W xs
  | [], _ => Nat.le_refl _
  | x :: xs, h => by
    have := wz_le (xs := xs) h
    have := h x
    unfold wz
    omega
theorem wz_lt {W W' : Int → Nat} {y : Int} {k : Nat} : ∀ {xs : List Int}, (∀ x, W' x ≤ W x) → y ∈ xs → W' y + k ≤ W y → wz W' xs + k ≤ wz W xs
  | x :: xs, h, hy, hk => by
    unfold wz
    rcases List.mem_cons.mp hy with rfl | hy
    · have := wz_le (xs := xs) h
      omega
    · have := wz_lt (xs := xs) h hy hk
      have := h x
      omega
theorem wz_const {k : Nat} : ∀ (xs : List Int), wz (fun _ => k) xs = k * xs.length
  | [] => by unfold wz; simp
  | x :: xs => by
    unfold wz
    rw [wz_const xs, List.length_cons, Nat.mul_add]
    omega
