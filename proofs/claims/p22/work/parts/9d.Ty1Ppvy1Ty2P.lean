/-! CHANGE: what case, folding and WORDS ask of DATA (D, F) and a text u. -/
def uX (u : List Int) (j : Int) : Int := (u[j.toNat]?).getD 0
theorem uX_at {u : List Int} {j : Int} {v : Int} (h : u[j.toNat]? = some v) : uX u j = v := by unfold uX; rw [h]; rfl
theorem uX_e {u : List Int} {j : Int} (h : j.toNat < u.length) : u[j.toNat]? = some (uX u j) := by unfold uX; rw [List.getElem?_eq_getElem h]; rfl
theorem uX_ptl {u : List Int} (hu : ptl u) {j : Int} (h : j.toNat < u.length) : 0 ≤ uX u j ∧ uX u j ≤ 1114111 := hu _ (List.mem_of_getElem? (uX_e h))
/-- the last one before i at which to stop -/
def scB (P H : Int → Prop) (i : Int) : Prop := ∃ k, 0 ≤ k ∧ k < i ∧ P k ∧ H k ∧ ∀ j, k < j → j < i → ¬ P j
/-- the first one behind i at which to stop -/
def scA (P H : Int → Prop) (i n : Int) : Prop := ∃ k, i < k ∧ k < n ∧ P k ∧ H k ∧ ∀ j, i < j → j < k → ¬ P j
theorem scB_no {P H : Int → Prop} {i k : Int} (h : ∀ j, k < j → j < i → ¬ P j) (hk : k < 0) : ¬ scB P H i := fun ⟨m, a, b, c, _⟩ => h m (by omega) b c
theorem scB_not {P H : Int → Prop} {i k : Int} (h : ∀ j, k < j → j < i → ¬ P j) (hk : 0 ≤ k) (ki : k < i) (hP : P k) (hH : ¬ H k) : ¬ scB P H i := fun ⟨m, a, b, c, d, e⟩ => by
  rcases Int.lt_trichotomy m k with w | w | w
  · exact e k w ki hP
  · rw [w] at d; exact hH d
  · exact h m w b c
theorem scA_no {P H : Int → Prop} {i k n : Int} (h : ∀ j, i < j → j < k → ¬ P j) (hk : n ≤ k) : ¬ scA P H i n := fun ⟨m, a, b, c, _⟩ => h m a (by omega) c
theorem scA_not {P H : Int → Prop} {i k n : Int} (h : ∀ j, i < j → j < k → ¬ P j) (ki : i < k) (hk : k < n) (hP : P k) (hH : ¬ H k) : ¬ scA P H i n := fun ⟨m, a, b, c, d, e⟩ => by
  rcases Int.lt_trichotomy m k with w | w | w
  · exact h m a w c
  · rw [w] at d; exact hH d
  · exact e k ki w hP
theorem scB_st {P : Int → Prop} {i k : Int} (h : ∀ j, k < j → j < i → ¬ P j) (hP : ¬ P k) : ∀ j, k + (-1) < j → j < i → ¬ P j := fun j a b => by
  by_cases e : j = k
  · rw [e]; exact hP
  · exact h j (by omega) b
theorem scA_st {P : Int → Prop} {i k : Int} (h : ∀ j, i < j → j < k → ¬ P j) (hP : ¬ P k) : ∀ j, i < j → j < k + 1 → ¬ P j := fun j a b => by
  by_cases e : j = k
  · rw [e]; exact hP
  · exact h j a (by omega)
/-- a trait's bit -/
def kT (D : Int → xD) (u : List Int) (m k : Int) : Int := (Int32.ofInt (D (uX u k)).2.1.1 &&& Int32.ofInt m).toInt
def trt (v m : Int) : Prop := (Int32.ofInt v &&& Int32.ofInt m).toInt ≠ 0
/-- a point's class -/
def kc (F : rz_W) (u : List Int) (k : Int) : Int := (F (uX u k)).1
def caP (D : xD) : Prop := trt D.2.1.1 4 ∨ D.1.1 = 19573 ∨ D.1.1 = 19564 ∨ D.1.1 = 19572
def sP3 (D : Int → xD) (u : List Int) (k : Int) : Prop := kT D u 2 k = 0
def sH3 (D : Int → xD) (u : List Int) (k : Int) : Prop := caP (D (uX u k))
def sP4 (D : Int → xD) (F : rz_W) (u : List Int) (k : Int) : Prop := kT D u 8 k ≠ 0 ∨ kc F u k = 0 ∨ kc F u k = 230
def sH4 (D : Int → xD) (u : List Int) (k : Int) : Prop := kT D u 8 k ≠ 0
def sP5 (F : rz_W) (u : List Int) (k : Int) : Prop := kc F u k = 0 ∨ kc F u k = 230
def sH5 (F : rz_W) (u : List Int) (k : Int) : Prop := kc F u k = 230
def sP6 (F : rz_W) (u : List Int) (c k : Int) : Prop := uX u k = c ∨ kc F u k = 0 ∨ kc F u k = 230
def sH6 (u : List Int) (c k : Int) : Prop := uX u k = c
/-- a condition holds at i -/
def cnd (D : Int → xD) (F : rz_W) (u : List Int) (loc c i : Int) : Prop :=
  (c = 0 ∧ loc = 1) ∨ (c = 1 ∧ loc = 2) ∨ (c = 2 ∧ loc = 3) ∨ (c = 3 ∧ scB (sP3 D u) (sH3 D u) i ∧ ¬ scA (sP3 D u) (sH3 D u) i u.length) ∨ (c = 4 ∧ scB (sP4 D F u) (sH4 D u) i) ∨ (c = 5 ∧ scA (sP5 F u) (sH5 F u) i u.length) ∨ (c = 6 ∧ scA (sP6 F u 775) (sH6 u 775) i u.length) ∨ (c = 7 ∧ ¬ scA (sP6 F u 775) (sH6 u 775) i u.length) ∨ (c = 8 ∧ scB (sP6 F u 73) (sH6 u 73) i)
theorem cnd_0 {D : Int → xD} {F : rz_W} {u : List Int} {loc i : Int} : cnd D F u loc 0 i ↔ loc = 1 := by unfold cnd; refine ⟨fun h => ?_, fun h => Or.inl ⟨rfl, h⟩⟩; rcases h with h | h | h | h | h | h | h | h | h <;> first | exact h.2 | exact absurd h.1 (by decide)
theorem cnd_1 {D : Int → xD} {F : rz_W} {u : List Int} {loc i : Int} : cnd D F u loc 1 i ↔ loc = 2 := by unfold cnd; refine ⟨fun h => ?_, fun h => Or.inr (Or.inl ⟨rfl, h⟩)⟩; rcases h with h | h | h | h | h | h | h | h | h <;> first | exact absurd h.1 (by decide) | exact h.2
theorem cnd_2 {D : Int → xD} {F : rz_W} {u : List Int} {loc i : Int} : cnd D F u loc 2 i ↔ loc = 3 := by unfold cnd; refine ⟨fun h => ?_, fun h => Or.inr (Or.inr (Or.inl ⟨rfl, h⟩))⟩; rcases h with h | h | h | h | h | h | h | h | h <;> first | exact absurd h.1 (by decide) | exact h.2
theorem cnd_3 {D : Int → xD} {F : rz_W} {u : List Int} {loc i : Int} : cnd D F u loc 3 i ↔ (scB (sP3 D u) (sH3 D u) i ∧ ¬ scA (sP3 D u) (sH3 D u) i u.length) := by unfold cnd; refine ⟨fun h => ?_, fun h => Or.inr (Or.inr (Or.inr (Or.inl ⟨rfl, h⟩)))⟩; rcases h with h | h | h | h | h | h | h | h | h <;> first | exact absurd h.1 (by decide) | exact h.2
theorem cnd_4 {D : Int → xD} {F : rz_W} {u : List Int} {loc i : Int} : cnd D F u loc 4 i ↔ scB (sP4 D F u) (sH4 D u) i := by unfold cnd; refine ⟨fun h => ?_, fun h => Or.inr (Or.inr (Or.inr (Or.inr (Or.inl ⟨rfl, h⟩))))⟩; rcases h with h | h | h | h | h | h | h | h | h <;> first | exact absurd h.1 (by decide) | exact h.2
theorem cnd_5 {D : Int → xD} {F : rz_W} {u : List Int} {loc i : Int} : cnd D F u loc 5 i ↔ scA (sP5 F u) (sH5 F u) i u.length := by unfold cnd; refine ⟨fun h => ?_, fun h => Or.inr (Or.inr (Or.inr (Or.inr (Or.inr (Or.inl ⟨rfl, h⟩)))))⟩; rcases h with h | h | h | h | h | h | h | h | h <;> first | exact absurd h.1 (by decide) | exact h.2
theorem cnd_6 {D : Int → xD} {F : rz_W} {u : List Int} {loc i : Int} : cnd D F u loc 6 i ↔ scA (sP6 F u 775) (sH6 u 775) i u.length := by unfold cnd; refine ⟨fun h => ?_, fun h => Or.inr (Or.inr (Or.inr (Or.inr (Or.inr (Or.inr (Or.inl ⟨rfl, h⟩))))))⟩; rcases h with h | h | h | h | h | h | h | h | h <;> first | exact absurd h.1 (by decide) | exact h.2
theorem cnd_7 {D : Int → xD} {F : rz_W} {u : List Int} {loc i : Int} : cnd D F u loc 7 i ↔ ¬ scA (sP6 F u 775) (sH6 u 775) i u.length := by unfold cnd; refine ⟨fun h => ?_, fun h => Or.inr (Or.inr (Or.inr (Or.inr (Or.inr (Or.inr (Or.inr (Or.inl ⟨rfl, h⟩)))))))⟩; rcases h with h | h | h | h | h | h | h | h | h <;> first | exact absurd h.1 (by decide) | exact h.2
theorem cnd_8 {D : Int → xD} {F : rz_W} {u : List Int} {loc i : Int} : cnd D F u loc 8 i ↔ scB (sP6 F u 73) (sH6 u 73) i := by unfold cnd; refine ⟨fun h => ?_, fun h => Or.inr (Or.inr (Or.inr (Or.inr (Or.inr (Or.inr (Or.inr (Or.inr ⟨rfl, h⟩)))))))⟩; rcases h with h | h | h | h | h | h | h | h | h <;> first | exact absurd h.1 (by decide) | exact h.2
def bit9 (m c : Int) : Int := (Int32.ofInt (Int32.ofInt m >>> (Int32.ofInt c &&& 31)).toInt &&& Int32.ofInt 1).toInt
/-- all conditions of a special case hold -/
def aho (D : Int → xD) (F : rz_W) (u : List Int) (loc m i : Int) : Prop := ∀ c, 0 ≤ c → c < 9 → bit9 m c ≠ 0 → cnd D F u loc c i
/-- which special case is taken: the first whose conditions hold, else the last without any -/
def spR (H : Int → Prop) : List spz → Option spz → Option spz → Prop
  | [], p, r => r = p
  | s :: t, p, r => (s.1 = 0 → spR H t (some s) r) ∧ (s.1 ≠ 0 → (H s.1 → r = some s) ∧ (¬ H s.1 → spR H t p r))
theorem spR_u {H : Int → Prop} : ∀ {l : List spz} {p r r' : Option spz}, spR H l p r → spR H l p r' → r = r'
  | [], _, _, _, a, b => a.trans b.symm
  | s :: t, p, r, r', a, b => by
    by_cases e : s.1 = 0
    · exact spR_u (a.1 e) (b.1 e)
    · by_cases w : H s.1
      · exact ((a.2 e).1 w).trans ((b.2 e).1 w).symm
      · exact spR_u ((a.2 e).2 w) ((b.2 e).2 w)
theorem spR_ex {H : Int → Prop} : ∀ (l : List spz) (p : Option spz), ∃ r, spR H l p r
  | [], p => ⟨p, rfl⟩
  | s :: t, p => by
    by_cases e : s.1 = 0
    · obtain ⟨r, hr⟩ := spR_ex (H := H) t (some s)
      exact ⟨r, fun _ => hr, fun w => absurd e w⟩
    · by_cases w : H s.1
      · exact ⟨some s, fun w2 => absurd w2 e, fun _ => ⟨fun _ => rfl, fun w2 => absurd w w2⟩⟩
      · obtain ⟨r, hr⟩ := spR_ex (H := H) t p
        exact ⟨r, fun w2 => absurd w2 e, fun _ => ⟨fun w2 => absurd w2 w, fun _ => hr⟩⟩
theorem spR_mem {H : Int → Prop} : ∀ {l : List spz} {p r : Option spz}, spR H l p r → r = p ∨ ∃ s ∈ l, r = some s
  | [], _, _, a => Or.inl a
  | s :: t, p, r, a => by
    by_cases e : s.1 = 0
    · rcases spR_mem (a.1 e) with w | ⟨q, q1, q2⟩
      · exact Or.inr ⟨s, List.mem_cons_self, w⟩
      · exact Or.inr ⟨q, List.mem_cons_of_mem _ q1, q2⟩
    · by_cases w : H s.1
      · exact Or.inr ⟨s, List.mem_cons_self, (a.2 e).1 w⟩
      · rcases spR_mem ((a.2 e).2 w) with w | ⟨q, q1, q2⟩
        · exact Or.inl w
        · exact Or.inr ⟨q, List.mem_cons_of_mem _ q1, q2⟩
def rowK (s : spz) (kind : Int) : List Int := if kind = 0 then s.2.1 else if kind = 1 then s.2.2.2 else s.2.2.1
/-- a point's own case: (category, upper, lower, title) -/
def owm (t : Int × Int × Int × Int) (kind : Int) : Int := if kind = 0 then t.2.2.1 else if kind = 2 ∧ t.2.2.2 ≠ -1 then t.2.2.2 else t.2.1
def ownc (t : Int × Int × Int × Int) (kind x : Int) : Int := if owm t kind = -1 then x else owm t kind
/-- what the point at i becomes by lower, upper, title -/
def cmR (D : Int → xD) (F : rz_W) (u : List Int) (loc kind i : Int) (l : List Int) : Prop := ∃ r, spR (fun m => aho D F u loc m i) (D (uX u i)).2.2.2 none r ∧ (∀ s, r = some s → l = rowK s kind) ∧ (r = none → l = [ownc (D (uX u i)).1 kind (uX u i)])
theorem cmR_u {D : Int → xD} {F : rz_W} {u : List Int} {loc kind i : Int} {l l' : List Int} (a : cmR D F u loc kind i l) (b : cmR D F u loc kind i l') : l = l' := by
  obtain ⟨r, a1, a2, a3⟩ := a
  obtain ⟨r', b1, b2, b3⟩ := b
  have e := spR_u a1 b1
  subst e
  cases r with
  | none => rw [a3 rfl, b3 rfl]
  | some s => rw [a2 s rfl, b2 s rfl]
/-- folding -/
def fdo (loc : Int) (D : xD) : Option (List Int) := if (loc = 1 ∨ loc = 2) ∧ D.2.2.1.2.2 ≠ none then D.2.2.1.2.2 else if D.2.2.1.2.1 ≠ none then D.2.2.1.2.1 else D.2.2.1.1
def fdl (loc : Int) (D : xD) (x : Int) : List Int := (fdo loc D).getD [x]
/-! WORDS -/
abbrev ign (v : Int) : Prop := v = 4 ∨ v = 5 ∨ v = 7
abbrev lnd (v : Int) : Prop := v = 1 ∨ v = 2 ∨ v = 3
abbrev wle (v : Int) : Prop := v = 10 ∨ v = 9
abbrev wqu (v : Int) : Prop := v = 13 ∨ v = 14
abbrev inW (a b : Int) : Prop := (((wle a ∨ a = 16) ∧ (wle b ∨ b = 16)) ∨ (a = 8 ∧ b = 8)) ∨ ((wle a ∨ a = 16 ∨ a = 8 ∨ a = 17) ∧ b = 17) ∨ (a = 17 ∧ (wle b ∨ b = 16 ∨ b = 8))
abbrev aro (o m i : Int) : Prop := (wle o ∧ wle i ∧ (m = 11 ∨ wqu m)) ∨ (o = 9 ∧ i = 9 ∧ m = 15) ∨ (o = 16 ∧ i = 16 ∧ (m = 12 ∨ wqu m))
/-- a point's base -/
def bas (V : Int → Int) : Nat → Nat
  | 0 => 0
  | i + 1 => if ign (V ((i : Int) + 1)) ∧ ¬ lnd (V i) then bas V i else i + 1
theorem bas_le (V : Int → Int) : ∀ i, bas V i ≤ i
  | 0 => Nat.le_refl _
  | i + 1 => by
    have := bas_le V i
    unfold bas
    split <;> omega
/-- an odd number of Regional_Indicators ends here -/
def odF (V : Int → Int) : Nat → Nat → Prop
  | 0, _ => False
  | f + 1, i => V i = 6 ∧ ¬ (0 < i ∧ odF V f (bas V (i - 1)))
theorem odF_eq (V : Int → Int) : ∀ (f f' i : Nat), i < f → i < f' → (odF V f i ↔ odF V f' i)
  | 0, _, _, h, _ => absurd h (Nat.not_lt_zero _)
  | _ + 1, 0, _, _, h => absurd h (Nat.not_lt_zero _)
  | f + 1, f' + 1, i, h, h' => by
    unfold odF
    by_cases e : 0 < i
    · have b := bas_le V (i - 1)
      rw [odF_eq V f f' (bas V (i - 1)) (by omega) (by omega)]
    · exact ⟨fun w => ⟨w.1, fun q => e q.1⟩, fun w => ⟨w.1, fun q => e q.1⟩⟩
def odd (V : Int → Int) (i : Nat) : Prop := odF V (i + 1) i
theorem odd_eq (V : Int → Int) (i : Nat) : odd V i ↔ (V i = 6 ∧ ¬ (0 < i ∧ odd V (bas V (i - 1)))) := by
  unfold odd
  show (V i = 6 ∧ ¬ (0 < i ∧ odF V i (bas V (i - 1)))) ↔ _
  by_cases e : 0 < i
  · have b := bas_le V (i - 1)
    rw [odF_eq V i (bas V (i - 1) + 1) (bas V (i - 1)) (by omega) (by omega)]
  · exact ⟨fun w => ⟨w.1, fun q => e q.1⟩, fun w => ⟨w.1, fun q => e q.1⟩⟩
/-- what counts behind i -/
def vbR (V : Int → Int) (n i v : Int) : Prop := (∃ k, i < k ∧ k < n ∧ ¬ ign (V k) ∧ (∀ j, i < j → j < k → ign (V j)) ∧ v = V k) ∨ ((∀ j, i < j → j < n → ign (V j)) ∧ v = -1)
theorem vbR_u {V : Int → Int} {n i v v' : Int} (a : vbR V n i v) (b : vbR V n i v') : v = v' := by
  rcases a with ⟨k, a1, a2, a3, a4, a5⟩ | ⟨a1, a2⟩ <;> rcases b with ⟨k', b1, b2, b3, b4, b5⟩ | ⟨b1, b2⟩
  · rcases Int.lt_trichotomy k k' with w | w | w
    · exact absurd (b4 k a1 w) a3
    · rw [a5, b5, w]
    · exact absurd (a4 k' b1 w) b3
  · exact absurd (b1 k a1 a2) a3
  · exact absurd (a1 k' b1 b2) b3
  · rw [a2, b2]
/-- the one that counts before the base -/
def vaa (V : Int → Int) (b : Nat) : Int := if 0 < b then V (bas V (b - 1)) else -1
/-- a boundary of WORDS -/
def wbd (V : Int → Int) (pic : Int → Prop) (n i : Int) : Prop := i ≤ 0 ∨ n ≤ i ∨ (¬ (V (i - 1) = 1 ∧ V i = 2) ∧ ((lnd (V (i - 1)) ∨ lnd (V i)) ∨ (¬ ((V (i - 1) = 5 ∧ pic i) ∨ (V (i - 1) = 18 ∧ V i = 18) ∨ ign (V i)) ∧ ∀ bb, vbR V n i bb → ¬ (inW (V (bas V (i - 1).toNat)) (V i) ∨ aro (vaa V (bas V (i - 1).toNat)) (V (bas V (i - 1).toNat)) (V i) ∨ aro bb (V i) (V (bas V (i - 1).toNat)) ∨ (V (bas V (i - 1).toNat) = 9 ∧ V i = 14) ∨ (V i = 6 ∧ odd V (bas V (i - 1).toNat))))))
/-! CHANGE as a whole. -/
def wV (D : Int → xD) (u : List Int) (k : Int) : Int := (D (uX u k)).2.1.2.2
def wpi (D : Int → xD) (u : List Int) (k : Int) : Prop := kT D u 16 k ≠ 0
/-- what the point at i becomes, when b0 says that its word has a cased point already -/
def stR (D : Int → xD) (F : rz_W) (u : List Int) (loc kind : Int) (i : Nat) (b0 b : Prop) (m : List Int) : Prop := (kind = 3 → m = fdl loc (D (uX u i)) (uX u i) ∧ ¬ b) ∧ (kind = 0 ∨ kind = 1 → cmR D F u loc kind i m ∧ ¬ b) ∧ (kind = 2 → ((b0 ∧ ¬ wbd (wV D u) (wpi D u) u.length i) → cmR D F u loc 0 i m ∧ b) ∧ (¬ (b0 ∧ ¬ wbd (wV D u) (wpi D u) u.length i) → (caP (D (uX u i)) → cmR D F u loc 2 i m ∧ b) ∧ (¬ caP (D (uX u i)) → m = [uX u i] ∧ ¬ b)))
theorem stR_u {D : Int → xD} {F : rz_W} {u : List Int} {loc kind : Int} {i : Nat} {b0 b0' b b' : Prop} {m m' : List Int} (k0 : 0 ≤ kind) (k3 : kind ≤ 3) (hb : b0 ↔ b0') (a : stR D F u loc kind i b0 b m) (a' : stR D F u loc kind i b0' b' m') : m = m' ∧ (b ↔ b') := by
  have hk : kind = 3 ∨ (kind = 0 ∨ kind = 1) ∨ kind = 2 := by omega
  rcases hk with e | e | e
  · have w := a.1 e
    have w' := a'.1 e
    exact ⟨w.1.trans w'.1.symm, fun q => absurd q w.2, fun q => absurd q w'.2⟩
  · have w := a.2.1 e
    have w' := a'.2.1 e
    exact ⟨cmR_u w.1 w'.1, fun q => absurd q w.2, fun q => absurd q w'.2⟩
  · have w := a.2.2 e
    have w' := a'.2.2 e
    by_cases q : b0 ∧ ¬ wbd (wV D u) (wpi D u) u.length i
    · have q' : b0' ∧ ¬ wbd (wV D u) (wpi D u) u.length i := ⟨hb.mp q.1, q.2⟩
      exact ⟨cmR_u (w.1 q).1 (w'.1 q').1, fun _ => (w'.1 q').2, fun _ => (w.1 q).2⟩
    · have q' : ¬ (b0' ∧ ¬ wbd (wV D u) (wpi D u) u.length i) := fun z => q ⟨hb.mpr z.1, z.2⟩
      by_cases c : caP (D (uX u i))
      · have y := (w.2 q).1 c
        have y' := (w'.2 q').1 c
        exact ⟨cmR_u y.1 y'.1, fun _ => y'.2, fun _ => y.2⟩
      · have y := (w.2 q).2 c
        have y' := (w'.2 q').2 c
        exact ⟨y.1.trans y'.1.symm, fun z => absurd z y.2, fun z => absurd z y'.2⟩
def chR (D : Int → xD) (F : rz_W) (u : List Int) (loc kind : Int) : Nat → Prop → List Int → Prop
  | 0, b, l => ¬ b ∧ l = []
  | i + 1, b, l => ∃ b0 l0 m, chR D F u loc kind i b0 l0 ∧ l = l0 ++ m ∧ stR D F u loc kind i b0 b m
theorem chR_u {D : Int → xD} {F : rz_W} {u : List Int} {loc kind : Int} (k0 : 0 ≤ kind) (k3 : kind ≤ 3) : ∀ {i : Nat} {b b' : Prop} {l l' : List Int}, chR D F u loc kind i b l → chR D F u loc kind i b' l' → l = l' ∧ (b ↔ b')
  | 0, _, _, _, _, a, a' => ⟨a.2.trans a'.2.symm, fun q => absurd q a.1, fun q => absurd q a'.1⟩
  | i + 1, _, _, _, _, ⟨b0, l0, m, a1, a2, a3⟩, ⟨b0', l0', m', a1', a2', a3'⟩ => by
    obtain ⟨e1, e2⟩ := chR_u k0 k3 a1 a1'
    obtain ⟨e3, e4⟩ := stR_u k0 k3 e2 a3 a3'
    exact ⟨by rw [a2, a2', e1, e3], e4⟩
theorem chR_le {D : Int → xD} {F : rz_W} {u : List Int} {loc kind : Int} {i : Nat} : ∀ {n : Nat} {b : Prop} {l : List Int}, chR D F u loc kind n b l → i ≤ n → ∃ b' l', chR D F u loc kind i b' l' ∧ l'.length ≤ l.length
  | 0, b, l, a, h => by
    have e : i = 0 := by omega
    subst e
    exact ⟨b, l, a, Nat.le_refl _⟩
  | n + 1, b, l, a, h => by
    by_cases e : i = n + 1
    · subst e; exact ⟨b, l, a, Nat.le_refl _⟩
    · obtain ⟨b0, l0, m, a1, a2, a3⟩ := a
      obtain ⟨b', l', c1, c2⟩ := chR_le (i := i) a1 (by omega)
      refine ⟨b', l', c1, ?_⟩
      rw [a2, List.length_append]; omega
/-- the whole: res, or no room -/
def chS (D : Int → xD) (F : rz_W) (u : List Int) (loc kind : Int) (res : List Int) : Prop := ∃ b, chR D F u loc kind u.length b res
def chN (D : Int → xD) (F : rz_W) (u : List Int) (loc kind : Int) : Prop := ∃ i b l, i ≤ u.length ∧ chR D F u loc kind i b l ∧ 2000 < l.length
theorem chS_u {D : Int → xD} {F : rz_W} {u : List Int} {loc kind : Int} {l l' : List Int} (k0 : 0 ≤ kind) (k3 : kind ≤ 3) (a : chS D F u loc kind l) (b : chS D F u loc kind l') : l = l' := by
  obtain ⟨x, a⟩ := a
  obtain ⟨y, b⟩ := b
  exact (chR_u k0 k3 a b).1
theorem chS_N {D : Int → xD} {F : rz_W} {u : List Int} {loc kind : Int} {l : List Int} (k0 : 0 ≤ kind) (k3 : kind ≤ 3) (a : chS D F u loc kind l) (b : chN D F u loc kind) : 2000 < l.length := by
  obtain ⟨x, a⟩ := a
  obtain ⟨i, y, m, b1, b2, b3⟩ := b
  obtain ⟨z, m', c1, c2⟩ := chR_le a b1
  have e := (chR_u k0 k3 b2 c1).1
  rw [e] at b3; omega
/-- what DATA tell are points -/
def dok (D : Int → xD) : Prop := ∀ x, ((-1 ≤ (D x).1.2.1 ∧ (D x).1.2.1 ≤ 1114111) ∧ (-1 ≤ (D x).1.2.2.1 ∧ (D x).1.2.2.1 ≤ 1114111) ∧ (-1 ≤ (D x).1.2.2.2 ∧ (D x).1.2.2.2 ≤ 1114111)) ∧ ((∀ l, (D x).2.2.1.1 = some l → ptl l ∧ l.length ≤ 18) ∧ (∀ l, (D x).2.2.1.2.1 = some l → ptl l ∧ l.length ≤ 18) ∧ (∀ l, (D x).2.2.1.2.2 = some l → ptl l ∧ l.length ≤ 18)) ∧ ∀ s ∈ (D x).2.2.2, (ptl s.2.1 ∧ s.2.1.length ≤ 18) ∧ (ptl s.2.2.1 ∧ s.2.2.1.length ≤ 18) ∧ ptl s.2.2.2 ∧ s.2.2.2.length ≤ 18
theorem ptl_one {x : Int} (h : 0 ≤ x ∧ x ≤ 1114111) : ptl [x] := fun v hv => by rw [List.mem_singleton] at hv; rw [hv]; exact h
theorem fdo_ok {D : Int → xD} (hd : dok D) {loc x : Int} {l : List Int} (h : fdo loc (D x) = some l) : ptl l ∧ l.length ≤ 18 := by
  unfold fdo at h
  split at h
  · exact (hd x).2.1.2.2 l h
  · split at h
    · exact (hd x).2.1.2.1 l h
    · exact (hd x).2.1.1 l h
theorem fdl_ok {D : Int → xD} (hd : dok D) {loc x : Int} (hx : 0 ≤ x ∧ x ≤ 1114111) : ptl (fdl loc (D x) x) := by
  unfold fdl
  cases e : fdo loc (D x) with
  | none => exact ptl_one hx
  | some l => exact (fdo_ok hd e).1
theorem ownc_ok {D : Int → xD} (hd : dok D) {kind x : Int} (hx : 0 ≤ x ∧ x ≤ 1114111) : 0 ≤ ownc (D x).1 kind x ∧ ownc (D x).1 kind x ≤ 1114111 := by
  obtain ⟨⟨a, b, c⟩, -⟩ := hd x
  unfold ownc
  split
  · exact hx
  · rename_i w
    unfold owm at w ⊢
    split
    · rename_i z; rw [if_pos z] at w; omega
    · rename_i z
      rw [if_neg z] at w
      split
      · rename_i y; rw [if_pos y] at w; omega
      · rename_i y; rw [if_neg y] at w; omega
theorem rowK_ok {D : Int → xD} (hd : dok D) {x kind : Int} {s : spz} (hs : s ∈ (D x).2.2.2) : ptl (rowK s kind) ∧ (rowK s kind).length ≤ 18 := by
  obtain ⟨a, b, c, d⟩ := (hd x).2.2 s hs
  unfold rowK
  split
  · exact a
  · split
    · exact ⟨c, d⟩
    · exact b
theorem cmR_ok {D : Int → xD} {F : rz_W} {u : List Int} (hd : dok D) {loc kind i : Int} {l : List Int} (hx : 0 ≤ uX u i ∧ uX u i ≤ 1114111) (a : cmR D F u loc kind i l) : ptl l := by
  obtain ⟨r, a1, a2, a3⟩ := a
  cases r with
  | none => rw [a3 rfl]; exact ptl_one (ownc_ok hd hx)
  | some s =>
    rw [a2 s rfl]
    rcases spR_mem a1 with w | ⟨q, q1, q2⟩
    · cases w
    · cases q2; exact (rowK_ok hd q1).1
/-! The class: conditions and special cases. (Written by wip/p2/py/pvy1.py.) -/
section EzG2
variable {d : Nat} {M : cz_M} {pc : Nat} {L : List (Nat × ez_V)} {st : List ez_V} {h : cz_H} {τ : Nat → Nat} {Q : cz_F → Prop}
/-- a reference of which only the place is known -/
theorem ez_g2 {x q0 cl k w r t tg md p : Nat} {ti : dz_I} {lo hi : Int} (hB : ez_B τ h) (hτ : τ r = t) (hc : cz_code M pc = some (.getfield x, 3)) (hq : cz_lk M x = some (q0, cl, k, w)) (hti : tz_T t = some ti) (hD : dz_nth ti.2.2.2.2 k = some (3, lo, hi, tg, md)) (hb : (Nat.ble q0 1 && (Nat.beq ti.1 0 && Nat.beq ti.2.1 cl)) = true) (hp : qz_I h r k = (p : Int) + 1) (kk : ez_W d M (pc + 3) L (.inr (.inr (some p)) :: st) h Q) : ez_W d M pc L (.inr (.inr (some r)) :: st) h Q := by
  rw [Bool.and_eq_true] at hb
  obtain ⟨vs, v, o1, o2, o3, o4, -⟩ := ez_fld hB hτ hti hb.2 hD
  refine ez_getf hc hq hb.1 o1 o2 ?_ kk
  obtain ⟨o, rfl⟩ := ez_fitR o4.1
  have e := qz_I_of o3
  cases o with
  | none => exfalso; have e : qz_I h r k = 0 := e; omega
  | some q =>
    have e : qz_I h r k = (q : Int) + 1 := e
    have e2 : q = p := by omega
    rw [e2]; rfl
/-- such a reference written -/
theorem ez_vd2 {r p : Nat} {lo hi : Int} {tg : Nat} (h1 : lo ≤ (p : Int) + 1) (h2 : (p : Int) + 1 ≤ hi) : dz_vd τ r (3, lo, hi, tg, 2) (ez_v (.inr (.inr (some p)))) :=
  ⟨rfl, Or.inr ⟨h1, h2⟩, Or.inl rfl, Or.inl (show (2 : Nat) ≠ 1 by decide), Or.inl (show (2 : Nat) ≠ 3 by decide), Or.inl (show (2 : Nat) ≠ 4 by decide)⟩
end EzG2
/-- Casing has loaded u -/
def ckC (τ : Nat → Nat) (h : cz_H) (F : rz_W) (D : Int → xD) (p : Nat) (u : List Int) (loc : Int) : Prop := (ez_B τ h ∧ jz_X τ) ∧ τ p = 89 ∧ ((u.length : Int) ≤ 2000 ∧ ptl u) ∧ (qz_I h 738 6 = (p : Int) + 1 ∧ qz_I h 738 7 = (u.length : Int) ∧ qz_I h 738 8 = loc) ∧ ∀ k : Int, 0 ≤ k → k < (u.length : Int) → qz_I h p k.toNat = uX u k ∧ qz_I h 740 k.toNat = kc F u k ∧ qz_I h 741 k.toNat = (D (uX u k)).2.1.1 ∧ (qz_I h 742 k.toNat = 1 ↔ sH3 D u k) ∧ sz_at h (uX u k) (qz_I h 739 k.toNat)
section EzCa
variable {d : Nat} {h : cz_H} {τ : Nat → Nat} {Q : cz_F → Prop} {F : rz_W} {D : Int → xD} {O : Nat → Int} {p : Nat} {u : List Int} {loc : Int}
theorem rd_casedBefore_l {i : Int} (c : ckC τ h F D p u loc) (i0 : 0 ≤ i) (i1 : i < (u.length : Int)) (k1 : scB (sP3 D u) (sH3 D u) i → Q (.inl (some (ez_v (.inl 1))), h)) (k0 : ¬ scB (sP3 D u) (sH3 D u) i → Q (.inl (some (ez_v (.inl 0))), h)) : ∀ (n : Nat) (k : Int), n = (k + 1).toNat → -1 ≤ k → k < i → (∀ j, k < j → j < i → ¬ (sP3 D u) j) → ez_W d cm_66 4 [(2, .inl (k)), (0, .inr (.inr (some (738)))), (1, .inl (i))] [] h Q := by
  have hB := c.1.1
  have t738 : τ 738 = 70 := c.1.2 738 (by decide)
  have tp := c.2.1
  have n2 := c.2.2.1.1
  have e7 := c.2.2.2.1.2.1
  intro n
  induction n with
  | zero =>
    intro k hn0 ka kb hn
    refine ez_go (n := 1) (pc' := 5) (L' := [(2, .inl (k)), (0, .inr (.inr (some (738)))), (1, .inl (i))]) (st' := [.inl (k)]) rfl ?_
    refine ez_if rfl rfl ⟨by first | omega | exact (sz_i32 _).1, by first | omega | exact (sz_i32 _).2⟩ (fun (c1 : (k) < (0)) => ?_) (fun (c1 : ¬((k) < (0))) => ?_)
    · skip
      refine ez_go (n := 1) (pc' := 26) (L' := [(2, .inl (k)), (0, .inr (.inr (some (738)))), (1, .inl (i))]) (st' := [.inl (k)]) rfl ?_
      refine ez_if rfl rfl ⟨by first | omega | exact (sz_i32 _).1, by first | omega | exact (sz_i32 _).2⟩ (fun (c2 : (k) < (0)) => ?_) (fun (c2 : ¬((k) < (0))) => ?_)
      · skip
        refine ez_go (n := 1) (pc' := 43) (L' := [(2, .inl (k)), (0, .inr (.inr (some (738)))), (1, .inl (i))]) (st' := [.inl (0)]) rfl ?_
        refine ez_retZ rfl rfl (Or.inl rfl) (k0 ?_)
        first | (exfalso; omega) | exact scB_no hn (by omega) | exact scB_not hn (by omega) (by omega) (by unfold sP3 kT; omega) (fun w => by have := e42.mpr w; omega)
      · skip
        refine ez_go (n := 1) (pc' := 30) (L' := [(2, .inl (k)), (0, .inr (.inr (some (738)))), (1, .inl (i))]) (st' := [.inr (.inr (some (738)))]) rfl ?_
        refine ez_gC (p := 742) (tg := 74) hB t738 rfl rfl tq_70 rfl rfl (fun (t742 : _ = 74) => ?_)
        refine ez_go (n := 1) (pc' := 34) (L' := [(2, .inl (k)), (0, .inr (.inr (some (738)))), (1, .inl (i))]) (st' := [.inl (k), .inr (.inr (some (742)))]) rfl ?_
        have n4 : 2000 ≤ qz_N h 742 ∧ qz_N h 742 ≤ 2000 := ez_len hB t742 tq_74 rfl
        refine ez_aI hB t742 rfl tq_74 rfl rfl (by omega) (by omega) (fun (b3 : 0 ≤ qz_I h 742 (k).toNat) (b3' : qz_I h 742 (k).toNat ≤ 1) => ?_)
        have e42 := (c.2.2.2.2 k (by omega) (by omega)).2.2.2.1
        refine ez_if rfl rfl ⟨by first | omega | exact (sz_i32 _).1, by first | omega | exact (sz_i32 _).2⟩ (fun (c5 : (qz_I h 742 (k).toNat) = (0)) => ?_) (fun (c5 : ¬((qz_I h 742 (k).toNat) = (0))) => ?_)
        · skip
          refine ez_go (n := 1) (pc' := 43) (L' := [(2, .inl (k)), (0, .inr (.inr (some (738)))), (1, .inl (i))]) (st' := [.inl (0)]) rfl ?_
          refine ez_retZ rfl rfl (Or.inl rfl) (k0 ?_)
          first | (exfalso; omega) | exact scB_no hn (by omega) | exact scB_not hn (by omega) (by omega) (by unfold sP3 kT; omega) (fun w => by have := e42.mpr w; omega)
        · skip
          refine ez_go (n := 2) (pc' := 43) (L' := [(2, .inl (k)), (0, .inr (.inr (some (738)))), (1, .inl (i))]) (st' := [.inl (1)]) rfl ?_
          refine ez_retZ rfl rfl (Or.inr rfl) (k1 ?_)
          first | (exfalso; omega) | exact ⟨k, by omega, by omega, by unfold sP3 kT; omega, e42.mp (by omega), hn⟩
    · skip
      refine ez_go (n := 1) (pc' := 9) (L' := [(2, .inl (k)), (0, .inr (.inr (some (738)))), (1, .inl (i))]) (st' := [.inr (.inr (some (738)))]) rfl ?_
      refine ez_gC (p := 741) (tg := 73) hB t738 rfl rfl tq_70 rfl rfl (fun (t741 : _ = 73) => ?_)
      refine ez_go (n := 1) (pc' := 13) (L' := [(2, .inl (k)), (0, .inr (.inr (some (738)))), (1, .inl (i))]) (st' := [.inl (k), .inr (.inr (some (741)))]) rfl ?_
      have n7 : 2000 ≤ qz_N h 741 ∧ qz_N h 741 ≤ 2000 := ez_len hB t741 tq_73 rfl
      refine ez_aI hB t741 rfl tq_73 rfl rfl (by omega) (by omega) (fun (b6 : -2147483648 ≤ qz_I h 741 (k).toNat) (b6' : qz_I h 741 (k).toNat ≤ 2147483647) => ?_)
      have e41 := (c.2.2.2.2 k (by omega) (by omega)).2.2.1
      rw [e41]
      refine ez_go (n := 2) (pc' := 16) (L' := [(2, .inl (k)), (0, .inr (.inr (some (738)))), (1, .inl (i))]) (st' := [.inl ((Int32.ofInt ((D (uX u k)).2.1.1) &&& Int32.ofInt (2)).toInt)]) rfl ?_
      refine ez_if rfl rfl ⟨by first | omega | exact (sz_i32 _).1, by first | omega | exact (sz_i32 _).2⟩ (fun (c8 : ((Int32.ofInt ((D (uX u k)).2.1.1) &&& Int32.ofInt (2)).toInt) = (0)) => ?_) (fun (c8 : ¬(((Int32.ofInt ((D (uX u k)).2.1.1) &&& Int32.ofInt (2)).toInt) = (0))) => ?_)
      · skip
        refine ez_go (n := 1) (pc' := 26) (L' := [(2, .inl (k)), (0, .inr (.inr (some (738)))), (1, .inl (i))]) (st' := [.inl (k)]) rfl ?_
        refine ez_if rfl rfl ⟨by first | omega | exact (sz_i32 _).1, by first | omega | exact (sz_i32 _).2⟩ (fun (c9 : (k) < (0)) => ?_) (fun (c9 : ¬((k) < (0))) => ?_)
        · skip
          refine ez_go (n := 1) (pc' := 43) (L' := [(2, .inl (k)), (0, .inr (.inr (some (738)))), (1, .inl (i))]) (st' := [.inl (0)]) rfl ?_
          refine ez_retZ rfl rfl (Or.inl rfl) (k0 ?_)
          first | (exfalso; omega) | exact scB_no hn (by omega) | exact scB_not hn (by omega) (by omega) (by unfold sP3 kT; omega) (fun w => by have := e42.mpr w; omega)
        · skip
          refine ez_go (n := 1) (pc' := 30) (L' := [(2, .inl (k)), (0, .inr (.inr (some (738)))), (1, .inl (i))]) (st' := [.inr (.inr (some (738)))]) rfl ?_
          refine ez_gC (p := 742) (tg := 74) hB t738 rfl rfl tq_70 rfl rfl (fun (t742 : _ = 74) => ?_)
          refine ez_go (n := 1) (pc' := 34) (L' := [(2, .inl (k)), (0, .inr (.inr (some (738)))), (1, .inl (i))]) (st' := [.inl (k), .inr (.inr (some (742)))]) rfl ?_
          have n11 : 2000 ≤ qz_N h 742 ∧ qz_N h 742 ≤ 2000 := ez_len hB t742 tq_74 rfl
          refine ez_aI hB t742 rfl tq_74 rfl rfl (by omega) (by omega) (fun (b10 : 0 ≤ qz_I h 742 (k).toNat) (b10' : qz_I h 742 (k).toNat ≤ 1) => ?_)
          have e42 := (c.2.2.2.2 k (by omega) (by omega)).2.2.2.1
          refine ez_if rfl rfl ⟨by first | omega | exact (sz_i32 _).1, by first | omega | exact (sz_i32 _).2⟩ (fun (c12 : (qz_I h 742 (k).toNat) = (0)) => ?_) (fun (c12 : ¬((qz_I h 742 (k).toNat) = (0))) => ?_)
          · skip
            refine ez_go (n := 1) (pc' := 43) (L' := [(2, .inl (k)), (0, .inr (.inr (some (738)))), (1, .inl (i))]) (st' := [.inl (0)]) rfl ?_
            refine ez_retZ rfl rfl (Or.inl rfl) (k0 ?_)
            first | (exfalso; omega) | exact scB_no hn (by omega) | exact scB_not hn (by omega) (by omega) (by unfold sP3 kT; omega) (fun w => by have := e42.mpr w; omega)
          · skip
            refine ez_go (n := 2) (pc' := 43) (L' := [(2, .inl (k)), (0, .inr (.inr (some (738)))), (1, .inl (i))]) (st' := [.inl (1)]) rfl ?_
            refine ez_retZ rfl rfl (Or.inr rfl) (k1 ?_)
            first | (exfalso; omega) | exact ⟨k, by omega, by omega, by unfold sP3 kT; omega, e42.mp (by omega), hn⟩
      · skip
        refine ez_go (n := 2) (pc' := 4) (L' := [(2, .inl (k + (-1))), (0, .inr (.inr (some (738)))), (1, .inl (i))]) (st' := []) rfl ?_
        exfalso; omega
  | succ n ih =>
    intro k hn0 ka kb hn
    refine ez_go (n := 1) (pc' := 5) (L' := [(2, .inl (k)), (0, .inr (.inr (some (738)))), (1, .inl (i))]) (st' := [.inl (k)]) rfl ?_
    refine ez_if rfl rfl ⟨by first | omega | exact (sz_i32 _).1, by first | omega | exact (sz_i32 _).2⟩ (fun (c1 : (k) < (0)) => ?_) (fun (c1 : ¬((k) < (0))) => ?_)
    · skip
      refine ez_go (n := 1) (pc' := 26) (L' := [(2, .inl (k)), (0, .inr (.inr (some (738)))), (1, .inl (i))]) (st' := [.inl (k)]) rfl ?_
      refine ez_if rfl rfl ⟨by first | omega | exact (sz_i32 _).1, by first | omega | exact (sz_i32 _).2⟩ (fun (c2 : (k) < (0)) => ?_) (fun (c2 : ¬((k) < (0))) => ?_)
      · skip
        refine ez_go (n := 1) (pc' := 43) (L' := [(2, .inl (k)), (0, .inr (.inr (some (738)))), (1, .inl (i))]) (st' := [.inl (0)]) rfl ?_
        refine ez_retZ rfl rfl (Or.inl rfl) (k0 ?_)
        first | (exfalso; omega) | exact scB_no hn (by omega) | exact scB_not hn (by omega) (by omega) (by unfold sP3 kT; omega) (fun w => by have := e42.mpr w; omega)
      · skip
        refine ez_go (n := 1) (pc' := 30) (L' := [(2, .inl (k)), (0, .inr (.inr (some (738)))), (1, .inl (i))]) (st' := [.inr (.inr (some (738)))]) rfl ?_
        refine ez_gC (p := 742) (tg := 74) hB t738 rfl rfl tq_70 rfl rfl (fun (t742 : _ = 74) => ?_)
        refine ez_go (n := 1) (pc' := 34) (L' := [(2, .inl (k)), (0, .inr (.inr (some (738)))), (1, .inl (i))]) (st' := [.inl (k), .inr (.inr (some (742)))]) rfl ?_
        have n4 : 2000 ≤ qz_N h 742 ∧ qz_N h 742 ≤ 2000 := ez_len hB t742 tq_74 rfl
        refine ez_aI hB t742 rfl tq_74 rfl rfl (by omega) (by omega) (fun (b3 : 0 ≤ qz_I h 742 (k).toNat) (b3' : qz_I h 742 (k).toNat ≤ 1) => ?_)
        have e42 := (c.2.2.2.2 k (by omega) (by omega)).2.2.2.1
        refine ez_if rfl rfl ⟨by first | omega | exact (sz_i32 _).1, by first | omega | exact (sz_i32 _).2⟩ (fun (c5 : (qz_I h 742 (k).toNat) = (0)) => ?_) (fun (c5 : ¬((qz_I h 742 (k).toNat) = (0))) => ?_)
        · skip
          refine ez_go (n := 1) (pc' := 43) (L' := [(2, .inl (k)), (0, .inr (.inr (some (738)))), (1, .inl (i))]) (st' := [.inl (0)]) rfl ?_
          refine ez_retZ rfl rfl (Or.inl rfl) (k0 ?_)
          first | (exfalso; omega) | exact scB_no hn (by omega) | exact scB_not hn (by omega) (by omega) (by unfold sP3 kT; omega) (fun w => by have := e42.mpr w; omega)
        · skip
          refine ez_go (n := 2) (pc' := 43) (L' := [(2, .inl (k)), (0, .inr (.inr (some (738)))), (1, .inl (i))]) (st' := [.inl (1)]) rfl ?_
          refine ez_retZ rfl rfl (Or.inr rfl) (k1 ?_)
          first | (exfalso; omega) | exact ⟨k, by omega, by omega, by unfold sP3 kT; omega, e42.mp (by omega), hn⟩
    · skip
      refine ez_go (n := 1) (pc' := 9) (L' := [(2, .inl (k)), (0, .inr (.inr (some (738)))), (1, .inl (i))]) (st' := [.inr (.inr (some (738)))]) rfl ?_
      refine ez_gC (p := 741) (tg := 73) hB t738 rfl rfl tq_70 rfl rfl (fun (t741 : _ = 73) => ?_)
      refine ez_go (n := 1) (pc' := 13) (L' := [(2, .inl (k)), (0, .inr (.inr (some (738)))), (1, .inl (i))]) (st' := [.inl (k), .inr (.inr (some (741)))]) rfl ?_
      have n7 : 2000 ≤ qz_N h 741 ∧ qz_N h 741 ≤ 2000 := ez_len hB t741 tq_73 rfl
      refine ez_aI hB t741 rfl tq_73 rfl rfl (by omega) (by omega) (fun (b6 : -2147483648 ≤ qz_I h 741 (k).toNat) (b6' : qz_I h 741 (k).toNat ≤ 2147483647) => ?_)
      have e41 := (c.2.2.2.2 k (by omega) (by omega)).2.2.1
      rw [e41]
      refine ez_go (n := 2) (pc' := 16) (L' := [(2, .inl (k)), (0, .inr (.inr (some (738)))), (1, .inl (i))]) (st' := [.inl ((Int32.ofInt ((D (uX u k)).2.1.1) &&& Int32.ofInt (2)).toInt)]) rfl ?_
      refine ez_if rfl rfl ⟨by first | omega | exact (sz_i32 _).1, by first | omega | exact (sz_i32 _).2⟩ (fun (c8 : ((Int32.ofInt ((D (uX u k)).2.1.1) &&& Int32.ofInt (2)).toInt) = (0)) => ?_) (fun (c8 : ¬(((Int32.ofInt ((D (uX u k)).2.1.1) &&& Int32.ofInt (2)).toInt) = (0))) => ?_)
      · skip
        refine ez_go (n := 1) (pc' := 26) (L' := [(2, .inl (k)), (0, .inr (.inr (some (738)))), (1, .inl (i))]) (st' := [.inl (k)]) rfl ?_
        refine ez_if rfl rfl ⟨by first | omega | exact (sz_i32 _).1, by first | omega | exact (sz_i32 _).2⟩ (fun (c9 : (k) < (0)) => ?_) (fun (c9 : ¬((k) < (0))) => ?_)
        · skip
          refine ez_go (n := 1) (pc' := 43) (L' := [(2, .inl (k)), (0, .inr (.inr (some (738)))), (1, .inl (i))]) (st' := [.inl (0)]) rfl ?_
          refine ez_retZ rfl rfl (Or.inl rfl) (k0 ?_)
          first | (exfalso; omega) | exact scB_no hn (by omega) | exact scB_not hn (by omega) (by omega) (by unfold sP3 kT; omega) (fun w => by have := e42.mpr w; omega)
        · skip
          refine ez_go (n := 1) (pc' := 30) (L' := [(2, .inl (k)), (0, .inr (.inr (some (738)))), (1, .inl (i))]) (st' := [.inr (.inr (some (738)))]) rfl ?_
          refine ez_gC (p := 742) (tg := 74) hB t738 rfl rfl tq_70 rfl rfl (fun (t742 : _ = 74) => ?_)
          refine ez_go (n := 1) (pc' := 34) (L' := [(2, .inl (k)), (0, .inr (.inr (some (738)))), (1, .inl (i))]) (st' := [.inl (k), .inr (.inr (some (742)))]) rfl ?_
          have n11 : 2000 ≤ qz_N h 742 ∧ qz_N h 742 ≤ 2000 := ez_len hB t742 tq_74 rfl
          refine ez_aI hB t742 rfl tq_74 rfl rfl (by omega) (by omega) (fun (b10 : 0 ≤ qz_I h 742 (k).toNat) (b10' : qz_I h 742 (k).toNat ≤ 1) => ?_)
          have e42 := (c.2.2.2.2 k (by omega) (by omega)).2.2.2.1
          refine ez_if rfl rfl ⟨by first | omega | exact (sz_i32 _).1, by first | omega | exact (sz_i32 _).2⟩ (fun (c12 : (qz_I h 742 (k).toNat) = (0)) => ?_) (fun (c12 : ¬((qz_I h 742 (k).toNat) = (0))) => ?_)
          · skip
            refine ez_go (n := 1) (pc' := 43) (L' := [(2, .inl (k)), (0, .inr (.inr (some (738)))), (1, .inl (i))]) (st' := [.inl (0)]) rfl ?_
            refine ez_retZ rfl rfl (Or.inl rfl) (k0 ?_)
            first | (exfalso; omega) | exact scB_no hn (by omega) | exact scB_not hn (by omega) (by omega) (by unfold sP3 kT; omega) (fun w => by have := e42.mpr w; omega)
          · skip
            refine ez_go (n := 2) (pc' := 43) (L' := [(2, .inl (k)), (0, .inr (.inr (some (738)))), (1, .inl (i))]) (st' := [.inl (1)]) rfl ?_
            refine ez_retZ rfl rfl (Or.inr rfl) (k1 ?_)
            first | (exfalso; omega) | exact ⟨k, by omega, by omega, by unfold sP3 kT; omega, e42.mp (by omega), hn⟩
      · skip
        refine ez_go (n := 2) (pc' := 4) (L' := [(2, .inl (k + (-1))), (0, .inr (.inr (some (738)))), (1, .inl (i))]) (st' := []) rfl ?_
        refine ez_less [(2, .inl (k + (-1))), (0, .inr (.inr (some (738)))), (1, .inl (i))] rfl ⟨rfl, rfl, rfl, trivial⟩ ?_
        exact ih _ (by omega) (by omega) (by omega) (scB_st hn (by unfold sP3 kT; omega))

theorem rd_casedBefore {i : Int} (c : ckC τ h F D p u loc) (i0 : 0 ≤ i) (i1 : i < (u.length : Int)) (k1 : scB (sP3 D u) (sH3 D u) i → Q (.inl (some (ez_v (.inl 1))), h)) (k0 : ¬ scB (sP3 D u) (sH3 D u) i → Q (.inl (some (ez_v (.inl 0))), h)) : ez_W d cm_66 0 [(0, .inr (.inr (some (738)))), (1, .inl (i))] [] h Q := by
  have hB := c.1.1
  have t738 : τ 738 = 70 := c.1.2 738 (by decide)
  have tp := c.2.1
  have n2 := c.2.2.1.1
  have e7 := c.2.2.2.1.2.1
  refine ez_go (n := 4) (pc' := 4) (L' := [(2, .inl ((i) - (1))), (0, .inr (.inr (some (738)))), (1, .inl (i))]) (st' := []) rfl ?_
  refine ez_less [(2, .inl ((i) - (1))), (0, .inr (.inr (some (738)))), (1, .inl (i))] rfl ⟨rfl, rfl, rfl, trivial⟩ ?_
  exact rd_casedBefore_l c i0 i1 k1 k0 _ _ rfl (by omega) (by omega) (fun j a b => by omega)

theorem rd_casedBehind_l {i : Int} (c : ckC τ h F D p u loc) (i0 : 0 ≤ i) (i1 : i < (u.length : Int)) (k1 : scA (sP3 D u) (sH3 D u) i u.length → Q (.inl (some (ez_v (.inl 1))), h)) (k0 : ¬ scA (sP3 D u) (sH3 D u) i u.length → Q (.inl (some (ez_v (.inl 0))), h)) : ∀ (n : Nat) (k : Int), n = ((u.length : Int) - k).toNat → i < k → k ≤ (u.length : Int) → (∀ j, i < j → j < k → ¬ (sP3 D u) j) → ez_W d cm_67 4 [(2, .inl (k)), (0, .inr (.inr (some (738)))), (1, .inl (i))] [] h Q := by
  have hB := c.1.1
  have t738 : τ 738 = 70 := c.1.2 738 (by decide)
  have tp := c.2.1
  have n2 := c.2.2.1.1
  have e7 := c.2.2.2.1.2.1
  intro n
  induction n with
  | zero =>
    intro k hn0 ka kb hn
    refine ez_go (n := 2) (pc' := 6) (L' := [(2, .inl (k)), (0, .inr (.inr (some (738)))), (1, .inl (i))]) (st' := [.inr (.inr (some (738))), .inl (k)]) rfl ?_
    refine ez_gI hB t738 rfl rfl tq_70 rfl rfl (fun (b1 : 0 ≤ qz_I h 738 7) (b1' : qz_I h 738 7 ≤ 2000) => ?_)
    refine ez_icmp rfl rfl ⟨by first | omega | exact (sz_i32 _).1, by first | omega | exact (sz_i32 _).2⟩ ⟨by first | omega | exact (sz_i32 _).1, by first | omega | exact (sz_i32 _).2⟩ (fun (c2 : (qz_I h 738 7) ≤ (k)) => ?_) (fun (c2 : ¬((qz_I h 738 7) ≤ (k))) => ?_)
    · skip
      refine ez_go (n := 2) (pc' := 31) (L' := [(2, .inl (k)), (0, .inr (.inr (some (738)))), (1, .inl (i))]) (st' := [.inr (.inr (some (738))), .inl (k)]) rfl ?_
      refine ez_gI hB t738 rfl rfl tq_70 rfl rfl (fun (b3 : 0 ≤ qz_I h 738 7) (b3' : qz_I h 738 7 ≤ 2000) => ?_)
      refine ez_icmp rfl rfl ⟨by first | omega | exact (sz_i32 _).1, by first | omega | exact (sz_i32 _).2⟩ ⟨by first | omega | exact (sz_i32 _).1, by first | omega | exact (sz_i32 _).2⟩ (fun (c4 : (qz_I h 738 7) ≤ (k)) => ?_) (fun (c4 : ¬((qz_I h 738 7) ≤ (k))) => ?_)
      · skip
        refine ez_go (n := 1) (pc' := 51) (L' := [(2, .inl (k)), (0, .inr (.inr (some (738)))), (1, .inl (i))]) (st' := [.inl (0)]) rfl ?_
        refine ez_retZ rfl rfl (Or.inl rfl) (k0 ?_)
        first | (exfalso; omega) | exact scA_no hn (by omega) | exact scA_not hn (by omega) (by omega) (by unfold sP3 kT; omega) (fun w => by have := e42.mpr w; omega)
      · skip
        refine ez_go (n := 1) (pc' := 38) (L' := [(2, .inl (k)), (0, .inr (.inr (some (738)))), (1, .inl (i))]) (st' := [.inr (.inr (some (738)))]) rfl ?_
        refine ez_gC (p := 742) (tg := 74) hB t738 rfl rfl tq_70 rfl rfl (fun (t742 : _ = 74) => ?_)
        refine ez_go (n := 1) (pc' := 42) (L' := [(2, .inl (k)), (0, .inr (.inr (some (738)))), (1, .inl (i))]) (st' := [.inl (k), .inr (.inr (some (742)))]) rfl ?_
        have n6 : 2000 ≤ qz_N h 742 ∧ qz_N h 742 ≤ 2000 := ez_len hB t742 tq_74 rfl
        refine ez_aI hB t742 rfl tq_74 rfl rfl (by omega) (by omega) (fun (b5 : 0 ≤ qz_I h 742 (k).toNat) (b5' : qz_I h 742 (k).toNat ≤ 1) => ?_)
        have e42 := (c.2.2.2.2 k (by omega) (by omega)).2.2.2.1
        refine ez_if rfl rfl ⟨by first | omega | exact (sz_i32 _).1, by first | omega | exact (sz_i32 _).2⟩ (fun (c7 : (qz_I h 742 (k).toNat) = (0)) => ?_) (fun (c7 : ¬((qz_I h 742 (k).toNat) = (0))) => ?_)
        · skip
          refine ez_go (n := 1) (pc' := 51) (L' := [(2, .inl (k)), (0, .inr (.inr (some (738)))), (1, .inl (i))]) (st' := [.inl (0)]) rfl ?_
          refine ez_retZ rfl rfl (Or.inl rfl) (k0 ?_)
          first | (exfalso; omega) | exact scA_no hn (by omega) | exact scA_not hn (by omega) (by omega) (by unfold sP3 kT; omega) (fun w => by have := e42.mpr w; omega)
        · skip
          refine ez_go (n := 2) (pc' := 51) (L' := [(2, .inl (k)), (0, .inr (.inr (some (738)))), (1, .inl (i))]) (st' := [.inl (1)]) rfl ?_
          refine ez_retZ rfl rfl (Or.inr rfl) (k1 ?_)
          first | (exfalso; omega) | exact ⟨k, by omega, by omega, by unfold sP3 kT; omega, e42.mp (by omega), hn⟩
    · skip
      refine ez_go (n := 1) (pc' := 13) (L' := [(2, .inl (k)), (0, .inr (.inr (some (738)))), (1, .inl (i))]) (st' := [.inr (.inr (some (738)))]) rfl ?_
      refine ez_gC (p := 741) (tg := 73) hB t738 rfl rfl tq_70 rfl rfl (fun (t741 : _ = 73) => ?_)
      refine ez_go (n := 1) (pc' := 17) (L' := [(2, .inl (k)), (0, .inr (.inr (some (738)))), (1, .inl (i))]) (st' := [.inl (k), .inr (.inr (some (741)))]) rfl ?_
      have n9 : 2000 ≤ qz_N h 741 ∧ qz_N h 741 ≤ 2000 := ez_len hB t741 tq_73 rfl
      refine ez_aI hB t741 rfl tq_73 rfl rfl (by omega) (by omega) (fun (b8 : -2147483648 ≤ qz_I h 741 (k).toNat) (b8' : qz_I h 741 (k).toNat ≤ 2147483647) => ?_)
      have e41 := (c.2.2.2.2 k (by omega) (by omega)).2.2.1
      rw [e41]
      refine ez_go (n := 2) (pc' := 20) (L' := [(2, .inl (k)), (0, .inr (.inr (some (738)))), (1, .inl (i))]) (st' := [.inl ((Int32.ofInt ((D (uX u k)).2.1.1) &&& Int32.ofInt (2)).toInt)]) rfl ?_
      refine ez_if rfl rfl ⟨by first | omega | exact (sz_i32 _).1, by first | omega | exact (sz_i32 _).2⟩ (fun (c10 : ((Int32.ofInt ((D (uX u k)).2.1.1) &&& Int32.ofInt (2)).toInt) = (0)) => ?_) (fun (c10 : ¬(((Int32.ofInt ((D (uX u k)).2.1.1) &&& Int32.ofInt (2)).toInt) = (0))) => ?_)
      · skip
        refine ez_go (n := 2) (pc' := 31) (L' := [(2, .inl (k)), (0, .inr (.inr (some (738)))), (1, .inl (i))]) (st' := [.inr (.inr (some (738))), .inl (k)]) rfl ?_
        refine ez_gI hB t738 rfl rfl tq_70 rfl rfl (fun (b11 : 0 ≤ qz_I h 738 7) (b11' : qz_I h 738 7 ≤ 2000) => ?_)
        refine ez_icmp rfl rfl ⟨by first | omega | exact (sz_i32 _).1, by first | omega | exact (sz_i32 _).2⟩ ⟨by first | omega | exact (sz_i32 _).1, by first | omega | exact (sz_i32 _).2⟩ (fun (c12 : (qz_I h 738 7) ≤ (k)) => ?_) (fun (c12 : ¬((qz_I h 738 7) ≤ (k))) => ?_)
        · skip
          refine ez_go (n := 1) (pc' := 51) (L' := [(2, .inl (k)), (0, .inr (.inr (some (738)))), (1, .inl (i))]) (st' := [.inl (0)]) rfl ?_
          refine ez_retZ rfl rfl (Or.inl rfl) (k0 ?_)
          first | (exfalso; omega) | exact scA_no hn (by omega) | exact scA_not hn (by omega) (by omega) (by unfold sP3 kT; omega) (fun w => by have := e42.mpr w; omega)
        · skip
          refine ez_go (n := 1) (pc' := 38) (L' := [(2, .inl (k)), (0, .inr (.inr (some (738)))), (1, .inl (i))]) (st' := [.inr (.inr (some (738)))]) rfl ?_
          refine ez_gC (p := 742) (tg := 74) hB t738 rfl rfl tq_70 rfl rfl (fun (t742 : _ = 74) => ?_)
          refine ez_go (n := 1) (pc' := 42) (L' := [(2, .inl (k)), (0, .inr (.inr (some (738)))), (1, .inl (i))]) (st' := [.inl (k), .inr (.inr (some (742)))]) rfl ?_
          have n14 : 2000 ≤ qz_N h 742 ∧ qz_N h 742 ≤ 2000 := ez_len hB t742 tq_74 rfl
          refine ez_aI hB t742 rfl tq_74 rfl rfl (by omega) (by omega) (fun (b13 : 0 ≤ qz_I h 742 (k).toNat) (b13' : qz_I h 742 (k).toNat ≤ 1) => ?_)
          have e42 := (c.2.2.2.2 k (by omega) (by omega)).2.2.2.1
          refine ez_if rfl rfl ⟨by first | omega | exact (sz_i32 _).1, by first | omega | exact (sz_i32 _).2⟩ (fun (c15 : (qz_I h 742 (k).toNat) = (0)) => ?_) (fun (c15 : ¬((qz_I h 742 (k).toNat) = (0))) => ?_)
          · skip
            refine ez_go (n := 1) (pc' := 51) (L' := [(2, .inl (k)), (0, .inr (.inr (some (738)))), (1, .inl (i))]) (st' := [.inl (0)]) rfl ?_
            refine ez_retZ rfl rfl (Or.inl rfl) (k0 ?_)
            first | (exfalso; omega) | exact scA_no hn (by omega) | exact scA_not hn (by omega) (by omega) (by unfold sP3 kT; omega) (fun w => by have := e42.mpr w; omega)
          · skip
            refine ez_go (n := 2) (pc' := 51) (L' := [(2, .inl (k)), (0, .inr (.inr (some (738)))), (1, .inl (i))]) (st' := [.inl (1)]) rfl ?_
            refine ez_retZ rfl rfl (Or.inr rfl) (k1 ?_)
            first | (exfalso; omega) | exact ⟨k, by omega, by omega, by unfold sP3 kT; omega, e42.mp (by omega), hn⟩
      · skip
        refine ez_go (n := 2) (pc' := 4) (L' := [(2, .inl (k + 1)), (0, .inr (.inr (some (738)))), (1, .inl (i))]) (st' := []) rfl ?_
        exfalso; omega
  | succ n ih =>
    intro k hn0 ka kb hn
    refine ez_go (n := 2) (pc' := 6) (L' := [(2, .inl (k)), (0, .inr (.inr (some (738)))), (1, .inl (i))]) (st' := [.inr (.inr (some (738))), .inl (k)]) rfl ?_
    refine ez_gI hB t738 rfl rfl tq_70 rfl rfl (fun (b1 : 0 ≤ qz_I h 738 7) (b1' : qz_I h 738 7 ≤ 2000) => ?_)
    refine ez_icmp rfl rfl ⟨by first | omega | exact (sz_i32 _).1, by first | omega | exact (sz_i32 _).2⟩ ⟨by first | omega | exact (sz_i32 _).1, by first | omega | exact (sz_i32 _).2⟩ (fun (c2 : (qz_I h 738 7) ≤ (k)) => ?_) (fun (c2 : ¬((qz_I h 738 7) ≤ (k))) => ?_)
    · skip
      refine ez_go (n := 2) (pc' := 31) (L' := [(2, .inl (k)), (0, .inr (.inr (some (738)))), (1, .inl (i))]) (st' := [.inr (.inr (some (738))), .inl (k)]) rfl ?_
      refine ez_gI hB t738 rfl rfl tq_70 rfl rfl (fun (b3 : 0 ≤ qz_I h 738 7) (b3' : qz_I h 738 7 ≤ 2000) => ?_)
      refine ez_icmp rfl rfl ⟨by first | omega | exact (sz_i32 _).1, by first | omega | exact (sz_i32 _).2⟩ ⟨by first | omega | exact (sz_i32 _).1, by first | omega | exact (sz_i32 _).2⟩ (fun (c4 : (qz_I h 738 7) ≤ (k)) => ?_) (fun (c4 : ¬((qz_I h 738 7) ≤ (k))) => ?_)
      · skip
        refine ez_go (n := 1) (pc' := 51) (L' := [(2, .inl (k)), (0, .inr (.inr (some (738)))), (1, .inl (i))]) (st' := [.inl (0)]) rfl ?_
        refine ez_retZ rfl rfl (Or.inl rfl) (k0 ?_)
        first | (exfalso; omega) | exact scA_no hn (by omega) | exact scA_not hn (by omega) (by omega) (by unfold sP3 kT; omega) (fun w => by have := e42.mpr w; omega)
      · skip
        refine ez_go (n := 1) (pc' := 38) (L' := [(2, .inl (k)), (0, .inr (.inr (some (738)))), (1, .inl (i))]) (st' := [.inr (.inr (some (738)))]) rfl ?_
        refine ez_gC (p := 742) (tg := 74) hB t738 rfl rfl tq_70 rfl rfl (fun (t742 : _ = 74) => ?_)
        refine ez_go (n := 1) (pc' := 42) (L' := [(2, .inl (k)), (0, .inr (.inr (some (738)))), (1, .inl (i))]) (st' := [.inl (k), .inr (.inr (some (742)))]) rfl ?_
        have n6 : 2000 ≤ qz_N h 742 ∧ qz_N h 742 ≤ 2000 := ez_len hB t742 tq_74 rfl
        refine ez_aI hB t742 rfl tq_74 rfl rfl (by omega) (by omega) (fun (b5 : 0 ≤ qz_I h 742 (k).toNat) (b5' : qz_I h 742 (k).toNat ≤ 1) => ?_)
        have e42 := (c.2.2.2.2 k (by omega) (by omega)).2.2.2.1
        refine ez_if rfl rfl ⟨by first | omega | exact (sz_i32 _).1, by first | omega | exact (sz_i32 _).2⟩ (fun (c7 : (qz_I h 742 (k).toNat) = (0)) => ?_) (fun (c7 : ¬((qz_I h 742 (k).toNat) = (0))) => ?_)
        · skip
          refine ez_go (n := 1) (pc' := 51) (L' := [(2, .inl (k)), (0, .inr (.inr (some (738)))), (1, .inl (i))]) (st' := [.inl (0)]) rfl ?_
          refine ez_retZ rfl rfl (Or.inl rfl) (k0 ?_)
          first | (exfalso; omega) | exact scA_no hn (by omega) | exact scA_not hn (by omega) (by omega) (by unfold sP3 kT; omega) (fun w => by have := e42.mpr w; omega)
        · skip
          refine ez_go (n := 2) (pc' := 51) (L' := [(2, .inl (k)), (0, .inr (.inr (some (738)))), (1, .inl (i))]) (st' := [.inl (1)]) rfl ?_
          refine ez_retZ rfl rfl (Or.inr rfl) (k1 ?_)
          first | (exfalso; omega) | exact ⟨k, by omega, by omega, by unfold sP3 kT; omega, e42.mp (by omega), hn⟩
    · skip
      refine ez_go (n := 1) (pc' := 13) (L' := [(2, .inl (k)), (0, .inr (.inr (some (738)))), (1, .inl (i))]) (st' := [.inr (.inr (some (738)))]) rfl ?_
      refine ez_gC (p := 741) (tg := 73) hB t738 rfl rfl tq_70 rfl rfl (fun (t741 : _ = 73) => ?_)
      refine ez_go (n := 1) (pc' := 17) (L' := [(2, .inl (k)), (0, .inr (.inr (some (738)))), (1, .inl (i))]) (st' := [.inl (k), .inr (.inr (some (741)))]) rfl ?_
      have n9 : 2000 ≤ qz_N h 741 ∧ qz_N h 741 ≤ 2000 := ez_len hB t741 tq_73 rfl
      refine ez_aI hB t741 rfl tq_73 rfl rfl (by omega) (by omega) (fun (b8 : -2147483648 ≤ qz_I h 741 (k).toNat) (b8' : qz_I h 741 (k).toNat ≤ 2147483647) => ?_)
      have e41 := (c.2.2.2.2 k (by omega) (by omega)).2.2.1
      rw [e41]
      refine ez_go (n := 2) (pc' := 20) (L' := [(2, .inl (k)), (0, .inr (.inr (some (738)))), (1, .inl (i))]) (st' := [.inl ((Int32.ofInt ((D (uX u k)).2.1.1) &&& Int32.ofInt (2)).toInt)]) rfl ?_
      refine ez_if rfl rfl ⟨by first | omega | exact (sz_i32 _).1, by first | omega | exact (sz_i32 _).2⟩ (fun (c10 : ((Int32.ofInt ((D (uX u k)).2.1.1) &&& Int32.ofInt (2)).toInt) = (0)) => ?_) (fun (c10 : ¬(((Int32.ofInt ((D (uX u k)).2.1.1) &&& Int32.ofInt (2)).toInt) = (0))) => ?_)
      · skip
        refine ez_go (n := 2) (pc' := 31) (L' := [(2, .inl (k)), (0, .inr (.inr (some (738)))), (1, .inl (i))]) (st' := [.inr (.inr (some (738))), .inl (k)]) rfl ?_
        refine ez_gI hB t738 rfl rfl tq_70 rfl rfl (fun (b11 : 0 ≤ qz_I h 738 7) (b11' : qz_I h 738 7 ≤ 2000) => ?_)
        refine ez_icmp rfl rfl ⟨by first | omega | exact (sz_i32 _).1, by first | omega | exact (sz_i32 _).2⟩ ⟨by first | omega | exact (sz_i32 _).1, by first | omega | exact (sz_i32 _).2⟩ (fun (c12 : (qz_I h 738 7) ≤ (k)) => ?_) (fun (c12 : ¬((qz_I h 738 7) ≤ (k))) => ?_)
        · skip
          refine ez_go (n := 1) (pc' := 51) (L' := [(2, .inl (k)), (0, .inr (.inr (some (738)))), (1, .inl (i))]) (st' := [.inl (0)]) rfl ?_
          refine ez_retZ rfl rfl (Or.inl rfl) (k0 ?_)
          first | (exfalso; omega) | exact scA_no hn (by omega) | exact scA_not hn (by omega) (by omega) (by unfold sP3 kT; omega) (fun w => by have := e42.mpr w; omega)
        · skip
          refine ez_go (n := 1) (pc' := 38) (L' := [(2, .inl (k)), (0, .inr (.inr (some (738)))), (1, .inl (i))]) (st' := [.inr (.inr (some (738)))]) rfl ?_
          refine ez_gC (p := 742) (tg := 74) hB t738 rfl rfl tq_70 rfl rfl (fun (t742 : _ = 74) => ?_)
          refine ez_go (n := 1) (pc' := 42) (L' := [(2, .inl (k)), (0, .inr (.inr (some (738)))), (1, .inl (i))]) (st' := [.inl (k), .inr (.inr (some (742)))]) rfl ?_
          have n14 : 2000 ≤ qz_N h 742 ∧ qz_N h 742 ≤ 2000 := ez_len hB t742 tq_74 rfl
          refine ez_aI hB t742 rfl tq_74 rfl rfl (by omega) (by omega) (fun (b13 : 0 ≤ qz_I h 742 (k).toNat) (b13' : qz_I h 742 (k).toNat ≤ 1) => ?_)
          have e42 := (c.2.2.2.2 k (by omega) (by omega)).2.2.2.1
          refine ez_if rfl rfl ⟨by first | omega | exact (sz_i32 _).1, by first | omega | exact (sz_i32 _).2⟩ (fun (c15 : (qz_I h 742 (k).toNat) = (0)) => ?_) (fun (c15 : ¬((qz_I h 742 (k).toNat) = (0))) => ?_)
          · skip
            refine ez_go (n := 1) (pc' := 51) (L' := [(2, .inl (k)), (0, .inr (.inr (some (738)))), (1, .inl (i))]) (st' := [.inl (0)]) rfl ?_
            refine ez_retZ rfl rfl (Or.inl rfl) (k0 ?_)
            first | (exfalso; omega) | exact scA_no hn (by omega) | exact scA_not hn (by omega) (by omega) (by unfold sP3 kT; omega) (fun w => by have := e42.mpr w; omega)
          · skip
            refine ez_go (n := 2) (pc' := 51) (L' := [(2, .inl (k)), (0, .inr (.inr (some (738)))), (1, .inl (i))]) (st' := [.inl (1)]) rfl ?_
            refine ez_retZ rfl rfl (Or.inr rfl) (k1 ?_)
            first | (exfalso; omega) | exact ⟨k, by omega, by omega, by unfold sP3 kT; omega, e42.mp (by omega), hn⟩
      · skip
        refine ez_go (n := 2) (pc' := 4) (L' := [(2, .inl (k + 1)), (0, .inr (.inr (some (738)))), (1, .inl (i))]) (st' := []) rfl ?_
        refine ez_less [(2, .inl (k + 1)), (0, .inr (.inr (some (738)))), (1, .inl (i))] rfl ⟨rfl, rfl, rfl, trivial⟩ ?_
        exact ih _ (by omega) (by omega) (by omega) (scA_st hn (by unfold sP3 kT; omega))

theorem rd_casedBehind {i : Int} (c : ckC τ h F D p u loc) (i0 : 0 ≤ i) (i1 : i < (u.length : Int)) (k1 : scA (sP3 D u) (sH3 D u) i u.length → Q (.inl (some (ez_v (.inl 1))), h)) (k0 : ¬ scA (sP3 D u) (sH3 D u) i u.length → Q (.inl (some (ez_v (.inl 0))), h)) : ez_W d cm_67 0 [(0, .inr (.inr (some (738)))), (1, .inl (i))] [] h Q := by
  have hB := c.1.1
  have t738 : τ 738 = 70 := c.1.2 738 (by decide)
  have tp := c.2.1
  have n2 := c.2.2.1.1
  have e7 := c.2.2.2.1.2.1
  refine ez_go (n := 4) (pc' := 4) (L' := [(2, .inl ((i) + (1))), (0, .inr (.inr (some (738)))), (1, .inl (i))]) (st' := []) rfl ?_
  refine ez_less [(2, .inl ((i) + (1))), (0, .inr (.inr (some (738)))), (1, .inl (i))] rfl ⟨rfl, rfl, rfl, trivial⟩ ?_
  exact rd_casedBehind_l c i0 i1 k1 k0 _ _ rfl (by omega) (by omega) (fun j a b => by omega)

theorem rd_softDottedBefore_l {i : Int} (c : ckC τ h F D p u loc) (i0 : 0 ≤ i) (i1 : i < (u.length : Int)) (k1 : scB (sP4 D F u) (sH4 D u) i → Q (.inl (some (ez_v (.inl 1))), h)) (k0 : ¬ scB (sP4 D F u) (sH4 D u) i → Q (.inl (some (ez_v (.inl 0))), h)) : ∀ (n : Nat) (k : Int), n = (k + 1).toNat → -1 ≤ k → k < i → (∀ j, k < j → j < i → ¬ (sP4 D F u) j) → ez_W d cm_75 4 [(2, .inl (k)), (0, .inr (.inr (some (738)))), (1, .inl (i))] [] h Q := by
  have hB := c.1.1
  have t738 : τ 738 = 70 := c.1.2 738 (by decide)
  have tp := c.2.1
  have n2 := c.2.2.1.1
  have e7 := c.2.2.2.1.2.1
  intro n
  induction n with
  | zero =>
    intro k hn0 ka kb hn
    refine ez_go (n := 1) (pc' := 5) (L' := [(2, .inl (k)), (0, .inr (.inr (some (738)))), (1, .inl (i))]) (st' := [.inl (k)]) rfl ?_
    refine ez_if rfl rfl ⟨by first | omega | exact (sz_i32 _).1, by first | omega | exact (sz_i32 _).2⟩ (fun (c1 : (k) < (0)) => ?_) (fun (c1 : ¬((k) < (0))) => ?_)
    · skip
      refine ez_go (n := 1) (pc' := 48) (L' := [(2, .inl (k)), (0, .inr (.inr (some (738)))), (1, .inl (i))]) (st' := [.inl (k)]) rfl ?_
      refine ez_if rfl rfl ⟨by first | omega | exact (sz_i32 _).1, by first | omega | exact (sz_i32 _).2⟩ (fun (c2 : (k) < (0)) => ?_) (fun (c2 : ¬((k) < (0))) => ?_)
      · skip
        refine ez_go (n := 1) (pc' := 68) (L' := [(2, .inl (k)), (0, .inr (.inr (some (738)))), (1, .inl (i))]) (st' := [.inl (0)]) rfl ?_
        refine ez_retZ rfl rfl (Or.inl rfl) (k0 ?_)
        first | (exfalso; omega) | exact scB_no hn (by omega) | exact scB_not hn (by omega) (by omega) (by unfold sP4 kT; omega) (by unfold sH4 kT; omega)
      · skip
        refine ez_go (n := 1) (pc' := 52) (L' := [(2, .inl (k)), (0, .inr (.inr (some (738)))), (1, .inl (i))]) (st' := [.inr (.inr (some (738)))]) rfl ?_
        refine ez_gC (p := 741) (tg := 73) hB t738 rfl rfl tq_70 rfl rfl (fun (t741 : _ = 73) => ?_)
        refine ez_go (n := 1) (pc' := 56) (L' := [(2, .inl (k)), (0, .inr (.inr (some (738)))), (1, .inl (i))]) (st' := [.inl (k), .inr (.inr (some (741)))]) rfl ?_
        have n4 : 2000 ≤ qz_N h 741 ∧ qz_N h 741 ≤ 2000 := ez_len hB t741 tq_73 rfl
        refine ez_aI hB t741 rfl tq_73 rfl rfl (by omega) (by omega) (fun (b3 : -2147483648 ≤ qz_I h 741 (k).toNat) (b3' : qz_I h 741 (k).toNat ≤ 2147483647) => ?_)
        have e41 := (c.2.2.2.2 k (by omega) (by omega)).2.2.1
        rw [e41]
        refine ez_go (n := 2) (pc' := 60) (L' := [(2, .inl (k)), (0, .inr (.inr (some (738)))), (1, .inl (i))]) (st' := [.inl ((Int32.ofInt ((D (uX u k)).2.1.1) &&& Int32.ofInt (8)).toInt)]) rfl ?_
        refine ez_if rfl rfl ⟨by first | omega | exact (sz_i32 _).1, by first | omega | exact (sz_i32 _).2⟩ (fun (c5 : ((Int32.ofInt ((D (uX u k)).2.1.1) &&& Int32.ofInt (8)).toInt) = (0)) => ?_) (fun (c5 : ¬(((Int32.ofInt ((D (uX u k)).2.1.1) &&& Int32.ofInt (8)).toInt) = (0))) => ?_)
        · skip
          refine ez_go (n := 1) (pc' := 68) (L' := [(2, .inl (k)), (0, .inr (.inr (some (738)))), (1, .inl (i))]) (st' := [.inl (0)]) rfl ?_
          refine ez_retZ rfl rfl (Or.inl rfl) (k0 ?_)
          first | (exfalso; omega) | exact scB_no hn (by omega) | exact scB_not hn (by omega) (by omega) (by unfold sP4 kT; omega) (by unfold sH4 kT; omega)
        · skip
          refine ez_go (n := 2) (pc' := 68) (L' := [(2, .inl (k)), (0, .inr (.inr (some (738)))), (1, .inl (i))]) (st' := [.inl (1)]) rfl ?_
          refine ez_retZ rfl rfl (Or.inr rfl) (k1 ?_)
          first | (exfalso; omega) | exact ⟨k, by omega, by omega, by unfold sP4 kT; omega, by unfold sH4 kT; omega, hn⟩
    · skip
      refine ez_go (n := 1) (pc' := 9) (L' := [(2, .inl (k)), (0, .inr (.inr (some (738)))), (1, .inl (i))]) (st' := [.inr (.inr (some (738)))]) rfl ?_
      refine ez_gC (p := 741) (tg := 73) hB t738 rfl rfl tq_70 rfl rfl (fun (t741 : _ = 73) => ?_)
      refine ez_go (n := 1) (pc' := 13) (L' := [(2, .inl (k)), (0, .inr (.inr (some (738)))), (1, .inl (i))]) (st' := [.inl (k), .inr (.inr (some (741)))]) rfl ?_
      have n7 : 2000 ≤ qz_N h 741 ∧ qz_N h 741 ≤ 2000 := ez_len hB t741 tq_73 rfl
      refine ez_aI hB t741 rfl tq_73 rfl rfl (by omega) (by omega) (fun (b6 : -2147483648 ≤ qz_I h 741 (k).toNat) (b6' : qz_I h 741 (k).toNat ≤ 2147483647) => ?_)
      have e41 := (c.2.2.2.2 k (by omega) (by omega)).2.2.1
      rw [e41]
      refine ez_go (n := 2) (pc' := 17) (L' := [(2, .inl (k)), (0, .inr (.inr (some (738)))), (1, .inl (i))]) (st' := [.inl ((Int32.ofInt ((D (uX u k)).2.1.1) &&& Int32.ofInt (8)).toInt)]) rfl ?_
      refine ez_if rfl rfl ⟨by first | omega | exact (sz_i32 _).1, by first | omega | exact (sz_i32 _).2⟩ (fun (c8 : ((Int32.ofInt ((D (uX u k)).2.1.1) &&& Int32.ofInt (8)).toInt) ≠ (0)) => ?_) (fun (c8 : ¬(((Int32.ofInt ((D (uX u k)).2.1.1) &&& Int32.ofInt (8)).toInt) ≠ (0))) => ?_)
      · skip
        refine ez_go (n := 1) (pc' := 48) (L' := [(2, .inl (k)), (0, .inr (.inr (some (738)))), (1, .inl (i))]) (st' := [.inl (k)]) rfl ?_
        refine ez_if rfl rfl ⟨by first | omega | exact (sz_i32 _).1, by first | omega | exact (sz_i32 _).2⟩ (fun (c9 : (k) < (0)) => ?_) (fun (c9 : ¬((k) < (0))) => ?_)
        · skip
          refine ez_go (n := 1) (pc' := 68) (L' := [(2, .inl (k)), (0, .inr (.inr (some (738)))), (1, .inl (i))]) (st' := [.inl (0)]) rfl ?_
          refine ez_retZ rfl rfl (Or.inl rfl) (k0 ?_)
          first | (exfalso; omega) | exact scB_no hn (by omega) | exact scB_not hn (by omega) (by omega) (by unfold sP4 kT; omega) (by unfold sH4 kT; omega)
        · skip
          refine ez_go (n := 1) (pc' := 52) (L' := [(2, .inl (k)), (0, .inr (.inr (some (738)))), (1, .inl (i))]) (st' := [.inr (.inr (some (738)))]) rfl ?_
          refine ez_gC (p := 741) (tg := 73) hB t738 rfl rfl tq_70 rfl rfl (fun (t741 : _ = 73) => ?_)
          refine ez_go (n := 1) (pc' := 56) (L' := [(2, .inl (k)), (0, .inr (.inr (some (738)))), (1, .inl (i))]) (st' := [.inl (k), .inr (.inr (some (741)))]) rfl ?_
          have n11 : 2000 ≤ qz_N h 741 ∧ qz_N h 741 ≤ 2000 := ez_len hB t741 tq_73 rfl
          refine ez_aI hB t741 rfl tq_73 rfl rfl (by omega) (by omega) (fun (b10 : -2147483648 ≤ qz_I h 741 (k).toNat) (b10' : qz_I h 741 (k).toNat ≤ 2147483647) => ?_)
          have e41 := (c.2.2.2.2 k (by omega) (by omega)).2.2.1
          rw [e41]
          refine ez_go (n := 2) (pc' := 60) (L' := [(2, .inl (k)), (0, .inr (.inr (some (738)))), (1, .inl (i))]) (st' := [.inl ((Int32.ofInt ((D (uX u k)).2.1.1) &&& Int32.ofInt (8)).toInt)]) rfl ?_
          refine ez_if rfl rfl ⟨by first | omega | exact (sz_i32 _).1, by first | omega | exact (sz_i32 _).2⟩ (fun (c12 : ((Int32.ofInt ((D (uX u k)).2.1.1) &&& Int32.ofInt (8)).toInt) = (0)) => ?_) (fun (c12 : ¬(((Int32.ofInt ((D (uX u k)).2.1.1) &&& Int32.ofInt (8)).toInt) = (0))) => ?_)
          · skip
            refine ez_go (n := 1) (pc' := 68) (L' := [(2, .inl (k)), (0, .inr (.inr (some (738)))), (1, .inl (i))]) (st' := [.inl (0)]) rfl ?_
            refine ez_retZ rfl rfl (Or.inl rfl) (k0 ?_)
            first | (exfalso; omega) | exact scB_no hn (by omega) | exact scB_not hn (by omega) (by omega) (by unfold sP4 kT; omega) (by unfold sH4 kT; omega)
          · skip
            refine ez_go (n := 2) (pc' := 68) (L' := [(2, .inl (k)), (0, .inr (.inr (some (738)))), (1, .inl (i))]) (st' := [.inl (1)]) rfl ?_
            refine ez_retZ rfl rfl (Or.inr rfl) (k1 ?_)
            first | (exfalso; omega) | exact ⟨k, by omega, by omega, by unfold sP4 kT; omega, by unfold sH4 kT; omega, hn⟩
      · skip
        refine ez_go (n := 1) (pc' := 21) (L' := [(2, .inl (k)), (0, .inr (.inr (some (738)))), (1, .inl (i))]) (st' := [.inr (.inr (some (738)))]) rfl ?_
        refine ez_gC (p := 740) (tg := 72) hB t738 rfl rfl tq_70 rfl rfl (fun (t740 : _ = 72) => ?_)
        refine ez_go (n := 1) (pc' := 25) (L' := [(2, .inl (k)), (0, .inr (.inr (some (738)))), (1, .inl (i))]) (st' := [.inl (k), .inr (.inr (some (740)))]) rfl ?_
        have n14 : 2000 ≤ qz_N h 740 ∧ qz_N h 740 ≤ 2000 := ez_len hB t740 tq_72 rfl
        refine ez_aI hB t740 rfl tq_72 rfl rfl (by omega) (by omega) (fun (b13 : -2147483648 ≤ qz_I h 740 (k).toNat) (b13' : qz_I h 740 (k).toNat ≤ 2147483647) => ?_)
        have e40 := (c.2.2.2.2 k (by omega) (by omega)).2.1
        rw [e40]
        refine ez_if rfl rfl ⟨by first | omega | exact (sz_i32 _).1, by first | omega | exact (sz_i32 _).2⟩ (fun (c15 : (kc F u k) = (0)) => ?_) (fun (c15 : ¬((kc F u k) = (0))) => ?_)
        · skip
          refine ez_go (n := 1) (pc' := 48) (L' := [(2, .inl (k)), (0, .inr (.inr (some (738)))), (1, .inl (i))]) (st' := [.inl (k)]) rfl ?_
          refine ez_if rfl rfl ⟨by first | omega | exact (sz_i32 _).1, by first | omega | exact (sz_i32 _).2⟩ (fun (c16 : (k) < (0)) => ?_) (fun (c16 : ¬((k) < (0))) => ?_)
          · skip
            refine ez_go (n := 1) (pc' := 68) (L' := [(2, .inl (k)), (0, .inr (.inr (some (738)))), (1, .inl (i))]) (st' := [.inl (0)]) rfl ?_
            refine ez_retZ rfl rfl (Or.inl rfl) (k0 ?_)
            first | (exfalso; omega) | exact scB_no hn (by omega) | exact scB_not hn (by omega) (by omega) (by unfold sP4 kT; omega) (by unfold sH4 kT; omega)
          · skip
            refine ez_go (n := 1) (pc' := 52) (L' := [(2, .inl (k)), (0, .inr (.inr (some (738)))), (1, .inl (i))]) (st' := [.inr (.inr (some (738)))]) rfl ?_
            refine ez_gC (p := 741) (tg := 73) hB t738 rfl rfl tq_70 rfl rfl (fun (t741 : _ = 73) => ?_)
            refine ez_go (n := 1) (pc' := 56) (L' := [(2, .inl (k)), (0, .inr (.inr (some (738)))), (1, .inl (i))]) (st' := [.inl (k), .inr (.inr (some (741)))]) rfl ?_
            have n18 : 2000 ≤ qz_N h 741 ∧ qz_N h 741 ≤ 2000 := ez_len hB t741 tq_73 rfl
            refine ez_aI hB t741 rfl tq_73 rfl rfl (by omega) (by omega) (fun (b17 : -2147483648 ≤ qz_I h 741 (k).toNat) (b17' : qz_I h 741 (k).toNat ≤ 2147483647) => ?_)
            have e41 := (c.2.2.2.2 k (by omega) (by omega)).2.2.1
            rw [e41]
            refine ez_go (n := 2) (pc' := 60) (L' := [(2, .inl (k)), (0, .inr (.inr (some (738)))), (1, .inl (i))]) (st' := [.inl ((Int32.ofInt ((D (uX u k)).2.1.1) &&& Int32.ofInt (8)).toInt)]) rfl ?_
            refine ez_if rfl rfl ⟨by first | omega | exact (sz_i32 _).1, by first | omega | exact (sz_i32 _).2⟩ (fun (c19 : ((Int32.ofInt ((D (uX u k)).2.1.1) &&& Int32.ofInt (8)).toInt) = (0)) => ?_) (fun (c19 : ¬(((Int32.ofInt ((D (uX u k)).2.1.1) &&& Int32.ofInt (8)).toInt) = (0))) => ?_)
            · skip
              refine ez_go (n := 1) (pc' := 68) (L' := [(2, .inl (k)), (0, .inr (.inr (some (738)))), (1, .inl (i))]) (st' := [.inl (0)]) rfl ?_
              refine ez_retZ rfl rfl (Or.inl rfl) (k0 ?_)
              first | (exfalso; omega) | exact scB_no hn (by omega) | exact scB_not hn (by omega) (by omega) (by unfold sP4 kT; omega) (by unfold sH4 kT; omega)
            · skip
              refine ez_go (n := 2) (pc' := 68) (L' := [(2, .inl (k)), (0, .inr (.inr (some (738)))), (1, .inl (i))]) (st' := [.inl (1)]) rfl ?_
              refine ez_retZ rfl rfl (Or.inr rfl) (k1 ?_)
              first | (exfalso; omega) | exact ⟨k, by omega, by omega, by unfold sP4 kT; omega, by unfold sH4 kT; omega, hn⟩
        · skip
          refine ez_go (n := 1) (pc' := 30) (L' := [(2, .inl (k)), (0, .inr (.inr (some (738)))), (1, .inl (i))]) (st' := [.inr (.inr (some (738)))]) rfl ?_
          refine ez_gC (p := 740) (tg := 72) hB t738 rfl rfl tq_70 rfl rfl (fun (t740 : _ = 72) => ?_)
          refine ez_go (n := 1) (pc' := 34) (L' := [(2, .inl (k)), (0, .inr (.inr (some (738)))), (1, .inl (i))]) (st' := [.inl (k), .inr (.inr (some (740)))]) rfl ?_
          have n21 : 2000 ≤ qz_N h 740 ∧ qz_N h 740 ≤ 2000 := ez_len hB t740 tq_72 rfl
          refine ez_aI hB t740 rfl tq_72 rfl rfl (by omega) (by omega) (fun (b20 : -2147483648 ≤ qz_I h 740 (k).toNat) (b20' : qz_I h 740 (k).toNat ≤ 2147483647) => ?_)
          refine ez_go (n := 1) (pc' := 38) (L' := [(2, .inl (k)), (0, .inr (.inr (some (738)))), (1, .inl (i))]) (st' := [.inl (230), .inl (qz_I h 740 (k).toNat)]) rfl ?_
          refine ez_icmp rfl rfl ⟨by first | omega | exact (sz_i32 _).1, by first | omega | exact (sz_i32 _).2⟩ ⟨by first | omega | exact (sz_i32 _).1, by first | omega | exact (sz_i32 _).2⟩ (fun (c22 : (qz_I h 740 (k).toNat) = (230)) => ?_) (fun (c22 : ¬((qz_I h 740 (k).toNat) = (230))) => ?_)
          · skip
            refine ez_go (n := 1) (pc' := 48) (L' := [(2, .inl (k)), (0, .inr (.inr (some (738)))), (1, .inl (i))]) (st' := [.inl (k)]) rfl ?_
            refine ez_if rfl rfl ⟨by first | omega | exact (sz_i32 _).1, by first | omega | exact (sz_i32 _).2⟩ (fun (c23 : (k) < (0)) => ?_) (fun (c23 : ¬((k) < (0))) => ?_)
            · skip
              refine ez_go (n := 1) (pc' := 68) (L' := [(2, .inl (k)), (0, .inr (.inr (some (738)))), (1, .inl (i))]) (st' := [.inl (0)]) rfl ?_
              refine ez_retZ rfl rfl (Or.inl rfl) (k0 ?_)
              first | (exfalso; omega) | exact scB_no hn (by omega) | exact scB_not hn (by omega) (by omega) (by unfold sP4 kT; omega) (by unfold sH4 kT; omega)
            · skip
              refine ez_go (n := 1) (pc' := 52) (L' := [(2, .inl (k)), (0, .inr (.inr (some (738)))), (1, .inl (i))]) (st' := [.inr (.inr (some (738)))]) rfl ?_
              refine ez_gC (p := 741) (tg := 73) hB t738 rfl rfl tq_70 rfl rfl (fun (t741 : _ = 73) => ?_)
              refine ez_go (n := 1) (pc' := 56) (L' := [(2, .inl (k)), (0, .inr (.inr (some (738)))), (1, .inl (i))]) (st' := [.inl (k), .inr (.inr (some (741)))]) rfl ?_
              have n25 : 2000 ≤ qz_N h 741 ∧ qz_N h 741 ≤ 2000 := ez_len hB t741 tq_73 rfl
              refine ez_aI hB t741 rfl tq_73 rfl rfl (by omega) (by omega) (fun (b24 : -2147483648 ≤ qz_I h 741 (k).toNat) (b24' : qz_I h 741 (k).toNat ≤ 2147483647) => ?_)
              have e41 := (c.2.2.2.2 k (by omega) (by omega)).2.2.1
              rw [e41]
              refine ez_go (n := 2) (pc' := 60) (L' := [(2, .inl (k)), (0, .inr (.inr (some (738)))), (1, .inl (i))]) (st' := [.inl ((Int32.ofInt ((D (uX u k)).2.1.1) &&& Int32.ofInt (8)).toInt)]) rfl ?_
              refine ez_if rfl rfl ⟨by first | omega | exact (sz_i32 _).1, by first | omega | exact (sz_i32 _).2⟩ (fun (c26 : ((Int32.ofInt ((D (uX u k)).2.1.1) &&& Int32.ofInt (8)).toInt) = (0)) => ?_) (fun (c26 : ¬(((Int32.ofInt ((D (uX u k)).2.1.1) &&& Int32.ofInt (8)).toInt) = (0))) => ?_)
              · skip
                refine ez_go (n := 1) (pc' := 68) (L' := [(2, .inl (k)), (0, .inr (.inr (some (738)))), (1, .inl (i))]) (st' := [.inl (0)]) rfl ?_
                refine ez_retZ rfl rfl (Or.inl rfl) (k0 ?_)
                first | (exfalso; omega) | exact scB_no hn (by omega) | exact scB_not hn (by omega) (by omega) (by unfold sP4 kT; omega) (by unfold sH4 kT; omega)
              · skip
                refine ez_go (n := 2) (pc' := 68) (L' := [(2, .inl (k)), (0, .inr (.inr (some (738)))), (1, .inl (i))]) (st' := [.inl (1)]) rfl ?_
                refine ez_retZ rfl rfl (Or.inr rfl) (k1 ?_)
                first | (exfalso; omega) | exact ⟨k, by omega, by omega, by unfold sP4 kT; omega, by unfold sH4 kT; omega, hn⟩
          · skip
            refine ez_go (n := 2) (pc' := 4) (L' := [(2, .inl (k + (-1))), (0, .inr (.inr (some (738)))), (1, .inl (i))]) (st' := []) rfl ?_
            exfalso; omega
  | succ n ih =>
    intro k hn0 ka kb hn
    refine ez_go (n := 1) (pc' := 5) (L' := [(2, .inl (k)), (0, .inr (.inr (some (738)))), (1, .inl (i))]) (st' := [.inl (k)]) rfl ?_
    refine ez_if rfl rfl ⟨by first | omega | exact (sz_i32 _).1, by first | omega | exact (sz_i32 _).2⟩ (fun (c1 : (k) < (0)) => ?_) (fun (c1 : ¬((k) < (0))) => ?_)
    · skip
      refine ez_go (n := 1) (pc' := 48) (L' := [(2, .inl (k)), (0, .inr (.inr (some (738)))), (1, .inl (i))]) (st' := [.inl (k)]) rfl ?_
      refine ez_if rfl rfl ⟨by first | omega | exact (sz_i32 _).1, by first | omega | exact (sz_i32 _).2⟩ (fun (c2 : (k) < (0)) => ?_) (fun (c2 : ¬((k) < (0))) => ?_)
      · skip
        refine ez_go (n := 1) (pc' := 68) (L' := [(2, .inl (k)), (0, .inr (.inr (some (738)))), (1, .inl (i))]) (st' := [.inl (0)]) rfl ?_
        refine ez_retZ rfl rfl (Or.inl rfl) (k0 ?_)
        first | (exfalso; omega) | exact scB_no hn (by omega) | exact scB_not hn (by omega) (by omega) (by unfold sP4 kT; omega) (by unfold sH4 kT; omega)
      · skip
        refine ez_go (n := 1) (pc' := 52) (L' := [(2, .inl (k)), (0, .inr (.inr (some (738)))), (1, .inl (i))]) (st' := [.inr (.inr (some (738)))]) rfl ?_
        refine ez_gC (p := 741) (tg := 73) hB t738 rfl rfl tq_70 rfl rfl (fun (t741 : _ = 73) => ?_)
        refine ez_go (n := 1) (pc' := 56) (L' := [(2, .inl (k)), (0, .inr (.inr (some (738)))), (1, .inl (i))]) (st' := [.inl (k), .inr (.inr (some (741)))]) rfl ?_
        have n4 : 2000 ≤ qz_N h 741 ∧ qz_N h 741 ≤ 2000 := ez_len hB t741 tq_73 rfl
        refine ez_aI hB t741 rfl tq_73 rfl rfl (by omega) (by omega) (fun (b3 : -2147483648 ≤ qz_I h 741 (k).toNat) (b3' : qz_I h 741 (k).toNat ≤ 2147483647) => ?_)
        have e41 := (c.2.2.2.2 k (by omega) (by omega)).2.2.1
        rw [e41]
        refine ez_go (n := 2) (pc' := 60) (L' := [(2, .inl (k)), (0, .inr (.inr (some (738)))), (1, .inl (i))]) (st' := [.inl ((Int32.ofInt ((D (uX u k)).2.1.1) &&& Int32.ofInt (8)).toInt)]) rfl ?_
        refine ez_if rfl rfl ⟨by first | omega | exact (sz_i32 _).1, by first | omega | exact (sz_i32 _).2⟩ (fun (c5 : ((Int32.ofInt ((D (uX u k)).2.1.1) &&& Int32.ofInt (8)).toInt) = (0)) => ?_) (fun (c5 : ¬(((Int32.ofInt ((D (uX u k)).2.1.1) &&& Int32.ofInt (8)).toInt) = (0))) => ?_)
        · skip
          refine ez_go (n := 1) (pc' := 68) (L' := [(2, .inl (k)), (0, .inr (.inr (some (738)))), (1, .inl (i))]) (st' := [.inl (0)]) rfl ?_
          refine ez_retZ rfl rfl (Or.inl rfl) (k0 ?_)
          first | (exfalso; omega) | exact scB_no hn (by omega) | exact scB_not hn (by omega) (by omega) (by unfold sP4 kT; omega) (by unfold sH4 kT; omega)
        · skip
          refine ez_go (n := 2) (pc' := 68) (L' := [(2, .inl (k)), (0, .inr (.inr (some (738)))), (1, .inl (i))]) (st' := [.inl (1)]) rfl ?_
          refine ez_retZ rfl rfl (Or.inr rfl) (k1 ?_)
          first | (exfalso; omega) | exact ⟨k, by omega, by omega, by unfold sP4 kT; omega, by unfold sH4 kT; omega, hn⟩
    · skip
      refine ez_go (n := 1) (pc' := 9) (L' := [(2, .inl (k)), (0, .inr (.inr (some (738)))), (1, .inl (i))]) (st' := [.inr (.inr (some (738)))]) rfl ?_
      refine ez_gC (p := 741) (tg := 73) hB t738 rfl rfl tq_70 rfl rfl (fun (t741 : _ = 73) => ?_)
      refine ez_go (n := 1) (pc' := 13) (L' := [(2, .inl (k)), (0, .inr (.inr (some (738)))), (1, .inl (i))]) (st' := [.inl (k), .inr (.inr (some (741)))]) rfl ?_
      have n7 : 2000 ≤ qz_N h 741 ∧ qz_N h 741 ≤ 2000 := ez_len hB t741 tq_73 rfl
      refine ez_aI hB t741 rfl tq_73 rfl rfl (by omega) (by omega) (fun (b6 : -2147483648 ≤ qz_I h 741 (k).toNat) (b6' : qz_I h 741 (k).toNat ≤ 2147483647) => ?_)
      have e41 := (c.2.2.2.2 k (by omega) (by omega)).2.2.1
      rw [e41]
      refine ez_go (n := 2) (pc' := 17) (L' := [(2, .inl (k)), (0, .inr (.inr (some (738)))), (1, .inl (i))]) (st' := [.inl ((Int32.ofInt ((D (uX u k)).2.1.1) &&& Int32.ofInt (8)).toInt)]) rfl ?_
      refine ez_if rfl rfl ⟨by first | omega | exact (sz_i32 _).1, by first | omega | exact (sz_i32 _).2⟩ (fun (c8 : ((Int32.ofInt ((D (uX u k)).2.1.1) &&& Int32.ofInt (8)).toInt) ≠ (0)) => ?_) (fun (c8 : ¬(((Int32.ofInt ((D (uX u k)).2.1.1) &&& Int32.ofInt (8)).toInt) ≠ (0))) => ?_)
      · skip
        refine ez_go (n := 1) (pc' := 48) (L' := [(2, .inl (k)), (0, .inr (.inr (some (738)))), (1, .inl (i))]) (st' := [.inl (k)]) rfl ?_
        refine ez_if rfl rfl ⟨by first | omega | exact (sz_i32 _).1, by first | omega | exact (sz_i32 _).2⟩ (fun (c9 : (k) < (0)) => ?_) (fun (c9 : ¬((k) < (0))) => ?_)
        · skip
          refine ez_go (n := 1) (pc' := 68) (L' := [(2, .inl (k)), (0, .inr (.inr (some (738)))), (1, .inl (i))]) (st' := [.inl (0)]) rfl ?_
          refine ez_retZ rfl rfl (Or.inl rfl) (k0 ?_)
          first | (exfalso; omega) | exact scB_no hn (by omega) | exact scB_not hn (by omega) (by omega) (by unfold sP4 kT; omega) (by unfold sH4 kT; omega)
        · skip
          refine ez_go (n := 1) (pc' := 52) (L' := [(2, .inl (k)), (0, .inr (.inr (some (738)))), (1, .inl (i))]) (st' := [.inr (.inr (some (738)))]) rfl ?_
          refine ez_gC (p := 741) (tg := 73) hB t738 rfl rfl tq_70 rfl rfl (fun (t741 : _ = 73) => ?_)
          refine ez_go (n := 1) (pc' := 56) (L' := [(2, .inl (k)), (0, .inr (.inr (some (738)))), (1, .inl (i))]) (st' := [.inl (k), .inr (.inr (some (741)))]) rfl ?_
          have n11 : 2000 ≤ qz_N h 741 ∧ qz_N h 741 ≤ 2000 := ez_len hB t741 tq_73 rfl
          refine ez_aI hB t741 rfl tq_73 rfl rfl (by omega) (by omega) (fun (b10 : -2147483648 ≤ qz_I h 741 (k).toNat) (b10' : qz_I h 741 (k).toNat ≤ 2147483647) => ?_)
          have e41 := (c.2.2.2.2 k (by omega) (by omega)).2.2.1
          rw [e41]
          refine ez_go (n := 2) (pc' := 60) (L' := [(2, .inl (k)), (0, .inr (.inr (some (738)))), (1, .inl (i))]) (st' := [.inl ((Int32.ofInt ((D (uX u k)).2.1.1) &&& Int32.ofInt (8)).toInt)]) rfl ?_
          refine ez_if rfl rfl ⟨by first | omega | exact (sz_i32 _).1, by first | omega | exact (sz_i32 _).2⟩ (fun (c12 : ((Int32.ofInt ((D (uX u k)).2.1.1) &&& Int32.ofInt (8)).toInt) = (0)) => ?_) (fun (c12 : ¬(((Int32.ofInt ((D (uX u k)).2.1.1) &&& Int32.ofInt (8)).toInt) = (0))) => ?_)
          · skip
            refine ez_go (n := 1) (pc' := 68) (L' := [(2, .inl (k)), (0, .inr (.inr (some (738)))), (1, .inl (i))]) (st' := [.inl (0)]) rfl ?_
            refine ez_retZ rfl rfl (Or.inl rfl) (k0 ?_)
            first | (exfalso; omega) | exact scB_no hn (by omega) | exact scB_not hn (by omega) (by omega) (by unfold sP4 kT; omega) (by unfold sH4 kT; omega)
          · skip
            refine ez_go (n := 2) (pc' := 68) (L' := [(2, .inl (k)), (0, .inr (.inr (some (738)))), (1, .inl (i))]) (st' := [.inl (1)]) rfl ?_
            refine ez_retZ rfl rfl (Or.inr rfl) (k1 ?_)
            first | (exfalso; omega) | exact ⟨k, by omega, by omega, by unfold sP4 kT; omega, by unfold sH4 kT; omega, hn⟩
      · skip
        refine ez_go (n := 1) (pc' := 21) (L' := [(2, .inl (k)), (0, .inr (.inr (some (738)))), (1, .inl (i))]) (st' := [.inr (.inr (some (738)))]) rfl ?_
        refine ez_gC (p := 740) (tg := 72) hB t738 rfl rfl tq_70 rfl rfl (fun (t740 : _ = 72) => ?_)
        refine ez_go (n := 1) (pc' := 25) (L' := [(2, .inl (k)), (0, .inr (.inr (some (738)))), (1, .inl (i))]) (st' := [.inl (k), .inr (.inr (some (740)))]) rfl ?_
        have n14 : 2000 ≤ qz_N h 740 ∧ qz_N h 740 ≤ 2000 := ez_len hB t740 tq_72 rfl
        refine ez_aI hB t740 rfl tq_72 rfl rfl (by omega) (by omega) (fun (b13 : -2147483648 ≤ qz_I h 740 (k).toNat) (b13' : qz_I h 740 (k).toNat ≤ 2147483647) => ?_)
        have e40 := (c.2.2.2.2 k (by omega) (by omega)).2.1
        rw [e40]
        refine ez_if rfl rfl ⟨by first | omega | exact (sz_i32 _).1, by first | omega | exact (sz_i32 _).2⟩ (fun (c15 : (kc F u k) = (0)) => ?_) (fun (c15 : ¬((kc F u k) = (0))) => ?_)
        · skip
          refine ez_go (n := 1) (pc' := 48) (L' := [(2, .inl (k)), (0, .inr (.inr (some (738)))), (1, .inl (i))]) (st' := [.inl (k)]) rfl ?_
          refine ez_if rfl rfl ⟨by first | omega | exact (sz_i32 _).1, by first | omega | exact (sz_i32 _).2⟩ (fun (c16 : (k) < (0)) => ?_) (fun (c16 : ¬((k) < (0))) => ?_)
          · skip
            refine ez_go (n := 1) (pc' := 68) (L' := [(2, .inl (k)), (0, .inr (.inr (some (738)))), (1, .inl (i))]) (st' := [.inl (0)]) rfl ?_
            refine ez_retZ rfl rfl (Or.inl rfl) (k0 ?_)
            first | (exfalso; omega) | exact scB_no hn (by omega) | exact scB_not hn (by omega) (by omega) (by unfold sP4 kT; omega) (by unfold sH4 kT; omega)
          · skip
            refine ez_go (n := 1) (pc' := 52) (L' := [(2, .inl (k)), (0, .inr (.inr (some (738)))), (1, .inl (i))]) (st' := [.inr (.inr (some (738)))]) rfl ?_
            refine ez_gC (p := 741) (tg := 73) hB t738 rfl rfl tq_70 rfl rfl (fun (t741 : _ = 73) => ?_)
            refine ez_go (n := 1) (pc' := 56) (L' := [(2, .inl (k)), (0, .inr (.inr (some (738)))), (1, .inl (i))]) (st' := [.inl (k), .inr (.inr (some (741)))]) rfl ?_
            have n18 : 2000 ≤ qz_N h 741 ∧ qz_N h 741 ≤ 2000 := ez_len hB t741 tq_73 rfl
            refine ez_aI hB t741 rfl tq_73 rfl rfl (by omega) (by omega) (fun (b17 : -2147483648 ≤ qz_I h 741 (k).toNat) (b17' : qz_I h 741 (k).toNat ≤ 2147483647) => ?_)
            have e41 := (c.2.2.2.2 k (by omega) (by omega)).2.2.1
            rw [e41]
            refine ez_go (n := 2) (pc' := 60) (L' := [(2, .inl (k)), (0, .inr (.inr (some (738)))), (1, .inl (i))]) (st' := [.inl ((Int32.ofInt ((D (uX u k)).2.1.1) &&& Int32.ofInt (8)).toInt)]) rfl ?_
            refine ez_if rfl rfl ⟨by first | omega | exact (sz_i32 _).1, by first | omega | exact (sz_i32 _).2⟩ (fun (c19 : ((Int32.ofInt ((D (uX u k)).2.1.1) &&& Int32.ofInt (8)).toInt) = (0)) => ?_) (fun (c19 : ¬(((Int32.ofInt ((D (uX u k)).2.1.1) &&& Int32.ofInt (8)).toInt) = (0))) => ?_)
            · skip
              refine ez_go (n := 1) (pc' := 68) (L' := [(2, .inl (k)), (0, .inr (.inr (some (738)))), (1, .inl (i))]) (st' := [.inl (0)]) rfl ?_
              refine ez_retZ rfl rfl (Or.inl rfl) (k0 ?_)
              first | (exfalso; omega) | exact scB_no hn (by omega) | exact scB_not hn (by omega) (by omega) (by unfold sP4 kT; omega) (by unfold sH4 kT; omega)
            · skip
              refine ez_go (n := 2) (pc' := 68) (L' := [(2, .inl (k)), (0, .inr (.inr (some (738)))), (1, .inl (i))]) (st' := [.inl (1)]) rfl ?_
              refine ez_retZ rfl rfl (Or.inr rfl) (k1 ?_)
              first | (exfalso; omega) | exact ⟨k, by omega, by omega, by unfold sP4 kT; omega, by unfold sH4 kT; omega, hn⟩
        · skip
          refine ez_go (n := 1) (pc' := 30) (L' := [(2, .inl (k)), (0, .inr (.inr (some (738)))), (1, .inl (i))]) (st' := [.inr (.inr (some (738)))]) rfl ?_
          refine ez_gC (p := 740) (tg := 72) hB t738 rfl rfl tq_70 rfl rfl (fun (t740 : _ = 72) => ?_)
          refine ez_go (n := 1) (pc' := 34) (L' := [(2, .inl (k)), (0, .inr (.inr (some (738)))), (1, .inl (i))]) (st' := [.inl (k), .inr (.inr (some (740)))]) rfl ?_
          have n21 : 2000 ≤ qz_N h 740 ∧ qz_N h 740 ≤ 2000 := ez_len hB t740 tq_72 rfl
          refine ez_aI hB t740 rfl tq_72 rfl rfl (by omega) (by omega) (fun (b20 : -2147483648 ≤ qz_I h 740 (k).toNat) (b20' : qz_I h 740 (k).toNat ≤ 2147483647) => ?_)
          refine ez_go (n := 1) (pc' := 38) (L' := [(2, .inl (k)), (0, .inr (.inr (some (738)))), (1, .inl (i))]) (st' := [.inl (230), .inl (qz_I h 740 (k).toNat)]) rfl ?_
          refine ez_icmp rfl rfl ⟨by first | omega | exact (sz_i32 _).1, by first | omega | exact (sz_i32 _).2⟩ ⟨by first | omega | exact (sz_i32 _).1, by first | omega | exact (sz_i32 _).2⟩ (fun (c22 : (qz_I h 740 (k).toNat) = (230)) => ?_) (fun (c22 : ¬((qz_I h 740 (k).toNat) = (230))) => ?_)
          · skip
            refine ez_go (n := 1) (pc' := 48) (L' := [(2, .inl (k)), (0, .inr (.inr (some (738)))), (1, .inl (i))]) (st' := [.inl (k)]) rfl ?_
            refine ez_if rfl rfl ⟨by first | omega | exact (sz_i32 _).1, by first | omega | exact (sz_i32 _).2⟩ (fun (c23 : (k) < (0)) => ?_) (fun (c23 : ¬((k) < (0))) => ?_)
            · skip
              refine ez_go (n := 1) (pc' := 68) (L' := [(2, .inl (k)), (0, .inr (.inr (some (738)))), (1, .inl (i))]) (st' := [.inl (0)]) rfl ?_
              refine ez_retZ rfl rfl (Or.inl rfl) (k0 ?_)
              first | (exfalso; omega) | exact scB_no hn (by omega) | exact scB_not hn (by omega) (by omega) (by unfold sP4 kT; omega) (by unfold sH4 kT; omega)
            · skip
              refine ez_go (n := 1) (pc' := 52) (L' := [(2, .inl (k)), (0, .inr (.inr (some (738)))), (1, .inl (i))]) (st' := [.inr (.inr (some (738)))]) rfl ?_
              refine ez_gC (p := 741) (tg := 73) hB t738 rfl rfl tq_70 rfl rfl (fun (t741 : _ = 73) => ?_)
              refine ez_go (n := 1) (pc' := 56) (L' := [(2, .inl (k)), (0, .inr (.inr (some (738)))), (1, .inl (i))]) (st' := [.inl (k), .inr (.inr (some (741)))]) rfl ?_
              have n25 : 2000 ≤ qz_N h 741 ∧ qz_N h 741 ≤ 2000 := ez_len hB t741 tq_73 rfl
              refine ez_aI hB t741 rfl tq_73 rfl rfl (by omega) (by omega) (fun (b24 : -2147483648 ≤ qz_I h 741 (k).toNat) (b24' : qz_I h 741 (k).toNat ≤ 2147483647) => ?_)
              have e41 := (c.2.2.2.2 k (by omega) (by omega)).2.2.1
              rw [e41]
              refine ez_go (n := 2) (pc' := 60) (L' := [(2, .inl (k)), (0, .inr (.inr (some (738)))), (1, .inl (i))]) (st' := [.inl ((Int32.ofInt ((D (uX u k)).2.1.1) &&& Int32.ofInt (8)).toInt)]) rfl ?_
              refine ez_if rfl rfl ⟨by first | omega | exact (sz_i32 _).1, by first | omega | exact (sz_i32 _).2⟩ (fun (c26 : ((Int32.ofInt ((D (uX u k)).2.1.1) &&& Int32.ofInt (8)).toInt) = (0)) => ?_) (fun (c26 : ¬(((Int32.ofInt ((D (uX u k)).2.1.1) &&& Int32.ofInt (8)).toInt) = (0))) => ?_)
              · skip
                refine ez_go (n := 1) (pc' := 68) (L' := [(2, .inl (k)), (0, .inr (.inr (some (738)))), (1, .inl (i))]) (st' := [.inl (0)]) rfl ?_
                refine ez_retZ rfl rfl (Or.inl rfl) (k0 ?_)
                first | (exfalso; omega) | exact scB_no hn (by omega) | exact scB_not hn (by omega) (by omega) (by unfold sP4 kT; omega) (by unfold sH4 kT; omega)
              · skip
                refine ez_go (n := 2) (pc' := 68) (L' := [(2, .inl (k)), (0, .inr (.inr (some (738)))), (1, .inl (i))]) (st' := [.inl (1)]) rfl ?_
                refine ez_retZ rfl rfl (Or.inr rfl) (k1 ?_)
                first | (exfalso; omega) | exact ⟨k, by omega, by omega, by unfold sP4 kT; omega, by unfold sH4 kT; omega, hn⟩
          · skip
            refine ez_go (n := 2) (pc' := 4) (L' := [(2, .inl (k + (-1))), (0, .inr (.inr (some (738)))), (1, .inl (i))]) (st' := []) rfl ?_
            refine ez_less [(2, .inl (k + (-1))), (0, .inr (.inr (some (738)))), (1, .inl (i))] rfl ⟨rfl, rfl, rfl, trivial⟩ ?_
            exact ih _ (by omega) (by omega) (by omega) (scB_st hn (by unfold sP4 kT; omega))

theorem rd_softDottedBefore {i : Int} (c : ckC τ h F D p u loc) (i0 : 0 ≤ i) (i1 : i < (u.length : Int)) (k1 : scB (sP4 D F u) (sH4 D u) i → Q (.inl (some (ez_v (.inl 1))), h)) (k0 : ¬ scB (sP4 D F u) (sH4 D u) i → Q (.inl (some (ez_v (.inl 0))), h)) : ez_W d cm_75 0 [(0, .inr (.inr (some (738)))), (1, .inl (i))] [] h Q := by
  have hB := c.1.1
  have t738 : τ 738 = 70 := c.1.2 738 (by decide)
  have tp := c.2.1
  have n2 := c.2.2.1.1
  have e7 := c.2.2.2.1.2.1
  refine ez_go (n := 4) (pc' := 4) (L' := [(2, .inl ((i) - (1))), (0, .inr (.inr (some (738)))), (1, .inl (i))]) (st' := []) rfl ?_
  refine ez_less [(2, .inl ((i) - (1))), (0, .inr (.inr (some (738)))), (1, .inl (i))] rfl ⟨rfl, rfl, rfl, trivial⟩ ?_
  exact rd_softDottedBefore_l c i0 i1 k1 k0 _ _ rfl (by omega) (by omega) (fun j a b => by omega)

theorem rd_aboveBehind_l {i : Int} (c : ckC τ h F D p u loc) (i0 : 0 ≤ i) (i1 : i < (u.length : Int)) (k1 : scA (sP5 F u) (sH5 F u) i u.length → Q (.inl (some (ez_v (.inl 1))), h)) (k0 : ¬ scA (sP5 F u) (sH5 F u) i u.length → Q (.inl (some (ez_v (.inl 0))), h)) : ∀ (n : Nat) (k : Int), n = ((u.length : Int) - k).toNat → i < k → k ≤ (u.length : Int) → (∀ j, i < j → j < k → ¬ (sP5 F u) j) → ez_W d cm_62 4 [(2, .inl (k)), (0, .inr (.inr (some (738)))), (1, .inl (i))] [] h Q := by
  have hB := c.1.1
  have t738 : τ 738 = 70 := c.1.2 738 (by decide)
  have tp := c.2.1
  have n2 := c.2.2.1.1
  have e7 := c.2.2.2.1.2.1
  intro n
  induction n with
  | zero =>
    intro k hn0 ka kb hn
    refine ez_go (n := 2) (pc' := 6) (L' := [(2, .inl (k)), (0, .inr (.inr (some (738)))), (1, .inl (i))]) (st' := [.inr (.inr (some (738))), .inl (k)]) rfl ?_
    refine ez_gI hB t738 rfl rfl tq_70 rfl rfl (fun (b1 : 0 ≤ qz_I h 738 7) (b1' : qz_I h 738 7 ≤ 2000) => ?_)
    refine ez_icmp rfl rfl ⟨by first | omega | exact (sz_i32 _).1, by first | omega | exact (sz_i32 _).2⟩ ⟨by first | omega | exact (sz_i32 _).1, by first | omega | exact (sz_i32 _).2⟩ (fun (c2 : (qz_I h 738 7) ≤ (k)) => ?_) (fun (c2 : ¬((qz_I h 738 7) ≤ (k))) => ?_)
    · skip
      refine ez_go (n := 2) (pc' := 41) (L' := [(2, .inl (k)), (0, .inr (.inr (some (738)))), (1, .inl (i))]) (st' := [.inr (.inr (some (738))), .inl (k)]) rfl ?_
      refine ez_gI hB t738 rfl rfl tq_70 rfl rfl (fun (b3 : 0 ≤ qz_I h 738 7) (b3' : qz_I h 738 7 ≤ 2000) => ?_)
      refine ez_icmp rfl rfl ⟨by first | omega | exact (sz_i32 _).1, by first | omega | exact (sz_i32 _).2⟩ ⟨by first | omega | exact (sz_i32 _).1, by first | omega | exact (sz_i32 _).2⟩ (fun (c4 : (qz_I h 738 7) ≤ (k)) => ?_) (fun (c4 : ¬((qz_I h 738 7) ≤ (k))) => ?_)
      · skip
        refine ez_go (n := 1) (pc' := 64) (L' := [(2, .inl (k)), (0, .inr (.inr (some (738)))), (1, .inl (i))]) (st' := [.inl (0)]) rfl ?_
        refine ez_retZ rfl rfl (Or.inl rfl) (k0 ?_)
        first | (exfalso; omega) | exact scA_no hn (by omega) | exact scA_not hn (by omega) (by omega) (by unfold sP5; omega) (by unfold sH5; omega)
      · skip
        refine ez_go (n := 1) (pc' := 48) (L' := [(2, .inl (k)), (0, .inr (.inr (some (738)))), (1, .inl (i))]) (st' := [.inr (.inr (some (738)))]) rfl ?_
        refine ez_gC (p := 740) (tg := 72) hB t738 rfl rfl tq_70 rfl rfl (fun (t740 : _ = 72) => ?_)
        refine ez_go (n := 1) (pc' := 52) (L' := [(2, .inl (k)), (0, .inr (.inr (some (738)))), (1, .inl (i))]) (st' := [.inl (k), .inr (.inr (some (740)))]) rfl ?_
        have n6 : 2000 ≤ qz_N h 740 ∧ qz_N h 740 ≤ 2000 := ez_len hB t740 tq_72 rfl
        refine ez_aI hB t740 rfl tq_72 rfl rfl (by omega) (by omega) (fun (b5 : -2147483648 ≤ qz_I h 740 (k).toNat) (b5' : qz_I h 740 (k).toNat ≤ 2147483647) => ?_)
        have e40 := (c.2.2.2.2 k (by omega) (by omega)).2.1
        rw [e40]
        refine ez_go (n := 1) (pc' := 56) (L' := [(2, .inl (k)), (0, .inr (.inr (some (738)))), (1, .inl (i))]) (st' := [.inl (230), .inl (kc F u k)]) rfl ?_
        refine ez_icmp rfl rfl ⟨by first | omega | exact (sz_i32 _).1, by first | omega | exact (sz_i32 _).2⟩ ⟨by first | omega | exact (sz_i32 _).1, by first | omega | exact (sz_i32 _).2⟩ (fun (c7 : (kc F u k) ≠ (230)) => ?_) (fun (c7 : ¬((kc F u k) ≠ (230))) => ?_)
        · skip
          refine ez_go (n := 1) (pc' := 64) (L' := [(2, .inl (k)), (0, .inr (.inr (some (738)))), (1, .inl (i))]) (st' := [.inl (0)]) rfl ?_
          refine ez_retZ rfl rfl (Or.inl rfl) (k0 ?_)
          first | (exfalso; omega) | exact scA_no hn (by omega) | exact scA_not hn (by omega) (by omega) (by unfold sP5; omega) (by unfold sH5; omega)
        · skip
          refine ez_go (n := 2) (pc' := 64) (L' := [(2, .inl (k)), (0, .inr (.inr (some (738)))), (1, .inl (i))]) (st' := [.inl (1)]) rfl ?_
          refine ez_retZ rfl rfl (Or.inr rfl) (k1 ?_)
          first | (exfalso; omega) | exact ⟨k, by omega, by omega, by unfold sP5; omega, by unfold sH5; omega, hn⟩
    · skip
      refine ez_go (n := 1) (pc' := 13) (L' := [(2, .inl (k)), (0, .inr (.inr (some (738)))), (1, .inl (i))]) (st' := [.inr (.inr (some (738)))]) rfl ?_
      refine ez_gC (p := 740) (tg := 72) hB t738 rfl rfl tq_70 rfl rfl (fun (t740 : _ = 72) => ?_)
      refine ez_go (n := 1) (pc' := 17) (L' := [(2, .inl (k)), (0, .inr (.inr (some (738)))), (1, .inl (i))]) (st' := [.inl (k), .inr (.inr (some (740)))]) rfl ?_
      have n9 : 2000 ≤ qz_N h 740 ∧ qz_N h 740 ≤ 2000 := ez_len hB t740 tq_72 rfl
      refine ez_aI hB t740 rfl tq_72 rfl rfl (by omega) (by omega) (fun (b8 : -2147483648 ≤ qz_I h 740 (k).toNat) (b8' : qz_I h 740 (k).toNat ≤ 2147483647) => ?_)
      have e40 := (c.2.2.2.2 k (by omega) (by omega)).2.1
      rw [e40]
      refine ez_if rfl rfl ⟨by first | omega | exact (sz_i32 _).1, by first | omega | exact (sz_i32 _).2⟩ (fun (c10 : (kc F u k) = (0)) => ?_) (fun (c10 : ¬((kc F u k) = (0))) => ?_)
      · skip
        refine ez_go (n := 2) (pc' := 41) (L' := [(2, .inl (k)), (0, .inr (.inr (some (738)))), (1, .inl (i))]) (st' := [.inr (.inr (some (738))), .inl (k)]) rfl ?_
        refine ez_gI hB t738 rfl rfl tq_70 rfl rfl (fun (b11 : 0 ≤ qz_I h 738 7) (b11' : qz_I h 738 7 ≤ 2000) => ?_)
        refine ez_icmp rfl rfl ⟨by first | omega | exact (sz_i32 _).1, by first | omega | exact (sz_i32 _).2⟩ ⟨by first | omega | exact (sz_i32 _).1, by first | omega | exact (sz_i32 _).2⟩ (fun (c12 : (qz_I h 738 7) ≤ (k)) => ?_) (fun (c12 : ¬((qz_I h 738 7) ≤ (k))) => ?_)
        · skip
          refine ez_go (n := 1) (pc' := 64) (L' := [(2, .inl (k)), (0, .inr (.inr (some (738)))), (1, .inl (i))]) (st' := [.inl (0)]) rfl ?_
          refine ez_retZ rfl rfl (Or.inl rfl) (k0 ?_)
          first | (exfalso; omega) | exact scA_no hn (by omega) | exact scA_not hn (by omega) (by omega) (by unfold sP5; omega) (by unfold sH5; omega)
        · skip
          refine ez_go (n := 1) (pc' := 48) (L' := [(2, .inl (k)), (0, .inr (.inr (some (738)))), (1, .inl (i))]) (st' := [.inr (.inr (some (738)))]) rfl ?_
          refine ez_gC (p := 740) (tg := 72) hB t738 rfl rfl tq_70 rfl rfl (fun (t740 : _ = 72) => ?_)
          refine ez_go (n := 1) (pc' := 52) (L' := [(2, .inl (k)), (0, .inr (.inr (some (738)))), (1, .inl (i))]) (st' := [.inl (k), .inr (.inr (some (740)))]) rfl ?_
          have n14 : 2000 ≤ qz_N h 740 ∧ qz_N h 740 ≤ 2000 := ez_len hB t740 tq_72 rfl
          refine ez_aI hB t740 rfl tq_72 rfl rfl (by omega) (by omega) (fun (b13 : -2147483648 ≤ qz_I h 740 (k).toNat) (b13' : qz_I h 740 (k).toNat ≤ 2147483647) => ?_)
          have e40 := (c.2.2.2.2 k (by omega) (by omega)).2.1
          rw [e40]
          refine ez_go (n := 1) (pc' := 56) (L' := [(2, .inl (k)), (0, .inr (.inr (some (738)))), (1, .inl (i))]) (st' := [.inl (230), .inl (kc F u k)]) rfl ?_
          refine ez_icmp rfl rfl ⟨by first | omega | exact (sz_i32 _).1, by first | omega | exact (sz_i32 _).2⟩ ⟨by first | omega | exact (sz_i32 _).1, by first | omega | exact (sz_i32 _).2⟩ (fun (c15 : (kc F u k) ≠ (230)) => ?_) (fun (c15 : ¬((kc F u k) ≠ (230))) => ?_)
          · skip
            refine ez_go (n := 1) (pc' := 64) (L' := [(2, .inl (k)), (0, .inr (.inr (some (738)))), (1, .inl (i))]) (st' := [.inl (0)]) rfl ?_
            refine ez_retZ rfl rfl (Or.inl rfl) (k0 ?_)
            first | (exfalso; omega) | exact scA_no hn (by omega) | exact scA_not hn (by omega) (by omega) (by unfold sP5; omega) (by unfold sH5; omega)
          · skip
            refine ez_go (n := 2) (pc' := 64) (L' := [(2, .inl (k)), (0, .inr (.inr (some (738)))), (1, .inl (i))]) (st' := [.inl (1)]) rfl ?_
            refine ez_retZ rfl rfl (Or.inr rfl) (k1 ?_)
            first | (exfalso; omega) | exact ⟨k, by omega, by omega, by unfold sP5; omega, by unfold sH5; omega, hn⟩
      · skip
        refine ez_go (n := 1) (pc' := 22) (L' := [(2, .inl (k)), (0, .inr (.inr (some (738)))), (1, .inl (i))]) (st' := [.inr (.inr (some (738)))]) rfl ?_
        refine ez_gC (p := 740) (tg := 72) hB t738 rfl rfl tq_70 rfl rfl (fun (t740 : _ = 72) => ?_)
        refine ez_go (n := 1) (pc' := 26) (L' := [(2, .inl (k)), (0, .inr (.inr (some (738)))), (1, .inl (i))]) (st' := [.inl (k), .inr (.inr (some (740)))]) rfl ?_
        have n17 : 2000 ≤ qz_N h 740 ∧ qz_N h 740 ≤ 2000 := ez_len hB t740 tq_72 rfl
        refine ez_aI hB t740 rfl tq_72 rfl rfl (by omega) (by omega) (fun (b16 : -2147483648 ≤ qz_I h 740 (k).toNat) (b16' : qz_I h 740 (k).toNat ≤ 2147483647) => ?_)
        have e40 := (c.2.2.2.2 k (by omega) (by omega)).2.1
        rw [e40]
        refine ez_go (n := 1) (pc' := 30) (L' := [(2, .inl (k)), (0, .inr (.inr (some (738)))), (1, .inl (i))]) (st' := [.inl (230), .inl (kc F u k)]) rfl ?_
        refine ez_icmp rfl rfl ⟨by first | omega | exact (sz_i32 _).1, by first | omega | exact (sz_i32 _).2⟩ ⟨by first | omega | exact (sz_i32 _).1, by first | omega | exact (sz_i32 _).2⟩ (fun (c18 : (kc F u k) = (230)) => ?_) (fun (c18 : ¬((kc F u k) = (230))) => ?_)
        · skip
          refine ez_go (n := 2) (pc' := 41) (L' := [(2, .inl (k)), (0, .inr (.inr (some (738)))), (1, .inl (i))]) (st' := [.inr (.inr (some (738))), .inl (k)]) rfl ?_
          refine ez_gI hB t738 rfl rfl tq_70 rfl rfl (fun (b19 : 0 ≤ qz_I h 738 7) (b19' : qz_I h 738 7 ≤ 2000) => ?_)
          refine ez_icmp rfl rfl ⟨by first | omega | exact (sz_i32 _).1, by first | omega | exact (sz_i32 _).2⟩ ⟨by first | omega | exact (sz_i32 _).1, by first | omega | exact (sz_i32 _).2⟩ (fun (c20 : (qz_I h 738 7) ≤ (k)) => ?_) (fun (c20 : ¬((qz_I h 738 7) ≤ (k))) => ?_)
          · skip
            refine ez_go (n := 1) (pc' := 64) (L' := [(2, .inl (k)), (0, .inr (.inr (some (738)))), (1, .inl (i))]) (st' := [.inl (0)]) rfl ?_
            refine ez_retZ rfl rfl (Or.inl rfl) (k0 ?_)
            first | (exfalso; omega) | exact scA_no hn (by omega) | exact scA_not hn (by omega) (by omega) (by unfold sP5; omega) (by unfold sH5; omega)
          · skip
            refine ez_go (n := 1) (pc' := 48) (L' := [(2, .inl (k)), (0, .inr (.inr (some (738)))), (1, .inl (i))]) (st' := [.inr (.inr (some (738)))]) rfl ?_
            refine ez_gC (p := 740) (tg := 72) hB t738 rfl rfl tq_70 rfl rfl (fun (t740 : _ = 72) => ?_)
            refine ez_go (n := 1) (pc' := 52) (L' := [(2, .inl (k)), (0, .inr (.inr (some (738)))), (1, .inl (i))]) (st' := [.inl (k), .inr (.inr (some (740)))]) rfl ?_
            have n22 : 2000 ≤ qz_N h 740 ∧ qz_N h 740 ≤ 2000 := ez_len hB t740 tq_72 rfl
            refine ez_aI hB t740 rfl tq_72 rfl rfl (by omega) (by omega) (fun (b21 : -2147483648 ≤ qz_I h 740 (k).toNat) (b21' : qz_I h 740 (k).toNat ≤ 2147483647) => ?_)
            have e40 := (c.2.2.2.2 k (by omega) (by omega)).2.1
            rw [e40]
            refine ez_go (n := 1) (pc' := 56) (L' := [(2, .inl (k)), (0, .inr (.inr (some (738)))), (1, .inl (i))]) (st' := [.inl (230), .inl (kc F u k)]) rfl ?_
            refine ez_icmp rfl rfl ⟨by first | omega | exact (sz_i32 _).1, by first | omega | exact (sz_i32 _).2⟩ ⟨by first | omega | exact (sz_i32 _).1, by first | omega | exact (sz_i32 _).2⟩ (fun (c23 : (kc F u k) ≠ (230)) => ?_) (fun (c23 : ¬((kc F u k) ≠ (230))) => ?_)
            · skip
              refine ez_go (n := 1) (pc' := 64) (L' := [(2, .inl (k)), (0, .inr (.inr (some (738)))), (1, .inl (i))]) (st' := [.inl (0)]) rfl ?_
              refine ez_retZ rfl rfl (Or.inl rfl) (k0 ?_)
              first | (exfalso; omega) | exact scA_no hn (by omega) | exact scA_not hn (by omega) (by omega) (by unfold sP5; omega) (by unfold sH5; omega)
            · skip
              refine ez_go (n := 2) (pc' := 64) (L' := [(2, .inl (k)), (0, .inr (.inr (some (738)))), (1, .inl (i))]) (st' := [.inl (1)]) rfl ?_
              refine ez_retZ rfl rfl (Or.inr rfl) (k1 ?_)
              first | (exfalso; omega) | exact ⟨k, by omega, by omega, by unfold sP5; omega, by unfold sH5; omega, hn⟩
        · skip
          refine ez_go (n := 2) (pc' := 4) (L' := [(2, .inl (k + 1)), (0, .inr (.inr (some (738)))), (1, .inl (i))]) (st' := []) rfl ?_
          exfalso; omega
  | succ n ih =>
    intro k hn0 ka kb hn
    refine ez_go (n := 2) (pc' := 6) (L' := [(2, .inl (k)), (0, .inr (.inr (some (738)))), (1, .inl (i))]) (st' := [.inr (.inr (some (738))), .inl (k)]) rfl ?_
    refine ez_gI hB t738 rfl rfl tq_70 rfl rfl (fun (b1 : 0 ≤ qz_I h 738 7) (b1' : qz_I h 738 7 ≤ 2000) => ?_)
    refine ez_icmp rfl rfl ⟨by first | omega | exact (sz_i32 _).1, by first | omega | exact (sz_i32 _).2⟩ ⟨by first | omega | exact (sz_i32 _).1, by first | omega | exact (sz_i32 _).2⟩ (fun (c2 : (qz_I h 738 7) ≤ (k)) => ?_) (fun (c2 : ¬((qz_I h 738 7) ≤ (k))) => ?_)
    · skip
      refine ez_go (n := 2) (pc' := 41) (L' := [(2, .inl (k)), (0, .inr (.inr (some (738)))), (1, .inl (i))]) (st' := [.inr (.inr (some (738))), .inl (k)]) rfl ?_
      refine ez_gI hB t738 rfl rfl tq_70 rfl rfl (fun (b3 : 0 ≤ qz_I h 738 7) (b3' : qz_I h 738 7 ≤ 2000) => ?_)
      refine ez_icmp rfl rfl ⟨by first | omega | exact (sz_i32 _).1, by first | omega | exact (sz_i32 _).2⟩ ⟨by first | omega | exact (sz_i32 _).1, by first | omega | exact (sz_i32 _).2⟩ (fun (c4 : (qz_I h 738 7) ≤ (k)) => ?_) (fun (c4 : ¬((qz_I h 738 7) ≤ (k))) => ?_)
      · skip
        refine ez_go (n := 1) (pc' := 64) (L' := [(2, .inl (k)), (0, .inr (.inr (some (738)))), (1, .inl (i))]) (st' := [.inl (0)]) rfl ?_
        refine ez_retZ rfl rfl (Or.inl rfl) (k0 ?_)
        first | (exfalso; omega) | exact scA_no hn (by omega) | exact scA_not hn (by omega) (by omega) (by unfold sP5; omega) (by unfold sH5; omega)
      · skip
        refine ez_go (n := 1) (pc' := 48) (L' := [(2, .inl (k)), (0, .inr (.inr (some (738)))), (1, .inl (i))]) (st' := [.inr (.inr (some (738)))]) rfl ?_
        refine ez_gC (p := 740) (tg := 72) hB t738 rfl rfl tq_70 rfl rfl (fun (t740 : _ = 72) => ?_)
        refine ez_go (n := 1) (pc' := 52) (L' := [(2, .inl (k)), (0, .inr (.inr (some (738)))), (1, .inl (i))]) (st' := [.inl (k), .inr (.inr (some (740)))]) rfl ?_
        have n6 : 2000 ≤ qz_N h 740 ∧ qz_N h 740 ≤ 2000 := ez_len hB t740 tq_72 rfl
        refine ez_aI hB t740 rfl tq_72 rfl rfl (by omega) (by omega) (fun (b5 : -2147483648 ≤ qz_I h 740 (k).toNat) (b5' : qz_I h 740 (k).toNat ≤ 2147483647) => ?_)
        have e40 := (c.2.2.2.2 k (by omega) (by omega)).2.1
        rw [e40]
        refine ez_go (n := 1) (pc' := 56) (L' := [(2, .inl (k)), (0, .inr (.inr (some (738)))), (1, .inl (i))]) (st' := [.inl (230), .inl (kc F u k)]) rfl ?_
        refine ez_icmp rfl rfl ⟨by first | omega | exact (sz_i32 _).1, by first | omega | exact (sz_i32 _).2⟩ ⟨by first | omega | exact (sz_i32 _).1, by first | omega | exact (sz_i32 _).2⟩ (fun (c7 : (kc F u k) ≠ (230)) => ?_) (fun (c7 : ¬((kc F u k) ≠ (230))) => ?_)
        · skip
          refine ez_go (n := 1) (pc' := 64) (L' := [(2, .inl (k)), (0, .inr (.inr (some (738)))), (1, .inl (i))]) (st' := [.inl (0)]) rfl ?_
          refine ez_retZ rfl rfl (Or.inl rfl) (k0 ?_)
          first | (exfalso; omega) | exact scA_no hn (by omega) | exact scA_not hn (by omega) (by omega) (by unfold sP5; omega) (by unfold sH5; omega)
        · skip
          refine ez_go (n := 2) (pc' := 64) (L' := [(2, .inl (k)), (0, .inr (.inr (some (738)))), (1, .inl (i))]) (st' := [.inl (1)]) rfl ?_
          refine ez_retZ rfl rfl (Or.inr rfl) (k1 ?_)
          first | (exfalso; omega) | exact ⟨k, by omega, by omega, by unfold sP5; omega, by unfold sH5; omega, hn⟩
    · skip
      refine ez_go (n := 1) (pc' := 13) (L' := [(2, .inl (k)), (0, .inr (.inr (some (738)))), (1, .inl (i))]) (st' := [.inr (.inr (some (738)))]) rfl ?_
      refine ez_gC (p := 740) (tg := 72) hB t738 rfl rfl tq_70 rfl rfl (fun (t740 : _ = 72) => ?_)
      refine ez_go (n := 1) (pc' := 17) (L' := [(2, .inl (k)), (0, .inr (.inr (some (738)))), (1, .inl (i))]) (st' := [.inl (k), .inr (.inr (some (740)))]) rfl ?_
      have n9 : 2000 ≤ qz_N h 740 ∧ qz_N h 740 ≤ 2000 := ez_len hB t740 tq_72 rfl
      refine ez_aI hB t740 rfl tq_72 rfl rfl (by omega) (by omega) (fun (b8 : -2147483648 ≤ qz_I h 740 (k).toNat) (b8' : qz_I h 740 (k).toNat ≤ 2147483647) => ?_)
      have e40 := (c.2.2.2.2 k (by omega) (by omega)).2.1
      rw [e40]
      refine ez_if rfl rfl ⟨by first | omega | exact (sz_i32 _).1, by first | omega | exact (sz_i32 _).2⟩ (fun (c10 : (kc F u k) = (0)) => ?_) (fun (c10 : ¬((kc F u k) = (0))) => ?_)
      · skip
        refine ez_go (n := 2) (pc' := 41) (L' := [(2, .inl (k)), (0, .inr (.inr (some (738)))), (1, .inl (i))]) (st' := [.inr (.inr (some (738))), .inl (k)]) rfl ?_
        refine ez_gI hB t738 rfl rfl tq_70 rfl rfl (fun (b11 : 0 ≤ qz_I h 738 7) (b11' : qz_I h 738 7 ≤ 2000) => ?_)
        refine ez_icmp rfl rfl ⟨by first | omega | exact (sz_i32 _).1, by first | omega | exact (sz_i32 _).2⟩ ⟨by first | omega | exact (sz_i32 _).1, by first | omega | exact (sz_i32 _).2⟩ (fun (c12 : (qz_I h 738 7) ≤ (k)) => ?_) (fun (c12 : ¬((qz_I h 738 7) ≤ (k))) => ?_)
        · skip
          refine ez_go (n := 1) (pc' := 64) (L' := [(2, .inl (k)), (0, .inr (.inr (some (738)))), (1, .inl (i))]) (st' := [.inl (0)]) rfl ?_
          refine ez_retZ rfl rfl (Or.inl rfl) (k0 ?_)
          first | (exfalso; omega) | exact scA_no hn (by omega) | exact scA_not hn (by omega) (by omega) (by unfold sP5; omega) (by unfold sH5; omega)
        · skip
          refine ez_go (n := 1) (pc' := 48) (L' := [(2, .inl (k)), (0, .inr (.inr (some (738)))), (1, .inl (i))]) (st' := [.inr (.inr (some (738)))]) rfl ?_
          refine ez_gC (p := 740) (tg := 72) hB t738 rfl rfl tq_70 rfl rfl (fun (t740 : _ = 72) => ?_)
          refine ez_go (n := 1) (pc' := 52) (L' := [(2, .inl (k)), (0, .inr (.inr (some (738)))), (1, .inl (i))]) (st' := [.inl (k), .inr (.inr (some (740)))]) rfl ?_
          have n14 : 2000 ≤ qz_N h 740 ∧ qz_N h 740 ≤ 2000 := ez_len hB t740 tq_72 rfl
          refine ez_aI hB t740 rfl tq_72 rfl rfl (by omega) (by omega) (fun (b13 : -2147483648 ≤ qz_I h 740 (k).toNat) (b13' : qz_I h 740 (k).toNat ≤ 2147483647) => ?_)
          have e40 := (c.2.2.2.2 k (by omega) (by omega)).2.1
          rw [e40]
          refine ez_go (n := 1) (pc' := 56) (L' := [(2, .inl (k)), (0, .inr (.inr (some (738)))), (1, .inl (i))]) (st' := [.inl (230), .inl (kc F u k)]) rfl ?_
          refine ez_icmp rfl rfl ⟨by first | omega | exact (sz_i32 _).1, by first | omega | exact (sz_i32 _).2⟩ ⟨by first | omega | exact (sz_i32 _).1, by first | omega | exact (sz_i32 _).2⟩ (fun (c15 : (kc F u k) ≠ (230)) => ?_) (fun (c15 : ¬((kc F u k) ≠ (230))) => ?_)
          · skip
            refine ez_go (n := 1) (pc' := 64) (L' := [(2, .inl (k)), (0, .inr (.inr (some (738)))), (1, .inl (i))]) (st' := [.inl (0)]) rfl ?_
            refine ez_retZ rfl rfl (Or.inl rfl) (k0 ?_)
            first | (exfalso; omega) | exact scA_no hn (by omega) | exact scA_not hn (by omega) (by omega) (by unfold sP5; omega) (by unfold sH5; omega)
          · skip
            refine ez_go (n := 2) (pc' := 64) (L' := [(2, .inl (k)), (0, .inr (.inr (some (738)))), (1, .inl (i))]) (st' := [.inl (1)]) rfl ?_
            refine ez_retZ rfl rfl (Or.inr rfl) (k1 ?_)
            first | (exfalso; omega) | exact ⟨k, by omega, by omega, by unfold sP5; omega, by unfold sH5; omega, hn⟩
      · skip
        refine ez_go (n := 1) (pc' := 22) (L' := [(2, .inl (k)), (0, .inr (.inr (some (738)))), (1, .inl (i))]) (st' := [.inr (.inr (some (738)))]) rfl ?_
        refine ez_gC (p := 740) (tg := 72) hB t738 rfl rfl tq_70 rfl rfl (fun (t740 : _ = 72) => ?_)
        refine ez_go (n := 1) (pc' := 26) (L' := [(2, .inl (k)), (0, .inr (.inr (some (738)))), (1, .inl (i))]) (st' := [.inl (k), .inr (.inr (some (740)))]) rfl ?_
        have n17 : 2000 ≤ qz_N h 740 ∧ qz_N h 740 ≤ 2000 := ez_len hB t740 tq_72 rfl
        refine ez_aI hB t740 rfl tq_72 rfl rfl (by omega) (by omega) (fun (b16 : -2147483648 ≤ qz_I h 740 (k).toNat) (b16' : qz_I h 740 (k).toNat ≤ 2147483647) => ?_)
        have e40 := (c.2.2.2.2 k (by omega) (by omega)).2.1
        rw [e40]
        refine ez_go (n := 1) (pc' := 30) (L' := [(2, .inl (k)), (0, .inr (.inr (some (738)))), (1, .inl (i))]) (st' := [.inl (230), .inl (kc F u k)]) rfl ?_
        refine ez_icmp rfl rfl ⟨by first | omega | exact (sz_i32 _).1, by first | omega | exact (sz_i32 _).2⟩ ⟨by first | omega | exact (sz_i32 _).1, by first | omega | exact (sz_i32 _).2⟩ (fun (c18 : (kc F u k) = (230)) => ?_) (fun (c18 : ¬((kc F u k) = (230))) => ?_)
        · skip
          refine ez_go (n := 2) (pc' := 41) (L' := [(2, .inl (k)), (0, .inr (.inr (some (738)))), (1, .inl (i))]) (st' := [.inr (.inr (some (738))), .inl (k)]) rfl ?_
          refine ez_gI hB t738 rfl rfl tq_70 rfl rfl (fun (b19 : 0 ≤ qz_I h 738 7) (b19' : qz_I h 738 7 ≤ 2000) => ?_)
          refine ez_icmp rfl rfl ⟨by first | omega | exact (sz_i32 _).1, by first | omega | exact (sz_i32 _).2⟩ ⟨by first | omega | exact (sz_i32 _).1, by first | omega | exact (sz_i32 _).2⟩ (fun (c20 : (qz_I h 738 7) ≤ (k)) => ?_) (fun (c20 : ¬((qz_I h 738 7) ≤ (k))) => ?_)
          · skip
            refine ez_go (n := 1) (pc' := 64) (L' := [(2, .inl (k)), (0, .inr (.inr (some (738)))), (1, .inl (i))]) (st' := [.inl (0)]) rfl ?_
            refine ez_retZ rfl rfl (Or.inl rfl) (k0 ?_)
            first | (exfalso; omega) | exact scA_no hn (by omega) | exact scA_not hn (by omega) (by omega) (by unfold sP5; omega) (by unfold sH5; omega)
          · skip
            refine ez_go (n := 1) (pc' := 48) (L' := [(2, .inl (k)), (0, .inr (.inr (some (738)))), (1, .inl (i))]) (st' := [.inr (.inr (some (738)))]) rfl ?_
            refine ez_gC (p := 740) (tg := 72) hB t738 rfl rfl tq_70 rfl rfl (fun (t740 : _ = 72) => ?_)
            refine ez_go (n := 1) (pc' := 52) (L' := [(2, .inl (k)), (0, .inr (.inr (some (738)))), (1, .inl (i))]) (st' := [.inl (k), .inr (.inr (some (740)))]) rfl ?_
            have n22 : 2000 ≤ qz_N h 740 ∧ qz_N h 740 ≤ 2000 := ez_len hB t740 tq_72 rfl
            refine ez_aI hB t740 rfl tq_72 rfl rfl (by omega) (by omega) (fun (b21 : -2147483648 ≤ qz_I h 740 (k).toNat) (b21' : qz_I h 740 (k).toNat ≤ 2147483647) => ?_)
            have e40 := (c.2.2.2.2 k (by omega) (by omega)).2.1
            rw [e40]
            refine ez_go (n := 1) (pc' := 56) (L' := [(2, .inl (k)), (0, .inr (.inr (some (738)))), (1, .inl (i))]) (st' := [.inl (230), .inl (kc F u k)]) rfl ?_
            refine ez_icmp rfl rfl ⟨by first | omega | exact (sz_i32 _).1, by first | omega | exact (sz_i32 _).2⟩ ⟨by first | omega | exact (sz_i32 _).1, by first | omega | exact (sz_i32 _).2⟩ (fun (c23 : (kc F u k) ≠ (230)) => ?_) (fun (c23 : ¬((kc F u k) ≠ (230))) => ?_)
            · skip
              refine ez_go (n := 1) (pc' := 64) (L' := [(2, .inl (k)), (0, .inr (.inr (some (738)))), (1, .inl (i))]) (st' := [.inl (0)]) rfl ?_
              refine ez_retZ rfl rfl (Or.inl rfl) (k0 ?_)
              first | (exfalso; omega) | exact scA_no hn (by omega) | exact scA_not hn (by omega) (by omega) (by unfold sP5; omega) (by unfold sH5; omega)
            · skip
              refine ez_go (n := 2) (pc' := 64) (L' := [(2, .inl (k)), (0, .inr (.inr (some (738)))), (1, .inl (i))]) (st' := [.inl (1)]) rfl ?_
              refine ez_retZ rfl rfl (Or.inr rfl) (k1 ?_)
              first | (exfalso; omega) | exact ⟨k, by omega, by omega, by unfold sP5; omega, by unfold sH5; omega, hn⟩
        · skip
          refine ez_go (n := 2) (pc' := 4) (L' := [(2, .inl (k + 1)), (0, .inr (.inr (some (738)))), (1, .inl (i))]) (st' := []) rfl ?_
          refine ez_less [(2, .inl (k + 1)), (0, .inr (.inr (some (738)))), (1, .inl (i))] rfl ⟨rfl, rfl, rfl, trivial⟩ ?_
          exact ih _ (by omega) (by omega) (by omega) (scA_st hn (by unfold sP5; omega))

theorem rd_aboveBehind {i : Int} (c : ckC τ h F D p u loc) (i0 : 0 ≤ i) (i1 : i < (u.length : Int)) (k1 : scA (sP5 F u) (sH5 F u) i u.length → Q (.inl (some (ez_v (.inl 1))), h)) (k0 : ¬ scA (sP5 F u) (sH5 F u) i u.length → Q (.inl (some (ez_v (.inl 0))), h)) : ez_W d cm_62 0 [(0, .inr (.inr (some (738)))), (1, .inl (i))] [] h Q := by
  have hB := c.1.1
  have t738 : τ 738 = 70 := c.1.2 738 (by decide)
  have tp := c.2.1
  have n2 := c.2.2.1.1
  have e7 := c.2.2.2.1.2.1
  refine ez_go (n := 4) (pc' := 4) (L' := [(2, .inl ((i) + (1))), (0, .inr (.inr (some (738)))), (1, .inl (i))]) (st' := []) rfl ?_
  refine ez_less [(2, .inl ((i) + (1))), (0, .inr (.inr (some (738)))), (1, .inl (i))] rfl ⟨rfl, rfl, rfl, trivial⟩ ?_
  exact rd_aboveBehind_l c i0 i1 k1 k0 _ _ rfl (by omega) (by omega) (fun j a b => by omega)

theorem rd_dotBehind_l {i : Int} (c : ckC τ h F D p u loc) (i0 : 0 ≤ i) (i1 : i < (u.length : Int)) (k1 : scA (sP6 F u 775) (sH6 u 775) i u.length → Q (.inl (some (ez_v (.inl 1))), h)) (k0 : ¬ scA (sP6 F u 775) (sH6 u 775) i u.length → Q (.inl (some (ez_v (.inl 0))), h)) : ∀ (n : Nat) (k : Int), n = ((u.length : Int) - k).toNat → i < k → k ≤ (u.length : Int) → (∀ j, i < j → j < k → ¬ (sP6 F u 775) j) → ez_W d cm_69 4 [(2, .inl (k)), (0, .inr (.inr (some (738)))), (1, .inl (i))] [] h Q := by
  have hB := c.1.1
  have t738 : τ 738 = 70 := c.1.2 738 (by decide)
  have tp := c.2.1
  have n2 := c.2.2.1.1
  have e7 := c.2.2.2.1.2.1
  intro n
  induction n with
  | zero =>
    intro k hn0 ka kb hn
    refine ez_go (n := 2) (pc' := 6) (L' := [(2, .inl (k)), (0, .inr (.inr (some (738)))), (1, .inl (i))]) (st' := [.inr (.inr (some (738))), .inl (k)]) rfl ?_
    refine ez_gI hB t738 rfl rfl tq_70 rfl rfl (fun (b1 : 0 ≤ qz_I h 738 7) (b1' : qz_I h 738 7 ≤ 2000) => ?_)
    refine ez_icmp rfl rfl ⟨by first | omega | exact (sz_i32 _).1, by first | omega | exact (sz_i32 _).2⟩ ⟨by first | omega | exact (sz_i32 _).1, by first | omega | exact (sz_i32 _).2⟩ (fun (c2 : (qz_I h 738 7) ≤ (k)) => ?_) (fun (c2 : ¬((qz_I h 738 7) ≤ (k))) => ?_)
    · skip
      refine ez_go (n := 2) (pc' := 53) (L' := [(2, .inl (k)), (0, .inr (.inr (some (738)))), (1, .inl (i))]) (st' := [.inr (.inr (some (738))), .inl (k)]) rfl ?_
      refine ez_gI hB t738 rfl rfl tq_70 rfl rfl (fun (b3 : 0 ≤ qz_I h 738 7) (b3' : qz_I h 738 7 ≤ 2000) => ?_)
      refine ez_icmp rfl rfl ⟨by first | omega | exact (sz_i32 _).1, by first | omega | exact (sz_i32 _).2⟩ ⟨by first | omega | exact (sz_i32 _).1, by first | omega | exact (sz_i32 _).2⟩ (fun (c4 : (qz_I h 738 7) ≤ (k)) => ?_) (fun (c4 : ¬((qz_I h 738 7) ≤ (k))) => ?_)
      · skip
        refine ez_go (n := 1) (pc' := 76) (L' := [(2, .inl (k)), (0, .inr (.inr (some (738)))), (1, .inl (i))]) (st' := [.inl (0)]) rfl ?_
        refine ez_retZ rfl rfl (Or.inl rfl) (k0 ?_)
        first | (exfalso; omega) | exact scA_no hn (by omega) | exact scA_not hn (by omega) (by omega) (by unfold sP6; omega) (by unfold sH6; omega)
      · skip
        refine ez_go (n := 1) (pc' := 60) (L' := [(2, .inl (k)), (0, .inr (.inr (some (738)))), (1, .inl (i))]) (st' := [.inr (.inr (some (738)))]) rfl ?_
        refine ez_g2 (p := p) hB t738 rfl rfl tq_70 rfl rfl (c.2.2.2.1.1) ?_
        refine ez_go (n := 1) (pc' := 64) (L' := [(2, .inl (k)), (0, .inr (.inr (some (738)))), (1, .inl (i))]) (st' := [.inl (k), .inr (.inr (some (p)))]) rfl ?_
        have n6 : 2000 ≤ qz_N h p ∧ qz_N h p ≤ 2000 := ez_len hB tp tq_89 rfl
        refine ez_aI hB tp rfl tq_89 rfl rfl (by omega) (by omega) (fun (b5 : -2147483648 ≤ qz_I h p (k).toNat) (b5' : qz_I h p (k).toNat ≤ 2147483647) => ?_)
        have e39 := (c.2.2.2.2 k (by omega) (by omega)).1
        rw [e39]
        refine ez_go (n := 1) (pc' := 68) (L' := [(2, .inl (k)), (0, .inr (.inr (some (738)))), (1, .inl (i))]) (st' := [.inl (775), .inl (uX u k)]) rfl ?_
        refine ez_icmp rfl rfl ⟨by first | omega | exact (sz_i32 _).1, by first | omega | exact (sz_i32 _).2⟩ ⟨by first | omega | exact (sz_i32 _).1, by first | omega | exact (sz_i32 _).2⟩ (fun (c7 : (uX u k) ≠ (775)) => ?_) (fun (c7 : ¬((uX u k) ≠ (775))) => ?_)
        · skip
          refine ez_go (n := 1) (pc' := 76) (L' := [(2, .inl (k)), (0, .inr (.inr (some (738)))), (1, .inl (i))]) (st' := [.inl (0)]) rfl ?_
          refine ez_retZ rfl rfl (Or.inl rfl) (k0 ?_)
          first | (exfalso; omega) | exact scA_no hn (by omega) | exact scA_not hn (by omega) (by omega) (by unfold sP6; omega) (by unfold sH6; omega)
        · skip
          refine ez_go (n := 2) (pc' := 76) (L' := [(2, .inl (k)), (0, .inr (.inr (some (738)))), (1, .inl (i))]) (st' := [.inl (1)]) rfl ?_
          refine ez_retZ rfl rfl (Or.inr rfl) (k1 ?_)
          first | (exfalso; omega) | exact ⟨k, by omega, by omega, by unfold sP6; omega, by unfold sH6; omega, hn⟩
    · skip
      refine ez_go (n := 1) (pc' := 13) (L' := [(2, .inl (k)), (0, .inr (.inr (some (738)))), (1, .inl (i))]) (st' := [.inr (.inr (some (738)))]) rfl ?_
      refine ez_g2 (p := p) hB t738 rfl rfl tq_70 rfl rfl (c.2.2.2.1.1) ?_
      refine ez_go (n := 1) (pc' := 17) (L' := [(2, .inl (k)), (0, .inr (.inr (some (738)))), (1, .inl (i))]) (st' := [.inl (k), .inr (.inr (some (p)))]) rfl ?_
      have n9 : 2000 ≤ qz_N h p ∧ qz_N h p ≤ 2000 := ez_len hB tp tq_89 rfl
      refine ez_aI hB tp rfl tq_89 rfl rfl (by omega) (by omega) (fun (b8 : -2147483648 ≤ qz_I h p (k).toNat) (b8' : qz_I h p (k).toNat ≤ 2147483647) => ?_)
      have e39 := (c.2.2.2.2 k (by omega) (by omega)).1
      rw [e39]
      refine ez_go (n := 1) (pc' := 21) (L' := [(2, .inl (k)), (0, .inr (.inr (some (738)))), (1, .inl (i))]) (st' := [.inl (775), .inl (uX u k)]) rfl ?_
      refine ez_icmp rfl rfl ⟨by first | omega | exact (sz_i32 _).1, by first | omega | exact (sz_i32 _).2⟩ ⟨by first | omega | exact (sz_i32 _).1, by first | omega | exact (sz_i32 _).2⟩ (fun (c10 : (uX u k) = (775)) => ?_) (fun (c10 : ¬((uX u k) = (775))) => ?_)
      · skip
        refine ez_go (n := 2) (pc' := 53) (L' := [(2, .inl (k)), (0, .inr (.inr (some (738)))), (1, .inl (i))]) (st' := [.inr (.inr (some (738))), .inl (k)]) rfl ?_
        refine ez_gI hB t738 rfl rfl tq_70 rfl rfl (fun (b11 : 0 ≤ qz_I h 738 7) (b11' : qz_I h 738 7 ≤ 2000) => ?_)
        refine ez_icmp rfl rfl ⟨by first | omega | exact (sz_i32 _).1, by first | omega | exact (sz_i32 _).2⟩ ⟨by first | omega | exact (sz_i32 _).1, by first | omega | exact (sz_i32 _).2⟩ (fun (c12 : (qz_I h 738 7) ≤ (k)) => ?_) (fun (c12 : ¬((qz_I h 738 7) ≤ (k))) => ?_)
        · skip
          refine ez_go (n := 1) (pc' := 76) (L' := [(2, .inl (k)), (0, .inr (.inr (some (738)))), (1, .inl (i))]) (st' := [.inl (0)]) rfl ?_
          refine ez_retZ rfl rfl (Or.inl rfl) (k0 ?_)
          first | (exfalso; omega) | exact scA_no hn (by omega) | exact scA_not hn (by omega) (by omega) (by unfold sP6; omega) (by unfold sH6; omega)
        · skip
          refine ez_go (n := 1) (pc' := 60) (L' := [(2, .inl (k)), (0, .inr (.inr (some (738)))), (1, .inl (i))]) (st' := [.inr (.inr (some (738)))]) rfl ?_
          refine ez_g2 (p := p) hB t738 rfl rfl tq_70 rfl rfl (c.2.2.2.1.1) ?_
          refine ez_go (n := 1) (pc' := 64) (L' := [(2, .inl (k)), (0, .inr (.inr (some (738)))), (1, .inl (i))]) (st' := [.inl (k), .inr (.inr (some (p)))]) rfl ?_
          have n14 : 2000 ≤ qz_N h p ∧ qz_N h p ≤ 2000 := ez_len hB tp tq_89 rfl
          refine ez_aI hB tp rfl tq_89 rfl rfl (by omega) (by omega) (fun (b13 : -2147483648 ≤ qz_I h p (k).toNat) (b13' : qz_I h p (k).toNat ≤ 2147483647) => ?_)
          have e39 := (c.2.2.2.2 k (by omega) (by omega)).1
          rw [e39]
          refine ez_go (n := 1) (pc' := 68) (L' := [(2, .inl (k)), (0, .inr (.inr (some (738)))), (1, .inl (i))]) (st' := [.inl (775), .inl (uX u k)]) rfl ?_
          refine ez_icmp rfl rfl ⟨by first | omega | exact (sz_i32 _).1, by first | omega | exact (sz_i32 _).2⟩ ⟨by first | omega | exact (sz_i32 _).1, by first | omega | exact (sz_i32 _).2⟩ (fun (c15 : (uX u k) ≠ (775)) => ?_) (fun (c15 : ¬((uX u k) ≠ (775))) => ?_)
          · skip
            refine ez_go (n := 1) (pc' := 76) (L' := [(2, .inl (k)), (0, .inr (.inr (some (738)))), (1, .inl (i))]) (st' := [.inl (0)]) rfl ?_
            refine ez_retZ rfl rfl (Or.inl rfl) (k0 ?_)
            first | (exfalso; omega) | exact scA_no hn (by omega) | exact scA_not hn (by omega) (by omega) (by unfold sP6; omega) (by unfold sH6; omega)
          · skip
            refine ez_go (n := 2) (pc' := 76) (L' := [(2, .inl (k)), (0, .inr (.inr (some (738)))), (1, .inl (i))]) (st' := [.inl (1)]) rfl ?_
            refine ez_retZ rfl rfl (Or.inr rfl) (k1 ?_)
            first | (exfalso; omega) | exact ⟨k, by omega, by omega, by unfold sP6; omega, by unfold sH6; omega, hn⟩
      · skip
        refine ez_go (n := 1) (pc' := 25) (L' := [(2, .inl (k)), (0, .inr (.inr (some (738)))), (1, .inl (i))]) (st' := [.inr (.inr (some (738)))]) rfl ?_
        refine ez_gC (p := 740) (tg := 72) hB t738 rfl rfl tq_70 rfl rfl (fun (t740 : _ = 72) => ?_)
        refine ez_go (n := 1) (pc' := 29) (L' := [(2, .inl (k)), (0, .inr (.inr (some (738)))), (1, .inl (i))]) (st' := [.inl (k), .inr (.inr (some (740)))]) rfl ?_
        have n17 : 2000 ≤ qz_N h 740 ∧ qz_N h 740 ≤ 2000 := ez_len hB t740 tq_72 rfl
        refine ez_aI hB t740 rfl tq_72 rfl rfl (by omega) (by omega) (fun (b16 : -2147483648 ≤ qz_I h 740 (k).toNat) (b16' : qz_I h 740 (k).toNat ≤ 2147483647) => ?_)
        have e40 := (c.2.2.2.2 k (by omega) (by omega)).2.1
        rw [e40]
        refine ez_if rfl rfl ⟨by first | omega | exact (sz_i32 _).1, by first | omega | exact (sz_i32 _).2⟩ (fun (c18 : (kc F u k) = (0)) => ?_) (fun (c18 : ¬((kc F u k) = (0))) => ?_)
        · skip
          refine ez_go (n := 2) (pc' := 53) (L' := [(2, .inl (k)), (0, .inr (.inr (some (738)))), (1, .inl (i))]) (st' := [.inr (.inr (some (738))), .inl (k)]) rfl ?_
          refine ez_gI hB t738 rfl rfl tq_70 rfl rfl (fun (b19 : 0 ≤ qz_I h 738 7) (b19' : qz_I h 738 7 ≤ 2000) => ?_)
          refine ez_icmp rfl rfl ⟨by first | omega | exact (sz_i32 _).1, by first | omega | exact (sz_i32 _).2⟩ ⟨by first | omega | exact (sz_i32 _).1, by first | omega | exact (sz_i32 _).2⟩ (fun (c20 : (qz_I h 738 7) ≤ (k)) => ?_) (fun (c20 : ¬((qz_I h 738 7) ≤ (k))) => ?_)
          · skip
            refine ez_go (n := 1) (pc' := 76) (L' := [(2, .inl (k)), (0, .inr (.inr (some (738)))), (1, .inl (i))]) (st' := [.inl (0)]) rfl ?_
            refine ez_retZ rfl rfl (Or.inl rfl) (k0 ?_)
            first | (exfalso; omega) | exact scA_no hn (by omega) | exact scA_not hn (by omega) (by omega) (by unfold sP6; omega) (by unfold sH6; omega)
          · skip
            refine ez_go (n := 1) (pc' := 60) (L' := [(2, .inl (k)), (0, .inr (.inr (some (738)))), (1, .inl (i))]) (st' := [.inr (.inr (some (738)))]) rfl ?_
            refine ez_g2 (p := p) hB t738 rfl rfl tq_70 rfl rfl (c.2.2.2.1.1) ?_
            refine ez_go (n := 1) (pc' := 64) (L' := [(2, .inl (k)), (0, .inr (.inr (some (738)))), (1, .inl (i))]) (st' := [.inl (k), .inr (.inr (some (p)))]) rfl ?_
            have n22 : 2000 ≤ qz_N h p ∧ qz_N h p ≤ 2000 := ez_len hB tp tq_89 rfl
            refine ez_aI hB tp rfl tq_89 rfl rfl (by omega) (by omega) (fun (b21 : -2147483648 ≤ qz_I h p (k).toNat) (b21' : qz_I h p (k).toNat ≤ 2147483647) => ?_)
            have e39 := (c.2.2.2.2 k (by omega) (by omega)).1
            rw [e39]
            refine ez_go (n := 1) (pc' := 68) (L' := [(2, .inl (k)), (0, .inr (.inr (some (738)))), (1, .inl (i))]) (st' := [.inl (775), .inl (uX u k)]) rfl ?_
            refine ez_icmp rfl rfl ⟨by first | omega | exact (sz_i32 _).1, by first | omega | exact (sz_i32 _).2⟩ ⟨by first | omega | exact (sz_i32 _).1, by first | omega | exact (sz_i32 _).2⟩ (fun (c23 : (uX u k) ≠ (775)) => ?_) (fun (c23 : ¬((uX u k) ≠ (775))) => ?_)
            · skip
              refine ez_go (n := 1) (pc' := 76) (L' := [(2, .inl (k)), (0, .inr (.inr (some (738)))), (1, .inl (i))]) (st' := [.inl (0)]) rfl ?_
              refine ez_retZ rfl rfl (Or.inl rfl) (k0 ?_)
              first | (exfalso; omega) | exact scA_no hn (by omega) | exact scA_not hn (by omega) (by omega) (by unfold sP6; omega) (by unfold sH6; omega)
            · skip
              refine ez_go (n := 2) (pc' := 76) (L' := [(2, .inl (k)), (0, .inr (.inr (some (738)))), (1, .inl (i))]) (st' := [.inl (1)]) rfl ?_
              refine ez_retZ rfl rfl (Or.inr rfl) (k1 ?_)
              first | (exfalso; omega) | exact ⟨k, by omega, by omega, by unfold sP6; omega, by unfold sH6; omega, hn⟩
        · skip
          refine ez_go (n := 1) (pc' := 34) (L' := [(2, .inl (k)), (0, .inr (.inr (some (738)))), (1, .inl (i))]) (st' := [.inr (.inr (some (738)))]) rfl ?_
          refine ez_gC (p := 740) (tg := 72) hB t738 rfl rfl tq_70 rfl rfl (fun (t740 : _ = 72) => ?_)
          refine ez_go (n := 1) (pc' := 38) (L' := [(2, .inl (k)), (0, .inr (.inr (some (738)))), (1, .inl (i))]) (st' := [.inl (k), .inr (.inr (some (740)))]) rfl ?_
          have n25 : 2000 ≤ qz_N h 740 ∧ qz_N h 740 ≤ 2000 := ez_len hB t740 tq_72 rfl
          refine ez_aI hB t740 rfl tq_72 rfl rfl (by omega) (by omega) (fun (b24 : -2147483648 ≤ qz_I h 740 (k).toNat) (b24' : qz_I h 740 (k).toNat ≤ 2147483647) => ?_)
          have e40 := (c.2.2.2.2 k (by omega) (by omega)).2.1
          rw [e40]
          refine ez_go (n := 1) (pc' := 42) (L' := [(2, .inl (k)), (0, .inr (.inr (some (738)))), (1, .inl (i))]) (st' := [.inl (230), .inl (kc F u k)]) rfl ?_
          refine ez_icmp rfl rfl ⟨by first | omega | exact (sz_i32 _).1, by first | omega | exact (sz_i32 _).2⟩ ⟨by first | omega | exact (sz_i32 _).1, by first | omega | exact (sz_i32 _).2⟩ (fun (c26 : (kc F u k) = (230)) => ?_) (fun (c26 : ¬((kc F u k) = (230))) => ?_)
          · skip
            refine ez_go (n := 2) (pc' := 53) (L' := [(2, .inl (k)), (0, .inr (.inr (some (738)))), (1, .inl (i))]) (st' := [.inr (.inr (some (738))), .inl (k)]) rfl ?_
            refine ez_gI hB t738 rfl rfl tq_70 rfl rfl (fun (b27 : 0 ≤ qz_I h 738 7) (b27' : qz_I h 738 7 ≤ 2000) => ?_)
            refine ez_icmp rfl rfl ⟨by first | omega | exact (sz_i32 _).1, by first | omega | exact (sz_i32 _).2⟩ ⟨by first | omega | exact (sz_i32 _).1, by first | omega | exact (sz_i32 _).2⟩ (fun (c28 : (qz_I h 738 7) ≤ (k)) => ?_) (fun (c28 : ¬((qz_I h 738 7) ≤ (k))) => ?_)
            · skip
              refine ez_go (n := 1) (pc' := 76) (L' := [(2, .inl (k)), (0, .inr (.inr (some (738)))), (1, .inl (i))]) (st' := [.inl (0)]) rfl ?_
              refine ez_retZ rfl rfl (Or.inl rfl) (k0 ?_)
              first | (exfalso; omega) | exact scA_no hn (by omega) | exact scA_not hn (by omega) (by omega) (by unfold sP6; omega) (by unfold sH6; omega)
            · skip
              refine ez_go (n := 1) (pc' := 60) (L' := [(2, .inl (k)), (0, .inr (.inr (some (738)))), (1, .inl (i))]) (st' := [.inr (.inr (some (738)))]) rfl ?_
              refine ez_g2 (p := p) hB t738 rfl rfl tq_70 rfl rfl (c.2.2.2.1.1) ?_
              refine ez_go (n := 1) (pc' := 64) (L' := [(2, .inl (k)), (0, .inr (.inr (some (738)))), (1, .inl (i))]) (st' := [.inl (k), .inr (.inr (some (p)))]) rfl ?_
              have n30 : 2000 ≤ qz_N h p ∧ qz_N h p ≤ 2000 := ez_len hB tp tq_89 rfl
              refine ez_aI hB tp rfl tq_89 rfl rfl (by omega) (by omega) (fun (b29 : -2147483648 ≤ qz_I h p (k).toNat) (b29' : qz_I h p (k).toNat ≤ 2147483647) => ?_)
              have e39 := (c.2.2.2.2 k (by omega) (by omega)).1
              rw [e39]
              refine ez_go (n := 1) (pc' := 68) (L' := [(2, .inl (k)), (0, .inr (.inr (some (738)))), (1, .inl (i))]) (st' := [.inl (775), .inl (uX u k)]) rfl ?_
              refine ez_icmp rfl rfl ⟨by first | omega | exact (sz_i32 _).1, by first | omega | exact (sz_i32 _).2⟩ ⟨by first | omega | exact (sz_i32 _).1, by first | omega | exact (sz_i32 _).2⟩ (fun (c31 : (uX u k) ≠ (775)) => ?_) (fun (c31 : ¬((uX u k) ≠ (775))) => ?_)
              · skip
                refine ez_go (n := 1) (pc' := 76) (L' := [(2, .inl (k)), (0, .inr (.inr (some (738)))), (1, .inl (i))]) (st' := [.inl (0)]) rfl ?_
                refine ez_retZ rfl rfl (Or.inl rfl) (k0 ?_)
                first | (exfalso; omega) | exact scA_no hn (by omega) | exact scA_not hn (by omega) (by omega) (by unfold sP6; omega) (by unfold sH6; omega)
              · skip
                refine ez_go (n := 2) (pc' := 76) (L' := [(2, .inl (k)), (0, .inr (.inr (some (738)))), (1, .inl (i))]) (st' := [.inl (1)]) rfl ?_
                refine ez_retZ rfl rfl (Or.inr rfl) (k1 ?_)
                first | (exfalso; omega) | exact ⟨k, by omega, by omega, by unfold sP6; omega, by unfold sH6; omega, hn⟩
          · skip
            refine ez_go (n := 2) (pc' := 4) (L' := [(2, .inl (k + 1)), (0, .inr (.inr (some (738)))), (1, .inl (i))]) (st' := []) rfl ?_
            exfalso; omega
  | succ n ih =>
    intro k hn0 ka kb hn
    refine ez_go (n := 2) (pc' := 6) (L' := [(2, .inl (k)), (0, .inr (.inr (some (738)))), (1, .inl (i))]) (st' := [.inr (.inr (some (738))), .inl (k)]) rfl ?_
    refine ez_gI hB t738 rfl rfl tq_70 rfl rfl (fun (b1 : 0 ≤ qz_I h 738 7) (b1' : qz_I h 738 7 ≤ 2000) => ?_)
    refine ez_icmp rfl rfl ⟨by first | omega | exact (sz_i32 _).1, by first | omega | exact (sz_i32 _).2⟩ ⟨by first | omega | exact (sz_i32 _).1, by first | omega | exact (sz_i32 _).2⟩ (fun (c2 : (qz_I h 738 7) ≤ (k)) => ?_) (fun (c2 : ¬((qz_I h 738 7) ≤ (k))) => ?_)
    · skip
      refine ez_go (n := 2) (pc' := 53) (L' := [(2, .inl (k)), (0, .inr (.inr (some (738)))), (1, .inl (i))]) (st' := [.inr (.inr (some (738))), .inl (k)]) rfl ?_
      refine ez_gI hB t738 rfl rfl tq_70 rfl rfl (fun (b3 : 0 ≤ qz_I h 738 7) (b3' : qz_I h 738 7 ≤ 2000) => ?_)
      refine ez_icmp rfl rfl ⟨by first | omega | exact (sz_i32 _).1, by first | omega | exact (sz_i32 _).2⟩ ⟨by first | omega | exact (sz_i32 _).1, by first | omega | exact (sz_i32 _).2⟩ (fun (c4 : (qz_I h 738 7) ≤ (k)) => ?_) (fun (c4 : ¬((qz_I h 738 7) ≤ (k))) => ?_)
      · skip
        refine ez_go (n := 1) (pc' := 76) (L' := [(2, .inl (k)), (0, .inr (.inr (some (738)))), (1, .inl (i))]) (st' := [.inl (0)]) rfl ?_
        refine ez_retZ rfl rfl (Or.inl rfl) (k0 ?_)
        first | (exfalso; omega) | exact scA_no hn (by omega) | exact scA_not hn (by omega) (by omega) (by unfold sP6; omega) (by unfold sH6; omega)
      · skip
        refine ez_go (n := 1) (pc' := 60) (L' := [(2, .inl (k)), (0, .inr (.inr (some (738)))), (1, .inl (i))]) (st' := [.inr (.inr (some (738)))]) rfl ?_
        refine ez_g2 (p := p) hB t738 rfl rfl tq_70 rfl rfl (c.2.2.2.1.1) ?_
        refine ez_go (n := 1) (pc' := 64) (L' := [(2, .inl (k)), (0, .inr (.inr (some (738)))), (1, .inl (i))]) (st' := [.inl (k), .inr (.inr (some (p)))]) rfl ?_
        have n6 : 2000 ≤ qz_N h p ∧ qz_N h p ≤ 2000 := ez_len hB tp tq_89 rfl
        refine ez_aI hB tp rfl tq_89 rfl rfl (by omega) (by omega) (fun (b5 : -2147483648 ≤ qz_I h p (k).toNat) (b5' : qz_I h p (k).toNat ≤ 2147483647) => ?_)
        have e39 := (c.2.2.2.2 k (by omega) (by omega)).1
        rw [e39]
        refine ez_go (n := 1) (pc' := 68) (L' := [(2, .inl (k)), (0, .inr (.inr (some (738)))), (1, .inl (i))]) (st' := [.inl (775), .inl (uX u k)]) rfl ?_
        refine ez_icmp rfl rfl ⟨by first | omega | exact (sz_i32 _).1, by first | omega | exact (sz_i32 _).2⟩ ⟨by first | omega | exact (sz_i32 _).1, by first | omega | exact (sz_i32 _).2⟩ (fun (c7 : (uX u k) ≠ (775)) => ?_) (fun (c7 : ¬((uX u k) ≠ (775))) => ?_)
        · skip
          refine ez_go (n := 1) (pc' := 76) (L' := [(2, .inl (k)), (0, .inr (.inr (some (738)))), (1, .inl (i))]) (st' := [.inl (0)]) rfl ?_
          refine ez_retZ rfl rfl (Or.inl rfl) (k0 ?_)
          first | (exfalso; omega) | exact scA_no hn (by omega) | exact scA_not hn (by omega) (by omega) (by unfold sP6; omega) (by unfold sH6; omega)
        · skip
          refine ez_go (n := 2) (pc' := 76) (L' := [(2, .inl (k)), (0, .inr (.inr (some (738)))), (1, .inl (i))]) (st' := [.inl (1)]) rfl ?_
          refine ez_retZ rfl rfl (Or.inr rfl) (k1 ?_)
          first | (exfalso; omega) | exact ⟨k, by omega, by omega, by unfold sP6; omega, by unfold sH6; omega, hn⟩
    · skip
      refine ez_go (n := 1) (pc' := 13) (L' := [(2, .inl (k)), (0, .inr (.inr (some (738)))), (1, .inl (i))]) (st' := [.inr (.inr (some (738)))]) rfl ?_
      refine ez_g2 (p := p) hB t738 rfl rfl tq_70 rfl rfl (c.2.2.2.1.1) ?_
      refine ez_go (n := 1) (pc' := 17) (L' := [(2, .inl (k)), (0, .inr (.inr (some (738)))), (1, .inl (i))]) (st' := [.inl (k), .inr (.inr (some (p)))]) rfl ?_
      have n9 : 2000 ≤ qz_N h p ∧ qz_N h p ≤ 2000 := ez_len hB tp tq_89 rfl
      refine ez_aI hB tp rfl tq_89 rfl rfl (by omega) (by omega) (fun (b8 : -2147483648 ≤ qz_I h p (k).toNat) (b8' : qz_I h p (k).toNat ≤ 2147483647) => ?_)
      have e39 := (c.2.2.2.2 k (by omega) (by omega)).1
      rw [e39]
      refine ez_go (n := 1) (pc' := 21) (L' := [(2, .inl (k)), (0, .inr (.inr (some (738)))), (1, .inl (i))]) (st' := [.inl (775), .inl (uX u k)]) rfl ?_
      refine ez_icmp rfl rfl ⟨by first | omega | exact (sz_i32 _).1, by first | omega | exact (sz_i32 _).2⟩ ⟨by first | omega | exact (sz_i32 _).1, by first | omega | exact (sz_i32 _).2⟩ (fun (c10 : (uX u k) = (775)) => ?_) (fun (c10 : ¬((uX u k) = (775))) => ?_)
      · skip
        refine ez_go (n := 2) (pc' := 53) (L' := [(2, .inl (k)), (0, .inr (.inr (some (738)))), (1, .inl (i))]) (st' := [.inr (.inr (some (738))), .inl (k)]) rfl ?_
        refine ez_gI hB t738 rfl rfl tq_70 rfl rfl (fun (b11 : 0 ≤ qz_I h 738 7) (b11' : qz_I h 738 7 ≤ 2000) => ?_)
        refine ez_icmp rfl rfl ⟨by first | omega | exact (sz_i32 _).1, by first | omega | exact (sz_i32 _).2⟩ ⟨by first | omega | exact (sz_i32 _).1, by first | omega | exact (sz_i32 _).2⟩ (fun (c12 : (qz_I h 738 7) ≤ (k)) => ?_) (fun (c12 : ¬((qz_I h 738 7) ≤ (k))) => ?_)
        · skip
          refine ez_go (n := 1) (pc' := 76) (L' := [(2, .inl (k)), (0, .inr (.inr (some (738)))), (1, .inl (i))]) (st' := [.inl (0)]) rfl ?_
          refine ez_retZ rfl rfl (Or.inl rfl) (k0 ?_)
          first | (exfalso; omega) | exact scA_no hn (by omega) | exact scA_not hn (by omega) (by omega) (by unfold sP6; omega) (by unfold sH6; omega)
        · skip
          refine ez_go (n := 1) (pc' := 60) (L' := [(2, .inl (k)), (0, .inr (.inr (some (738)))), (1, .inl (i))]) (st' := [.inr (.inr (some (738)))]) rfl ?_
          refine ez_g2 (p := p) hB t738 rfl rfl tq_70 rfl rfl (c.2.2.2.1.1) ?_
          refine ez_go (n := 1) (pc' := 64) (L' := [(2, .inl (k)), (0, .inr (.inr (some (738)))), (1, .inl (i))]) (st' := [.inl (k), .inr (.inr (some (p)))]) rfl ?_
          have n14 : 2000 ≤ qz_N h p ∧ qz_N h p ≤ 2000 := ez_len hB tp tq_89 rfl
          refine ez_aI hB tp rfl tq_89 rfl rfl (by omega) (by omega) (fun (b13 : -2147483648 ≤ qz_I h p (k).toNat) (b13' : qz_I h p (k).toNat ≤ 2147483647) => ?_)
          have e39 := (c.2.2.2.2 k (by omega) (by omega)).1
          rw [e39]
          refine ez_go (n := 1) (pc' := 68) (L' := [(2, .inl (k)), (0, .inr (.inr (some (738)))), (1, .inl (i))]) (st' := [.inl (775), .inl (uX u k)]) rfl ?_
          refine ez_icmp rfl rfl ⟨by first | omega | exact (sz_i32 _).1, by first | omega | exact (sz_i32 _).2⟩ ⟨by first | omega | exact (sz_i32 _).1, by first | omega | exact (sz_i32 _).2⟩ (fun (c15 : (uX u k) ≠ (775)) => ?_) (fun (c15 : ¬((uX u k) ≠ (775))) => ?_)
          · skip
            refine ez_go (n := 1) (pc' := 76) (L' := [(2, .inl (k)), (0, .inr (.inr (some (738)))), (1, .inl (i))]) (st' := [.inl (0)]) rfl ?_
            refine ez_retZ rfl rfl (Or.inl rfl) (k0 ?_)
            first | (exfalso; omega) | exact scA_no hn (by omega) | exact scA_not hn (by omega) (by omega) (by unfold sP6; omega) (by unfold sH6; omega)
          · skip
            refine ez_go (n := 2) (pc' := 76) (L' := [(2, .inl (k)), (0, .inr (.inr (some (738)))), (1, .inl (i))]) (st' := [.inl (1)]) rfl ?_
            refine ez_retZ rfl rfl (Or.inr rfl) (k1 ?_)
            first | (exfalso; omega) | exact ⟨k, by omega, by omega, by unfold sP6; omega, by unfold sH6; omega, hn⟩
      · skip
        refine ez_go (n := 1) (pc' := 25) (L' := [(2, .inl (k)), (0, .inr (.inr (some (738)))), (1, .inl (i))]) (st' := [.inr (.inr (some (738)))]) rfl ?_
        refine ez_gC (p := 740) (tg := 72) hB t738 rfl rfl tq_70 rfl rfl (fun (t740 : _ = 72) => ?_)
        refine ez_go (n := 1) (pc' := 29) (L' := [(2, .inl (k)), (0, .inr (.inr (some (738)))), (1, .inl (i))]) (st' := [.inl (k), .inr (.inr (some (740)))]) rfl ?_
        have n17 : 2000 ≤ qz_N h 740 ∧ qz_N h 740 ≤ 2000 := ez_len hB t740 tq_72 rfl
        refine ez_aI hB t740 rfl tq_72 rfl rfl (by omega) (by omega) (fun (b16 : -2147483648 ≤ qz_I h 740 (k).toNat) (b16' : qz_I h 740 (k).toNat ≤ 2147483647) => ?_)
        have e40 := (c.2.2.2.2 k (by omega) (by omega)).2.1
        rw [e40]
        refine ez_if rfl rfl ⟨by first | omega | exact (sz_i32 _).1, by first | omega | exact (sz_i32 _).2⟩ (fun (c18 : (kc F u k) = (0)) => ?_) (fun (c18 : ¬((kc F u k) = (0))) => ?_)
        · skip
          refine ez_go (n := 2) (pc' := 53) (L' := [(2, .inl (k)), (0, .inr (.inr (some (738)))), (1, .inl (i))]) (st' := [.inr (.inr (some (738))), .inl (k)]) rfl ?_
          refine ez_gI hB t738 rfl rfl tq_70 rfl rfl (fun (b19 : 0 ≤ qz_I h 738 7) (b19' : qz_I h 738 7 ≤ 2000) => ?_)
          refine ez_icmp rfl rfl ⟨by first | omega | exact (sz_i32 _).1, by first | omega | exact (sz_i32 _).2⟩ ⟨by first | omega | exact (sz_i32 _).1, by first | omega | exact (sz_i32 _).2⟩ (fun (c20 : (qz_I h 738 7) ≤ (k)) => ?_) (fun (c20 : ¬((qz_I h 738 7) ≤ (k))) => ?_)
          · skip
            refine ez_go (n := 1) (pc' := 76) (L' := [(2, .inl (k)), (0, .inr (.inr (some (738)))), (1, .inl (i))]) (st' := [.inl (0)]) rfl ?_
            refine ez_retZ rfl rfl (Or.inl rfl) (k0 ?_)
            first | (exfalso; omega) | exact scA_no hn (by omega) | exact scA_not hn (by omega) (by omega) (by unfold sP6; omega) (by unfold sH6; omega)
          · skip
            refine ez_go (n := 1) (pc' := 60) (L' := [(2, .inl (k)), (0, .inr (.inr (some (738)))), (1, .inl (i))]) (st' := [.inr (.inr (some (738)))]) rfl ?_
            refine ez_g2 (p := p) hB t738 rfl rfl tq_70 rfl rfl (c.2.2.2.1.1) ?_
            refine ez_go (n := 1) (pc' := 64) (L' := [(2, .inl (k)), (0, .inr (.inr (some (738)))), (1, .inl (i))]) (st' := [.inl (k), .inr (.inr (some (p)))]) rfl ?_
            have n22 : 2000 ≤ qz_N h p ∧ qz_N h p ≤ 2000 := ez_len hB tp tq_89 rfl
            refine ez_aI hB tp rfl tq_89 rfl rfl (by omega) (by omega) (fun (b21 : -2147483648 ≤ qz_I h p (k).toNat) (b21' : qz_I h p (k).toNat ≤ 2147483647) => ?_)
            have e39 := (c.2.2.2.2 k (by omega) (by omega)).1
            rw [e39]
            refine ez_go (n := 1) (pc' := 68) (L' := [(2, .inl (k)), (0, .inr (.inr (some (738)))), (1, .inl (i))]) (st' := [.inl (775), .inl (uX u k)]) rfl ?_
            refine ez_icmp rfl rfl ⟨by first | omega | exact (sz_i32 _).1, by first | omega | exact (sz_i32 _).2⟩ ⟨by first | omega | exact (sz_i32 _).1, by first | omega | exact (sz_i32 _).2⟩ (fun (c23 : (uX u k) ≠ (775)) => ?_) (fun (c23 : ¬((uX u k) ≠ (775))) => ?_)
            · skip
              refine ez_go (n := 1) (pc' := 76) (L' := [(2, .inl (k)), (0, .inr (.inr (some (738)))), (1, .inl (i))]) (st' := [.inl (0)]) rfl ?_
              refine ez_retZ rfl rfl (Or.inl rfl) (k0 ?_)
              first | (exfalso; omega) | exact scA_no hn (by omega) | exact scA_not hn (by omega) (by omega) (by unfold sP6; omega) (by unfold sH6; omega)
            · skip
              refine ez_go (n := 2) (pc' := 76) (L' := [(2, .inl (k)), (0, .inr (.inr (some (738)))), (1, .inl (i))]) (st' := [.inl (1)]) rfl ?_
              refine ez_retZ rfl rfl (Or.inr rfl) (k1 ?_)
              first | (exfalso; omega) | exact ⟨k, by omega, by omega, by unfold sP6; omega, by unfold sH6; omega, hn⟩
        · skip
          refine ez_go (n := 1) (pc' := 34) (L' := [(2, .inl (k)), (0, .inr (.inr (some (738)))), (1, .inl (i))]) (st' := [.inr (.inr (some (738)))]) rfl ?_
          refine ez_gC (p := 740) (tg := 72) hB t738 rfl rfl tq_70 rfl rfl (fun (t740 : _ = 72) => ?_)
          refine ez_go (n := 1) (pc' := 38) (L' := [(2, .inl (k)), (0, .inr (.inr (some (738)))), (1, .inl (i))]) (st' := [.inl (k), .inr (.inr (some (740)))]) rfl ?_
          have n25 : 2000 ≤ qz_N h 740 ∧ qz_N h 740 ≤ 2000 := ez_len hB t740 tq_72 rfl
          refine ez_aI hB t740 rfl tq_72 rfl rfl (by omega) (by omega) (fun (b24 : -2147483648 ≤ qz_I h 740 (k).toNat) (b24' : qz_I h 740 (k).toNat ≤ 2147483647) => ?_)
          have e40 := (c.2.2.2.2 k (by omega) (by omega)).2.1
          rw [e40]
          refine ez_go (n := 1) (pc' := 42) (L' := [(2, .inl (k)), (0, .inr (.inr (some (738)))), (1, .inl (i))]) (st' := [.inl (230), .inl (kc F u k)]) rfl ?_
          refine ez_icmp rfl rfl ⟨by first | omega | exact (sz_i32 _).1, by first | omega | exact (sz_i32 _).2⟩ ⟨by first | omega | exact (sz_i32 _).1, by first | omega | exact (sz_i32 _).2⟩ (fun (c26 : (kc F u k) = (230)) => ?_) (fun (c26 : ¬((kc F u k) = (230))) => ?_)
          · skip
            refine ez_go (n := 2) (pc' := 53) (L' := [(2, .inl (k)), (0, .inr (.inr (some (738)))), (1, .inl (i))]) (st' := [.inr (.inr (some (738))), .inl (k)]) rfl ?_
            refine ez_gI hB t738 rfl rfl tq_70 rfl rfl (fun (b27 : 0 ≤ qz_I h 738 7) (b27' : qz_I h 738 7 ≤ 2000) => ?_)
            refine ez_icmp rfl rfl ⟨by first | omega | exact (sz_i32 _).1, by first | omega | exact (sz_i32 _).2⟩ ⟨by first | omega | exact (sz_i32 _).1, by first | omega | exact (sz_i32 _).2⟩ (fun (c28 : (qz_I h 738 7) ≤ (k)) => ?_) (fun (c28 : ¬((qz_I h 738 7) ≤ (k))) => ?_)
            · skip
              refine ez_go (n := 1) (pc' := 76) (L' := [(2, .inl (k)), (0, .inr (.inr (some (738)))), (1, .inl (i))]) (st' := [.inl (0)]) rfl ?_
              refine ez_retZ rfl rfl (Or.inl rfl) (k0 ?_)
              first | (exfalso; omega) | exact scA_no hn (by omega) | exact scA_not hn (by omega) (by omega) (by unfold sP6; omega) (by unfold sH6; omega)
            · skip
              refine ez_go (n := 1) (pc' := 60) (L' := [(2, .inl (k)), (0, .inr (.inr (some (738)))), (1, .inl (i))]) (st' := [.inr (.inr (some (738)))]) rfl ?_
              refine ez_g2 (p := p) hB t738 rfl rfl tq_70 rfl rfl (c.2.2.2.1.1) ?_
              refine ez_go (n := 1) (pc' := 64) (L' := [(2, .inl (k)), (0, .inr (.inr (some (738)))), (1, .inl (i))]) (st' := [.inl (k), .inr (.inr (some (p)))]) rfl ?_
              have n30 : 2000 ≤ qz_N h p ∧ qz_N h p ≤ 2000 := ez_len hB tp tq_89 rfl
              refine ez_aI hB tp rfl tq_89 rfl rfl (by omega) (by omega) (fun (b29 : -2147483648 ≤ qz_I h p (k).toNat) (b29' : qz_I h p (k).toNat ≤ 2147483647) => ?_)
              have e39 := (c.2.2.2.2 k (by omega) (by omega)).1
              rw [e39]
              refine ez_go (n := 1) (pc' := 68) (L' := [(2, .inl (k)), (0, .inr (.inr (some (738)))), (1, .inl (i))]) (st' := [.inl (775), .inl (uX u k)]) rfl ?_
              refine ez_icmp rfl rfl ⟨by first | omega | exact (sz_i32 _).1, by first | omega | exact (sz_i32 _).2⟩ ⟨by first | omega | exact (sz_i32 _).1, by first | omega | exact (sz_i32 _).2⟩ (fun (c31 : (uX u k) ≠ (775)) => ?_) (fun (c31 : ¬((uX u k) ≠ (775))) => ?_)
              · skip
                refine ez_go (n := 1) (pc' := 76) (L' := [(2, .inl (k)), (0, .inr (.inr (some (738)))), (1, .inl (i))]) (st' := [.inl (0)]) rfl ?_
                refine ez_retZ rfl rfl (Or.inl rfl) (k0 ?_)
                first | (exfalso; omega) | exact scA_no hn (by omega) | exact scA_not hn (by omega) (by omega) (by unfold sP6; omega) (by unfold sH6; omega)
              · skip
                refine ez_go (n := 2) (pc' := 76) (L' := [(2, .inl (k)), (0, .inr (.inr (some (738)))), (1, .inl (i))]) (st' := [.inl (1)]) rfl ?_
                refine ez_retZ rfl rfl (Or.inr rfl) (k1 ?_)
                first | (exfalso; omega) | exact ⟨k, by omega, by omega, by unfold sP6; omega, by unfold sH6; omega, hn⟩
          · skip
            refine ez_go (n := 2) (pc' := 4) (L' := [(2, .inl (k + 1)), (0, .inr (.inr (some (738)))), (1, .inl (i))]) (st' := []) rfl ?_
            refine ez_less [(2, .inl (k + 1)), (0, .inr (.inr (some (738)))), (1, .inl (i))] rfl ⟨rfl, rfl, rfl, trivial⟩ ?_
            exact ih _ (by omega) (by omega) (by omega) (scA_st hn (by unfold sP6; omega))

theorem rd_dotBehind {i : Int} (c : ckC τ h F D p u loc) (i0 : 0 ≤ i) (i1 : i < (u.length : Int)) (k1 : scA (sP6 F u 775) (sH6 u 775) i u.length → Q (.inl (some (ez_v (.inl 1))), h)) (k0 : ¬ scA (sP6 F u 775) (sH6 u 775) i u.length → Q (.inl (some (ez_v (.inl 0))), h)) : ez_W d cm_69 0 [(0, .inr (.inr (some (738)))), (1, .inl (i))] [] h Q := by
  have hB := c.1.1
  have t738 : τ 738 = 70 := c.1.2 738 (by decide)
  have tp := c.2.1
  have n2 := c.2.2.1.1
  have e7 := c.2.2.2.1.2.1
  refine ez_go (n := 4) (pc' := 4) (L' := [(2, .inl ((i) + (1))), (0, .inr (.inr (some (738)))), (1, .inl (i))]) (st' := []) rfl ?_
  refine ez_less [(2, .inl ((i) + (1))), (0, .inr (.inr (some (738)))), (1, .inl (i))] rfl ⟨rfl, rfl, rfl, trivial⟩ ?_
  exact rd_dotBehind_l c i0 i1 k1 k0 _ _ rfl (by omega) (by omega) (fun j a b => by omega)

theorem rd_capitalIBefore_l {i : Int} (c : ckC τ h F D p u loc) (i0 : 0 ≤ i) (i1 : i < (u.length : Int)) (k1 : scB (sP6 F u 73) (sH6 u 73) i → Q (.inl (some (ez_v (.inl 1))), h)) (k0 : ¬ scB (sP6 F u 73) (sH6 u 73) i → Q (.inl (some (ez_v (.inl 0))), h)) : ∀ (n : Nat) (k : Int), n = (k + 1).toNat → -1 ≤ k → k < i → (∀ j, k < j → j < i → ¬ (sP6 F u 73) j) → ez_W d cm_65 4 [(2, .inl (k)), (0, .inr (.inr (some (738)))), (1, .inl (i))] [] h Q := by
  have hB := c.1.1
  have t738 : τ 738 = 70 := c.1.2 738 (by decide)
  have tp := c.2.1
  have n2 := c.2.2.1.1
  have e7 := c.2.2.2.1.2.1
  intro n
  induction n with
  | zero =>
    intro k hn0 ka kb hn
    refine ez_go (n := 1) (pc' := 5) (L' := [(2, .inl (k)), (0, .inr (.inr (some (738)))), (1, .inl (i))]) (st' := [.inl (k)]) rfl ?_
    refine ez_if rfl rfl ⟨by first | omega | exact (sz_i32 _).1, by first | omega | exact (sz_i32 _).2⟩ (fun (c1 : (k) < (0)) => ?_) (fun (c1 : ¬((k) < (0))) => ?_)
    · skip
      refine ez_go (n := 1) (pc' := 47) (L' := [(2, .inl (k)), (0, .inr (.inr (some (738)))), (1, .inl (i))]) (st' := [.inl (k)]) rfl ?_
      refine ez_if rfl rfl ⟨by first | omega | exact (sz_i32 _).1, by first | omega | exact (sz_i32 _).2⟩ (fun (c2 : (k) < (0)) => ?_) (fun (c2 : ¬((k) < (0))) => ?_)
      · skip
        refine ez_go (n := 1) (pc' := 66) (L' := [(2, .inl (k)), (0, .inr (.inr (some (738)))), (1, .inl (i))]) (st' := [.inl (0)]) rfl ?_
        refine ez_retZ rfl rfl (Or.inl rfl) (k0 ?_)
        first | (exfalso; omega) | exact scB_no hn (by omega) | exact scB_not hn (by omega) (by omega) (by unfold sP6; omega) (by unfold sH6; omega)
      · skip
        refine ez_go (n := 1) (pc' := 51) (L' := [(2, .inl (k)), (0, .inr (.inr (some (738)))), (1, .inl (i))]) (st' := [.inr (.inr (some (738)))]) rfl ?_
        refine ez_g2 (p := p) hB t738 rfl rfl tq_70 rfl rfl (c.2.2.2.1.1) ?_
        refine ez_go (n := 1) (pc' := 55) (L' := [(2, .inl (k)), (0, .inr (.inr (some (738)))), (1, .inl (i))]) (st' := [.inl (k), .inr (.inr (some (p)))]) rfl ?_
        have n4 : 2000 ≤ qz_N h p ∧ qz_N h p ≤ 2000 := ez_len hB tp tq_89 rfl
        refine ez_aI hB tp rfl tq_89 rfl rfl (by omega) (by omega) (fun (b3 : -2147483648 ≤ qz_I h p (k).toNat) (b3' : qz_I h p (k).toNat ≤ 2147483647) => ?_)
        have e39 := (c.2.2.2.2 k (by omega) (by omega)).1
        rw [e39]
        refine ez_go (n := 1) (pc' := 58) (L' := [(2, .inl (k)), (0, .inr (.inr (some (738)))), (1, .inl (i))]) (st' := [.inl (73), .inl (uX u k)]) rfl ?_
        refine ez_icmp rfl rfl ⟨by first | omega | exact (sz_i32 _).1, by first | omega | exact (sz_i32 _).2⟩ ⟨by first | omega | exact (sz_i32 _).1, by first | omega | exact (sz_i32 _).2⟩ (fun (c5 : (uX u k) ≠ (73)) => ?_) (fun (c5 : ¬((uX u k) ≠ (73))) => ?_)
        · skip
          refine ez_go (n := 1) (pc' := 66) (L' := [(2, .inl (k)), (0, .inr (.inr (some (738)))), (1, .inl (i))]) (st' := [.inl (0)]) rfl ?_
          refine ez_retZ rfl rfl (Or.inl rfl) (k0 ?_)
          first | (exfalso; omega) | exact scB_no hn (by omega) | exact scB_not hn (by omega) (by omega) (by unfold sP6; omega) (by unfold sH6; omega)
        · skip
          refine ez_go (n := 2) (pc' := 66) (L' := [(2, .inl (k)), (0, .inr (.inr (some (738)))), (1, .inl (i))]) (st' := [.inl (1)]) rfl ?_
          refine ez_retZ rfl rfl (Or.inr rfl) (k1 ?_)
          first | (exfalso; omega) | exact ⟨k, by omega, by omega, by unfold sP6; omega, by unfold sH6; omega, hn⟩
    · skip
      refine ez_go (n := 1) (pc' := 9) (L' := [(2, .inl (k)), (0, .inr (.inr (some (738)))), (1, .inl (i))]) (st' := [.inr (.inr (some (738)))]) rfl ?_
      refine ez_g2 (p := p) hB t738 rfl rfl tq_70 rfl rfl (c.2.2.2.1.1) ?_
      refine ez_go (n := 1) (pc' := 13) (L' := [(2, .inl (k)), (0, .inr (.inr (some (738)))), (1, .inl (i))]) (st' := [.inl (k), .inr (.inr (some (p)))]) rfl ?_
      have n7 : 2000 ≤ qz_N h p ∧ qz_N h p ≤ 2000 := ez_len hB tp tq_89 rfl
      refine ez_aI hB tp rfl tq_89 rfl rfl (by omega) (by omega) (fun (b6 : -2147483648 ≤ qz_I h p (k).toNat) (b6' : qz_I h p (k).toNat ≤ 2147483647) => ?_)
      have e39 := (c.2.2.2.2 k (by omega) (by omega)).1
      rw [e39]
      refine ez_go (n := 1) (pc' := 16) (L' := [(2, .inl (k)), (0, .inr (.inr (some (738)))), (1, .inl (i))]) (st' := [.inl (73), .inl (uX u k)]) rfl ?_
      refine ez_icmp rfl rfl ⟨by first | omega | exact (sz_i32 _).1, by first | omega | exact (sz_i32 _).2⟩ ⟨by first | omega | exact (sz_i32 _).1, by first | omega | exact (sz_i32 _).2⟩ (fun (c8 : (uX u k) = (73)) => ?_) (fun (c8 : ¬((uX u k) = (73))) => ?_)
      · skip
        refine ez_go (n := 1) (pc' := 47) (L' := [(2, .inl (k)), (0, .inr (.inr (some (738)))), (1, .inl (i))]) (st' := [.inl (k)]) rfl ?_
        refine ez_if rfl rfl ⟨by first | omega | exact (sz_i32 _).1, by first | omega | exact (sz_i32 _).2⟩ (fun (c9 : (k) < (0)) => ?_) (fun (c9 : ¬((k) < (0))) => ?_)
        · skip
          refine ez_go (n := 1) (pc' := 66) (L' := [(2, .inl (k)), (0, .inr (.inr (some (738)))), (1, .inl (i))]) (st' := [.inl (0)]) rfl ?_
          refine ez_retZ rfl rfl (Or.inl rfl) (k0 ?_)
          first | (exfalso; omega) | exact scB_no hn (by omega) | exact scB_not hn (by omega) (by omega) (by unfold sP6; omega) (by unfold sH6; omega)
        · skip
          refine ez_go (n := 1) (pc' := 51) (L' := [(2, .inl (k)), (0, .inr (.inr (some (738)))), (1, .inl (i))]) (st' := [.inr (.inr (some (738)))]) rfl ?_
          refine ez_g2 (p := p) hB t738 rfl rfl tq_70 rfl rfl (c.2.2.2.1.1) ?_
          refine ez_go (n := 1) (pc' := 55) (L' := [(2, .inl (k)), (0, .inr (.inr (some (738)))), (1, .inl (i))]) (st' := [.inl (k), .inr (.inr (some (p)))]) rfl ?_
          have n11 : 2000 ≤ qz_N h p ∧ qz_N h p ≤ 2000 := ez_len hB tp tq_89 rfl
          refine ez_aI hB tp rfl tq_89 rfl rfl (by omega) (by omega) (fun (b10 : -2147483648 ≤ qz_I h p (k).toNat) (b10' : qz_I h p (k).toNat ≤ 2147483647) => ?_)
          have e39 := (c.2.2.2.2 k (by omega) (by omega)).1
          rw [e39]
          refine ez_go (n := 1) (pc' := 58) (L' := [(2, .inl (k)), (0, .inr (.inr (some (738)))), (1, .inl (i))]) (st' := [.inl (73), .inl (uX u k)]) rfl ?_
          refine ez_icmp rfl rfl ⟨by first | omega | exact (sz_i32 _).1, by first | omega | exact (sz_i32 _).2⟩ ⟨by first | omega | exact (sz_i32 _).1, by first | omega | exact (sz_i32 _).2⟩ (fun (c12 : (uX u k) ≠ (73)) => ?_) (fun (c12 : ¬((uX u k) ≠ (73))) => ?_)
          · skip
            refine ez_go (n := 1) (pc' := 66) (L' := [(2, .inl (k)), (0, .inr (.inr (some (738)))), (1, .inl (i))]) (st' := [.inl (0)]) rfl ?_
            refine ez_retZ rfl rfl (Or.inl rfl) (k0 ?_)
            first | (exfalso; omega) | exact scB_no hn (by omega) | exact scB_not hn (by omega) (by omega) (by unfold sP6; omega) (by unfold sH6; omega)
          · skip
            refine ez_go (n := 2) (pc' := 66) (L' := [(2, .inl (k)), (0, .inr (.inr (some (738)))), (1, .inl (i))]) (st' := [.inl (1)]) rfl ?_
            refine ez_retZ rfl rfl (Or.inr rfl) (k1 ?_)
            first | (exfalso; omega) | exact ⟨k, by omega, by omega, by unfold sP6; omega, by unfold sH6; omega, hn⟩
      · skip
        refine ez_go (n := 1) (pc' := 20) (L' := [(2, .inl (k)), (0, .inr (.inr (some (738)))), (1, .inl (i))]) (st' := [.inr (.inr (some (738)))]) rfl ?_
        refine ez_gC (p := 740) (tg := 72) hB t738 rfl rfl tq_70 rfl rfl (fun (t740 : _ = 72) => ?_)
        refine ez_go (n := 1) (pc' := 24) (L' := [(2, .inl (k)), (0, .inr (.inr (some (738)))), (1, .inl (i))]) (st' := [.inl (k), .inr (.inr (some (740)))]) rfl ?_
        have n14 : 2000 ≤ qz_N h 740 ∧ qz_N h 740 ≤ 2000 := ez_len hB t740 tq_72 rfl
        refine ez_aI hB t740 rfl tq_72 rfl rfl (by omega) (by omega) (fun (b13 : -2147483648 ≤ qz_I h 740 (k).toNat) (b13' : qz_I h 740 (k).toNat ≤ 2147483647) => ?_)
        have e40 := (c.2.2.2.2 k (by omega) (by omega)).2.1
        rw [e40]
        refine ez_if rfl rfl ⟨by first | omega | exact (sz_i32 _).1, by first | omega | exact (sz_i32 _).2⟩ (fun (c15 : (kc F u k) = (0)) => ?_) (fun (c15 : ¬((kc F u k) = (0))) => ?_)
        · skip
          refine ez_go (n := 1) (pc' := 47) (L' := [(2, .inl (k)), (0, .inr (.inr (some (738)))), (1, .inl (i))]) (st' := [.inl (k)]) rfl ?_
          refine ez_if rfl rfl ⟨by first | omega | exact (sz_i32 _).1, by first | omega | exact (sz_i32 _).2⟩ (fun (c16 : (k) < (0)) => ?_) (fun (c16 : ¬((k) < (0))) => ?_)
          · skip
            refine ez_go (n := 1) (pc' := 66) (L' := [(2, .inl (k)), (0, .inr (.inr (some (738)))), (1, .inl (i))]) (st' := [.inl (0)]) rfl ?_
            refine ez_retZ rfl rfl (Or.inl rfl) (k0 ?_)
            first | (exfalso; omega) | exact scB_no hn (by omega) | exact scB_not hn (by omega) (by omega) (by unfold sP6; omega) (by unfold sH6; omega)
          · skip
            refine ez_go (n := 1) (pc' := 51) (L' := [(2, .inl (k)), (0, .inr (.inr (some (738)))), (1, .inl (i))]) (st' := [.inr (.inr (some (738)))]) rfl ?_
            refine ez_g2 (p := p) hB t738 rfl rfl tq_70 rfl rfl (c.2.2.2.1.1) ?_
            refine ez_go (n := 1) (pc' := 55) (L' := [(2, .inl (k)), (0, .inr (.inr (some (738)))), (1, .inl (i))]) (st' := [.inl (k), .inr (.inr (some (p)))]) rfl ?_
            have n18 : 2000 ≤ qz_N h p ∧ qz_N h p ≤ 2000 := ez_len hB tp tq_89 rfl
            refine ez_aI hB tp rfl tq_89 rfl rfl (by omega) (by omega) (fun (b17 : -2147483648 ≤ qz_I h p (k).toNat) (b17' : qz_I h p (k).toNat ≤ 2147483647) => ?_)
            have e39 := (c.2.2.2.2 k (by omega) (by omega)).1
            rw [e39]
            refine ez_go (n := 1) (pc' := 58) (L' := [(2, .inl (k)), (0, .inr (.inr (some (738)))), (1, .inl (i))]) (st' := [.inl (73), .inl (uX u k)]) rfl ?_
            refine ez_icmp rfl rfl ⟨by first | omega | exact (sz_i32 _).1, by first | omega | exact (sz_i32 _).2⟩ ⟨by first | omega | exact (sz_i32 _).1, by first | omega | exact (sz_i32 _).2⟩ (fun (c19 : (uX u k) ≠ (73)) => ?_) (fun (c19 : ¬((uX u k) ≠ (73))) => ?_)
            · skip
              refine ez_go (n := 1) (pc' := 66) (L' := [(2, .inl (k)), (0, .inr (.inr (some (738)))), (1, .inl (i))]) (st' := [.inl (0)]) rfl ?_
              refine ez_retZ rfl rfl (Or.inl rfl) (k0 ?_)
              first | (exfalso; omega) | exact scB_no hn (by omega) | exact scB_not hn (by omega) (by omega) (by unfold sP6; omega) (by unfold sH6; omega)
            · skip
              refine ez_go (n := 2) (pc' := 66) (L' := [(2, .inl (k)), (0, .inr (.inr (some (738)))), (1, .inl (i))]) (st' := [.inl (1)]) rfl ?_
              refine ez_retZ rfl rfl (Or.inr rfl) (k1 ?_)
              first | (exfalso; omega) | exact ⟨k, by omega, by omega, by unfold sP6; omega, by unfold sH6; omega, hn⟩
        · skip
          refine ez_go (n := 1) (pc' := 29) (L' := [(2, .inl (k)), (0, .inr (.inr (some (738)))), (1, .inl (i))]) (st' := [.inr (.inr (some (738)))]) rfl ?_
          refine ez_gC (p := 740) (tg := 72) hB t738 rfl rfl tq_70 rfl rfl (fun (t740 : _ = 72) => ?_)
          refine ez_go (n := 1) (pc' := 33) (L' := [(2, .inl (k)), (0, .inr (.inr (some (738)))), (1, .inl (i))]) (st' := [.inl (k), .inr (.inr (some (740)))]) rfl ?_
          have n21 : 2000 ≤ qz_N h 740 ∧ qz_N h 740 ≤ 2000 := ez_len hB t740 tq_72 rfl
          refine ez_aI hB t740 rfl tq_72 rfl rfl (by omega) (by omega) (fun (b20 : -2147483648 ≤ qz_I h 740 (k).toNat) (b20' : qz_I h 740 (k).toNat ≤ 2147483647) => ?_)
          have e40 := (c.2.2.2.2 k (by omega) (by omega)).2.1
          rw [e40]
          refine ez_go (n := 1) (pc' := 37) (L' := [(2, .inl (k)), (0, .inr (.inr (some (738)))), (1, .inl (i))]) (st' := [.inl (230), .inl (kc F u k)]) rfl ?_
          refine ez_icmp rfl rfl ⟨by first | omega | exact (sz_i32 _).1, by first | omega | exact (sz_i32 _).2⟩ ⟨by first | omega | exact (sz_i32 _).1, by first | omega | exact (sz_i32 _).2⟩ (fun (c22 : (kc F u k) = (230)) => ?_) (fun (c22 : ¬((kc F u k) = (230))) => ?_)
          · skip
            refine ez_go (n := 1) (pc' := 47) (L' := [(2, .inl (k)), (0, .inr (.inr (some (738)))), (1, .inl (i))]) (st' := [.inl (k)]) rfl ?_
            refine ez_if rfl rfl ⟨by first | omega | exact (sz_i32 _).1, by first | omega | exact (sz_i32 _).2⟩ (fun (c23 : (k) < (0)) => ?_) (fun (c23 : ¬((k) < (0))) => ?_)
            · skip
              refine ez_go (n := 1) (pc' := 66) (L' := [(2, .inl (k)), (0, .inr (.inr (some (738)))), (1, .inl (i))]) (st' := [.inl (0)]) rfl ?_
              refine ez_retZ rfl rfl (Or.inl rfl) (k0 ?_)
              first | (exfalso; omega) | exact scB_no hn (by omega) | exact scB_not hn (by omega) (by omega) (by unfold sP6; omega) (by unfold sH6; omega)
            · skip
              refine ez_go (n := 1) (pc' := 51) (L' := [(2, .inl (k)), (0, .inr (.inr (some (738)))), (1, .inl (i))]) (st' := [.inr (.inr (some (738)))]) rfl ?_
              refine ez_g2 (p := p) hB t738 rfl rfl tq_70 rfl rfl (c.2.2.2.1.1) ?_
              refine ez_go (n := 1) (pc' := 55) (L' := [(2, .inl (k)), (0, .inr (.inr (some (738)))), (1, .inl (i))]) (st' := [.inl (k), .inr (.inr (some (p)))]) rfl ?_
              have n25 : 2000 ≤ qz_N h p ∧ qz_N h p ≤ 2000 := ez_len hB tp tq_89 rfl
              refine ez_aI hB tp rfl tq_89 rfl rfl (by omega) (by omega) (fun (b24 : -2147483648 ≤ qz_I h p (k).toNat) (b24' : qz_I h p (k).toNat ≤ 2147483647) => ?_)
              have e39 := (c.2.2.2.2 k (by omega) (by omega)).1
              rw [e39]
              refine ez_go (n := 1) (pc' := 58) (L' := [(2, .inl (k)), (0, .inr (.inr (some (738)))), (1, .inl (i))]) (st' := [.inl (73), .inl (uX u k)]) rfl ?_
              refine ez_icmp rfl rfl ⟨by first | omega | exact (sz_i32 _).1, by first | omega | exact (sz_i32 _).2⟩ ⟨by first | omega | exact (sz_i32 _).1, by first | omega | exact (sz_i32 _).2⟩ (fun (c26 : (uX u k) ≠ (73)) => ?_) (fun (c26 : ¬((uX u k) ≠ (73))) => ?_)
              · skip
                refine ez_go (n := 1) (pc' := 66) (L' := [(2, .inl (k)), (0, .inr (.inr (some (738)))), (1, .inl (i))]) (st' := [.inl (0)]) rfl ?_
                refine ez_retZ rfl rfl (Or.inl rfl) (k0 ?_)
                first | (exfalso; omega) | exact scB_no hn (by omega) | exact scB_not hn (by omega) (by omega) (by unfold sP6; omega) (by unfold sH6; omega)
              · skip
                refine ez_go (n := 2) (pc' := 66) (L' := [(2, .inl (k)), (0, .inr (.inr (some (738)))), (1, .inl (i))]) (st' := [.inl (1)]) rfl ?_
                refine ez_retZ rfl rfl (Or.inr rfl) (k1 ?_)
                first | (exfalso; omega) | exact ⟨k, by omega, by omega, by unfold sP6; omega, by unfold sH6; omega, hn⟩
          · skip
            refine ez_go (n := 2) (pc' := 4) (L' := [(2, .inl (k + (-1))), (0, .inr (.inr (some (738)))), (1, .inl (i))]) (st' := []) rfl ?_
            exfalso; omega
  | succ n ih =>
    intro k hn0 ka kb hn
    refine ez_go (n := 1) (pc' := 5) (L' := [(2, .inl (k)), (0, .inr (.inr (some (738)))), (1, .inl (i))]) (st' := [.inl (k)]) rfl ?_
    refine ez_if rfl rfl ⟨by first | omega | exact (sz_i32 _).1, by first | omega | exact (sz_i32 _).2⟩ (fun (c1 : (k) < (0)) => ?_) (fun (c1 : ¬((k) < (0))) => ?_)
    · skip
      refine ez_go (n := 1) (pc' := 47) (L' := [(2, .inl (k)), (0, .inr (.inr (some (738)))), (1, .inl (i))]) (st' := [.inl (k)]) rfl ?_
      refine ez_if rfl rfl ⟨by first | omega | exact (sz_i32 _).1, by first | omega | exact (sz_i32 _).2⟩ (fun (c2 : (k) < (0)) => ?_) (fun (c2 : ¬((k) < (0))) => ?_)
      · skip
        refine ez_go (n := 1) (pc' := 66) (L' := [(2, .inl (k)), (0, .inr (.inr (some (738)))), (1, .inl (i))]) (st' := [.inl (0)]) rfl ?_
        refine ez_retZ rfl rfl (Or.inl rfl) (k0 ?_)
        first | (exfalso; omega) | exact scB_no hn (by omega) | exact scB_not hn (by omega) (by omega) (by unfold sP6; omega) (by unfold sH6; omega)
      · skip
        refine ez_go (n := 1) (pc' := 51) (L' := [(2, .inl (k)), (0, .inr (.inr (some (738)))), (1, .inl (i))]) (st' := [.inr (.inr (some (738)))]) rfl ?_
        refine ez_g2 (p := p) hB t738 rfl rfl tq_70 rfl rfl (c.2.2.2.1.1) ?_
        refine ez_go (n := 1) (pc' := 55) (L' := [(2, .inl (k)), (0, .inr (.inr (some (738)))), (1, .inl (i))]) (st' := [.inl (k), .inr (.inr (some (p)))]) rfl ?_
        have n4 : 2000 ≤ qz_N h p ∧ qz_N h p ≤ 2000 := ez_len hB tp tq_89 rfl
        refine ez_aI hB tp rfl tq_89 rfl rfl (by omega) (by omega) (fun (b3 : -2147483648 ≤ qz_I h p (k).toNat) (b3' : qz_I h p (k).toNat ≤ 2147483647) => ?_)
        have e39 := (c.2.2.2.2 k (by omega) (by omega)).1
        rw [e39]
        refine ez_go (n := 1) (pc' := 58) (L' := [(2, .inl (k)), (0, .inr (.inr (some (738)))), (1, .inl (i))]) (st' := [.inl (73), .inl (uX u k)]) rfl ?_
        refine ez_icmp rfl rfl ⟨by first | omega | exact (sz_i32 _).1, by first | omega | exact (sz_i32 _).2⟩ ⟨by first | omega | exact (sz_i32 _).1, by first | omega | exact (sz_i32 _).2⟩ (fun (c5 : (uX u k) ≠ (73)) => ?_) (fun (c5 : ¬((uX u k) ≠ (73))) => ?_)
        · skip
          refine ez_go (n := 1) (pc' := 66) (L' := [(2, .inl (k)), (0, .inr (.inr (some (738)))), (1, .inl (i))]) (st' := [.inl (0)]) rfl ?_
          refine ez_retZ rfl rfl (Or.inl rfl) (k0 ?_)
          first | (exfalso; omega) | exact scB_no hn (by omega) | exact scB_not hn (by omega) (by omega) (by unfold sP6; omega) (by unfold sH6; omega)
        · skip
          refine ez_go (n := 2) (pc' := 66) (L' := [(2, .inl (k)), (0, .inr (.inr (some (738)))), (1, .inl (i))]) (st' := [.inl (1)]) rfl ?_
          refine ez_retZ rfl rfl (Or.inr rfl) (k1 ?_)
          first | (exfalso; omega) | exact ⟨k, by omega, by omega, by unfold sP6; omega, by unfold sH6; omega, hn⟩
    · skip
      refine ez_go (n := 1) (pc' := 9) (L' := [(2, .inl (k)), (0, .inr (.inr (some (738)))), (1, .inl (i))]) (st' := [.inr (.inr (some (738)))]) rfl ?_
      refine ez_g2 (p := p) hB t738 rfl rfl tq_70 rfl rfl (c.2.2.2.1.1) ?_
      refine ez_go (n := 1) (pc' := 13) (L' := [(2, .inl (k)), (0, .inr (.inr (some (738)))), (1, .inl (i))]) (st' := [.inl (k), .inr (.inr (some (p)))]) rfl ?_
      have n7 : 2000 ≤ qz_N h p ∧ qz_N h p ≤ 2000 := ez_len hB tp tq_89 rfl
      refine ez_aI hB tp rfl tq_89 rfl rfl (by omega) (by omega) (fun (b6 : -2147483648 ≤ qz_I h p (k).toNat) (b6' : qz_I h p (k).toNat ≤ 2147483647) => ?_)
      have e39 := (c.2.2.2.2 k (by omega) (by omega)).1
      rw [e39]
      refine ez_go (n := 1) (pc' := 16) (L' := [(2, .inl (k)), (0, .inr (.inr (some (738)))), (1, .inl (i))]) (st' := [.inl (73), .inl (uX u k)]) rfl ?_
      refine ez_icmp rfl rfl ⟨by first | omega | exact (sz_i32 _).1, by first | omega | exact (sz_i32 _).2⟩ ⟨by first | omega | exact (sz_i32 _).1, by first | omega | exact (sz_i32 _).2⟩ (fun (c8 : (uX u k) = (73)) => ?_) (fun (c8 : ¬((uX u k) = (73))) => ?_)
      · skip
        refine ez_go (n := 1) (pc' := 47) (L' := [(2, .inl (k)), (0, .inr (.inr (some (738)))), (1, .inl (i))]) (st' := [.inl (k)]) rfl ?_
        refine ez_if rfl rfl ⟨by first | omega | exact (sz_i32 _).1, by first | omega | exact (sz_i32 _).2⟩ (fun (c9 : (k) < (0)) => ?_) (fun (c9 : ¬((k) < (0))) => ?_)
        · skip
          refine ez_go (n := 1) (pc' := 66) (L' := [(2, .inl (k)), (0, .inr (.inr (some (738)))), (1, .inl (i))]) (st' := [.inl (0)]) rfl ?_
          refine ez_retZ rfl rfl (Or.inl rfl) (k0 ?_)
          first | (exfalso; omega) | exact scB_no hn (by omega) | exact scB_not hn (by omega) (by omega) (by unfold sP6; omega) (by unfold sH6; omega)
        · skip
          refine ez_go (n := 1) (pc' := 51) (L' := [(2, .inl (k)), (0, .inr (.inr (some (738)))), (1, .inl (i))]) (st' := [.inr (.inr (some (738)))]) rfl ?_
          refine ez_g2 (p := p) hB t738 rfl rfl tq_70 rfl rfl (c.2.2.2.1.1) ?_
          refine ez_go (n := 1) (pc' := 55) (L' := [(2, .inl (k)), (0, .inr (.inr (some (738)))), (1, .inl (i))]) (st' := [.inl (k), .inr (.inr (some (p)))]) rfl ?_
          have n11 : 2000 ≤ qz_N h p ∧ qz_N h p ≤ 2000 := ez_len hB tp tq_89 rfl
          refine ez_aI hB tp rfl tq_89 rfl rfl (by omega) (by omega) (fun (b10 : -2147483648 ≤ qz_I h p (k).toNat) (b10' : qz_I h p (k).toNat ≤ 2147483647) => ?_)
          have e39 := (c.2.2.2.2 k (by omega) (by omega)).1
          rw [e39]
          refine ez_go (n := 1) (pc' := 58) (L' := [(2, .inl (k)), (0, .inr (.inr (some (738)))), (1, .inl (i))]) (st' := [.inl (73), .inl (uX u k)]) rfl ?_
          refine ez_icmp rfl rfl ⟨by first | omega | exact (sz_i32 _).1, by first | omega | exact (sz_i32 _).2⟩ ⟨by first | omega | exact (sz_i32 _).1, by first | omega | exact (sz_i32 _).2⟩ (fun (c12 : (uX u k) ≠ (73)) => ?_) (fun (c12 : ¬((uX u k) ≠ (73))) => ?_)
          · skip
            refine ez_go (n := 1) (pc' := 66) (L' := [(2, .inl (k)), (0, .inr (.inr (some (738)))), (1, .inl (i))]) (st' := [.inl (0)]) rfl ?_
            refine ez_retZ rfl rfl (Or.inl rfl) (k0 ?_)
            first | (exfalso; omega) | exact scB_no hn (by omega) | exact scB_not hn (by omega) (by omega) (by unfold sP6; omega) (by unfold sH6; omega)
          · skip
            refine ez_go (n := 2) (pc' := 66) (L' := [(2, .inl (k)), (0, .inr (.inr (some (738)))), (1, .inl (i))]) (st' := [.inl (1)]) rfl ?_
            refine ez_retZ rfl rfl (Or.inr rfl) (k1 ?_)
            first | (exfalso; omega) | exact ⟨k, by omega, by omega, by unfold sP6; omega, by unfold sH6; omega, hn⟩
      · skip
        refine ez_go (n := 1) (pc' := 20) (L' := [(2, .inl (k)), (0, .inr (.inr (some (738)))), (1, .inl (i))]) (st' := [.inr (.inr (some (738)))]) rfl ?_
        refine ez_gC (p := 740) (tg := 72) hB t738 rfl rfl tq_70 rfl rfl (fun (t740 : _ = 72) => ?_)
        refine ez_go (n := 1) (pc' := 24) (L' := [(2, .inl (k)), (0, .inr (.inr (some (738)))), (1, .inl (i))]) (st' := [.inl (k), .inr (.inr (some (740)))]) rfl ?_
        have n14 : 2000 ≤ qz_N h 740 ∧ qz_N h 740 ≤ 2000 := ez_len hB t740 tq_72 rfl
        refine ez_aI hB t740 rfl tq_72 rfl rfl (by omega) (by omega) (fun (b13 : -2147483648 ≤ qz_I h 740 (k).toNat) (b13' : qz_I h 740 (k).toNat ≤ 2147483647) => ?_)
        have e40 := (c.2.2.2.2 k (by omega) (by omega)).2.1
        rw [e40]
        refine ez_if rfl rfl ⟨by first | omega | exact (sz_i32 _).1, by first | omega | exact (sz_i32 _).2⟩ (fun (c15 : (kc F u k) = (0)) => ?_) (fun (c15 : ¬((kc F u k) = (0))) => ?_)
        · skip
          refine ez_go (n := 1) (pc' := 47) (L' := [(2, .inl (k)), (0, .inr (.inr (some (738)))), (1, .inl (i))]) (st' := [.inl (k)]) rfl ?_
          refine ez_if rfl rfl ⟨by first | omega | exact (sz_i32 _).1, by first | omega | exact (sz_i32 _).2⟩ (fun (c16 : (k) < (0)) => ?_) (fun (c16 : ¬((k) < (0))) => ?_)
          · skip
            refine ez_go (n := 1) (pc' := 66) (L' := [(2, .inl (k)), (0, .inr (.inr (some (738)))), (1, .inl (i))]) (st' := [.inl (0)]) rfl ?_
            refine ez_retZ rfl rfl (Or.inl rfl) (k0 ?_)
            first | (exfalso; omega) | exact scB_no hn (by omega) | exact scB_not hn (by omega) (by omega) (by unfold sP6; omega) (by unfold sH6; omega)
          · skip
            refine ez_go (n := 1) (pc' := 51) (L' := [(2, .inl (k)), (0, .inr (.inr (some (738)))), (1, .inl (i))]) (st' := [.inr (.inr (some (738)))]) rfl ?_
            refine ez_g2 (p := p) hB t738 rfl rfl tq_70 rfl rfl (c.2.2.2.1.1) ?_
            refine ez_go (n := 1) (pc' := 55) (L' := [(2, .inl (k)), (0, .inr (.inr (some (738)))), (1, .inl (i))]) (st' := [.inl (k), .inr (.inr (some (p)))]) rfl ?_
            have n18 : 2000 ≤ qz_N h p ∧ qz_N h p ≤ 2000 := ez_len hB tp tq_89 rfl
            refine ez_aI hB tp rfl tq_89 rfl rfl (by omega) (by omega) (fun (b17 : -2147483648 ≤ qz_I h p (k).toNat) (b17' : qz_I h p (k).toNat ≤ 2147483647) => ?_)
            have e39 := (c.2.2.2.2 k (by omega) (by omega)).1
            rw [e39]
            refine ez_go (n := 1) (pc' := 58) (L' := [(2, .inl (k)), (0, .inr (.inr (some (738)))), (1, .inl (i))]) (st' := [.inl (73), .inl (uX u k)]) rfl ?_
            refine ez_icmp rfl rfl ⟨by first | omega | exact (sz_i32 _).1, by first | omega | exact (sz_i32 _).2⟩ ⟨by first | omega | exact (sz_i32 _).1, by first | omega | exact (sz_i32 _).2⟩ (fun (c19 : (uX u k) ≠ (73)) => ?_) (fun (c19 : ¬((uX u k) ≠ (73))) => ?_)
            · skip
              refine ez_go (n := 1) (pc' := 66) (L' := [(2, .inl (k)), (0, .inr (.inr (some (738)))), (1, .inl (i))]) (st' := [.inl (0)]) rfl ?_
              refine ez_retZ rfl rfl (Or.inl rfl) (k0 ?_)
              first | (exfalso; omega) | exact scB_no hn (by omega) | exact scB_not hn (by omega) (by omega) (by unfold sP6; omega) (by unfold sH6; omega)
            · skip
              refine ez_go (n := 2) (pc' := 66) (L' := [(2, .inl (k)), (0, .inr (.inr (some (738)))), (1, .inl (i))]) (st' := [.inl (1)]) rfl ?_
              refine ez_retZ rfl rfl (Or.inr rfl) (k1 ?_)
              first | (exfalso; omega) | exact ⟨k, by omega, by omega, by unfold sP6; omega, by unfold sH6; omega, hn⟩
        · skip
          refine ez_go (n := 1) (pc' := 29) (L' := [(2, .inl (k)), (0, .inr (.inr (some (738)))), (1, .inl (i))]) (st' := [.inr (.inr (some (738)))]) rfl ?_
          refine ez_gC (p := 740) (tg := 72) hB t738 rfl rfl tq_70 rfl rfl (fun (t740 : _ = 72) => ?_)
          refine ez_go (n := 1) (pc' := 33) (L' := [(2, .inl (k)), (0, .inr (.inr (some (738)))), (1, .inl (i))]) (st' := [.inl (k), .inr (.inr (some (740)))]) rfl ?_
          have n21 : 2000 ≤ qz_N h 740 ∧ qz_N h 740 ≤ 2000 := ez_len hB t740 tq_72 rfl
          refine ez_aI hB t740 rfl tq_72 rfl rfl (by omega) (by omega) (fun (b20 : -2147483648 ≤ qz_I h 740 (k).toNat) (b20' : qz_I h 740 (k).toNat ≤ 2147483647) => ?_)
          have e40 := (c.2.2.2.2 k (by omega) (by omega)).2.1
          rw [e40]
          refine ez_go (n := 1) (pc' := 37) (L' := [(2, .inl (k)), (0, .inr (.inr (some (738)))), (1, .inl (i))]) (st' := [.inl (230), .inl (kc F u k)]) rfl ?_
          refine ez_icmp rfl rfl ⟨by first | omega | exact (sz_i32 _).1, by first | omega | exact (sz_i32 _).2⟩ ⟨by first | omega | exact (sz_i32 _).1, by first | omega | exact (sz_i32 _).2⟩ (fun (c22 : (kc F u k) = (230)) => ?_) (fun (c22 : ¬((kc F u k) = (230))) => ?_)
          · skip
            refine ez_go (n := 1) (pc' := 47) (L' := [(2, .inl (k)), (0, .inr (.inr (some (738)))), (1, .inl (i))]) (st' := [.inl (k)]) rfl ?_
            refine ez_if rfl rfl ⟨by first | omega | exact (sz_i32 _).1, by first | omega | exact (sz_i32 _).2⟩ (fun (c23 : (k) < (0)) => ?_) (fun (c23 : ¬((k) < (0))) => ?_)
            · skip
              refine ez_go (n := 1) (pc' := 66) (L' := [(2, .inl (k)), (0, .inr (.inr (some (738)))), (1, .inl (i))]) (st' := [.inl (0)]) rfl ?_
              refine ez_retZ rfl rfl (Or.inl rfl) (k0 ?_)
              first | (exfalso; omega) | exact scB_no hn (by omega) | exact scB_not hn (by omega) (by omega) (by unfold sP6; omega) (by unfold sH6; omega)
            · skip
              refine ez_go (n := 1) (pc' := 51) (L' := [(2, .inl (k)), (0, .inr (.inr (some (738)))), (1, .inl (i))]) (st' := [.inr (.inr (some (738)))]) rfl ?_
              refine ez_g2 (p := p) hB t738 rfl rfl tq_70 rfl rfl (c.2.2.2.1.1) ?_
              refine ez_go (n := 1) (pc' := 55) (L' := [(2, .inl (k)), (0, .inr (.inr (some (738)))), (1, .inl (i))]) (st' := [.inl (k), .inr (.inr (some (p)))]) rfl ?_
              have n25 : 2000 ≤ qz_N h p ∧ qz_N h p ≤ 2000 := ez_len hB tp tq_89 rfl
              refine ez_aI hB tp rfl tq_89 rfl rfl (by omega) (by omega) (fun (b24 : -2147483648 ≤ qz_I h p (k).toNat) (b24' : qz_I h p (k).toNat ≤ 2147483647) => ?_)
              have e39 := (c.2.2.2.2 k (by omega) (by omega)).1
              rw [e39]
              refine ez_go (n := 1) (pc' := 58) (L' := [(2, .inl (k)), (0, .inr (.inr (some (738)))), (1, .inl (i))]) (st' := [.inl (73), .inl (uX u k)]) rfl ?_
              refine ez_icmp rfl rfl ⟨by first | omega | exact (sz_i32 _).1, by first | omega | exact (sz_i32 _).2⟩ ⟨by first | omega | exact (sz_i32 _).1, by first | omega | exact (sz_i32 _).2⟩ (fun (c26 : (uX u k) ≠ (73)) => ?_) (fun (c26 : ¬((uX u k) ≠ (73))) => ?_)
              · skip
                refine ez_go (n := 1) (pc' := 66) (L' := [(2, .inl (k)), (0, .inr (.inr (some (738)))), (1, .inl (i))]) (st' := [.inl (0)]) rfl ?_
                refine ez_retZ rfl rfl (Or.inl rfl) (k0 ?_)
                first | (exfalso; omega) | exact scB_no hn (by omega) | exact scB_not hn (by omega) (by omega) (by unfold sP6; omega) (by unfold sH6; omega)
              · skip
                refine ez_go (n := 2) (pc' := 66) (L' := [(2, .inl (k)), (0, .inr (.inr (some (738)))), (1, .inl (i))]) (st' := [.inl (1)]) rfl ?_
                refine ez_retZ rfl rfl (Or.inr rfl) (k1 ?_)
                first | (exfalso; omega) | exact ⟨k, by omega, by omega, by unfold sP6; omega, by unfold sH6; omega, hn⟩
          · skip
            refine ez_go (n := 2) (pc' := 4) (L' := [(2, .inl (k + (-1))), (0, .inr (.inr (some (738)))), (1, .inl (i))]) (st' := []) rfl ?_
            refine ez_less [(2, .inl (k + (-1))), (0, .inr (.inr (some (738)))), (1, .inl (i))] rfl ⟨rfl, rfl, rfl, trivial⟩ ?_
            exact ih _ (by omega) (by omega) (by omega) (scB_st hn (by unfold sP6; omega))

theorem rd_capitalIBefore {i : Int} (c : ckC τ h F D p u loc) (i0 : 0 ≤ i) (i1 : i < (u.length : Int)) (k1 : scB (sP6 F u 73) (sH6 u 73) i → Q (.inl (some (ez_v (.inl 1))), h)) (k0 : ¬ scB (sP6 F u 73) (sH6 u 73) i → Q (.inl (some (ez_v (.inl 0))), h)) : ez_W d cm_65 0 [(0, .inr (.inr (some (738)))), (1, .inl (i))] [] h Q := by
  have hB := c.1.1
  have t738 : τ 738 = 70 := c.1.2 738 (by decide)
  have tp := c.2.1
  have n2 := c.2.2.1.1
  have e7 := c.2.2.2.1.2.1
  refine ez_go (n := 4) (pc' := 4) (L' := [(2, .inl ((i) - (1))), (0, .inr (.inr (some (738)))), (1, .inl (i))]) (st' := []) rfl ?_
  refine ez_less [(2, .inl ((i) - (1))), (0, .inr (.inr (some (738)))), (1, .inl (i))] rfl ⟨rfl, rfl, rfl, trivial⟩ ?_
  exact rd_capitalIBefore_l c i0 i1 k1 k0 _ _ rfl (by omega) (by omega) (fun j a b => by omega)

theorem rd_holds0 {i : Int} (c : ckC τ h F D p u loc) (lr : ez_rg loc) (i0 : 0 ≤ i) (i1 : i < (u.length : Int)) (k1 : cnd D F u loc 0 i → Q (.inl (some (ez_v (.inl 1))), h)) (k0 : ¬ cnd D F u loc 0 i → Q (.inl (some (ez_v (.inl 0))), h)) : ez_W (d + 1) cm_72 0 [(0, .inr (.inr (some (738)))), (1, .inl (0)), (2, .inl (i))] [] h Q := by
  have hB := c.1.1
  have t738 : τ 738 = 70 := c.1.2 738 (by decide)
  have tp := c.2.1
  have n2 := c.2.2.1.1
  have e7 := c.2.2.2.1.2.1
  obtain ⟨lr1, lr2⟩ := id lr
  refine ez_go (n := 1) (pc' := 1) (L' := [(0, .inr (.inr (some (738)))), (1, .inl (0)), (2, .inl (i))]) (st' := [.inl (0)]) rfl ?_
  refine ez_sw rfl ⟨by decide, by decide⟩ ⟨_, rfl, rfl⟩ ?_
  refine ez_go (n := 1) (pc' := 49) (L' := [(0, .inr (.inr (some (738)))), (1, .inl (0)), (2, .inl (i))]) (st' := [.inr (.inr (some (738)))]) rfl ?_
  refine ez_gI hB t738 rfl rfl tq_70 rfl rfl (fun (b1 : -2147483648 ≤ qz_I h 738 8) (b1' : qz_I h 738 8 ≤ 2147483647) => ?_)
  have e8 := c.2.2.2.1.2.2
  rw [e8]
  refine ez_go (n := 1) (pc' := 53) (L' := [(0, .inr (.inr (some (738)))), (1, .inl (0)), (2, .inl (i))]) (st' := [.inl (1), .inl (loc)]) rfl ?_
  refine ez_icmp rfl rfl ⟨by first | omega | exact (sz_i32 _).1, by first | omega | exact (sz_i32 _).2⟩ ⟨by first | omega | exact (sz_i32 _).1, by first | omega | exact (sz_i32 _).2⟩ (fun (c2 : (loc) ≠ (1)) => ?_) (fun (c2 : ¬((loc) ≠ (1))) => ?_)
  · skip
    refine ez_go (n := 1) (pc' := 61) (L' := [(0, .inr (.inr (some (738)))), (1, .inl (0)), (2, .inl (i))]) (st' := [.inl (0)]) rfl ?_
    exact ez_retZ rfl rfl (Or.inl rfl) (k0 (fun q => by have q := cnd_0.mp q; first | omega | exact w1 q | exact w1 q.1 | exact q.2 w2 | exact q w1))
  · skip
    refine ez_go (n := 2) (pc' := 61) (L' := [(0, .inr (.inr (some (738)))), (1, .inl (0)), (2, .inl (i))]) (st' := [.inl (1)]) rfl ?_
    exact ez_retZ rfl rfl (Or.inr rfl) (k1 (cnd_0.mpr (by first | omega | exact w1 | exact ⟨w1, w2⟩)))

theorem rd_holds1 {i : Int} (c : ckC τ h F D p u loc) (lr : ez_rg loc) (i0 : 0 ≤ i) (i1 : i < (u.length : Int)) (k1 : cnd D F u loc 1 i → Q (.inl (some (ez_v (.inl 1))), h)) (k0 : ¬ cnd D F u loc 1 i → Q (.inl (some (ez_v (.inl 0))), h)) : ez_W (d + 1) cm_72 0 [(0, .inr (.inr (some (738)))), (1, .inl (1)), (2, .inl (i))] [] h Q := by
  have hB := c.1.1
  have t738 : τ 738 = 70 := c.1.2 738 (by decide)
  have tp := c.2.1
  have n2 := c.2.2.1.1
  have e7 := c.2.2.2.1.2.1
  obtain ⟨lr1, lr2⟩ := id lr
  refine ez_go (n := 1) (pc' := 1) (L' := [(0, .inr (.inr (some (738)))), (1, .inl (1)), (2, .inl (i))]) (st' := [.inl (1)]) rfl ?_
  refine ez_sw rfl ⟨by decide, by decide⟩ ⟨_, rfl, rfl⟩ ?_
  refine ez_go (n := 1) (pc' := 63) (L' := [(0, .inr (.inr (some (738)))), (1, .inl (1)), (2, .inl (i))]) (st' := [.inr (.inr (some (738)))]) rfl ?_
  refine ez_gI hB t738 rfl rfl tq_70 rfl rfl (fun (b1 : -2147483648 ≤ qz_I h 738 8) (b1' : qz_I h 738 8 ≤ 2147483647) => ?_)
  have e8 := c.2.2.2.1.2.2
  rw [e8]
  refine ez_go (n := 1) (pc' := 67) (L' := [(0, .inr (.inr (some (738)))), (1, .inl (1)), (2, .inl (i))]) (st' := [.inl (2), .inl (loc)]) rfl ?_
  refine ez_icmp rfl rfl ⟨by first | omega | exact (sz_i32 _).1, by first | omega | exact (sz_i32 _).2⟩ ⟨by first | omega | exact (sz_i32 _).1, by first | omega | exact (sz_i32 _).2⟩ (fun (c2 : (loc) ≠ (2)) => ?_) (fun (c2 : ¬((loc) ≠ (2))) => ?_)
  · skip
    refine ez_go (n := 1) (pc' := 75) (L' := [(0, .inr (.inr (some (738)))), (1, .inl (1)), (2, .inl (i))]) (st' := [.inl (0)]) rfl ?_
    exact ez_retZ rfl rfl (Or.inl rfl) (k0 (fun q => by have q := cnd_1.mp q; first | omega | exact w1 q | exact w1 q.1 | exact q.2 w2 | exact q w1))
  · skip
    refine ez_go (n := 2) (pc' := 75) (L' := [(0, .inr (.inr (some (738)))), (1, .inl (1)), (2, .inl (i))]) (st' := [.inl (1)]) rfl ?_
    exact ez_retZ rfl rfl (Or.inr rfl) (k1 (cnd_1.mpr (by first | omega | exact w1 | exact ⟨w1, w2⟩)))

theorem rd_holds2 {i : Int} (c : ckC τ h F D p u loc) (lr : ez_rg loc) (i0 : 0 ≤ i) (i1 : i < (u.length : Int)) (k1 : cnd D F u loc 2 i → Q (.inl (some (ez_v (.inl 1))), h)) (k0 : ¬ cnd D F u loc 2 i → Q (.inl (some (ez_v (.inl 0))), h)) : ez_W (d + 1) cm_72 0 [(0, .inr (.inr (some (738)))), (1, .inl (2)), (2, .inl (i))] [] h Q := by
  have hB := c.1.1
  have t738 : τ 738 = 70 := c.1.2 738 (by decide)
  have tp := c.2.1
  have n2 := c.2.2.1.1
  have e7 := c.2.2.2.1.2.1
  obtain ⟨lr1, lr2⟩ := id lr
  refine ez_go (n := 1) (pc' := 1) (L' := [(0, .inr (.inr (some (738)))), (1, .inl (2)), (2, .inl (i))]) (st' := [.inl (2)]) rfl ?_
  refine ez_sw rfl ⟨by decide, by decide⟩ ⟨_, rfl, rfl⟩ ?_
  refine ez_go (n := 1) (pc' := 77) (L' := [(0, .inr (.inr (some (738)))), (1, .inl (2)), (2, .inl (i))]) (st' := [.inr (.inr (some (738)))]) rfl ?_
  refine ez_gI hB t738 rfl rfl tq_70 rfl rfl (fun (b1 : -2147483648 ≤ qz_I h 738 8) (b1' : qz_I h 738 8 ≤ 2147483647) => ?_)
  have e8 := c.2.2.2.1.2.2
  rw [e8]
  refine ez_go (n := 1) (pc' := 81) (L' := [(0, .inr (.inr (some (738)))), (1, .inl (2)), (2, .inl (i))]) (st' := [.inl (3), .inl (loc)]) rfl ?_
  refine ez_icmp rfl rfl ⟨by first | omega | exact (sz_i32 _).1, by first | omega | exact (sz_i32 _).2⟩ ⟨by first | omega | exact (sz_i32 _).1, by first | omega | exact (sz_i32 _).2⟩ (fun (c2 : (loc) ≠ (3)) => ?_) (fun (c2 : ¬((loc) ≠ (3))) => ?_)
  · skip
    refine ez_go (n := 1) (pc' := 89) (L' := [(0, .inr (.inr (some (738)))), (1, .inl (2)), (2, .inl (i))]) (st' := [.inl (0)]) rfl ?_
    exact ez_retZ rfl rfl (Or.inl rfl) (k0 (fun q => by have q := cnd_2.mp q; first | omega | exact w1 q | exact w1 q.1 | exact q.2 w2 | exact q w1))
  · skip
    refine ez_go (n := 2) (pc' := 89) (L' := [(0, .inr (.inr (some (738)))), (1, .inl (2)), (2, .inl (i))]) (st' := [.inl (1)]) rfl ?_
    exact ez_retZ rfl rfl (Or.inr rfl) (k1 (cnd_2.mpr (by first | omega | exact w1 | exact ⟨w1, w2⟩)))

theorem rd_holds3 {i : Int} (c : ckC τ h F D p u loc) (lr : ez_rg loc) (i0 : 0 ≤ i) (i1 : i < (u.length : Int)) (k1 : cnd D F u loc 3 i → Q (.inl (some (ez_v (.inl 1))), h)) (k0 : ¬ cnd D F u loc 3 i → Q (.inl (some (ez_v (.inl 0))), h)) : ez_W (d + 1) cm_72 0 [(0, .inr (.inr (some (738)))), (1, .inl (3)), (2, .inl (i))] [] h Q := by
  have hB := c.1.1
  have t738 : τ 738 = 70 := c.1.2 738 (by decide)
  have tp := c.2.1
  have n2 := c.2.2.1.1
  have e7 := c.2.2.2.1.2.1
  obtain ⟨lr1, lr2⟩ := id lr
  refine ez_go (n := 1) (pc' := 1) (L' := [(0, .inr (.inr (some (738)))), (1, .inl (3)), (2, .inl (i))]) (st' := [.inl (3)]) rfl ?_
  refine ez_sw rfl ⟨by decide, by decide⟩ ⟨_, rfl, rfl⟩ ?_
  refine ez_go (n := 2) (pc' := 92) (L' := [(0, .inr (.inr (some (738)))), (1, .inl (3)), (2, .inl (i))]) (st' := [.inl (i), .inr (.inr (some (738)))]) rfl ?_
  refine ez_cv hB t738 rfl rfl rfl tq_70 rfl rfl rfl (rd_casedBefore c i0 i1 (fun w1 => ez_K1 ?_) (fun w1 => ez_K1 ?_))
  · skip
    refine ez_if rfl rfl ⟨by decide, by decide⟩ (fun (c1 : (1 : Int) = (0)) => absurd c1 (by decide)) (fun _ => ?_)
    refine ez_go (n := 2) (pc' := 100) (L' := [(0, .inr (.inr (some (738)))), (1, .inl (3)), (2, .inl (i))]) (st' := [.inl (i), .inr (.inr (some (738)))]) rfl ?_
    refine ez_cv hB t738 rfl rfl rfl tq_70 rfl rfl rfl (rd_casedBehind c i0 i1 (fun w2 => ez_K1 ?_) (fun w2 => ez_K1 ?_))
    · skip
      refine ez_if rfl rfl ⟨by decide, by decide⟩ (fun _ => ?_) (fun (c2 : ¬((1 : Int) ≠ (0))) => absurd c2 (by decide))
      refine ez_go (n := 1) (pc' := 111) (L' := [(0, .inr (.inr (some (738)))), (1, .inl (3)), (2, .inl (i))]) (st' := [.inl (0)]) rfl ?_
      exact ez_retZ rfl rfl (Or.inl rfl) (k0 (fun q => by have q := cnd_3.mp q; first | omega | exact w1 q | exact w1 q.1 | exact q.2 w2 | exact q w1))
    · skip
      refine ez_if rfl rfl ⟨by decide, by decide⟩ (fun (c3 : (0 : Int) ≠ (0)) => absurd c3 (by decide)) (fun _ => ?_)
      refine ez_go (n := 2) (pc' := 111) (L' := [(0, .inr (.inr (some (738)))), (1, .inl (3)), (2, .inl (i))]) (st' := [.inl (1)]) rfl ?_
      exact ez_retZ rfl rfl (Or.inr rfl) (k1 (cnd_3.mpr (by first | omega | exact w1 | exact ⟨w1, w2⟩)))
  · skip
    refine ez_if rfl rfl ⟨by decide, by decide⟩ (fun _ => ?_) (fun (c4 : ¬((0 : Int) = (0))) => absurd c4 (by decide))
    refine ez_go (n := 1) (pc' := 111) (L' := [(0, .inr (.inr (some (738)))), (1, .inl (3)), (2, .inl (i))]) (st' := [.inl (0)]) rfl ?_
    exact ez_retZ rfl rfl (Or.inl rfl) (k0 (fun q => by have q := cnd_3.mp q; first | omega | exact w1 q | exact w1 q.1 | exact q.2 w2 | exact q w1))

theorem rd_holds4 {i : Int} (c : ckC τ h F D p u loc) (lr : ez_rg loc) (i0 : 0 ≤ i) (i1 : i < (u.length : Int)) (k1 : cnd D F u loc 4 i → Q (.inl (some (ez_v (.inl 1))), h)) (k0 : ¬ cnd D F u loc 4 i → Q (.inl (some (ez_v (.inl 0))), h)) : ez_W (d + 1) cm_72 0 [(0, .inr (.inr (some (738)))), (1, .inl (4)), (2, .inl (i))] [] h Q := by
  have hB := c.1.1
  have t738 : τ 738 = 70 := c.1.2 738 (by decide)
  have tp := c.2.1
  have n2 := c.2.2.1.1
  have e7 := c.2.2.2.1.2.1
  obtain ⟨lr1, lr2⟩ := id lr
  refine ez_go (n := 1) (pc' := 1) (L' := [(0, .inr (.inr (some (738)))), (1, .inl (4)), (2, .inl (i))]) (st' := [.inl (4)]) rfl ?_
  refine ez_sw rfl ⟨by decide, by decide⟩ ⟨_, rfl, rfl⟩ ?_
  refine ez_go (n := 2) (pc' := 114) (L' := [(0, .inr (.inr (some (738)))), (1, .inl (4)), (2, .inl (i))]) (st' := [.inl (i), .inr (.inr (some (738)))]) rfl ?_
  refine ez_cv hB t738 rfl rfl rfl tq_70 rfl rfl rfl (rd_softDottedBefore c i0 i1 (fun w1 => ez_K1 ?_) (fun w1 => ez_K1 ?_))
  · skip
    exact ez_retZ rfl rfl (Or.inr rfl) (k1 (cnd_4.mpr (by first | omega | exact w1 | exact ⟨w1, w2⟩)))
  · skip
    exact ez_retZ rfl rfl (Or.inl rfl) (k0 (fun q => by have q := cnd_4.mp q; first | omega | exact w1 q | exact w1 q.1 | exact q.2 w2 | exact q w1))

theorem rd_holds5 {i : Int} (c : ckC τ h F D p u loc) (lr : ez_rg loc) (i0 : 0 ≤ i) (i1 : i < (u.length : Int)) (k1 : cnd D F u loc 5 i → Q (.inl (some (ez_v (.inl 1))), h)) (k0 : ¬ cnd D F u loc 5 i → Q (.inl (some (ez_v (.inl 0))), h)) : ez_W (d + 1) cm_72 0 [(0, .inr (.inr (some (738)))), (1, .inl (5)), (2, .inl (i))] [] h Q := by
  have hB := c.1.1
  have t738 : τ 738 = 70 := c.1.2 738 (by decide)
  have tp := c.2.1
  have n2 := c.2.2.1.1
  have e7 := c.2.2.2.1.2.1
  obtain ⟨lr1, lr2⟩ := id lr
  refine ez_go (n := 1) (pc' := 1) (L' := [(0, .inr (.inr (some (738)))), (1, .inl (5)), (2, .inl (i))]) (st' := [.inl (5)]) rfl ?_
  refine ez_sw rfl ⟨by decide, by decide⟩ ⟨_, rfl, rfl⟩ ?_
  refine ez_go (n := 2) (pc' := 120) (L' := [(0, .inr (.inr (some (738)))), (1, .inl (5)), (2, .inl (i))]) (st' := [.inl (i), .inr (.inr (some (738)))]) rfl ?_
  refine ez_cv hB t738 rfl rfl rfl tq_70 rfl rfl rfl (rd_aboveBehind c i0 i1 (fun w1 => ez_K1 ?_) (fun w1 => ez_K1 ?_))
  · skip
    exact ez_retZ rfl rfl (Or.inr rfl) (k1 (cnd_5.mpr (by first | omega | exact w1 | exact ⟨w1, w2⟩)))
  · skip
    exact ez_retZ rfl rfl (Or.inl rfl) (k0 (fun q => by have q := cnd_5.mp q; first | omega | exact w1 q | exact w1 q.1 | exact q.2 w2 | exact q w1))

theorem rd_holds6 {i : Int} (c : ckC τ h F D p u loc) (lr : ez_rg loc) (i0 : 0 ≤ i) (i1 : i < (u.length : Int)) (k1 : cnd D F u loc 6 i → Q (.inl (some (ez_v (.inl 1))), h)) (k0 : ¬ cnd D F u loc 6 i → Q (.inl (some (ez_v (.inl 0))), h)) : ez_W (d + 1) cm_72 0 [(0, .inr (.inr (some (738)))), (1, .inl (6)), (2, .inl (i))] [] h Q := by
  have hB := c.1.1
  have t738 : τ 738 = 70 := c.1.2 738 (by decide)
  have tp := c.2.1
  have n2 := c.2.2.1.1
  have e7 := c.2.2.2.1.2.1
  obtain ⟨lr1, lr2⟩ := id lr
  refine ez_go (n := 1) (pc' := 1) (L' := [(0, .inr (.inr (some (738)))), (1, .inl (6)), (2, .inl (i))]) (st' := [.inl (6)]) rfl ?_
  refine ez_sw rfl ⟨by decide, by decide⟩ ⟨_, rfl, rfl⟩ ?_
  refine ez_go (n := 2) (pc' := 126) (L' := [(0, .inr (.inr (some (738)))), (1, .inl (6)), (2, .inl (i))]) (st' := [.inl (i), .inr (.inr (some (738)))]) rfl ?_
  refine ez_cv hB t738 rfl rfl rfl tq_70 rfl rfl rfl (rd_dotBehind c i0 i1 (fun w1 => ez_K1 ?_) (fun w1 => ez_K1 ?_))
  · skip
    exact ez_retZ rfl rfl (Or.inr rfl) (k1 (cnd_6.mpr (by first | omega | exact w1 | exact ⟨w1, w2⟩)))
  · skip
    exact ez_retZ rfl rfl (Or.inl rfl) (k0 (fun q => by have q := cnd_6.mp q; first | omega | exact w1 q | exact w1 q.1 | exact q.2 w2 | exact q w1))

theorem rd_holds7 {i : Int} (c : ckC τ h F D p u loc) (lr : ez_rg loc) (i0 : 0 ≤ i) (i1 : i < (u.length : Int)) (k1 : cnd D F u loc 7 i → Q (.inl (some (ez_v (.inl 1))), h)) (k0 : ¬ cnd D F u loc 7 i → Q (.inl (some (ez_v (.inl 0))), h)) : ez_W (d + 1) cm_72 0 [(0, .inr (.inr (some (738)))), (1, .inl (7)), (2, .inl (i))] [] h Q := by
  have hB := c.1.1
  have t738 : τ 738 = 70 := c.1.2 738 (by decide)
  have tp := c.2.1
  have n2 := c.2.2.1.1
  have e7 := c.2.2.2.1.2.1
  obtain ⟨lr1, lr2⟩ := id lr
  refine ez_go (n := 1) (pc' := 1) (L' := [(0, .inr (.inr (some (738)))), (1, .inl (7)), (2, .inl (i))]) (st' := [.inl (7)]) rfl ?_
  refine ez_sw rfl ⟨by decide, by decide⟩ ⟨_, rfl, rfl⟩ ?_
  refine ez_go (n := 2) (pc' := 132) (L' := [(0, .inr (.inr (some (738)))), (1, .inl (7)), (2, .inl (i))]) (st' := [.inl (i), .inr (.inr (some (738)))]) rfl ?_
  refine ez_cv hB t738 rfl rfl rfl tq_70 rfl rfl rfl (rd_dotBehind c i0 i1 (fun w1 => ez_K1 ?_) (fun w1 => ez_K1 ?_))
  · skip
    refine ez_if rfl rfl ⟨by decide, by decide⟩ (fun _ => ?_) (fun (c1 : ¬((1 : Int) ≠ (0))) => absurd c1 (by decide))
    refine ez_go (n := 1) (pc' := 143) (L' := [(0, .inr (.inr (some (738)))), (1, .inl (7)), (2, .inl (i))]) (st' := [.inl (0)]) rfl ?_
    exact ez_retZ rfl rfl (Or.inl rfl) (k0 (fun q => by have q := cnd_7.mp q; first | omega | exact w1 q | exact w1 q.1 | exact q.2 w2 | exact q w1))
  · skip
    refine ez_if rfl rfl ⟨by decide, by decide⟩ (fun (c2 : (0 : Int) ≠ (0)) => absurd c2 (by decide)) (fun _ => ?_)
    refine ez_go (n := 2) (pc' := 143) (L' := [(0, .inr (.inr (some (738)))), (1, .inl (7)), (2, .inl (i))]) (st' := [.inl (1)]) rfl ?_
    exact ez_retZ rfl rfl (Or.inr rfl) (k1 (cnd_7.mpr (by first | omega | exact w1 | exact ⟨w1, w2⟩)))

theorem rd_holds8 {i : Int} (c : ckC τ h F D p u loc) (lr : ez_rg loc) (i0 : 0 ≤ i) (i1 : i < (u.length : Int)) (k1 : cnd D F u loc 8 i → Q (.inl (some (ez_v (.inl 1))), h)) (k0 : ¬ cnd D F u loc 8 i → Q (.inl (some (ez_v (.inl 0))), h)) : ez_W (d + 1) cm_72 0 [(0, .inr (.inr (some (738)))), (1, .inl (8)), (2, .inl (i))] [] h Q := by
  have hB := c.1.1
  have t738 : τ 738 = 70 := c.1.2 738 (by decide)
  have tp := c.2.1
  have n2 := c.2.2.1.1
  have e7 := c.2.2.2.1.2.1
  obtain ⟨lr1, lr2⟩ := id lr
  refine ez_go (n := 1) (pc' := 1) (L' := [(0, .inr (.inr (some (738)))), (1, .inl (8)), (2, .inl (i))]) (st' := [.inl (8)]) rfl ?_
  refine ez_sw rfl ⟨by decide, by decide⟩ ⟨_, rfl, rfl⟩ ?_
  refine ez_go (n := 2) (pc' := 146) (L' := [(0, .inr (.inr (some (738)))), (1, .inl (8)), (2, .inl (i))]) (st' := [.inl (i), .inr (.inr (some (738)))]) rfl ?_
  refine ez_cv hB t738 rfl rfl rfl tq_70 rfl rfl rfl (rd_capitalIBefore c i0 i1 (fun w1 => ez_K1 ?_) (fun w1 => ez_K1 ?_))
  · skip
    exact ez_retZ rfl rfl (Or.inr rfl) (k1 (cnd_8.mpr (by first | omega | exact w1 | exact ⟨w1, w2⟩)))
  · skip
    exact ez_retZ rfl rfl (Or.inl rfl) (k0 (fun q => by have q := cnd_8.mp q; first | omega | exact w1 q | exact w1 q.1 | exact q.2 w2 | exact q w1))

theorem rd_holds {i c9 : Int} (c : ckC τ h F D p u loc) (lr : ez_rg loc) (i0 : 0 ≤ i) (i1 : i < (u.length : Int)) (c0 : 0 ≤ c9) (c8 : c9 < 9) (k1 : cnd D F u loc c9 i → Q (.inl (some (ez_v (.inl 1))), h)) (k0 : ¬ cnd D F u loc c9 i → Q (.inl (some (ez_v (.inl 0))), h)) : ez_W (d + 1) cm_72 0 [(0, .inr (.inr (some (738)))), (1, .inl (c9)), (2, .inl (i))] [] h Q := by
  have hc : c9 = 0 ∨ c9 = 1 ∨ c9 = 2 ∨ c9 = 3 ∨ c9 = 4 ∨ c9 = 5 ∨ c9 = 6 ∨ c9 = 7 ∨ c9 = 8 := by omega
  rcases hc with e | e | e | e | e | e | e | e | e <;> subst e
  · exact rd_holds0 c lr i0 i1 k1 k0
  · exact rd_holds1 c lr i0 i1 k1 k0
  · exact rd_holds2 c lr i0 i1 k1 k0
  · exact rd_holds3 c lr i0 i1 k1 k0
  · exact rd_holds4 c lr i0 i1 k1 k0
  · exact rd_holds5 c lr i0 i1 k1 k0
  · exact rd_holds6 c lr i0 i1 k1 k0
  · exact rd_holds7 c lr i0 i1 k1 k0
  · exact rd_holds8 c lr i0 i1 k1 k0
theorem rd_allHold_l {i m : Int} (c : ckC τ h F D p u loc) (lr : ez_rg loc) (mr : ez_rg m) (i0 : 0 ≤ i) (i1 : i < (u.length : Int)) (k1 : aho D F u loc m i → Q (.inl (some (ez_v (.inl 1))), h)) (k0 : ¬ aho D F u loc m i → Q (.inl (some (ez_v (.inl 0))), h)) : ∀ (n : Nat) (q : Int), n = (9 - q).toNat → 0 ≤ q → q ≤ 9 → (∀ c9, 0 ≤ c9 → c9 < q → bit9 m c9 ≠ 0 → cnd D F u loc c9 i) → ez_W (d + 2) cm_63 2 [(3, .inl (q)), (0, .inr (.inr (some (738)))), (1, .inl (m)), (2, .inl (i))] [] h Q := by
  have hB := c.1.1
  have t738 : τ 738 = 70 := c.1.2 738 (by decide)
  have tp := c.2.1
  have n2 := c.2.2.1.1
  have e7 := c.2.2.2.1.2.1
  obtain ⟨mr1, mr2⟩ := id mr
  intro n
  induction n with
  | zero =>
    intro q hn0 q0 q9 hq
    refine ez_go (n := 2) (pc' := 5) (L' := [(3, .inl (q)), (0, .inr (.inr (some (738)))), (1, .inl (m)), (2, .inl (i))]) (st' := [.inl (9), .inl (q)]) rfl ?_
    refine ez_icmp rfl rfl ⟨by first | omega | exact (sz_i32 _).1, by first | omega | exact (sz_i32 _).2⟩ ⟨by first | omega | exact (sz_i32 _).1, by first | omega | exact (sz_i32 _).2⟩ (fun (c1 : (9) ≤ (q)) => ?_) (fun (c1 : ¬((9) ≤ (q))) => ?_)
    · skip
      refine ez_go (n := 1) (pc' := 34) (L' := [(3, .inl (q)), (0, .inr (.inr (some (738)))), (1, .inl (m)), (2, .inl (i))]) (st' := [.inl (1)]) rfl ?_
      exact ez_retZ rfl rfl (Or.inr rfl) (k1 (fun c9 a b e => hq c9 a (by omega) e))
    · skip
      refine ez_go (n := 5) (pc' := 13) (L' := [(3, .inl (q)), (0, .inr (.inr (some (738)))), (1, .inl (m)), (2, .inl (i))]) (st' := [.inl ((Int32.ofInt ((Int32.ofInt (m) >>> (Int32.ofInt (q) &&& 31)).toInt) &&& Int32.ofInt (1)).toInt)]) rfl ?_
      refine ez_if rfl rfl ⟨by first | omega | exact (sz_i32 _).1, by first | omega | exact (sz_i32 _).2⟩ (fun (c2 : ((Int32.ofInt ((Int32.ofInt (m) >>> (Int32.ofInt (q) &&& 31)).toInt) &&& Int32.ofInt (1)).toInt) = (0)) => ?_) (fun (c2 : ¬(((Int32.ofInt ((Int32.ofInt (m) >>> (Int32.ofInt (q) &&& 31)).toInt) &&& Int32.ofInt (1)).toInt) = (0))) => ?_)
      · skip
        refine ez_go (n := 2) (pc' := 2) (L' := [(3, .inl (q + 1)), (0, .inr (.inr (some (738)))), (1, .inl (m)), (2, .inl (i))]) (st' := []) rfl ?_
        exfalso; omega
      · skip
        refine ez_go (n := 3) (pc' := 19) (L' := [(3, .inl (q)), (0, .inr (.inr (some (738)))), (1, .inl (m)), (2, .inl (i))]) (st' := [.inl (i), .inl (q), .inr (.inr (some (738)))]) rfl ?_
        refine ez_cv hB t738 rfl rfl rfl tq_70 rfl rfl rfl (rd_holds c lr i0 i1 (by omega) (by omega) (fun w => ez_K1 ?_) (fun w => ez_K1 ?_))
        · skip
          refine ez_if rfl rfl ⟨by decide, by decide⟩ (fun _ => ?_) (fun (c3 : ¬((1 : Int) ≠ (0))) => absurd c3 (by decide))
          refine ez_go (n := 2) (pc' := 2) (L' := [(3, .inl (q + 1)), (0, .inr (.inr (some (738)))), (1, .inl (m)), (2, .inl (i))]) (st' := []) rfl ?_
          exfalso; omega
        · skip
          refine ez_if rfl rfl ⟨by decide, by decide⟩ (fun (c4 : (0 : Int) ≠ (0)) => absurd c4 (by decide)) (fun _ => ?_)
          refine ez_go (n := 1) (pc' := 26) (L' := [(3, .inl (q)), (0, .inr (.inr (some (738)))), (1, .inl (m)), (2, .inl (i))]) (st' := [.inl (0)]) rfl ?_
          exact ez_retZ rfl rfl (Or.inl rfl) (k0 (fun a => w (a q (by omega) (by omega) (by assumption))))
  | succ n ih =>
    intro q hn0 q0 q9 hq
    refine ez_go (n := 2) (pc' := 5) (L' := [(3, .inl (q)), (0, .inr (.inr (some (738)))), (1, .inl (m)), (2, .inl (i))]) (st' := [.inl (9), .inl (q)]) rfl ?_
    refine ez_icmp rfl rfl ⟨by first | omega | exact (sz_i32 _).1, by first | omega | exact (sz_i32 _).2⟩ ⟨by first | omega | exact (sz_i32 _).1, by first | omega | exact (sz_i32 _).2⟩ (fun (c1 : (9) ≤ (q)) => ?_) (fun (c1 : ¬((9) ≤ (q))) => ?_)
    · skip
      refine ez_go (n := 1) (pc' := 34) (L' := [(3, .inl (q)), (0, .inr (.inr (some (738)))), (1, .inl (m)), (2, .inl (i))]) (st' := [.inl (1)]) rfl ?_
      exact ez_retZ rfl rfl (Or.inr rfl) (k1 (fun c9 a b e => hq c9 a (by omega) e))
    · skip
      refine ez_go (n := 5) (pc' := 13) (L' := [(3, .inl (q)), (0, .inr (.inr (some (738)))), (1, .inl (m)), (2, .inl (i))]) (st' := [.inl ((Int32.ofInt ((Int32.ofInt (m) >>> (Int32.ofInt (q) &&& 31)).toInt) &&& Int32.ofInt (1)).toInt)]) rfl ?_
      refine ez_if rfl rfl ⟨by first | omega | exact (sz_i32 _).1, by first | omega | exact (sz_i32 _).2⟩ (fun (c2 : ((Int32.ofInt ((Int32.ofInt (m) >>> (Int32.ofInt (q) &&& 31)).toInt) &&& Int32.ofInt (1)).toInt) = (0)) => ?_) (fun (c2 : ¬(((Int32.ofInt ((Int32.ofInt (m) >>> (Int32.ofInt (q) &&& 31)).toInt) &&& Int32.ofInt (1)).toInt) = (0))) => ?_)
      · skip
        refine ez_go (n := 2) (pc' := 2) (L' := [(3, .inl (q + 1)), (0, .inr (.inr (some (738)))), (1, .inl (m)), (2, .inl (i))]) (st' := []) rfl ?_
        refine ez_less [(3, .inl (q + 1)), (0, .inr (.inr (some (738)))), (1, .inl (m)), (2, .inl (i))] rfl ⟨rfl, rfl, rfl, rfl, trivial⟩ ?_
        refine ih _ (by omega) (by omega) (by omega) (fun c9 a b e => ?_)
        by_cases ec : c9 = q
        · subst ec
          first | exact w | exact absurd (by assumption) e
        · exact hq c9 a (by omega) e
      · skip
        refine ez_go (n := 3) (pc' := 19) (L' := [(3, .inl (q)), (0, .inr (.inr (some (738)))), (1, .inl (m)), (2, .inl (i))]) (st' := [.inl (i), .inl (q), .inr (.inr (some (738)))]) rfl ?_
        refine ez_cv hB t738 rfl rfl rfl tq_70 rfl rfl rfl (rd_holds c lr i0 i1 (by omega) (by omega) (fun w => ez_K1 ?_) (fun w => ez_K1 ?_))
        · skip
          refine ez_if rfl rfl ⟨by decide, by decide⟩ (fun _ => ?_) (fun (c3 : ¬((1 : Int) ≠ (0))) => absurd c3 (by decide))
          refine ez_go (n := 2) (pc' := 2) (L' := [(3, .inl (q + 1)), (0, .inr (.inr (some (738)))), (1, .inl (m)), (2, .inl (i))]) (st' := []) rfl ?_
          refine ez_less [(3, .inl (q + 1)), (0, .inr (.inr (some (738)))), (1, .inl (m)), (2, .inl (i))] rfl ⟨rfl, rfl, rfl, rfl, trivial⟩ ?_
          refine ih _ (by omega) (by omega) (by omega) (fun c9 a b e => ?_)
          by_cases ec : c9 = q
          · subst ec
            first | exact w | exact absurd (by assumption) e
          · exact hq c9 a (by omega) e
        · skip
          refine ez_if rfl rfl ⟨by decide, by decide⟩ (fun (c4 : (0 : Int) ≠ (0)) => absurd c4 (by decide)) (fun _ => ?_)
          refine ez_go (n := 1) (pc' := 26) (L' := [(3, .inl (q)), (0, .inr (.inr (some (738)))), (1, .inl (m)), (2, .inl (i))]) (st' := [.inl (0)]) rfl ?_
          exact ez_retZ rfl rfl (Or.inl rfl) (k0 (fun a => w (a q (by omega) (by omega) (by assumption))))

theorem rd_allHold {i m : Int} (c : ckC τ h F D p u loc) (lr : ez_rg loc) (mr : ez_rg m) (i0 : 0 ≤ i) (i1 : i < (u.length : Int)) (k1 : aho D F u loc m i → Q (.inl (some (ez_v (.inl 1))), h)) (k0 : ¬ aho D F u loc m i → Q (.inl (some (ez_v (.inl 0))), h)) : ez_W (d + 2) cm_63 0 [(0, .inr (.inr (some (738)))), (1, .inl (m)), (2, .inl (i))] [] h Q := by
  refine ez_go (n := 2) (pc' := 2) (L' := [(3, .inl (0)), (0, .inr (.inr (some (738)))), (1, .inl (m)), (2, .inl (i))]) (st' := []) rfl ?_
  refine ez_less [(3, .inl (0)), (0, .inr (.inr (some (738)))), (1, .inl (m)), (2, .inl (i))] rfl ⟨rfl, rfl, rfl, rfl, trivial⟩ ?_
  exact rd_allHold_l c lr mr i0 i1 k1 k0 _ 0 rfl (by omega) (by omega) (fun c9 a b => by omega)

theorem rd_rowFor {z : Nat} {s : spz} {kind : Int} (hB : ez_B τ h) (nd : nod τ h z s) (k0 : 0 ≤ kind) (k2 : kind ≤ 2) (k : ∀ w, τ w = 5 → qz_N h w = ((rowK s kind).length : Int) → (∀ (j : Nat) x, (rowK s kind)[j]? = some x → qz_I h w j = x) → Q (.inl (some (.inr (.inr (some w)))), h)) : ez_W d cm_187 0 [(0, .inr (.inr (some (z)))), (1, .inl (kind))] [] h Q := by
  have tz := nd.1
  obtain ⟨w1, c1, a1, b1, d1⟩ := nd.2.2.1
  obtain ⟨w2, c2, a2, b2, d2⟩ := nd.2.2.2.1
  obtain ⟨w3, c3, a3, b3, d3⟩ := nd.2.2.2.2
  refine ez_go (n := 1) (pc' := 1) (L' := [(0, .inr (.inr (some (z)))), (1, .inl (kind))]) (st' := [.inl (kind)]) rfl ?_
  refine ez_if rfl rfl ⟨by first | omega | exact (sz_i32 _).1, by first | omega | exact (sz_i32 _).2⟩ (fun (c1 : (kind) ≠ (0)) => ?_) (fun (c1 : ¬((kind) ≠ (0))) => ?_)
  · skip
    refine ez_go (n := 2) (pc' := 11) (L' := [(0, .inr (.inr (some (z)))), (1, .inl (kind))]) (st' := [.inl (1), .inl (kind)]) rfl ?_
    refine ez_icmp rfl rfl ⟨by first | omega | exact (sz_i32 _).1, by first | omega | exact (sz_i32 _).2⟩ ⟨by first | omega | exact (sz_i32 _).1, by first | omega | exact (sz_i32 _).2⟩ (fun (c2 : (kind) ≠ (1)) => ?_) (fun (c2 : ¬((kind) ≠ (1))) => ?_)
    · skip
      refine ez_go (n := 1) (pc' := 22) (L' := [(0, .inr (.inr (some (z)))), (1, .inl (kind))]) (st' := [.inr (.inr (some (z)))]) rfl ?_
      refine ez_gN hB tz rfl rfl tq_6 rfl rfl (fun (t3 : qz_I h z 2 = 0) => ?_) (fun (t3 : _ = 5) (t3' : 1 ≤ qz_I h z 2) => ?_)
      · exfalso; omega
      · skip
        rw [show qz_P h z 2 = w2 by unfold qz_P; omega]
        refine ez_retA rfl rfl rfl (k w2 a2 ?_ ?_)
        · unfold rowK; rw [if_neg (by omega), if_neg (by omega)]; exact b2
        · unfold rowK; rw [if_neg (by omega), if_neg (by omega)]; exact d2
    · skip
      refine ez_go (n := 1) (pc' := 15) (L' := [(0, .inr (.inr (some (z)))), (1, .inl (kind))]) (st' := [.inr (.inr (some (z)))]) rfl ?_
      refine ez_gN hB tz rfl rfl tq_6 rfl rfl (fun (t4 : qz_I h z 3 = 0) => ?_) (fun (t4 : _ = 5) (t4' : 1 ≤ qz_I h z 3) => ?_)
      · exfalso; omega
      · skip
        refine ez_go (n := 1) (pc' := 25) (L' := [(0, .inr (.inr (some (z)))), (1, .inl (kind))]) (st' := [.inr (.inr (some (qz_P h z 3)))]) rfl ?_
        rw [show qz_P h z 3 = w3 by unfold qz_P; omega]
        refine ez_retA rfl rfl rfl (k w3 a3 ?_ ?_)
        · unfold rowK; rw [if_neg (by omega), if_pos (by omega)]; exact b3
        · unfold rowK; rw [if_neg (by omega), if_pos (by omega)]; exact d3
  · skip
    refine ez_go (n := 1) (pc' := 5) (L' := [(0, .inr (.inr (some (z)))), (1, .inl (kind))]) (st' := [.inr (.inr (some (z)))]) rfl ?_
    refine ez_gN hB tz rfl rfl tq_6 rfl rfl (fun (t5 : qz_I h z 1 = 0) => ?_) (fun (t5 : _ = 5) (t5' : 1 ≤ qz_I h z 1) => ?_)
    · exfalso; omega
    · skip
      rw [show qz_P h z 1 = w1 by unfold qz_P; omega]
      refine ez_retA rfl rfl rfl (k w1 a1 ?_ ?_)
      · unfold rowK; rw [if_pos (by omega)]; exact b1
      · unfold rowK; rw [if_pos (by omega)]; exact d1

/-- a row, or none -/
def osr (τ : Nat → Nat) (h : cz_H) (kind : Int) (o : Option Nat) (r : Option spz) : Prop := (r = none → o = none) ∧ ∀ s, r = some s → ∃ w, o = some w ∧ τ w = 5 ∧ qz_N h w = ((rowK s kind).length : Int) ∧ ∀ (j : Nat) x, (rowK s kind)[j]? = some x → qz_I h w j = x
theorem rd_spl {i kind : Int} {Pp : Nat → Prop} {l0 : List spz} (c : ckC τ h F D p u loc) (lr : ez_rg loc) (i0 : 0 ≤ i) (i1 : i < (u.length : Int)) (k0 : 0 ≤ kind) (k2 : kind ≤ 2) (k : ∀ r o, spR (fun m => aho D F u loc m i) l0 none r → osr τ h kind o r → Q (.inl (some (.inr (.inr o))), h)) : ∀ (l : List spz) (v : Int) (o4 : Option Nat) (pl : Option spz) (o : Option Nat), sC τ h Pp l v → ((v = 0 ∧ o4 = none) ∨ ∃ z : Nat, v = (z : Int) + 1 ∧ o4 = some z) → osr τ h kind o pl → (∀ r, spR (fun m => aho D F u loc m i) l pl r → spR (fun m => aho D F u loc m i) l0 none r) → ez_W (d + 3) cm_76 21 [(4, .inr (.inr (o4))), (3, .inr (.inr (o))), (0, .inr (.inr (some (738)))), (1, .inl (i)), (2, .inl (kind))] [] h Q := by
  have hB := c.1.1
  have t738 : τ 738 = 70 := c.1.2 738 (by decide)
  have tp := c.2.1
  have n2 := c.2.2.1.1
  have e7 := c.2.2.2.1.2.1
  intro l
  induction l with
  | nil =>
    intro v o4 pl o hc hv ho hs
    have hc : v = 0 := hc
    rcases hv with ⟨-, e⟩ | ⟨z, e, -⟩
    · subst e
      refine ez_go (n := 1) (pc' := 23) (L' := [(4, .inr (.inr none)), (3, .inr (.inr (o))), (0, .inr (.inr (some (738)))), (1, .inl (i)), (2, .inl (kind))]) (st' := [.inr (.inr none)]) rfl ?_
      refine ez_null0 rfl rfl ?_
      refine ez_go (n := 1) (pc' := 75) (L' := [(4, .inr (.inr none)), (3, .inr (.inr (o))), (0, .inr (.inr (some (738)))), (1, .inl (i)), (2, .inl (kind))]) (st' := [.inr (.inr (o))]) rfl ?_
      exact ez_retA rfl rfl rfl (k pl o (hs _ rfl) ho)
    · exfalso; omega
  | cons s l ih =>
    intro v o4 pl o hc hv ho hs
    obtain ⟨z, ez, pz, nd, ct⟩ := hc
    have tz := nd.1
    have b0 : -2147483648 ≤ qz_I h z 0 ∧ qz_I h z 0 ≤ 2147483647 := ez_fB (cl := 13) (k := 0) hB tz tq_6 rfl rfl (by decide)
    rw [nd.2.1] at b0
    rcases hv with ⟨e, -⟩ | ⟨z2, e, e2⟩
    · exfalso; omega
    · have e3 : z = z2 := by omega
      subst e3
      subst e2
      refine ez_go (n := 1) (pc' := 23) (L' := [(4, .inr (.inr (some (z)))), (3, .inr (.inr (o))), (0, .inr (.inr (some (738)))), (1, .inl (i)), (2, .inl (kind))]) (st' := [.inr (.inr (some (z)))]) rfl ?_
      refine ez_null1 rfl ?_
      refine ez_go (n := 1) (pc' := 28) (L' := [(4, .inr (.inr (some (z)))), (3, .inr (.inr (o))), (0, .inr (.inr (some (738)))), (1, .inl (i)), (2, .inl (kind))]) (st' := [.inr (.inr (some (z)))]) rfl ?_
      refine ez_gI hB tz rfl rfl tq_6 rfl rfl (fun (b1 : -2147483648 ≤ qz_I h z 0) (b1' : qz_I h z 0 ≤ 2147483647) => ?_)
      rw [show qz_I h z 0 = s.1 from nd.2.1]
      refine ez_if rfl rfl ⟨by first | omega | exact (sz_i32 _).1, by first | omega | exact (sz_i32 _).2⟩ (fun (c2 : (s.1) ≠ (0)) => ?_) (fun (c2 : ¬((s.1) ≠ (0))) => ?_)
      · skip
        refine ez_go (n := 2) (pc' := 47) (L' := [(4, .inr (.inr (some (z)))), (3, .inr (.inr (o))), (0, .inr (.inr (some (738)))), (1, .inl (i)), (2, .inl (kind))]) (st' := [.inr (.inr (some (z))), .inr (.inr (some (738)))]) rfl ?_
        refine ez_gI hB tz rfl rfl tq_6 rfl rfl (fun (b3 : -2147483648 ≤ qz_I h z 0) (b3' : qz_I h z 0 ≤ 2147483647) => ?_)
        rw [show qz_I h z 0 = s.1 from nd.2.1]
        refine ez_go (n := 1) (pc' := 51) (L' := [(4, .inr (.inr (some (z)))), (3, .inr (.inr (o))), (0, .inr (.inr (some (738)))), (1, .inl (i)), (2, .inl (kind))]) (st' := [.inl (i), .inl (s.1), .inr (.inr (some (738)))]) rfl ?_
        have hne : s.1 ≠ 0 := by omega
        refine ez_cv hB t738 rfl rfl rfl tq_70 rfl rfl rfl (rd_allHold c lr ⟨by omega, by omega⟩ i0 i1 (fun hah => ez_K1 ?_) (fun hah => ez_K1 ?_))
        · skip
          refine ez_if rfl rfl ⟨by decide, by decide⟩ (fun (c4 : (1 : Int) = (0)) => absurd c4 (by decide)) (fun _ => ?_)
          refine ez_go (n := 2) (pc' := 60) (L' := [(4, .inr (.inr (some (z)))), (3, .inr (.inr (o))), (0, .inr (.inr (some (738)))), (1, .inl (i)), (2, .inl (kind))]) (st' := [.inl (kind), .inr (.inr (some (z)))]) rfl ?_
          refine ez_cv hB tz rfl rfl rfl tq_6 rfl rfl rfl (rd_rowFor hB nd k0 k2 (fun wr wt wn wv => ez_KA ?_))
          exact ez_retA rfl rfl rfl (k (some s) (some wr) (hs _ ⟨fun w9 => absurd w9 hne, fun _ => ⟨fun _ => rfl, fun w9 => absurd hah w9⟩⟩) ⟨fun e => (by cases e), fun s9 e => by cases e; exact ⟨wr, rfl, wt, wn, wv⟩⟩)
        · skip
          refine ez_if rfl rfl ⟨by decide, by decide⟩ (fun _ => ?_) (fun (c5 : ¬((0 : Int) = (0))) => absurd c5 (by decide))
          refine ez_go (n := 1) (pc' := 66) (L' := [(4, .inr (.inr (some (z)))), (3, .inr (.inr (o))), (0, .inr (.inr (some (738)))), (1, .inl (i)), (2, .inl (kind))]) (st' := [.inr (.inr (some (z)))]) rfl ?_
          refine ez_gN hB tz rfl rfl tq_6 rfl rfl (fun (t6 : qz_I h z 4 = 0) => ?_) (fun (t6 : _ = 6) (t6' : 1 ≤ qz_I h z 4) => ?_)
          · skip
            refine ez_go (n := 2) (pc' := 21) (L' := [(4, .inr (.inr none)), (3, .inr (.inr (o))), (0, .inr (.inr (some (738)))), (1, .inl (i)), (2, .inl (kind))]) (st' := []) rfl ?_
            refine ez_less [(4, .inr (.inr none)), (3, .inr (.inr (o))), (0, .inr (.inr (some (738)))), (1, .inl (i)), (2, .inl (kind))] rfl ⟨rfl, rfl, rfl, rfl, rfl, trivial⟩ ?_
            exact ih _ _ pl o ct (Or.inl ⟨by omega, rfl⟩) ho (fun r hr => hs r ⟨fun w9 => absurd w9 hne, fun _ => ⟨fun w9 => absurd w9 hah, fun _ => hr⟩⟩)
          · skip
            refine ez_go (n := 2) (pc' := 21) (L' := [(4, .inr (.inr (some (qz_P h z 4)))), (3, .inr (.inr (o))), (0, .inr (.inr (some (738)))), (1, .inl (i)), (2, .inl (kind))]) (st' := []) rfl ?_
            refine ez_less [(4, .inr (.inr (some (qz_P h z 4)))), (3, .inr (.inr (o))), (0, .inr (.inr (some (738)))), (1, .inl (i)), (2, .inl (kind))] rfl ⟨rfl, rfl, rfl, rfl, rfl, trivial⟩ ?_
            exact ih _ _ pl o ct (Or.inr ⟨qz_P h z 4, by unfold qz_P; omega, rfl⟩) ho (fun r hr => hs r ⟨fun w9 => absurd w9 hne, fun _ => ⟨fun w9 => absurd w9 hah, fun _ => hr⟩⟩)
      · skip
        refine ez_go (n := 2) (pc' := 37) (L' := [(4, .inr (.inr (some (z)))), (3, .inr (.inr (o))), (0, .inr (.inr (some (738)))), (1, .inl (i)), (2, .inl (kind))]) (st' := [.inl (kind), .inr (.inr (some (z)))]) rfl ?_
        refine ez_cv hB tz rfl rfl rfl tq_6 rfl rfl rfl (rd_rowFor hB nd k0 k2 (fun wr wt wn wv => ez_KA ?_))
        have hz : s.1 = 0 := by omega
        refine ez_go (n := 3) (pc' := 66) (L' := [(3, .inr (.inr (some (wr)))), (4, .inr (.inr (some (z)))), (0, .inr (.inr (some (738)))), (1, .inl (i)), (2, .inl (kind))]) (st' := [.inr (.inr (some (z)))]) rfl ?_
        refine ez_gN hB tz rfl rfl tq_6 rfl rfl (fun (t7 : qz_I h z 4 = 0) => ?_) (fun (t7 : _ = 6) (t7' : 1 ≤ qz_I h z 4) => ?_)
        · skip
          refine ez_go (n := 2) (pc' := 21) (L' := [(4, .inr (.inr none)), (3, .inr (.inr (some (wr)))), (0, .inr (.inr (some (738)))), (1, .inl (i)), (2, .inl (kind))]) (st' := []) rfl ?_
          refine ez_less [(4, .inr (.inr none)), (3, .inr (.inr (some (wr)))), (0, .inr (.inr (some (738)))), (1, .inl (i)), (2, .inl (kind))] rfl ⟨rfl, rfl, rfl, rfl, rfl, trivial⟩ ?_
          exact ih _ _ (some s) (some wr) ct (Or.inl ⟨by omega, rfl⟩) ⟨fun e => (by cases e), fun s9 e => by cases e; exact ⟨wr, rfl, wt, wn, wv⟩⟩ (fun r hr => hs r ⟨fun _ => hr, fun w9 => absurd hz w9⟩)
        · skip
          refine ez_go (n := 2) (pc' := 21) (L' := [(4, .inr (.inr (some (qz_P h z 4)))), (3, .inr (.inr (some (wr)))), (0, .inr (.inr (some (738)))), (1, .inl (i)), (2, .inl (kind))]) (st' := []) rfl ?_
          refine ez_less [(4, .inr (.inr (some (qz_P h z 4)))), (3, .inr (.inr (some (wr)))), (0, .inr (.inr (some (738)))), (1, .inl (i)), (2, .inl (kind))] rfl ⟨rfl, rfl, rfl, rfl, rfl, trivial⟩ ?_
          exact ih _ _ (some s) (some wr) ct (Or.inr ⟨qz_P h z 4, by unfold qz_P; omega, rfl⟩) ⟨fun e => (by cases e), fun s9 e => by cases e; exact ⟨wr, rfl, wt, wn, wv⟩⟩ (fun r hr => hs r ⟨fun _ => hr, fun w9 => absurd hz w9⟩)

theorem rd_specialRow {i kind : Int} (c : ckC τ h F D p u loc) (hx : sz_X τ h O D) (lr : ez_rg loc) (i0 : 0 ≤ i) (i1 : i < (u.length : Int)) (k0 : 0 ≤ kind) (k2 : kind ≤ 2) (k : ∀ r o, spR (fun m => aho D F u loc m i) (D (uX u i)).2.2.2 none r → osr τ h kind o r → Q (.inl (some (.inr (.inr o))), h)) : ez_W (d + 3) cm_76 0 [(0, .inr (.inr (some (738)))), (1, .inl (i)), (2, .inl (kind))] [] h Q := by
  have hB := c.1.1
  have t738 : τ 738 = 70 := c.1.2 738 (by decide)
  have tp := c.2.1
  have n2 := c.2.2.1.1
  have e7 := c.2.2.2.1.2.1
  have at9 := (c.2.2.2.2 i i0 i1).2.2.2.2
  have pb := uX_ptl c.2.2.1.2 (show i.toNat < u.length by omega)
  have xq := hx _ _ pb.1 pb.2 at9
  have k90 := at9.1
  have k91 := at9.2.1
  have k92 := sz_R_n1 hB (c.1.2 202 (by decide))
  refine ez_go (n := 3) (pc' := 3) (L' := [(3, .inr (.inr none)), (0, .inr (.inr (some (738)))), (1, .inl (i)), (2, .inl (kind))]) (st' := [.inr (.inr (some (738)))]) rfl ?_
  refine ez_gC (p := 202) (tg := 48) hB t738 rfl rfl tq_70 rfl rfl (fun (t202 : _ = 48) => ?_)
  refine ez_gC (p := 203) (tg := 49) hB t202 rfl rfl tq_48 rfl rfl (fun (t203 : _ = 49) => ?_)
  refine ez_go (n := 1) (pc' := 10) (L' := [(3, .inr (.inr none)), (0, .inr (.inr (some (738)))), (1, .inl (i)), (2, .inl (kind))]) (st' := [.inr (.inr (some (738))), .inr (.inr (some (203)))]) rfl ?_
  refine ez_gC (p := 739) (tg := 71) hB t738 rfl rfl tq_70 rfl rfl (fun (t739 : _ = 71) => ?_)
  refine ez_go (n := 1) (pc' := 14) (L' := [(3, .inr (.inr none)), (0, .inr (.inr (some (738)))), (1, .inl (i)), (2, .inl (kind))]) (st' := [.inl (i), .inr (.inr (some (739))), .inr (.inr (some (203)))]) rfl ?_
  have n2 : 2000 ≤ qz_N h 739 ∧ qz_N h 739 ≤ 2000 := ez_len hB t739 tq_71 rfl
  refine ez_aI hB t739 rfl tq_71 rfl rfl (by omega) (by omega) (fun (b1 : 0 ≤ qz_I h 739 (i).toNat) (b1' : qz_I h 739 (i).toNat ≤ 512) => ?_)
  have n4 : 513 ≤ qz_N h 203 ∧ qz_N h 203 ≤ 513 := ez_len hB t203 tq_49 rfl
  have y5 : 1 ≤ qz_I h 203 (qz_I h 739 (i).toNat).toNat ∧ qz_I h 203 (qz_I h 739 (i).toNat).toNat ≤ 1000000 := ez_aB hB t203 tq_49 rfl rfl (by decide) (by omega) (by omega)
  have y5' : ((qz_P h 203 (qz_I h 739 (i).toNat).toNat : Nat) : Int) + 1 = qz_I h 203 (qz_I h 739 (i).toNat).toNat := by unfold qz_P; omega
  refine ez_aR hB t203 rfl tq_49 rfl rfl (by omega) (by omega) (by omega) (fun (t3 : _ = 4) => ?_)
  refine ez_gN hB t3 rfl rfl tq_4 rfl rfl (fun (t6 : qz_I h (qz_P h 203 (qz_I h 739 (i).toNat).toNat) 8 = 0) => ?_) (fun (t6 : _ = 6) (t6' : 1 ≤ qz_I h (qz_P h 203 (qz_I h 739 (i).toNat).toNat) 8) => ?_)
  · skip
    refine ez_go (n := 1) (pc' := 21) (L' := [(4, .inr (.inr none)), (3, .inr (.inr none)), (0, .inr (.inr (some (738)))), (1, .inl (i)), (2, .inl (kind))]) (st' := []) rfl ?_
    refine ez_less [(4, .inr (.inr none)), (3, .inr (.inr none)), (0, .inr (.inr (some (738)))), (1, .inl (i)), (2, .inl (kind))] rfl ⟨rfl, rfl, rfl, rfl, rfl, trivial⟩ ?_
    exact rd_spl c lr i0 i1 k0 k2 k _ _ _ none none xq.2.2.2 (Or.inl ⟨by unfold sz_p; omega, rfl⟩) ⟨fun _ => rfl, fun s e => by cases e⟩ (fun r hr => hr)
  · skip
    refine ez_go (n := 1) (pc' := 21) (L' := [(4, .inr (.inr (some (qz_P h (qz_P h 203 (qz_I h 739 (i).toNat).toNat) 8)))), (3, .inr (.inr none)), (0, .inr (.inr (some (738)))), (1, .inl (i)), (2, .inl (kind))]) (st' := []) rfl ?_
    refine ez_less [(4, .inr (.inr (some (qz_P h (qz_P h 203 (qz_I h 739 (i).toNat).toNat) 8)))), (3, .inr (.inr none)), (0, .inr (.inr (some (738)))), (1, .inl (i)), (2, .inl (kind))] rfl ⟨rfl, rfl, rfl, rfl, rfl, trivial⟩ ?_
    exact rd_spl c lr i0 i1 k0 k2 k _ _ _ none none xq.2.2.2 (Or.inr ⟨qz_P h (qz_P h 203 (qz_I h 739 (i).toNat).toNat) 8, by unfold sz_p; unfold qz_P at *; omega, rfl⟩) ⟨fun _ => rfl, fun s e => by cases e⟩ (fun r hr => hr)

theorem rd_ownCase {i kind : Int} (c : ckC τ h F D p u loc) (hx : sz_X τ h O D) (i0 : 0 ≤ i) (i1 : i < (u.length : Int)) (k0 : 0 ≤ kind) (k2 : kind ≤ 2) (k : Q (.inl (some (ez_v (.inl (ownc (D (uX u i)).1 kind (uX u i))))), h)) : ez_W d cm_74 0 [(0, .inr (.inr (some (738)))), (1, .inl (i)), (2, .inl (kind))] [] h Q := by
  have hB := c.1.1
  have t738 : τ 738 = 70 := c.1.2 738 (by decide)
  have tp := c.2.1
  have n2 := c.2.2.1.1
  have e7 := c.2.2.2.1.2.1
  have at9 := (c.2.2.2.2 i i0 i1).2.2.2.2
  have pb := uX_ptl c.2.2.1.2 (show i.toNat < u.length by omega)
  have xq := hx _ _ pb.1 pb.2 at9
  have k90 := at9.1
  have k91 := at9.2.1
  have k92 := sz_R_n1 hB (c.1.2 202 (by decide))
  refine ez_go (n := 1) (pc' := 1) (L' := [(0, .inr (.inr (some (738)))), (1, .inl (i)), (2, .inl (kind))]) (st' := [.inr (.inr (some (738)))]) rfl ?_
  refine ez_gC (p := 202) (tg := 48) hB t738 rfl rfl tq_70 rfl rfl (fun (t202 : _ = 48) => ?_)
  refine ez_gC (p := 203) (tg := 49) hB t202 rfl rfl tq_48 rfl rfl (fun (t203 : _ = 49) => ?_)
  refine ez_go (n := 1) (pc' := 8) (L' := [(0, .inr (.inr (some (738)))), (1, .inl (i)), (2, .inl (kind))]) (st' := [.inr (.inr (some (738))), .inr (.inr (some (203)))]) rfl ?_
  refine ez_gC (p := 739) (tg := 71) hB t738 rfl rfl tq_70 rfl rfl (fun (t739 : _ = 71) => ?_)
  refine ez_go (n := 1) (pc' := 12) (L' := [(0, .inr (.inr (some (738)))), (1, .inl (i)), (2, .inl (kind))]) (st' := [.inl (i), .inr (.inr (some (739))), .inr (.inr (some (203)))]) rfl ?_
  have n2 : 2000 ≤ qz_N h 739 ∧ qz_N h 739 ≤ 2000 := ez_len hB t739 tq_71 rfl
  refine ez_aI hB t739 rfl tq_71 rfl rfl (by omega) (by omega) (fun (b1 : 0 ≤ qz_I h 739 (i).toNat) (b1' : qz_I h 739 (i).toNat ≤ 512) => ?_)
  have n4 : 513 ≤ qz_N h 203 ∧ qz_N h 203 ≤ 513 := ez_len hB t203 tq_49 rfl
  have y5 : 1 ≤ qz_I h 203 (qz_I h 739 (i).toNat).toNat ∧ qz_I h 203 (qz_I h 739 (i).toNat).toNat ≤ 1000000 := ez_aB hB t203 tq_49 rfl rfl (by decide) (by omega) (by omega)
  have y5' : ((qz_P h 203 (qz_I h 739 (i).toNat).toNat : Nat) : Int) + 1 = qz_I h 203 (qz_I h 739 (i).toNat).toNat := by unfold qz_P; omega
  refine ez_aR hB t203 rfl tq_49 rfl rfl (by omega) (by omega) (by omega) (fun (t3 : _ = 4) => ?_)
  refine ez_gR hB t3 rfl rfl tq_4 rfl rfl (fun (t6 : _ = 3) (t6' : 1 ≤ qz_I h (qz_P h 203 (qz_I h 739 (i).toNat).toNat) 1) => ?_)
  refine ez_go (n := 2) (pc' := 19) (L' := [(3, .inr (.inr (some (qz_P h (qz_P h 203 (qz_I h 739 (i).toNat).toNat) 1)))), (0, .inr (.inr (some (738)))), (1, .inl (i)), (2, .inl (kind))]) (st' := [.inl (kind)]) rfl ?_
  refine ez_if rfl rfl ⟨by first | omega | exact (sz_i32 _).1, by first | omega | exact (sz_i32 _).2⟩ (fun (c7 : (kind) ≠ (0)) => ?_) (fun (c7 : ¬((kind) ≠ (0))) => ?_)
  · skip
    refine ez_go (n := 1) (pc' := 30) (L' := [(3, .inr (.inr (some (qz_P h (qz_P h 203 (qz_I h 739 (i).toNat).toNat) 1)))), (0, .inr (.inr (some (738)))), (1, .inl (i)), (2, .inl (kind))]) (st' := [.inr (.inr (some (qz_P h (qz_P h 203 (qz_I h 739 (i).toNat).toNat) 1)))]) rfl ?_
    refine ez_gI hB t6 rfl rfl tq_3 rfl rfl (fun (b8 : -2147483648 ≤ qz_I h (qz_P h (qz_P h 203 (qz_I h 739 (i).toNat).toNat) 1) 5) (b8' : qz_I h (qz_P h (qz_P h 203 (qz_I h 739 (i).toNat).toNat) 1) 5 ≤ 2147483647) => ?_)
    have y5 : qz_I h (qz_P h (qz_P h 203 (qz_I h 739 (i).toNat).toNat) 1) 5 = (D (uX u i)).1.2.1 := xq.1.2.1
    rw [y5]
    refine ez_go (n := 3) (pc' := 37) (L' := [(4, .inl ((D (uX u i)).1.2.1)), (3, .inr (.inr (some (qz_P h (qz_P h 203 (qz_I h 739 (i).toNat).toNat) 1)))), (0, .inr (.inr (some (738)))), (1, .inl (i)), (2, .inl (kind))]) (st' := [.inl (2), .inl (kind)]) rfl ?_
    refine ez_icmp rfl rfl ⟨by first | omega | exact (sz_i32 _).1, by first | omega | exact (sz_i32 _).2⟩ ⟨by first | omega | exact (sz_i32 _).1, by first | omega | exact (sz_i32 _).2⟩ (fun (c9 : (kind) ≠ (2)) => ?_) (fun (c9 : ¬((kind) ≠ (2))) => ?_)
    · skip
      refine ez_go (n := 2) (pc' := 57) (L' := [(4, .inl ((D (uX u i)).1.2.1)), (3, .inr (.inr (some (qz_P h (qz_P h 203 (qz_I h 739 (i).toNat).toNat) 1)))), (0, .inr (.inr (some (738)))), (1, .inl (i)), (2, .inl (kind))]) (st' := [.inl (-1), .inl ((D (uX u i)).1.2.1)]) rfl ?_
      refine ez_icmp rfl rfl ⟨by first | omega | exact (sz_i32 _).1, by first | omega | exact (sz_i32 _).2⟩ ⟨by first | omega | exact (sz_i32 _).1, by first | omega | exact (sz_i32 _).2⟩ (fun (c10 : ((D (uX u i)).1.2.1) = (-1)) => ?_) (fun (c10 : ¬(((D (uX u i)).1.2.1) = (-1))) => ?_)
      · skip
        refine ez_go (n := 1) (pc' := 66) (L' := [(4, .inl ((D (uX u i)).1.2.1)), (3, .inr (.inr (some (qz_P h (qz_P h 203 (qz_I h 739 (i).toNat).toNat) 1)))), (0, .inr (.inr (some (738)))), (1, .inl (i)), (2, .inl (kind))]) (st' := [.inr (.inr (some (738)))]) rfl ?_
        refine ez_g2 (p := p) hB t738 rfl rfl tq_70 rfl rfl (c.2.2.2.1.1) ?_
        refine ez_go (n := 1) (pc' := 70) (L' := [(4, .inl ((D (uX u i)).1.2.1)), (3, .inr (.inr (some (qz_P h (qz_P h 203 (qz_I h 739 (i).toNat).toNat) 1)))), (0, .inr (.inr (some (738)))), (1, .inl (i)), (2, .inl (kind))]) (st' := [.inl (i), .inr (.inr (some (p)))]) rfl ?_
        have n12 : 2000 ≤ qz_N h p ∧ qz_N h p ≤ 2000 := ez_len hB tp tq_89 rfl
        refine ez_aI hB tp rfl tq_89 rfl rfl (by omega) (by omega) (fun (b11 : -2147483648 ≤ qz_I h p (i).toNat) (b11' : qz_I h p (i).toNat ≤ 2147483647) => ?_)
        have e39 := (c.2.2.2.2 i (by omega) (by omega)).1
        rw [e39]
        have eo : uX u i = ownc (D (uX u i)).1 kind (uX u i) := by
          unfold ownc owm
          by_cases e1 : kind = 0
          · rw [if_pos e1]
            first | (exfalso; omega) | rw [if_pos (by omega)] | rw [if_neg (by omega)]
          · rw [if_neg e1]
            by_cases e2 : kind = 2 ∧ (D (uX u i)).1.2.2.2 ≠ -1
            · rw [if_pos e2]
              first | (exfalso; omega) | rw [if_pos (by omega)] | rw [if_neg (by omega)]
            · rw [if_neg e2]
              first | (exfalso; omega) | rw [if_pos (by omega)] | rw [if_neg (by omega)]
        rw [eo]
        exact ez_retI rfl rfl k
      · skip
        refine ez_go (n := 2) (pc' := 71) (L' := [(4, .inl ((D (uX u i)).1.2.1)), (3, .inr (.inr (some (qz_P h (qz_P h 203 (qz_I h 739 (i).toNat).toNat) 1)))), (0, .inr (.inr (some (738)))), (1, .inl (i)), (2, .inl (kind))]) (st' := [.inl ((D (uX u i)).1.2.1)]) rfl ?_
        have eo : (D (uX u i)).1.2.1 = ownc (D (uX u i)).1 kind (uX u i) := by
          unfold ownc owm
          by_cases e1 : kind = 0
          · rw [if_pos e1]
            first | (exfalso; omega) | rw [if_pos (by omega)] | rw [if_neg (by omega)]
          · rw [if_neg e1]
            by_cases e2 : kind = 2 ∧ (D (uX u i)).1.2.2.2 ≠ -1
            · rw [if_pos e2]
              first | (exfalso; omega) | rw [if_pos (by omega)] | rw [if_neg (by omega)]
            · rw [if_neg e2]
              first | (exfalso; omega) | rw [if_pos (by omega)] | rw [if_neg (by omega)]
        rw [eo]
        exact ez_retI rfl rfl k
    · skip
      refine ez_go (n := 1) (pc' := 41) (L' := [(4, .inl ((D (uX u i)).1.2.1)), (3, .inr (.inr (some (qz_P h (qz_P h 203 (qz_I h 739 (i).toNat).toNat) 1)))), (0, .inr (.inr (some (738)))), (1, .inl (i)), (2, .inl (kind))]) (st' := [.inr (.inr (some (qz_P h (qz_P h 203 (qz_I h 739 (i).toNat).toNat) 1)))]) rfl ?_
      refine ez_gI hB t6 rfl rfl tq_3 rfl rfl (fun (b13 : -2147483648 ≤ qz_I h (qz_P h (qz_P h 203 (qz_I h 739 (i).toNat).toNat) 1) 7) (b13' : qz_I h (qz_P h (qz_P h 203 (qz_I h 739 (i).toNat).toNat) 1) 7 ≤ 2147483647) => ?_)
      have y7 : qz_I h (qz_P h (qz_P h 203 (qz_I h 739 (i).toNat).toNat) 1) 7 = (D (uX u i)).1.2.2.2 := xq.1.2.2.2
      rw [y7]
      refine ez_go (n := 1) (pc' := 45) (L' := [(4, .inl ((D (uX u i)).1.2.1)), (3, .inr (.inr (some (qz_P h (qz_P h 203 (qz_I h 739 (i).toNat).toNat) 1)))), (0, .inr (.inr (some (738)))), (1, .inl (i)), (2, .inl (kind))]) (st' := [.inl (-1), .inl ((D (uX u i)).1.2.2.2)]) rfl ?_
      refine ez_icmp rfl rfl ⟨by first | omega | exact (sz_i32 _).1, by first | omega | exact (sz_i32 _).2⟩ ⟨by first | omega | exact (sz_i32 _).1, by first | omega | exact (sz_i32 _).2⟩ (fun (c14 : ((D (uX u i)).1.2.2.2) = (-1)) => ?_) (fun (c14 : ¬(((D (uX u i)).1.2.2.2) = (-1))) => ?_)
      · skip
        refine ez_go (n := 2) (pc' := 57) (L' := [(4, .inl ((D (uX u i)).1.2.1)), (3, .inr (.inr (some (qz_P h (qz_P h 203 (qz_I h 739 (i).toNat).toNat) 1)))), (0, .inr (.inr (some (738)))), (1, .inl (i)), (2, .inl (kind))]) (st' := [.inl (-1), .inl ((D (uX u i)).1.2.1)]) rfl ?_
        refine ez_icmp rfl rfl ⟨by first | omega | exact (sz_i32 _).1, by first | omega | exact (sz_i32 _).2⟩ ⟨by first | omega | exact (sz_i32 _).1, by first | omega | exact (sz_i32 _).2⟩ (fun (c15 : ((D (uX u i)).1.2.1) = (-1)) => ?_) (fun (c15 : ¬(((D (uX u i)).1.2.1) = (-1))) => ?_)
        · skip
          refine ez_go (n := 1) (pc' := 66) (L' := [(4, .inl ((D (uX u i)).1.2.1)), (3, .inr (.inr (some (qz_P h (qz_P h 203 (qz_I h 739 (i).toNat).toNat) 1)))), (0, .inr (.inr (some (738)))), (1, .inl (i)), (2, .inl (kind))]) (st' := [.inr (.inr (some (738)))]) rfl ?_
          refine ez_g2 (p := p) hB t738 rfl rfl tq_70 rfl rfl (c.2.2.2.1.1) ?_
          refine ez_go (n := 1) (pc' := 70) (L' := [(4, .inl ((D (uX u i)).1.2.1)), (3, .inr (.inr (some (qz_P h (qz_P h 203 (qz_I h 739 (i).toNat).toNat) 1)))), (0, .inr (.inr (some (738)))), (1, .inl (i)), (2, .inl (kind))]) (st' := [.inl (i), .inr (.inr (some (p)))]) rfl ?_
          have n17 : 2000 ≤ qz_N h p ∧ qz_N h p ≤ 2000 := ez_len hB tp tq_89 rfl
          refine ez_aI hB tp rfl tq_89 rfl rfl (by omega) (by omega) (fun (b16 : -2147483648 ≤ qz_I h p (i).toNat) (b16' : qz_I h p (i).toNat ≤ 2147483647) => ?_)
          have e39 := (c.2.2.2.2 i (by omega) (by omega)).1
          rw [e39]
          have eo : uX u i = ownc (D (uX u i)).1 kind (uX u i) := by
            unfold ownc owm
            by_cases e1 : kind = 0
            · rw [if_pos e1]
              first | (exfalso; omega) | rw [if_pos (by omega)] | rw [if_neg (by omega)]
            · rw [if_neg e1]
              by_cases e2 : kind = 2 ∧ (D (uX u i)).1.2.2.2 ≠ -1
              · rw [if_pos e2]
                first | (exfalso; omega) | rw [if_pos (by omega)] | rw [if_neg (by omega)]
              · rw [if_neg e2]
                first | (exfalso; omega) | rw [if_pos (by omega)] | rw [if_neg (by omega)]
          rw [eo]
          exact ez_retI rfl rfl k
        · skip
          refine ez_go (n := 2) (pc' := 71) (L' := [(4, .inl ((D (uX u i)).1.2.1)), (3, .inr (.inr (some (qz_P h (qz_P h 203 (qz_I h 739 (i).toNat).toNat) 1)))), (0, .inr (.inr (some (738)))), (1, .inl (i)), (2, .inl (kind))]) (st' := [.inl ((D (uX u i)).1.2.1)]) rfl ?_
          have eo : (D (uX u i)).1.2.1 = ownc (D (uX u i)).1 kind (uX u i) := by
            unfold ownc owm
            by_cases e1 : kind = 0
            · rw [if_pos e1]
              first | (exfalso; omega) | rw [if_pos (by omega)] | rw [if_neg (by omega)]
            · rw [if_neg e1]
              by_cases e2 : kind = 2 ∧ (D (uX u i)).1.2.2.2 ≠ -1
              · rw [if_pos e2]
                first | (exfalso; omega) | rw [if_pos (by omega)] | rw [if_neg (by omega)]
              · rw [if_neg e2]
                first | (exfalso; omega) | rw [if_pos (by omega)] | rw [if_neg (by omega)]
          rw [eo]
          exact ez_retI rfl rfl k
      · skip
        refine ez_go (n := 1) (pc' := 49) (L' := [(4, .inl ((D (uX u i)).1.2.1)), (3, .inr (.inr (some (qz_P h (qz_P h 203 (qz_I h 739 (i).toNat).toNat) 1)))), (0, .inr (.inr (some (738)))), (1, .inl (i)), (2, .inl (kind))]) (st' := [.inr (.inr (some (qz_P h (qz_P h 203 (qz_I h 739 (i).toNat).toNat) 1)))]) rfl ?_
        refine ez_gI hB t6 rfl rfl tq_3 rfl rfl (fun (b18 : -2147483648 ≤ qz_I h (qz_P h (qz_P h 203 (qz_I h 739 (i).toNat).toNat) 1) 7) (b18' : qz_I h (qz_P h (qz_P h 203 (qz_I h 739 (i).toNat).toNat) 1) 7 ≤ 2147483647) => ?_)
        have y7 : qz_I h (qz_P h (qz_P h 203 (qz_I h 739 (i).toNat).toNat) 1) 7 = (D (uX u i)).1.2.2.2 := xq.1.2.2.2
        rw [y7]
        refine ez_go (n := 3) (pc' := 57) (L' := [(4, .inl ((D (uX u i)).1.2.2.2)), (3, .inr (.inr (some (qz_P h (qz_P h 203 (qz_I h 739 (i).toNat).toNat) 1)))), (0, .inr (.inr (some (738)))), (1, .inl (i)), (2, .inl (kind))]) (st' := [.inl (-1), .inl ((D (uX u i)).1.2.2.2)]) rfl ?_
        refine ez_icmp rfl rfl ⟨by first | omega | exact (sz_i32 _).1, by first | omega | exact (sz_i32 _).2⟩ ⟨by first | omega | exact (sz_i32 _).1, by first | omega | exact (sz_i32 _).2⟩ (fun (c19 : ((D (uX u i)).1.2.2.2) = (-1)) => ?_) (fun (c19 : ¬(((D (uX u i)).1.2.2.2) = (-1))) => ?_)
        · skip
          refine ez_go (n := 1) (pc' := 66) (L' := [(4, .inl ((D (uX u i)).1.2.2.2)), (3, .inr (.inr (some (qz_P h (qz_P h 203 (qz_I h 739 (i).toNat).toNat) 1)))), (0, .inr (.inr (some (738)))), (1, .inl (i)), (2, .inl (kind))]) (st' := [.inr (.inr (some (738)))]) rfl ?_
          refine ez_g2 (p := p) hB t738 rfl rfl tq_70 rfl rfl (c.2.2.2.1.1) ?_
          refine ez_go (n := 1) (pc' := 70) (L' := [(4, .inl ((D (uX u i)).1.2.2.2)), (3, .inr (.inr (some (qz_P h (qz_P h 203 (qz_I h 739 (i).toNat).toNat) 1)))), (0, .inr (.inr (some (738)))), (1, .inl (i)), (2, .inl (kind))]) (st' := [.inl (i), .inr (.inr (some (p)))]) rfl ?_
          have n21 : 2000 ≤ qz_N h p ∧ qz_N h p ≤ 2000 := ez_len hB tp tq_89 rfl
          refine ez_aI hB tp rfl tq_89 rfl rfl (by omega) (by omega) (fun (b20 : -2147483648 ≤ qz_I h p (i).toNat) (b20' : qz_I h p (i).toNat ≤ 2147483647) => ?_)
          have e39 := (c.2.2.2.2 i (by omega) (by omega)).1
          rw [e39]
          have eo : uX u i = ownc (D (uX u i)).1 kind (uX u i) := by
            unfold ownc owm
            by_cases e1 : kind = 0
            · rw [if_pos e1]
              first | (exfalso; omega) | rw [if_pos (by omega)] | rw [if_neg (by omega)]
            · rw [if_neg e1]
              by_cases e2 : kind = 2 ∧ (D (uX u i)).1.2.2.2 ≠ -1
              · rw [if_pos e2]
                first | (exfalso; omega) | rw [if_pos (by omega)] | rw [if_neg (by omega)]
              · rw [if_neg e2]
                first | (exfalso; omega) | rw [if_pos (by omega)] | rw [if_neg (by omega)]
          rw [eo]
          exact ez_retI rfl rfl k
        · skip
          refine ez_go (n := 2) (pc' := 71) (L' := [(4, .inl ((D (uX u i)).1.2.2.2)), (3, .inr (.inr (some (qz_P h (qz_P h 203 (qz_I h 739 (i).toNat).toNat) 1)))), (0, .inr (.inr (some (738)))), (1, .inl (i)), (2, .inl (kind))]) (st' := [.inl ((D (uX u i)).1.2.2.2)]) rfl ?_
          have eo : (D (uX u i)).1.2.2.2 = ownc (D (uX u i)).1 kind (uX u i) := by
            unfold ownc owm
            by_cases e1 : kind = 0
            · rw [if_pos e1]
              first | (exfalso; omega) | rw [if_pos (by omega)] | rw [if_neg (by omega)]
            · rw [if_neg e1]
              by_cases e2 : kind = 2 ∧ (D (uX u i)).1.2.2.2 ≠ -1
              · rw [if_pos e2]
                first | (exfalso; omega) | rw [if_pos (by omega)] | rw [if_neg (by omega)]
              · rw [if_neg e2]
                first | (exfalso; omega) | rw [if_pos (by omega)] | rw [if_neg (by omega)]
          rw [eo]
          exact ez_retI rfl rfl k
  · skip
    refine ez_go (n := 1) (pc' := 23) (L' := [(3, .inr (.inr (some (qz_P h (qz_P h 203 (qz_I h 739 (i).toNat).toNat) 1)))), (0, .inr (.inr (some (738)))), (1, .inl (i)), (2, .inl (kind))]) (st' := [.inr (.inr (some (qz_P h (qz_P h 203 (qz_I h 739 (i).toNat).toNat) 1)))]) rfl ?_
    refine ez_gI hB t6 rfl rfl tq_3 rfl rfl (fun (b22 : -2147483648 ≤ qz_I h (qz_P h (qz_P h 203 (qz_I h 739 (i).toNat).toNat) 1) 6) (b22' : qz_I h (qz_P h (qz_P h 203 (qz_I h 739 (i).toNat).toNat) 1) 6 ≤ 2147483647) => ?_)
    have y6 : qz_I h (qz_P h (qz_P h 203 (qz_I h 739 (i).toNat).toNat) 1) 6 = (D (uX u i)).1.2.2.1 := xq.1.2.2.1
    rw [y6]
    refine ez_go (n := 4) (pc' := 37) (L' := [(4, .inl ((D (uX u i)).1.2.2.1)), (3, .inr (.inr (some (qz_P h (qz_P h 203 (qz_I h 739 (i).toNat).toNat) 1)))), (0, .inr (.inr (some (738)))), (1, .inl (i)), (2, .inl (kind))]) (st' := [.inl (2), .inl (kind)]) rfl ?_
    refine ez_icmp rfl rfl ⟨by first | omega | exact (sz_i32 _).1, by first | omega | exact (sz_i32 _).2⟩ ⟨by first | omega | exact (sz_i32 _).1, by first | omega | exact (sz_i32 _).2⟩ (fun (c23 : (kind) ≠ (2)) => ?_) (fun (c23 : ¬((kind) ≠ (2))) => ?_)
    · skip
      refine ez_go (n := 2) (pc' := 57) (L' := [(4, .inl ((D (uX u i)).1.2.2.1)), (3, .inr (.inr (some (qz_P h (qz_P h 203 (qz_I h 739 (i).toNat).toNat) 1)))), (0, .inr (.inr (some (738)))), (1, .inl (i)), (2, .inl (kind))]) (st' := [.inl (-1), .inl ((D (uX u i)).1.2.2.1)]) rfl ?_
      refine ez_icmp rfl rfl ⟨by first | omega | exact (sz_i32 _).1, by first | omega | exact (sz_i32 _).2⟩ ⟨by first | omega | exact (sz_i32 _).1, by first | omega | exact (sz_i32 _).2⟩ (fun (c24 : ((D (uX u i)).1.2.2.1) = (-1)) => ?_) (fun (c24 : ¬(((D (uX u i)).1.2.2.1) = (-1))) => ?_)
      · skip
        refine ez_go (n := 1) (pc' := 66) (L' := [(4, .inl ((D (uX u i)).1.2.2.1)), (3, .inr (.inr (some (qz_P h (qz_P h 203 (qz_I h 739 (i).toNat).toNat) 1)))), (0, .inr (.inr (some (738)))), (1, .inl (i)), (2, .inl (kind))]) (st' := [.inr (.inr (some (738)))]) rfl ?_
        refine ez_g2 (p := p) hB t738 rfl rfl tq_70 rfl rfl (c.2.2.2.1.1) ?_
        refine ez_go (n := 1) (pc' := 70) (L' := [(4, .inl ((D (uX u i)).1.2.2.1)), (3, .inr (.inr (some (qz_P h (qz_P h 203 (qz_I h 739 (i).toNat).toNat) 1)))), (0, .inr (.inr (some (738)))), (1, .inl (i)), (2, .inl (kind))]) (st' := [.inl (i), .inr (.inr (some (p)))]) rfl ?_
        have n26 : 2000 ≤ qz_N h p ∧ qz_N h p ≤ 2000 := ez_len hB tp tq_89 rfl
        refine ez_aI hB tp rfl tq_89 rfl rfl (by omega) (by omega) (fun (b25 : -2147483648 ≤ qz_I h p (i).toNat) (b25' : qz_I h p (i).toNat ≤ 2147483647) => ?_)
        have e39 := (c.2.2.2.2 i (by omega) (by omega)).1
        rw [e39]
        have eo : uX u i = ownc (D (uX u i)).1 kind (uX u i) := by
          unfold ownc owm
          by_cases e1 : kind = 0
          · rw [if_pos e1]
            first | (exfalso; omega) | rw [if_pos (by omega)] | rw [if_neg (by omega)]
          · rw [if_neg e1]
            by_cases e2 : kind = 2 ∧ (D (uX u i)).1.2.2.2 ≠ -1
            · rw [if_pos e2]
              first | (exfalso; omega) | rw [if_pos (by omega)] | rw [if_neg (by omega)]
            · rw [if_neg e2]
              first | (exfalso; omega) | rw [if_pos (by omega)] | rw [if_neg (by omega)]
        rw [eo]
        exact ez_retI rfl rfl k
      · skip
        refine ez_go (n := 2) (pc' := 71) (L' := [(4, .inl ((D (uX u i)).1.2.2.1)), (3, .inr (.inr (some (qz_P h (qz_P h 203 (qz_I h 739 (i).toNat).toNat) 1)))), (0, .inr (.inr (some (738)))), (1, .inl (i)), (2, .inl (kind))]) (st' := [.inl ((D (uX u i)).1.2.2.1)]) rfl ?_
        have eo : (D (uX u i)).1.2.2.1 = ownc (D (uX u i)).1 kind (uX u i) := by
          unfold ownc owm
          by_cases e1 : kind = 0
          · rw [if_pos e1]
            first | (exfalso; omega) | rw [if_pos (by omega)] | rw [if_neg (by omega)]
          · rw [if_neg e1]
            by_cases e2 : kind = 2 ∧ (D (uX u i)).1.2.2.2 ≠ -1
            · rw [if_pos e2]
              first | (exfalso; omega) | rw [if_pos (by omega)] | rw [if_neg (by omega)]
            · rw [if_neg e2]
              first | (exfalso; omega) | rw [if_pos (by omega)] | rw [if_neg (by omega)]
        rw [eo]
        exact ez_retI rfl rfl k
    · skip
      refine ez_go (n := 1) (pc' := 41) (L' := [(4, .inl ((D (uX u i)).1.2.2.1)), (3, .inr (.inr (some (qz_P h (qz_P h 203 (qz_I h 739 (i).toNat).toNat) 1)))), (0, .inr (.inr (some (738)))), (1, .inl (i)), (2, .inl (kind))]) (st' := [.inr (.inr (some (qz_P h (qz_P h 203 (qz_I h 739 (i).toNat).toNat) 1)))]) rfl ?_
      refine ez_gI hB t6 rfl rfl tq_3 rfl rfl (fun (b27 : -2147483648 ≤ qz_I h (qz_P h (qz_P h 203 (qz_I h 739 (i).toNat).toNat) 1) 7) (b27' : qz_I h (qz_P h (qz_P h 203 (qz_I h 739 (i).toNat).toNat) 1) 7 ≤ 2147483647) => ?_)
      have y7 : qz_I h (qz_P h (qz_P h 203 (qz_I h 739 (i).toNat).toNat) 1) 7 = (D (uX u i)).1.2.2.2 := xq.1.2.2.2
      rw [y7]
      refine ez_go (n := 1) (pc' := 45) (L' := [(4, .inl ((D (uX u i)).1.2.2.1)), (3, .inr (.inr (some (qz_P h (qz_P h 203 (qz_I h 739 (i).toNat).toNat) 1)))), (0, .inr (.inr (some (738)))), (1, .inl (i)), (2, .inl (kind))]) (st' := [.inl (-1), .inl ((D (uX u i)).1.2.2.2)]) rfl ?_
      refine ez_icmp rfl rfl ⟨by first | omega | exact (sz_i32 _).1, by first | omega | exact (sz_i32 _).2⟩ ⟨by first | omega | exact (sz_i32 _).1, by first | omega | exact (sz_i32 _).2⟩ (fun (c28 : ((D (uX u i)).1.2.2.2) = (-1)) => ?_) (fun (c28 : ¬(((D (uX u i)).1.2.2.2) = (-1))) => ?_)
      · skip
        refine ez_go (n := 2) (pc' := 57) (L' := [(4, .inl ((D (uX u i)).1.2.2.1)), (3, .inr (.inr (some (qz_P h (qz_P h 203 (qz_I h 739 (i).toNat).toNat) 1)))), (0, .inr (.inr (some (738)))), (1, .inl (i)), (2, .inl (kind))]) (st' := [.inl (-1), .inl ((D (uX u i)).1.2.2.1)]) rfl ?_
        refine ez_icmp rfl rfl ⟨by first | omega | exact (sz_i32 _).1, by first | omega | exact (sz_i32 _).2⟩ ⟨by first | omega | exact (sz_i32 _).1, by first | omega | exact (sz_i32 _).2⟩ (fun (c29 : ((D (uX u i)).1.2.2.1) = (-1)) => ?_) (fun (c29 : ¬(((D (uX u i)).1.2.2.1) = (-1))) => ?_)
        · skip
          refine ez_go (n := 1) (pc' := 66) (L' := [(4, .inl ((D (uX u i)).1.2.2.1)), (3, .inr (.inr (some (qz_P h (qz_P h 203 (qz_I h 739 (i).toNat).toNat) 1)))), (0, .inr (.inr (some (738)))), (1, .inl (i)), (2, .inl (kind))]) (st' := [.inr (.inr (some (738)))]) rfl ?_
          refine ez_g2 (p := p) hB t738 rfl rfl tq_70 rfl rfl (c.2.2.2.1.1) ?_
          refine ez_go (n := 1) (pc' := 70) (L' := [(4, .inl ((D (uX u i)).1.2.2.1)), (3, .inr (.inr (some (qz_P h (qz_P h 203 (qz_I h 739 (i).toNat).toNat) 1)))), (0, .inr (.inr (some (738)))), (1, .inl (i)), (2, .inl (kind))]) (st' := [.inl (i), .inr (.inr (some (p)))]) rfl ?_
          have n31 : 2000 ≤ qz_N h p ∧ qz_N h p ≤ 2000 := ez_len hB tp tq_89 rfl
          refine ez_aI hB tp rfl tq_89 rfl rfl (by omega) (by omega) (fun (b30 : -2147483648 ≤ qz_I h p (i).toNat) (b30' : qz_I h p (i).toNat ≤ 2147483647) => ?_)
          have e39 := (c.2.2.2.2 i (by omega) (by omega)).1
          rw [e39]
          have eo : uX u i = ownc (D (uX u i)).1 kind (uX u i) := by
            unfold ownc owm
            by_cases e1 : kind = 0
            · rw [if_pos e1]
              first | (exfalso; omega) | rw [if_pos (by omega)] | rw [if_neg (by omega)]
            · rw [if_neg e1]
              by_cases e2 : kind = 2 ∧ (D (uX u i)).1.2.2.2 ≠ -1
              · rw [if_pos e2]
                first | (exfalso; omega) | rw [if_pos (by omega)] | rw [if_neg (by omega)]
              · rw [if_neg e2]
                first | (exfalso; omega) | rw [if_pos (by omega)] | rw [if_neg (by omega)]
          rw [eo]
          exact ez_retI rfl rfl k
        · skip
          refine ez_go (n := 2) (pc' := 71) (L' := [(4, .inl ((D (uX u i)).1.2.2.1)), (3, .inr (.inr (some (qz_P h (qz_P h 203 (qz_I h 739 (i).toNat).toNat) 1)))), (0, .inr (.inr (some (738)))), (1, .inl (i)), (2, .inl (kind))]) (st' := [.inl ((D (uX u i)).1.2.2.1)]) rfl ?_
          have eo : (D (uX u i)).1.2.2.1 = ownc (D (uX u i)).1 kind (uX u i) := by
            unfold ownc owm
            by_cases e1 : kind = 0
            · rw [if_pos e1]
              first | (exfalso; omega) | rw [if_pos (by omega)] | rw [if_neg (by omega)]
            · rw [if_neg e1]
              by_cases e2 : kind = 2 ∧ (D (uX u i)).1.2.2.2 ≠ -1
              · rw [if_pos e2]
                first | (exfalso; omega) | rw [if_pos (by omega)] | rw [if_neg (by omega)]
              · rw [if_neg e2]
                first | (exfalso; omega) | rw [if_pos (by omega)] | rw [if_neg (by omega)]
          rw [eo]
          exact ez_retI rfl rfl k
      · skip
        refine ez_go (n := 1) (pc' := 49) (L' := [(4, .inl ((D (uX u i)).1.2.2.1)), (3, .inr (.inr (some (qz_P h (qz_P h 203 (qz_I h 739 (i).toNat).toNat) 1)))), (0, .inr (.inr (some (738)))), (1, .inl (i)), (2, .inl (kind))]) (st' := [.inr (.inr (some (qz_P h (qz_P h 203 (qz_I h 739 (i).toNat).toNat) 1)))]) rfl ?_
        refine ez_gI hB t6 rfl rfl tq_3 rfl rfl (fun (b32 : -2147483648 ≤ qz_I h (qz_P h (qz_P h 203 (qz_I h 739 (i).toNat).toNat) 1) 7) (b32' : qz_I h (qz_P h (qz_P h 203 (qz_I h 739 (i).toNat).toNat) 1) 7 ≤ 2147483647) => ?_)
        have y7 : qz_I h (qz_P h (qz_P h 203 (qz_I h 739 (i).toNat).toNat) 1) 7 = (D (uX u i)).1.2.2.2 := xq.1.2.2.2
        rw [y7]
        refine ez_go (n := 3) (pc' := 57) (L' := [(4, .inl ((D (uX u i)).1.2.2.2)), (3, .inr (.inr (some (qz_P h (qz_P h 203 (qz_I h 739 (i).toNat).toNat) 1)))), (0, .inr (.inr (some (738)))), (1, .inl (i)), (2, .inl (kind))]) (st' := [.inl (-1), .inl ((D (uX u i)).1.2.2.2)]) rfl ?_
        refine ez_icmp rfl rfl ⟨by first | omega | exact (sz_i32 _).1, by first | omega | exact (sz_i32 _).2⟩ ⟨by first | omega | exact (sz_i32 _).1, by first | omega | exact (sz_i32 _).2⟩ (fun (c33 : ((D (uX u i)).1.2.2.2) = (-1)) => ?_) (fun (c33 : ¬(((D (uX u i)).1.2.2.2) = (-1))) => ?_)
        · skip
          refine ez_go (n := 1) (pc' := 66) (L' := [(4, .inl ((D (uX u i)).1.2.2.2)), (3, .inr (.inr (some (qz_P h (qz_P h 203 (qz_I h 739 (i).toNat).toNat) 1)))), (0, .inr (.inr (some (738)))), (1, .inl (i)), (2, .inl (kind))]) (st' := [.inr (.inr (some (738)))]) rfl ?_
          refine ez_g2 (p := p) hB t738 rfl rfl tq_70 rfl rfl (c.2.2.2.1.1) ?_
          refine ez_go (n := 1) (pc' := 70) (L' := [(4, .inl ((D (uX u i)).1.2.2.2)), (3, .inr (.inr (some (qz_P h (qz_P h 203 (qz_I h 739 (i).toNat).toNat) 1)))), (0, .inr (.inr (some (738)))), (1, .inl (i)), (2, .inl (kind))]) (st' := [.inl (i), .inr (.inr (some (p)))]) rfl ?_
          have n35 : 2000 ≤ qz_N h p ∧ qz_N h p ≤ 2000 := ez_len hB tp tq_89 rfl
          refine ez_aI hB tp rfl tq_89 rfl rfl (by omega) (by omega) (fun (b34 : -2147483648 ≤ qz_I h p (i).toNat) (b34' : qz_I h p (i).toNat ≤ 2147483647) => ?_)
          have e39 := (c.2.2.2.2 i (by omega) (by omega)).1
          rw [e39]
          have eo : uX u i = ownc (D (uX u i)).1 kind (uX u i) := by
            unfold ownc owm
            by_cases e1 : kind = 0
            · rw [if_pos e1]
              first | (exfalso; omega) | rw [if_pos (by omega)] | rw [if_neg (by omega)]
            · rw [if_neg e1]
              by_cases e2 : kind = 2 ∧ (D (uX u i)).1.2.2.2 ≠ -1
              · rw [if_pos e2]
                first | (exfalso; omega) | rw [if_pos (by omega)] | rw [if_neg (by omega)]
              · rw [if_neg e2]
                first | (exfalso; omega) | rw [if_pos (by omega)] | rw [if_neg (by omega)]
          rw [eo]
          exact ez_retI rfl rfl k
        · skip
          refine ez_go (n := 2) (pc' := 71) (L' := [(4, .inl ((D (uX u i)).1.2.2.2)), (3, .inr (.inr (some (qz_P h (qz_P h 203 (qz_I h 739 (i).toNat).toNat) 1)))), (0, .inr (.inr (some (738)))), (1, .inl (i)), (2, .inl (kind))]) (st' := [.inl ((D (uX u i)).1.2.2.2)]) rfl ?_
          have eo : (D (uX u i)).1.2.2.2 = ownc (D (uX u i)).1 kind (uX u i) := by
            unfold ownc owm
            by_cases e1 : kind = 0
            · rw [if_pos e1]
              first | (exfalso; omega) | rw [if_pos (by omega)] | rw [if_neg (by omega)]
            · rw [if_neg e1]
              by_cases e2 : kind = 2 ∧ (D (uX u i)).1.2.2.2 ≠ -1
              · rw [if_pos e2]
                first | (exfalso; omega) | rw [if_pos (by omega)] | rw [if_neg (by omega)]
              · rw [if_neg e2]
                first | (exfalso; omega) | rw [if_pos (by omega)] | rw [if_neg (by omega)]
          rw [eo]
          exact ez_retI rfl rfl k

end EzCa
/-! WORDS: the cases of a boundary. -/
section YWb
variable {V : Int → Int} {pic : Int → Prop} {n i bb : Int}
def wbI (V : Int → Int) (i bb : Int) : Prop := inW (V (bas V (i - 1).toNat)) (V i) ∨ aro (vaa V (bas V (i - 1).toNat)) (V (bas V (i - 1).toNat)) (V i) ∨ aro bb (V i) (V (bas V (i - 1).toNat)) ∨ (V (bas V (i - 1).toNat) = 9 ∧ V i = 14) ∨ (V i = 6 ∧ odd V (bas V (i - 1).toNat))
theorem wbd_o (h : i ≤ 0 ∨ n ≤ i) : wbd V pic n i := h.elim Or.inl (fun w => Or.inr (Or.inl w))
theorem wbd_1 (i0 : 0 < i) (i1 : i < n) (h1 : V (i - 1) = 1) (h2 : V i = 2) : ¬ wbd V pic n i := fun w => by
  rcases w with w | w | w
  · omega
  · omega
  · exact w.1 ⟨h1, h2⟩
theorem wbd_2 (h1 : ¬ (V (i - 1) = 1 ∧ V i = 2)) (h2 : lnd (V (i - 1)) ∨ lnd (V i)) : wbd V pic n i := Or.inr (Or.inr ⟨h1, Or.inl h2⟩)
theorem wbd_3 (i0 : 0 < i) (i1 : i < n) (h1 : ¬ lnd (V (i - 1))) (h2 : ¬ lnd (V i)) (h3 : (V (i - 1) = 5 ∧ pic i) ∨ (V (i - 1) = 18 ∧ V i = 18) ∨ ign (V i)) : ¬ wbd V pic n i := fun w => by
  rcases w with w | w | ⟨-, w | w⟩
  · omega
  · omega
  · exact w.elim h1 h2
  · exact w.1 h3
theorem wbd_4 (i0 : 0 < i) (i1 : i < n) (h1 : ¬ lnd (V (i - 1))) (h2 : ¬ lnd (V i)) (hb : vbR V n i bb) (h4 : wbI V i bb) : ¬ wbd V pic n i := fun w => by
  rcases w with w | w | ⟨-, w | w⟩
  · omega
  · omega
  · exact w.elim h1 h2
  · exact w.2 bb hb h4
theorem wbd_5 (h1 : ¬ (V (i - 1) = 1 ∧ V i = 2)) (h3 : ¬ ((V (i - 1) = 5 ∧ pic i) ∨ (V (i - 1) = 18 ∧ V i = 18) ∨ ign (V i))) (hb : vbR V n i bb) (h4 : ¬ wbI V i bb) : wbd V pic n i := Or.inr (Or.inr ⟨h1, Or.inr ⟨h3, fun b2 hb2 => by rw [vbR_u hb2 hb]; exact h4⟩⟩)
end YWb
/-- what change may write -/
def cg_P (z : Nat) : Bool := (Nat.ble 733 z && Nat.ble z 742) || (Nat.beq z 196 || Nat.beq z 197)
theorem cg_Pn {z : Nat} (h1 : z < 733 ∨ 742 < z) (h2 : z ≠ 196) (h3 : z ≠ 197) : cg_P z = false := by
  unfold cg_P
  rw [dz_beq_ne h2, dz_beq_ne h3]
  rcases h1 with w | w
  · rw [show Nat.ble 733 z = false by cases e : Nat.ble 733 z with | false => rfl | true => have := Nat.le_of_ble_eq_true e; omega]; rfl
  · rw [show Nat.ble z 742 = false by cases e : Nat.ble z 742 with | false => rfl | true => have := Nat.le_of_ble_eq_true e; omega]; cases Nat.ble 733 z <;> rfl
theorem cg_Py {z : Nat} (h1 : 733 ≤ z) (h2 : z ≤ 742) : cg_P z = true := by
  unfold cg_P
  rw [Nat.ble_eq_true_of_le h1, Nat.ble_eq_true_of_le h2]; rfl
theorem cg_tag {τ : Nat → Nat} (hX : jz_X τ) {q : Nat} (h1 : τ q ≠ 1) (h2 : τ q ≠ 2) (h3 : τ q < 65 ∨ 74 < τ q) : cg_P q = false := by
  by_cases e : 733 ≤ q ∧ q ≤ 742
  · exfalso
    have : q = 733 ∨ q = 734 ∨ q = 735 ∨ q = 736 ∨ q = 737 ∨ q = 738 ∨ q = 739 ∨ q = 740 ∨ q = 741 ∨ q = 742 := by omega
    rcases this with w | w | w | w | w | w | w | w | w | w <;> (subst w; rw [hX _ (by decide)] at h3; revert h3; decide)
  · exact cg_Pn (by omega) (fun w => h1 (by rw [w]; exact hX 196 (by decide))) (fun w => h2 (by rw [w]; exact hX 197 (by decide)))
theorem cg_kD {τ : Nat → Nat} {h g : cz_H} (hX : jz_X τ) (f : ez_fr cg_P h g) : ∀ q, kD (τ q) = true → g.2.2 q = h.2.2 q := fun q hq => f.2.2 q (cg_tag hX (fun e => by rw [e] at hq; cases hq) (fun e => by rw [e] at hq; cases hq) (by
  by_cases e : 65 ≤ τ q ∧ τ q ≤ 74
  · have : τ q = 65 ∨ τ q = 66 ∨ τ q = 67 ∨ τ q = 68 ∨ τ q = 69 ∨ τ q = 70 ∨ τ q = 71 ∨ τ q = 72 ∨ τ q = 73 ∨ τ q = 74 := by omega
    rcases this with e | e | e | e | e | e | e | e | e | e <;> (rw [e] at hq; cases hq)
  · omega))
theorem cg_X {τ : Nat → Nat} {h g : cz_H} {O : Nat → Int} {D : Int → xD} (hB : ez_B τ h) (hX : jz_X τ) (hx : sz_X τ h O D) (f : ez_fr cg_P h g) : sz_X τ g O D := by
  have t202 : τ 202 = 48 := hX 202 (by decide)
  have t203 : τ 203 = 49 := hX 203 (by decide)
  have e202 := cg_kD hX f 202 (by rw [t202]; rfl)
  refine sz_X_tr hB t202 t203 hx (by unfold qz_I; rw [e202]) (cg_kD hX f 203 (by rw [t203]; rfl)) (fun q hq => ⟨rfl, ?_⟩) (fun _ _ => rfl)
  exact f.2.2 q (cg_tag hX (fun e => by rw [e] at hq; omega) (fun e => by rw [e] at hq; omega) (by omega))
theorem cg_at {τ : Nat → Nat} {h g : cz_H} (hB : ez_B τ h) (hX : jz_X τ) (f : ez_fr cg_P h g) {x k : Int} (hk : sz_at g x k) : sz_at h x k := by
  have t202 : τ 202 = 48 := hX 202 (by decide)
  have t203 : τ 203 = 49 := hX 203 (by decide)
  have e202 := cg_kD hX f 202 (by rw [t202]; rfl)
  exact (sz_at_tr hB t202 t203 (by unfold qz_I; rw [e202]) (cg_kD hX f 203 (by rw [t203]; rfl)) (fun q hq => cg_kD hX f q (by rw [hq]; rfl)) hk).1
theorem cg_ta {τ : Nat → Nat} {h g : cz_H} (hB : ez_B τ g) (hX : jz_X τ) (f : ez_fr cg_P h g) {x k : Int} (hk : sz_at h x k) : sz_at g x k := by
  have t202 : τ 202 = 48 := hX 202 (by decide)
  have t203 : τ 203 = 49 := hX 203 (by decide)
  have e202 := cg_kD hX f 202 (by rw [t202]; rfl)
  exact (sz_at_tr hB t202 t203 (by unfold qz_I; rw [e202]) (cg_kD hX f 203 (by rw [t203]; rfl)).symm (fun q hq => (cg_kD hX f q (by rw [hq]; rfl)).symm) hk).1
/-- Breaks has loaded u for WORDS -/
def bkC (τ : Nat → Nat) (h : cz_H) (D : Int → xD) (u : List Int) : Prop := (ez_B τ h ∧ jz_X τ) ∧ (u.length : Int) ≤ 2000 ∧ (qz_I h 733 5 = (u.length : Int) ∧ qz_I h 733 6 = 1) ∧ ∀ k : Int, 0 ≤ k → k < (u.length : Int) → qz_I h 734 k.toNat = wV D u k ∧ (qz_I h 735 k.toNat = 1 ↔ wpi D u k) ∧ qz_I h 736 k.toNat = (bas (wV D u) k.toNat : Int) ∧ (qz_I h 737 k.toNat = 1 ↔ odd (wV D u) k.toNat)
theorem bkC.tr {τ : Nat → Nat} {h g : cz_H} {D : Int → xD} {u : List Int} (a : bkC τ h D u) (hB : ez_B τ g) (e : ∀ q, 733 ≤ q → q ≤ 737 → g.2.2 q = h.2.2 q) : bkC τ g D u := by
  obtain ⟨a1, a2, a3, a4⟩ := a
  refine ⟨⟨hB, a1.2⟩, a2, ?_, fun k k0 k1 => ?_⟩
  · unfold qz_I; rw [e 733 (by decide) (by decide)]; exact a3
  · have := a4 k k0 k1
    unfold qz_I at this ⊢
    rw [e 734 (by decide) (by decide), e 735 (by decide) (by decide), e 736 (by decide) (by decide), e 737 (by decide) (by decide)]; exact this
/-! The class: boundaries of WORDS. (Written by wip/p2/py/pvy2.py.) -/
section EzBk
variable {d : Nat} {h : cz_H} {τ : Nat → Nat} {Q : cz_F → Prop} {F : rz_W} {E : Int → Prop} {T : Int → Nat} {D : Int → xD} {O : Nat → Int} {u : List Int}
theorem rd_bisLineEnd {v : Int} (hB : ez_B τ h) (vr : ez_rg v) (k1 : lnd v → Q (.inl (some (ez_v (.inl 1))), h)) (k0 : ¬ lnd v → Q (.inl (some (ez_v (.inl 0))), h)) : ez_W d cm_54 0 [(0, .inl (v))] [] h Q := by
  obtain ⟨vr1, vr2⟩ := id vr
  refine ez_go (n := 2) (pc' := 2) (L' := [(0, .inl (v))]) (st' := [.inl (1), .inl (v)]) rfl ?_
  refine ez_icmp rfl rfl ⟨by first | omega | exact (sz_i32 _).1, by first | omega | exact (sz_i32 _).2⟩ ⟨by first | omega | exact (sz_i32 _).1, by first | omega | exact (sz_i32 _).2⟩ (fun (c1 : (v) = (1)) => ?_) (fun (c1 : ¬((v) = (1))) => ?_)
  · skip
    refine ez_go (n := 2) (pc' := 20) (L' := [(0, .inl (v))]) (st' := [.inl (1)]) rfl ?_
    exact ez_retZ rfl rfl (Or.inr rfl) (k1 (by omega))
  · skip
    refine ez_go (n := 2) (pc' := 7) (L' := [(0, .inl (v))]) (st' := [.inl (2), .inl (v)]) rfl ?_
    refine ez_icmp rfl rfl ⟨by first | omega | exact (sz_i32 _).1, by first | omega | exact (sz_i32 _).2⟩ ⟨by first | omega | exact (sz_i32 _).1, by first | omega | exact (sz_i32 _).2⟩ (fun (c2 : (v) = (2)) => ?_) (fun (c2 : ¬((v) = (2))) => ?_)
    · skip
      refine ez_go (n := 2) (pc' := 20) (L' := [(0, .inl (v))]) (st' := [.inl (1)]) rfl ?_
      exact ez_retZ rfl rfl (Or.inr rfl) (k1 (by omega))
    · skip
      refine ez_go (n := 2) (pc' := 12) (L' := [(0, .inl (v))]) (st' := [.inl (3), .inl (v)]) rfl ?_
      refine ez_icmp rfl rfl ⟨by first | omega | exact (sz_i32 _).1, by first | omega | exact (sz_i32 _).2⟩ ⟨by first | omega | exact (sz_i32 _).1, by first | omega | exact (sz_i32 _).2⟩ (fun (c3 : (v) ≠ (3)) => ?_) (fun (c3 : ¬((v) ≠ (3))) => ?_)
      · skip
        refine ez_go (n := 1) (pc' := 20) (L' := [(0, .inl (v))]) (st' := [.inl (0)]) rfl ?_
        exact ez_retZ rfl rfl (Or.inl rfl) (k0 (by omega))
      · skip
        refine ez_go (n := 2) (pc' := 20) (L' := [(0, .inl (v))]) (st' := [.inl (1)]) rfl ?_
        exact ez_retZ rfl rfl (Or.inr rfl) (k1 (by omega))

theorem rd_bisIgnored {v : Int} (hB : ez_B τ h) (vr : ez_rg v) (k1 : ign v → Q (.inl (some (ez_v (.inl 1))), h)) (k0 : ¬ ign v → Q (.inl (some (ez_v (.inl 0))), h)) : ez_W d cm_50 0 [(0, .inl (v))] [] h Q := by
  obtain ⟨vr1, vr2⟩ := id vr
  refine ez_go (n := 2) (pc' := 2) (L' := [(0, .inl (v))]) (st' := [.inl (4), .inl (v)]) rfl ?_
  refine ez_icmp rfl rfl ⟨by first | omega | exact (sz_i32 _).1, by first | omega | exact (sz_i32 _).2⟩ ⟨by first | omega | exact (sz_i32 _).1, by first | omega | exact (sz_i32 _).2⟩ (fun (c1 : (v) = (4)) => ?_) (fun (c1 : ¬((v) = (4))) => ?_)
  · skip
    refine ez_go (n := 2) (pc' := 21) (L' := [(0, .inl (v))]) (st' := [.inl (1)]) rfl ?_
    exact ez_retZ rfl rfl (Or.inr rfl) (k1 (by omega))
  · skip
    refine ez_go (n := 2) (pc' := 8) (L' := [(0, .inl (v))]) (st' := [.inl (7), .inl (v)]) rfl ?_
    refine ez_icmp rfl rfl ⟨by first | omega | exact (sz_i32 _).1, by first | omega | exact (sz_i32 _).2⟩ ⟨by first | omega | exact (sz_i32 _).1, by first | omega | exact (sz_i32 _).2⟩ (fun (c2 : (v) = (7)) => ?_) (fun (c2 : ¬((v) = (7))) => ?_)
    · skip
      refine ez_go (n := 2) (pc' := 21) (L' := [(0, .inl (v))]) (st' := [.inl (1)]) rfl ?_
      exact ez_retZ rfl rfl (Or.inr rfl) (k1 (by omega))
    · skip
      refine ez_go (n := 2) (pc' := 13) (L' := [(0, .inl (v))]) (st' := [.inl (5), .inl (v)]) rfl ?_
      refine ez_icmp rfl rfl ⟨by first | omega | exact (sz_i32 _).1, by first | omega | exact (sz_i32 _).2⟩ ⟨by first | omega | exact (sz_i32 _).1, by first | omega | exact (sz_i32 _).2⟩ (fun (c3 : (v) ≠ (5)) => ?_) (fun (c3 : ¬((v) ≠ (5))) => ?_)
      · skip
        refine ez_go (n := 1) (pc' := 21) (L' := [(0, .inl (v))]) (st' := [.inl (0)]) rfl ?_
        exact ez_retZ rfl rfl (Or.inl rfl) (k0 (by omega))
      · skip
        refine ez_go (n := 2) (pc' := 21) (L' := [(0, .inl (v))]) (st' := [.inl (1)]) rfl ?_
        exact ez_retZ rfl rfl (Or.inr rfl) (k1 (by omega))

theorem rd_bisLetter {v : Int} (hB : ez_B τ h) (vr : ez_rg v) (k1 : wle v → Q (.inl (some (ez_v (.inl 1))), h)) (k0 : ¬ wle v → Q (.inl (some (ez_v (.inl 0))), h)) : ez_W d cm_53 0 [(0, .inl (v))] [] h Q := by
  obtain ⟨vr1, vr2⟩ := id vr
  refine ez_go (n := 2) (pc' := 3) (L' := [(0, .inl (v))]) (st' := [.inl (10), .inl (v)]) rfl ?_
  refine ez_icmp rfl rfl ⟨by first | omega | exact (sz_i32 _).1, by first | omega | exact (sz_i32 _).2⟩ ⟨by first | omega | exact (sz_i32 _).1, by first | omega | exact (sz_i32 _).2⟩ (fun (c1 : (v) = (10)) => ?_) (fun (c1 : ¬((v) = (10))) => ?_)
  · skip
    refine ez_go (n := 2) (pc' := 17) (L' := [(0, .inl (v))]) (st' := [.inl (1)]) rfl ?_
    exact ez_retZ rfl rfl (Or.inr rfl) (k1 (by omega))
  · skip
    refine ez_go (n := 2) (pc' := 9) (L' := [(0, .inl (v))]) (st' := [.inl (9), .inl (v)]) rfl ?_
    refine ez_icmp rfl rfl ⟨by first | omega | exact (sz_i32 _).1, by first | omega | exact (sz_i32 _).2⟩ ⟨by first | omega | exact (sz_i32 _).1, by first | omega | exact (sz_i32 _).2⟩ (fun (c2 : (v) ≠ (9)) => ?_) (fun (c2 : ¬((v) ≠ (9))) => ?_)
    · skip
      refine ez_go (n := 1) (pc' := 17) (L' := [(0, .inl (v))]) (st' := [.inl (0)]) rfl ?_
      exact ez_retZ rfl rfl (Or.inl rfl) (k0 (by omega))
    · skip
      refine ez_go (n := 2) (pc' := 17) (L' := [(0, .inl (v))]) (st' := [.inl (1)]) rfl ?_
      exact ez_retZ rfl rfl (Or.inr rfl) (k1 (by omega))

theorem rd_bisQuote {v : Int} (hB : ez_B τ h) (vr : ez_rg v) (k1 : wqu v → Q (.inl (some (ez_v (.inl 1))), h)) (k0 : ¬ wqu v → Q (.inl (some (ez_v (.inl 0))), h)) : ez_W d cm_56 0 [(0, .inl (v))] [] h Q := by
  obtain ⟨vr1, vr2⟩ := id vr
  refine ez_go (n := 2) (pc' := 3) (L' := [(0, .inl (v))]) (st' := [.inl (13), .inl (v)]) rfl ?_
  refine ez_icmp rfl rfl ⟨by first | omega | exact (sz_i32 _).1, by first | omega | exact (sz_i32 _).2⟩ ⟨by first | omega | exact (sz_i32 _).1, by first | omega | exact (sz_i32 _).2⟩ (fun (c1 : (v) = (13)) => ?_) (fun (c1 : ¬((v) = (13))) => ?_)
  · skip
    refine ez_go (n := 2) (pc' := 17) (L' := [(0, .inl (v))]) (st' := [.inl (1)]) rfl ?_
    exact ez_retZ rfl rfl (Or.inr rfl) (k1 (by omega))
  · skip
    refine ez_go (n := 2) (pc' := 9) (L' := [(0, .inl (v))]) (st' := [.inl (14), .inl (v)]) rfl ?_
    refine ez_icmp rfl rfl ⟨by first | omega | exact (sz_i32 _).1, by first | omega | exact (sz_i32 _).2⟩ ⟨by first | omega | exact (sz_i32 _).1, by first | omega | exact (sz_i32 _).2⟩ (fun (c2 : (v) ≠ (14)) => ?_) (fun (c2 : ¬((v) ≠ (14))) => ?_)
    · skip
      refine ez_go (n := 1) (pc' := 17) (L' := [(0, .inl (v))]) (st' := [.inl (0)]) rfl ?_
      exact ez_retZ rfl rfl (Or.inl rfl) (k0 (by omega))
    · skip
      refine ez_go (n := 2) (pc' := 17) (L' := [(0, .inl (v))]) (st' := [.inl (1)]) rfl ?_
      exact ez_retZ rfl rfl (Or.inr rfl) (k1 (by omega))

theorem rd_aro {o m j : Int} (hB : ez_B τ h) (or : ez_rg o) (mr : ez_rg m) (jr : ez_rg j) (k1 : aro o m j → Q (.inl (some (ez_v (.inl 1))), h)) (k0 : ¬ aro o m j → Q (.inl (some (ez_v (.inl 0))), h)) : ez_W (d + 1) cm_45 0 [(0, .inl (o)), (1, .inl (m)), (2, .inl (j))] [] h Q := by
  obtain ⟨or1, or2⟩ := id or
  obtain ⟨mr1, mr2⟩ := id mr
  obtain ⟨jr1, jr2⟩ := id jr
  refine ez_go (n := 1) (pc' := 1) (L' := [(0, .inl (o)), (1, .inl (m)), (2, .inl (j))]) (st' := [.inl (o)]) rfl ?_
  refine ez_cs hB.2.1 rfl rfl rfl rfl rfl (rd_bisLetter hB ⟨by omega, by omega⟩ (fun (w1 : wle (o)) => ez_K1 ?_) (fun (w1 : ¬ wle (o)) => ez_K1 ?_))
  · skip
    refine ez_if rfl rfl ⟨by decide, by decide⟩ (fun (c1 : (1 : Int) = (0)) => absurd c1 (by decide)) (fun _ => ?_)
    refine ez_go (n := 1) (pc' := 8) (L' := [(0, .inl (o)), (1, .inl (m)), (2, .inl (j))]) (st' := [.inl (j)]) rfl ?_
    refine ez_cs hB.2.1 rfl rfl rfl rfl rfl (rd_bisLetter hB ⟨by omega, by omega⟩ (fun (w2 : wle (j)) => ez_K1 ?_) (fun (w2 : ¬ wle (j)) => ez_K1 ?_))
    · skip
      refine ez_if rfl rfl ⟨by decide, by decide⟩ (fun (c2 : (1 : Int) = (0)) => absurd c2 (by decide)) (fun _ => ?_)
      refine ez_go (n := 2) (pc' := 17) (L' := [(0, .inl (o)), (1, .inl (m)), (2, .inl (j))]) (st' := [.inl (11), .inl (m)]) rfl ?_
      refine ez_icmp rfl rfl ⟨by first | omega | exact (sz_i32 _).1, by first | omega | exact (sz_i32 _).2⟩ ⟨by first | omega | exact (sz_i32 _).1, by first | omega | exact (sz_i32 _).2⟩ (fun (c3 : (m) = (11)) => ?_) (fun (c3 : ¬((m) = (11))) => ?_)
      · skip
        refine ez_go (n := 1) (pc' := 28) (L' := [(0, .inl (o)), (1, .inl (m)), (2, .inl (j))]) (st' := [.inl (1)]) rfl ?_
        exact ez_retZ rfl rfl (Or.inr rfl) (k1 (by omega))
      · skip
        refine ez_go (n := 1) (pc' := 21) (L' := [(0, .inl (o)), (1, .inl (m)), (2, .inl (j))]) (st' := [.inl (m)]) rfl ?_
        refine ez_cs hB.2.1 rfl rfl rfl rfl rfl (rd_bisQuote hB ⟨by omega, by omega⟩ (fun (w3 : wqu (m)) => ez_K1 ?_) (fun (w3 : ¬ wqu (m)) => ez_K1 ?_))
        · skip
          refine ez_if rfl rfl ⟨by decide, by decide⟩ (fun (c4 : (1 : Int) = (0)) => absurd c4 (by decide)) (fun _ => ?_)
          refine ez_go (n := 1) (pc' := 28) (L' := [(0, .inl (o)), (1, .inl (m)), (2, .inl (j))]) (st' := [.inl (1)]) rfl ?_
          exact ez_retZ rfl rfl (Or.inr rfl) (k1 (by omega))
        · skip
          refine ez_if rfl rfl ⟨by decide, by decide⟩ (fun _ => ?_) (fun (c5 : ¬((0 : Int) = (0))) => absurd c5 (by decide))
          refine ez_go (n := 2) (pc' := 32) (L' := [(0, .inl (o)), (1, .inl (m)), (2, .inl (j))]) (st' := [.inl (9), .inl (o)]) rfl ?_
          refine ez_icmp rfl rfl ⟨by first | omega | exact (sz_i32 _).1, by first | omega | exact (sz_i32 _).2⟩ ⟨by first | omega | exact (sz_i32 _).1, by first | omega | exact (sz_i32 _).2⟩ (fun (c6 : (o) ≠ (9)) => ?_) (fun (c6 : ¬((o) ≠ (9))) => ?_)
          · skip
            refine ez_go (n := 2) (pc' := 52) (L' := [(0, .inl (o)), (1, .inl (m)), (2, .inl (j))]) (st' := [.inl (16), .inl (o)]) rfl ?_
            refine ez_icmp rfl rfl ⟨by first | omega | exact (sz_i32 _).1, by first | omega | exact (sz_i32 _).2⟩ ⟨by first | omega | exact (sz_i32 _).1, by first | omega | exact (sz_i32 _).2⟩ (fun (c7 : (o) ≠ (16)) => ?_) (fun (c7 : ¬((o) ≠ (16))) => ?_)
            · skip
              refine ez_go (n := 1) (pc' := 79) (L' := [(0, .inl (o)), (1, .inl (m)), (2, .inl (j))]) (st' := [.inl (0)]) rfl ?_
              exact ez_retZ rfl rfl (Or.inl rfl) (k0 (by omega))
            · skip
              refine ez_go (n := 2) (pc' := 58) (L' := [(0, .inl (o)), (1, .inl (m)), (2, .inl (j))]) (st' := [.inl (16), .inl (j)]) rfl ?_
              refine ez_icmp rfl rfl ⟨by first | omega | exact (sz_i32 _).1, by first | omega | exact (sz_i32 _).2⟩ ⟨by first | omega | exact (sz_i32 _).1, by first | omega | exact (sz_i32 _).2⟩ (fun (c8 : (j) ≠ (16)) => ?_) (fun (c8 : ¬((j) ≠ (16))) => ?_)
              · skip
                refine ez_go (n := 1) (pc' := 79) (L' := [(0, .inl (o)), (1, .inl (m)), (2, .inl (j))]) (st' := [.inl (0)]) rfl ?_
                exact ez_retZ rfl rfl (Or.inl rfl) (k0 (by omega))
              · skip
                refine ez_go (n := 2) (pc' := 64) (L' := [(0, .inl (o)), (1, .inl (m)), (2, .inl (j))]) (st' := [.inl (12), .inl (m)]) rfl ?_
                refine ez_icmp rfl rfl ⟨by first | omega | exact (sz_i32 _).1, by first | omega | exact (sz_i32 _).2⟩ ⟨by first | omega | exact (sz_i32 _).1, by first | omega | exact (sz_i32 _).2⟩ (fun (c9 : (m) = (12)) => ?_) (fun (c9 : ¬((m) = (12))) => ?_)
                · skip
                  refine ez_go (n := 2) (pc' := 79) (L' := [(0, .inl (o)), (1, .inl (m)), (2, .inl (j))]) (st' := [.inl (1)]) rfl ?_
                  exact ez_retZ rfl rfl (Or.inr rfl) (k1 (by omega))
                · skip
                  refine ez_go (n := 1) (pc' := 68) (L' := [(0, .inl (o)), (1, .inl (m)), (2, .inl (j))]) (st' := [.inl (m)]) rfl ?_
                  refine ez_cs hB.2.1 rfl rfl rfl rfl rfl (rd_bisQuote hB ⟨by omega, by omega⟩ (fun (w4 : wqu (m)) => ez_K1 ?_) (fun (w4 : ¬ wqu (m)) => ez_K1 ?_))
                  · skip
                    refine ez_if rfl rfl ⟨by decide, by decide⟩ (fun (c10 : (1 : Int) = (0)) => absurd c10 (by decide)) (fun _ => ?_)
                    refine ez_go (n := 2) (pc' := 79) (L' := [(0, .inl (o)), (1, .inl (m)), (2, .inl (j))]) (st' := [.inl (1)]) rfl ?_
                    exact ez_retZ rfl rfl (Or.inr rfl) (k1 (by omega))
                  · skip
                    refine ez_if rfl rfl ⟨by decide, by decide⟩ (fun _ => ?_) (fun (c11 : ¬((0 : Int) = (0))) => absurd c11 (by decide))
                    refine ez_go (n := 1) (pc' := 79) (L' := [(0, .inl (o)), (1, .inl (m)), (2, .inl (j))]) (st' := [.inl (0)]) rfl ?_
                    exact ez_retZ rfl rfl (Or.inl rfl) (k0 (by omega))
          · skip
            refine ez_go (n := 2) (pc' := 38) (L' := [(0, .inl (o)), (1, .inl (m)), (2, .inl (j))]) (st' := [.inl (9), .inl (j)]) rfl ?_
            refine ez_icmp rfl rfl ⟨by first | omega | exact (sz_i32 _).1, by first | omega | exact (sz_i32 _).2⟩ ⟨by first | omega | exact (sz_i32 _).1, by first | omega | exact (sz_i32 _).2⟩ (fun (c12 : (j) ≠ (9)) => ?_) (fun (c12 : ¬((j) ≠ (9))) => ?_)
            · skip
              refine ez_go (n := 2) (pc' := 52) (L' := [(0, .inl (o)), (1, .inl (m)), (2, .inl (j))]) (st' := [.inl (16), .inl (o)]) rfl ?_
              refine ez_icmp rfl rfl ⟨by first | omega | exact (sz_i32 _).1, by first | omega | exact (sz_i32 _).2⟩ ⟨by first | omega | exact (sz_i32 _).1, by first | omega | exact (sz_i32 _).2⟩ (fun (c13 : (o) ≠ (16)) => ?_) (fun (c13 : ¬((o) ≠ (16))) => ?_)
              · skip
                refine ez_go (n := 1) (pc' := 79) (L' := [(0, .inl (o)), (1, .inl (m)), (2, .inl (j))]) (st' := [.inl (0)]) rfl ?_
                exact ez_retZ rfl rfl (Or.inl rfl) (k0 (by omega))
              · skip
                refine ez_go (n := 2) (pc' := 58) (L' := [(0, .inl (o)), (1, .inl (m)), (2, .inl (j))]) (st' := [.inl (16), .inl (j)]) rfl ?_
                refine ez_icmp rfl rfl ⟨by first | omega | exact (sz_i32 _).1, by first | omega | exact (sz_i32 _).2⟩ ⟨by first | omega | exact (sz_i32 _).1, by first | omega | exact (sz_i32 _).2⟩ (fun (c14 : (j) ≠ (16)) => ?_) (fun (c14 : ¬((j) ≠ (16))) => ?_)
                · skip
                  refine ez_go (n := 1) (pc' := 79) (L' := [(0, .inl (o)), (1, .inl (m)), (2, .inl (j))]) (st' := [.inl (0)]) rfl ?_
                  exact ez_retZ rfl rfl (Or.inl rfl) (k0 (by omega))
                · skip
                  refine ez_go (n := 2) (pc' := 64) (L' := [(0, .inl (o)), (1, .inl (m)), (2, .inl (j))]) (st' := [.inl (12), .inl (m)]) rfl ?_
                  refine ez_icmp rfl rfl ⟨by first | omega | exact (sz_i32 _).1, by first | omega | exact (sz_i32 _).2⟩ ⟨by first | omega | exact (sz_i32 _).1, by first | omega | exact (sz_i32 _).2⟩ (fun (c15 : (m) = (12)) => ?_) (fun (c15 : ¬((m) = (12))) => ?_)
                  · skip
                    refine ez_go (n := 2) (pc' := 79) (L' := [(0, .inl (o)), (1, .inl (m)), (2, .inl (j))]) (st' := [.inl (1)]) rfl ?_
                    exact ez_retZ rfl rfl (Or.inr rfl) (k1 (by omega))
                  · skip
                    refine ez_go (n := 1) (pc' := 68) (L' := [(0, .inl (o)), (1, .inl (m)), (2, .inl (j))]) (st' := [.inl (m)]) rfl ?_
                    refine ez_cs hB.2.1 rfl rfl rfl rfl rfl (rd_bisQuote hB ⟨by omega, by omega⟩ (fun (w5 : wqu (m)) => ez_K1 ?_) (fun (w5 : ¬ wqu (m)) => ez_K1 ?_))
                    · skip
                      refine ez_if rfl rfl ⟨by decide, by decide⟩ (fun (c16 : (1 : Int) = (0)) => absurd c16 (by decide)) (fun _ => ?_)
                      refine ez_go (n := 2) (pc' := 79) (L' := [(0, .inl (o)), (1, .inl (m)), (2, .inl (j))]) (st' := [.inl (1)]) rfl ?_
                      exact ez_retZ rfl rfl (Or.inr rfl) (k1 (by omega))
                    · skip
                      refine ez_if rfl rfl ⟨by decide, by decide⟩ (fun _ => ?_) (fun (c17 : ¬((0 : Int) = (0))) => absurd c17 (by decide))
                      refine ez_go (n := 1) (pc' := 79) (L' := [(0, .inl (o)), (1, .inl (m)), (2, .inl (j))]) (st' := [.inl (0)]) rfl ?_
                      exact ez_retZ rfl rfl (Or.inl rfl) (k0 (by omega))
            · skip
              refine ez_go (n := 2) (pc' := 44) (L' := [(0, .inl (o)), (1, .inl (m)), (2, .inl (j))]) (st' := [.inl (15), .inl (m)]) rfl ?_
              refine ez_icmp rfl rfl ⟨by first | omega | exact (sz_i32 _).1, by first | omega | exact (sz_i32 _).2⟩ ⟨by first | omega | exact (sz_i32 _).1, by first | omega | exact (sz_i32 _).2⟩ (fun (c18 : (m) ≠ (15)) => ?_) (fun (c18 : ¬((m) ≠ (15))) => ?_)
              · skip
                refine ez_go (n := 2) (pc' := 52) (L' := [(0, .inl (o)), (1, .inl (m)), (2, .inl (j))]) (st' := [.inl (16), .inl (o)]) rfl ?_
                refine ez_icmp rfl rfl ⟨by first | omega | exact (sz_i32 _).1, by first | omega | exact (sz_i32 _).2⟩ ⟨by first | omega | exact (sz_i32 _).1, by first | omega | exact (sz_i32 _).2⟩ (fun (c19 : (o) ≠ (16)) => ?_) (fun (c19 : ¬((o) ≠ (16))) => ?_)
                · skip
                  refine ez_go (n := 1) (pc' := 79) (L' := [(0, .inl (o)), (1, .inl (m)), (2, .inl (j))]) (st' := [.inl (0)]) rfl ?_
                  exact ez_retZ rfl rfl (Or.inl rfl) (k0 (by omega))
                · skip
                  refine ez_go (n := 2) (pc' := 58) (L' := [(0, .inl (o)), (1, .inl (m)), (2, .inl (j))]) (st' := [.inl (16), .inl (j)]) rfl ?_
                  refine ez_icmp rfl rfl ⟨by first | omega | exact (sz_i32 _).1, by first | omega | exact (sz_i32 _).2⟩ ⟨by first | omega | exact (sz_i32 _).1, by first | omega | exact (sz_i32 _).2⟩ (fun (c20 : (j) ≠ (16)) => ?_) (fun (c20 : ¬((j) ≠ (16))) => ?_)
                  · skip
                    refine ez_go (n := 1) (pc' := 79) (L' := [(0, .inl (o)), (1, .inl (m)), (2, .inl (j))]) (st' := [.inl (0)]) rfl ?_
                    exact ez_retZ rfl rfl (Or.inl rfl) (k0 (by omega))
                  · skip
                    refine ez_go (n := 2) (pc' := 64) (L' := [(0, .inl (o)), (1, .inl (m)), (2, .inl (j))]) (st' := [.inl (12), .inl (m)]) rfl ?_
                    refine ez_icmp rfl rfl ⟨by first | omega | exact (sz_i32 _).1, by first | omega | exact (sz_i32 _).2⟩ ⟨by first | omega | exact (sz_i32 _).1, by first | omega | exact (sz_i32 _).2⟩ (fun (c21 : (m) = (12)) => ?_) (fun (c21 : ¬((m) = (12))) => ?_)
                    · skip
                      refine ez_go (n := 2) (pc' := 79) (L' := [(0, .inl (o)), (1, .inl (m)), (2, .inl (j))]) (st' := [.inl (1)]) rfl ?_
                      exact ez_retZ rfl rfl (Or.inr rfl) (k1 (by omega))
                    · skip
                      refine ez_go (n := 1) (pc' := 68) (L' := [(0, .inl (o)), (1, .inl (m)), (2, .inl (j))]) (st' := [.inl (m)]) rfl ?_
                      refine ez_cs hB.2.1 rfl rfl rfl rfl rfl (rd_bisQuote hB ⟨by omega, by omega⟩ (fun (w6 : wqu (m)) => ez_K1 ?_) (fun (w6 : ¬ wqu (m)) => ez_K1 ?_))
                      · skip
                        refine ez_if rfl rfl ⟨by decide, by decide⟩ (fun (c22 : (1 : Int) = (0)) => absurd c22 (by decide)) (fun _ => ?_)
                        refine ez_go (n := 2) (pc' := 79) (L' := [(0, .inl (o)), (1, .inl (m)), (2, .inl (j))]) (st' := [.inl (1)]) rfl ?_
                        exact ez_retZ rfl rfl (Or.inr rfl) (k1 (by omega))
                      · skip
                        refine ez_if rfl rfl ⟨by decide, by decide⟩ (fun _ => ?_) (fun (c23 : ¬((0 : Int) = (0))) => absurd c23 (by decide))
                        refine ez_go (n := 1) (pc' := 79) (L' := [(0, .inl (o)), (1, .inl (m)), (2, .inl (j))]) (st' := [.inl (0)]) rfl ?_
                        exact ez_retZ rfl rfl (Or.inl rfl) (k0 (by omega))
              · skip
                refine ez_go (n := 1) (pc' := 48) (L' := [(0, .inl (o)), (1, .inl (m)), (2, .inl (j))]) (st' := [.inl (1)]) rfl ?_
                exact ez_retZ rfl rfl (Or.inr rfl) (k1 (by omega))
    · skip
      refine ez_if rfl rfl ⟨by decide, by decide⟩ (fun _ => ?_) (fun (c24 : ¬((0 : Int) = (0))) => absurd c24 (by decide))
      refine ez_go (n := 2) (pc' := 32) (L' := [(0, .inl (o)), (1, .inl (m)), (2, .inl (j))]) (st' := [.inl (9), .inl (o)]) rfl ?_
      refine ez_icmp rfl rfl ⟨by first | omega | exact (sz_i32 _).1, by first | omega | exact (sz_i32 _).2⟩ ⟨by first | omega | exact (sz_i32 _).1, by first | omega | exact (sz_i32 _).2⟩ (fun (c25 : (o) ≠ (9)) => ?_) (fun (c25 : ¬((o) ≠ (9))) => ?_)
      · skip
        refine ez_go (n := 2) (pc' := 52) (L' := [(0, .inl (o)), (1, .inl (m)), (2, .inl (j))]) (st' := [.inl (16), .inl (o)]) rfl ?_
        refine ez_icmp rfl rfl ⟨by first | omega | exact (sz_i32 _).1, by first | omega | exact (sz_i32 _).2⟩ ⟨by first | omega | exact (sz_i32 _).1, by first | omega | exact (sz_i32 _).2⟩ (fun (c26 : (o) ≠ (16)) => ?_) (fun (c26 : ¬((o) ≠ (16))) => ?_)
        · skip
          refine ez_go (n := 1) (pc' := 79) (L' := [(0, .inl (o)), (1, .inl (m)), (2, .inl (j))]) (st' := [.inl (0)]) rfl ?_
          exact ez_retZ rfl rfl (Or.inl rfl) (k0 (by omega))
        · skip
          refine ez_go (n := 2) (pc' := 58) (L' := [(0, .inl (o)), (1, .inl (m)), (2, .inl (j))]) (st' := [.inl (16), .inl (j)]) rfl ?_
          refine ez_icmp rfl rfl ⟨by first | omega | exact (sz_i32 _).1, by first | omega | exact (sz_i32 _).2⟩ ⟨by first | omega | exact (sz_i32 _).1, by first | omega | exact (sz_i32 _).2⟩ (fun (c27 : (j) ≠ (16)) => ?_) (fun (c27 : ¬((j) ≠ (16))) => ?_)
          · skip
            refine ez_go (n := 1) (pc' := 79) (L' := [(0, .inl (o)), (1, .inl (m)), (2, .inl (j))]) (st' := [.inl (0)]) rfl ?_
            exact ez_retZ rfl rfl (Or.inl rfl) (k0 (by omega))
          · skip
            refine ez_go (n := 2) (pc' := 64) (L' := [(0, .inl (o)), (1, .inl (m)), (2, .inl (j))]) (st' := [.inl (12), .inl (m)]) rfl ?_
            refine ez_icmp rfl rfl ⟨by first | omega | exact (sz_i32 _).1, by first | omega | exact (sz_i32 _).2⟩ ⟨by first | omega | exact (sz_i32 _).1, by first | omega | exact (sz_i32 _).2⟩ (fun (c28 : (m) = (12)) => ?_) (fun (c28 : ¬((m) = (12))) => ?_)
            · skip
              refine ez_go (n := 2) (pc' := 79) (L' := [(0, .inl (o)), (1, .inl (m)), (2, .inl (j))]) (st' := [.inl (1)]) rfl ?_
              exact ez_retZ rfl rfl (Or.inr rfl) (k1 (by omega))
            · skip
              refine ez_go (n := 1) (pc' := 68) (L' := [(0, .inl (o)), (1, .inl (m)), (2, .inl (j))]) (st' := [.inl (m)]) rfl ?_
              refine ez_cs hB.2.1 rfl rfl rfl rfl rfl (rd_bisQuote hB ⟨by omega, by omega⟩ (fun (w7 : wqu (m)) => ez_K1 ?_) (fun (w7 : ¬ wqu (m)) => ez_K1 ?_))
              · skip
                refine ez_if rfl rfl ⟨by decide, by decide⟩ (fun (c29 : (1 : Int) = (0)) => absurd c29 (by decide)) (fun _ => ?_)
                refine ez_go (n := 2) (pc' := 79) (L' := [(0, .inl (o)), (1, .inl (m)), (2, .inl (j))]) (st' := [.inl (1)]) rfl ?_
                exact ez_retZ rfl rfl (Or.inr rfl) (k1 (by omega))
              · skip
                refine ez_if rfl rfl ⟨by decide, by decide⟩ (fun _ => ?_) (fun (c30 : ¬((0 : Int) = (0))) => absurd c30 (by decide))
                refine ez_go (n := 1) (pc' := 79) (L' := [(0, .inl (o)), (1, .inl (m)), (2, .inl (j))]) (st' := [.inl (0)]) rfl ?_
                exact ez_retZ rfl rfl (Or.inl rfl) (k0 (by omega))
      · skip
        refine ez_go (n := 2) (pc' := 38) (L' := [(0, .inl (o)), (1, .inl (m)), (2, .inl (j))]) (st' := [.inl (9), .inl (j)]) rfl ?_
        refine ez_icmp rfl rfl ⟨by first | omega | exact (sz_i32 _).1, by first | omega | exact (sz_i32 _).2⟩ ⟨by first | omega | exact (sz_i32 _).1, by first | omega | exact (sz_i32 _).2⟩ (fun (c31 : (j) ≠ (9)) => ?_) (fun (c31 : ¬((j) ≠ (9))) => ?_)
        · skip
          refine ez_go (n := 2) (pc' := 52) (L' := [(0, .inl (o)), (1, .inl (m)), (2, .inl (j))]) (st' := [.inl (16), .inl (o)]) rfl ?_
          refine ez_icmp rfl rfl ⟨by first | omega | exact (sz_i32 _).1, by first | omega | exact (sz_i32 _).2⟩ ⟨by first | omega | exact (sz_i32 _).1, by first | omega | exact (sz_i32 _).2⟩ (fun (c32 : (o) ≠ (16)) => ?_) (fun (c32 : ¬((o) ≠ (16))) => ?_)
          · skip
            refine ez_go (n := 1) (pc' := 79) (L' := [(0, .inl (o)), (1, .inl (m)), (2, .inl (j))]) (st' := [.inl (0)]) rfl ?_
            exact ez_retZ rfl rfl (Or.inl rfl) (k0 (by omega))
          · skip
            refine ez_go (n := 2) (pc' := 58) (L' := [(0, .inl (o)), (1, .inl (m)), (2, .inl (j))]) (st' := [.inl (16), .inl (j)]) rfl ?_
            refine ez_icmp rfl rfl ⟨by first | omega | exact (sz_i32 _).1, by first | omega | exact (sz_i32 _).2⟩ ⟨by first | omega | exact (sz_i32 _).1, by first | omega | exact (sz_i32 _).2⟩ (fun (c33 : (j) ≠ (16)) => ?_) (fun (c33 : ¬((j) ≠ (16))) => ?_)
            · skip
              refine ez_go (n := 1) (pc' := 79) (L' := [(0, .inl (o)), (1, .inl (m)), (2, .inl (j))]) (st' := [.inl (0)]) rfl ?_
              exact ez_retZ rfl rfl (Or.inl rfl) (k0 (by omega))
            · skip
              refine ez_go (n := 2) (pc' := 64) (L' := [(0, .inl (o)), (1, .inl (m)), (2, .inl (j))]) (st' := [.inl (12), .inl (m)]) rfl ?_
              refine ez_icmp rfl rfl ⟨by first | omega | exact (sz_i32 _).1, by first | omega | exact (sz_i32 _).2⟩ ⟨by first | omega | exact (sz_i32 _).1, by first | omega | exact (sz_i32 _).2⟩ (fun (c34 : (m) = (12)) => ?_) (fun (c34 : ¬((m) = (12))) => ?_)
              · skip
                refine ez_go (n := 2) (pc' := 79) (L' := [(0, .inl (o)), (1, .inl (m)), (2, .inl (j))]) (st' := [.inl (1)]) rfl ?_
                exact ez_retZ rfl rfl (Or.inr rfl) (k1 (by omega))
              · skip
                refine ez_go (n := 1) (pc' := 68) (L' := [(0, .inl (o)), (1, .inl (m)), (2, .inl (j))]) (st' := [.inl (m)]) rfl ?_
                refine ez_cs hB.2.1 rfl rfl rfl rfl rfl (rd_bisQuote hB ⟨by omega, by omega⟩ (fun (w8 : wqu (m)) => ez_K1 ?_) (fun (w8 : ¬ wqu (m)) => ez_K1 ?_))
                · skip
                  refine ez_if rfl rfl ⟨by decide, by decide⟩ (fun (c35 : (1 : Int) = (0)) => absurd c35 (by decide)) (fun _ => ?_)
                  refine ez_go (n := 2) (pc' := 79) (L' := [(0, .inl (o)), (1, .inl (m)), (2, .inl (j))]) (st' := [.inl (1)]) rfl ?_
                  exact ez_retZ rfl rfl (Or.inr rfl) (k1 (by omega))
                · skip
                  refine ez_if rfl rfl ⟨by decide, by decide⟩ (fun _ => ?_) (fun (c36 : ¬((0 : Int) = (0))) => absurd c36 (by decide))
                  refine ez_go (n := 1) (pc' := 79) (L' := [(0, .inl (o)), (1, .inl (m)), (2, .inl (j))]) (st' := [.inl (0)]) rfl ?_
                  exact ez_retZ rfl rfl (Or.inl rfl) (k0 (by omega))
        · skip
          refine ez_go (n := 2) (pc' := 44) (L' := [(0, .inl (o)), (1, .inl (m)), (2, .inl (j))]) (st' := [.inl (15), .inl (m)]) rfl ?_
          refine ez_icmp rfl rfl ⟨by first | omega | exact (sz_i32 _).1, by first | omega | exact (sz_i32 _).2⟩ ⟨by first | omega | exact (sz_i32 _).1, by first | omega | exact (sz_i32 _).2⟩ (fun (c37 : (m) ≠ (15)) => ?_) (fun (c37 : ¬((m) ≠ (15))) => ?_)
          · skip
            refine ez_go (n := 2) (pc' := 52) (L' := [(0, .inl (o)), (1, .inl (m)), (2, .inl (j))]) (st' := [.inl (16), .inl (o)]) rfl ?_
            refine ez_icmp rfl rfl ⟨by first | omega | exact (sz_i32 _).1, by first | omega | exact (sz_i32 _).2⟩ ⟨by first | omega | exact (sz_i32 _).1, by first | omega | exact (sz_i32 _).2⟩ (fun (c38 : (o) ≠ (16)) => ?_) (fun (c38 : ¬((o) ≠ (16))) => ?_)
            · skip
              refine ez_go (n := 1) (pc' := 79) (L' := [(0, .inl (o)), (1, .inl (m)), (2, .inl (j))]) (st' := [.inl (0)]) rfl ?_
              exact ez_retZ rfl rfl (Or.inl rfl) (k0 (by omega))
            · skip
              refine ez_go (n := 2) (pc' := 58) (L' := [(0, .inl (o)), (1, .inl (m)), (2, .inl (j))]) (st' := [.inl (16), .inl (j)]) rfl ?_
              refine ez_icmp rfl rfl ⟨by first | omega | exact (sz_i32 _).1, by first | omega | exact (sz_i32 _).2⟩ ⟨by first | omega | exact (sz_i32 _).1, by first | omega | exact (sz_i32 _).2⟩ (fun (c39 : (j) ≠ (16)) => ?_) (fun (c39 : ¬((j) ≠ (16))) => ?_)
              · skip
                refine ez_go (n := 1) (pc' := 79) (L' := [(0, .inl (o)), (1, .inl (m)), (2, .inl (j))]) (st' := [.inl (0)]) rfl ?_
                exact ez_retZ rfl rfl (Or.inl rfl) (k0 (by omega))
              · skip
                refine ez_go (n := 2) (pc' := 64) (L' := [(0, .inl (o)), (1, .inl (m)), (2, .inl (j))]) (st' := [.inl (12), .inl (m)]) rfl ?_
                refine ez_icmp rfl rfl ⟨by first | omega | exact (sz_i32 _).1, by first | omega | exact (sz_i32 _).2⟩ ⟨by first | omega | exact (sz_i32 _).1, by first | omega | exact (sz_i32 _).2⟩ (fun (c40 : (m) = (12)) => ?_) (fun (c40 : ¬((m) = (12))) => ?_)
                · skip
                  refine ez_go (n := 2) (pc' := 79) (L' := [(0, .inl (o)), (1, .inl (m)), (2, .inl (j))]) (st' := [.inl (1)]) rfl ?_
                  exact ez_retZ rfl rfl (Or.inr rfl) (k1 (by omega))
                · skip
                  refine ez_go (n := 1) (pc' := 68) (L' := [(0, .inl (o)), (1, .inl (m)), (2, .inl (j))]) (st' := [.inl (m)]) rfl ?_
                  refine ez_cs hB.2.1 rfl rfl rfl rfl rfl (rd_bisQuote hB ⟨by omega, by omega⟩ (fun (w9 : wqu (m)) => ez_K1 ?_) (fun (w9 : ¬ wqu (m)) => ez_K1 ?_))
                  · skip
                    refine ez_if rfl rfl ⟨by decide, by decide⟩ (fun (c41 : (1 : Int) = (0)) => absurd c41 (by decide)) (fun _ => ?_)
                    refine ez_go (n := 2) (pc' := 79) (L' := [(0, .inl (o)), (1, .inl (m)), (2, .inl (j))]) (st' := [.inl (1)]) rfl ?_
                    exact ez_retZ rfl rfl (Or.inr rfl) (k1 (by omega))
                  · skip
                    refine ez_if rfl rfl ⟨by decide, by decide⟩ (fun _ => ?_) (fun (c42 : ¬((0 : Int) = (0))) => absurd c42 (by decide))
                    refine ez_go (n := 1) (pc' := 79) (L' := [(0, .inl (o)), (1, .inl (m)), (2, .inl (j))]) (st' := [.inl (0)]) rfl ?_
                    exact ez_retZ rfl rfl (Or.inl rfl) (k0 (by omega))
          · skip
            refine ez_go (n := 1) (pc' := 48) (L' := [(0, .inl (o)), (1, .inl (m)), (2, .inl (j))]) (st' := [.inl (1)]) rfl ?_
            exact ez_retZ rfl rfl (Or.inr rfl) (k1 (by omega))
  · skip
    refine ez_if rfl rfl ⟨by decide, by decide⟩ (fun _ => ?_) (fun (c43 : ¬((0 : Int) = (0))) => absurd c43 (by decide))
    refine ez_go (n := 2) (pc' := 32) (L' := [(0, .inl (o)), (1, .inl (m)), (2, .inl (j))]) (st' := [.inl (9), .inl (o)]) rfl ?_
    refine ez_icmp rfl rfl ⟨by first | omega | exact (sz_i32 _).1, by first | omega | exact (sz_i32 _).2⟩ ⟨by first | omega | exact (sz_i32 _).1, by first | omega | exact (sz_i32 _).2⟩ (fun (c44 : (o) ≠ (9)) => ?_) (fun (c44 : ¬((o) ≠ (9))) => ?_)
    · skip
      refine ez_go (n := 2) (pc' := 52) (L' := [(0, .inl (o)), (1, .inl (m)), (2, .inl (j))]) (st' := [.inl (16), .inl (o)]) rfl ?_
      refine ez_icmp rfl rfl ⟨by first | omega | exact (sz_i32 _).1, by first | omega | exact (sz_i32 _).2⟩ ⟨by first | omega | exact (sz_i32 _).1, by first | omega | exact (sz_i32 _).2⟩ (fun (c45 : (o) ≠ (16)) => ?_) (fun (c45 : ¬((o) ≠ (16))) => ?_)
      · skip
        refine ez_go (n := 1) (pc' := 79) (L' := [(0, .inl (o)), (1, .inl (m)), (2, .inl (j))]) (st' := [.inl (0)]) rfl ?_
        exact ez_retZ rfl rfl (Or.inl rfl) (k0 (by omega))
      · skip
        refine ez_go (n := 2) (pc' := 58) (L' := [(0, .inl (o)), (1, .inl (m)), (2, .inl (j))]) (st' := [.inl (16), .inl (j)]) rfl ?_
        refine ez_icmp rfl rfl ⟨by first | omega | exact (sz_i32 _).1, by first | omega | exact (sz_i32 _).2⟩ ⟨by first | omega | exact (sz_i32 _).1, by first | omega | exact (sz_i32 _).2⟩ (fun (c46 : (j) ≠ (16)) => ?_) (fun (c46 : ¬((j) ≠ (16))) => ?_)
        · skip
          refine ez_go (n := 1) (pc' := 79) (L' := [(0, .inl (o)), (1, .inl (m)), (2, .inl (j))]) (st' := [.inl (0)]) rfl ?_
          exact ez_retZ rfl rfl (Or.inl rfl) (k0 (by omega))
        · skip
          refine ez_go (n := 2) (pc' := 64) (L' := [(0, .inl (o)), (1, .inl (m)), (2, .inl (j))]) (st' := [.inl (12), .inl (m)]) rfl ?_
          refine ez_icmp rfl rfl ⟨by first | omega | exact (sz_i32 _).1, by first | omega | exact (sz_i32 _).2⟩ ⟨by first | omega | exact (sz_i32 _).1, by first | omega | exact (sz_i32 _).2⟩ (fun (c47 : (m) = (12)) => ?_) (fun (c47 : ¬((m) = (12))) => ?_)
          · skip
            refine ez_go (n := 2) (pc' := 79) (L' := [(0, .inl (o)), (1, .inl (m)), (2, .inl (j))]) (st' := [.inl (1)]) rfl ?_
            exact ez_retZ rfl rfl (Or.inr rfl) (k1 (by omega))
          · skip
            refine ez_go (n := 1) (pc' := 68) (L' := [(0, .inl (o)), (1, .inl (m)), (2, .inl (j))]) (st' := [.inl (m)]) rfl ?_
            refine ez_cs hB.2.1 rfl rfl rfl rfl rfl (rd_bisQuote hB ⟨by omega, by omega⟩ (fun (w10 : wqu (m)) => ez_K1 ?_) (fun (w10 : ¬ wqu (m)) => ez_K1 ?_))
            · skip
              refine ez_if rfl rfl ⟨by decide, by decide⟩ (fun (c48 : (1 : Int) = (0)) => absurd c48 (by decide)) (fun _ => ?_)
              refine ez_go (n := 2) (pc' := 79) (L' := [(0, .inl (o)), (1, .inl (m)), (2, .inl (j))]) (st' := [.inl (1)]) rfl ?_
              exact ez_retZ rfl rfl (Or.inr rfl) (k1 (by omega))
            · skip
              refine ez_if rfl rfl ⟨by decide, by decide⟩ (fun _ => ?_) (fun (c49 : ¬((0 : Int) = (0))) => absurd c49 (by decide))
              refine ez_go (n := 1) (pc' := 79) (L' := [(0, .inl (o)), (1, .inl (m)), (2, .inl (j))]) (st' := [.inl (0)]) rfl ?_
              exact ez_retZ rfl rfl (Or.inl rfl) (k0 (by omega))
    · skip
      refine ez_go (n := 2) (pc' := 38) (L' := [(0, .inl (o)), (1, .inl (m)), (2, .inl (j))]) (st' := [.inl (9), .inl (j)]) rfl ?_
      refine ez_icmp rfl rfl ⟨by first | omega | exact (sz_i32 _).1, by first | omega | exact (sz_i32 _).2⟩ ⟨by first | omega | exact (sz_i32 _).1, by first | omega | exact (sz_i32 _).2⟩ (fun (c50 : (j) ≠ (9)) => ?_) (fun (c50 : ¬((j) ≠ (9))) => ?_)
      · skip
        refine ez_go (n := 2) (pc' := 52) (L' := [(0, .inl (o)), (1, .inl (m)), (2, .inl (j))]) (st' := [.inl (16), .inl (o)]) rfl ?_
        refine ez_icmp rfl rfl ⟨by first | omega | exact (sz_i32 _).1, by first | omega | exact (sz_i32 _).2⟩ ⟨by first | omega | exact (sz_i32 _).1, by first | omega | exact (sz_i32 _).2⟩ (fun (c51 : (o) ≠ (16)) => ?_) (fun (c51 : ¬((o) ≠ (16))) => ?_)
        · skip
          refine ez_go (n := 1) (pc' := 79) (L' := [(0, .inl (o)), (1, .inl (m)), (2, .inl (j))]) (st' := [.inl (0)]) rfl ?_
          exact ez_retZ rfl rfl (Or.inl rfl) (k0 (by omega))
        · skip
          refine ez_go (n := 2) (pc' := 58) (L' := [(0, .inl (o)), (1, .inl (m)), (2, .inl (j))]) (st' := [.inl (16), .inl (j)]) rfl ?_
          refine ez_icmp rfl rfl ⟨by first | omega | exact (sz_i32 _).1, by first | omega | exact (sz_i32 _).2⟩ ⟨by first | omega | exact (sz_i32 _).1, by first | omega | exact (sz_i32 _).2⟩ (fun (c52 : (j) ≠ (16)) => ?_) (fun (c52 : ¬((j) ≠ (16))) => ?_)
          · skip
            refine ez_go (n := 1) (pc' := 79) (L' := [(0, .inl (o)), (1, .inl (m)), (2, .inl (j))]) (st' := [.inl (0)]) rfl ?_
            exact ez_retZ rfl rfl (Or.inl rfl) (k0 (by omega))
          · skip
            refine ez_go (n := 2) (pc' := 64) (L' := [(0, .inl (o)), (1, .inl (m)), (2, .inl (j))]) (st' := [.inl (12), .inl (m)]) rfl ?_
            refine ez_icmp rfl rfl ⟨by first | omega | exact (sz_i32 _).1, by first | omega | exact (sz_i32 _).2⟩ ⟨by first | omega | exact (sz_i32 _).1, by first | omega | exact (sz_i32 _).2⟩ (fun (c53 : (m) = (12)) => ?_) (fun (c53 : ¬((m) = (12))) => ?_)
            · skip
              refine ez_go (n := 2) (pc' := 79) (L' := [(0, .inl (o)), (1, .inl (m)), (2, .inl (j))]) (st' := [.inl (1)]) rfl ?_
              exact ez_retZ rfl rfl (Or.inr rfl) (k1 (by omega))
            · skip
              refine ez_go (n := 1) (pc' := 68) (L' := [(0, .inl (o)), (1, .inl (m)), (2, .inl (j))]) (st' := [.inl (m)]) rfl ?_
              refine ez_cs hB.2.1 rfl rfl rfl rfl rfl (rd_bisQuote hB ⟨by omega, by omega⟩ (fun (w11 : wqu (m)) => ez_K1 ?_) (fun (w11 : ¬ wqu (m)) => ez_K1 ?_))
              · skip
                refine ez_if rfl rfl ⟨by decide, by decide⟩ (fun (c54 : (1 : Int) = (0)) => absurd c54 (by decide)) (fun _ => ?_)
                refine ez_go (n := 2) (pc' := 79) (L' := [(0, .inl (o)), (1, .inl (m)), (2, .inl (j))]) (st' := [.inl (1)]) rfl ?_
                exact ez_retZ rfl rfl (Or.inr rfl) (k1 (by omega))
              · skip
                refine ez_if rfl rfl ⟨by decide, by decide⟩ (fun _ => ?_) (fun (c55 : ¬((0 : Int) = (0))) => absurd c55 (by decide))
                refine ez_go (n := 1) (pc' := 79) (L' := [(0, .inl (o)), (1, .inl (m)), (2, .inl (j))]) (st' := [.inl (0)]) rfl ?_
                exact ez_retZ rfl rfl (Or.inl rfl) (k0 (by omega))
      · skip
        refine ez_go (n := 2) (pc' := 44) (L' := [(0, .inl (o)), (1, .inl (m)), (2, .inl (j))]) (st' := [.inl (15), .inl (m)]) rfl ?_
        refine ez_icmp rfl rfl ⟨by first | omega | exact (sz_i32 _).1, by first | omega | exact (sz_i32 _).2⟩ ⟨by first | omega | exact (sz_i32 _).1, by first | omega | exact (sz_i32 _).2⟩ (fun (c56 : (m) ≠ (15)) => ?_) (fun (c56 : ¬((m) ≠ (15))) => ?_)
        · skip
          refine ez_go (n := 2) (pc' := 52) (L' := [(0, .inl (o)), (1, .inl (m)), (2, .inl (j))]) (st' := [.inl (16), .inl (o)]) rfl ?_
          refine ez_icmp rfl rfl ⟨by first | omega | exact (sz_i32 _).1, by first | omega | exact (sz_i32 _).2⟩ ⟨by first | omega | exact (sz_i32 _).1, by first | omega | exact (sz_i32 _).2⟩ (fun (c57 : (o) ≠ (16)) => ?_) (fun (c57 : ¬((o) ≠ (16))) => ?_)
          · skip
            refine ez_go (n := 1) (pc' := 79) (L' := [(0, .inl (o)), (1, .inl (m)), (2, .inl (j))]) (st' := [.inl (0)]) rfl ?_
            exact ez_retZ rfl rfl (Or.inl rfl) (k0 (by omega))
          · skip
            refine ez_go (n := 2) (pc' := 58) (L' := [(0, .inl (o)), (1, .inl (m)), (2, .inl (j))]) (st' := [.inl (16), .inl (j)]) rfl ?_
            refine ez_icmp rfl rfl ⟨by first | omega | exact (sz_i32 _).1, by first | omega | exact (sz_i32 _).2⟩ ⟨by first | omega | exact (sz_i32 _).1, by first | omega | exact (sz_i32 _).2⟩ (fun (c58 : (j) ≠ (16)) => ?_) (fun (c58 : ¬((j) ≠ (16))) => ?_)
            · skip
              refine ez_go (n := 1) (pc' := 79) (L' := [(0, .inl (o)), (1, .inl (m)), (2, .inl (j))]) (st' := [.inl (0)]) rfl ?_
              exact ez_retZ rfl rfl (Or.inl rfl) (k0 (by omega))
            · skip
              refine ez_go (n := 2) (pc' := 64) (L' := [(0, .inl (o)), (1, .inl (m)), (2, .inl (j))]) (st' := [.inl (12), .inl (m)]) rfl ?_
              refine ez_icmp rfl rfl ⟨by first | omega | exact (sz_i32 _).1, by first | omega | exact (sz_i32 _).2⟩ ⟨by first | omega | exact (sz_i32 _).1, by first | omega | exact (sz_i32 _).2⟩ (fun (c59 : (m) = (12)) => ?_) (fun (c59 : ¬((m) = (12))) => ?_)
              · skip
                refine ez_go (n := 2) (pc' := 79) (L' := [(0, .inl (o)), (1, .inl (m)), (2, .inl (j))]) (st' := [.inl (1)]) rfl ?_
                exact ez_retZ rfl rfl (Or.inr rfl) (k1 (by omega))
              · skip
                refine ez_go (n := 1) (pc' := 68) (L' := [(0, .inl (o)), (1, .inl (m)), (2, .inl (j))]) (st' := [.inl (m)]) rfl ?_
                refine ez_cs hB.2.1 rfl rfl rfl rfl rfl (rd_bisQuote hB ⟨by omega, by omega⟩ (fun (w12 : wqu (m)) => ez_K1 ?_) (fun (w12 : ¬ wqu (m)) => ez_K1 ?_))
                · skip
                  refine ez_if rfl rfl ⟨by decide, by decide⟩ (fun (c60 : (1 : Int) = (0)) => absurd c60 (by decide)) (fun _ => ?_)
                  refine ez_go (n := 2) (pc' := 79) (L' := [(0, .inl (o)), (1, .inl (m)), (2, .inl (j))]) (st' := [.inl (1)]) rfl ?_
                  exact ez_retZ rfl rfl (Or.inr rfl) (k1 (by omega))
                · skip
                  refine ez_if rfl rfl ⟨by decide, by decide⟩ (fun _ => ?_) (fun (c61 : ¬((0 : Int) = (0))) => absurd c61 (by decide))
                  refine ez_go (n := 1) (pc' := 79) (L' := [(0, .inl (o)), (1, .inl (m)), (2, .inl (j))]) (st' := [.inl (0)]) rfl ?_
                  exact ez_retZ rfl rfl (Or.inl rfl) (k0 (by omega))
        · skip
          refine ez_go (n := 1) (pc' := 48) (L' := [(0, .inl (o)), (1, .inl (m)), (2, .inl (j))]) (st' := [.inl (1)]) rfl ?_
          exact ez_retZ rfl rfl (Or.inr rfl) (k1 (by omega))

theorem rd_inW4 {a b y z : Int} (hB : ez_B τ h) (ar : ez_rg a) (br : ez_rg b) (k1 : inW a b → Q (.inl (some (ez_v (.inl 1))), h)) (k0 : ¬ inW a b → Q (.inl (some (ez_v (.inl 0))), h)) (n1 : ¬ (((wle a ∨ a = 16) ∧ (wle b ∨ b = 16)) ∨ (a = 8 ∧ b = 8))) (hy : ((y = 1 ∧ (wle a ∨ a = 16 ∨ a = 8 ∨ a = 17)) ∨ (y = 0 ∧ ¬ (wle a ∨ a = 16 ∨ a = 8 ∨ a = 17)))) (hz : ((z = 1 ∧ (wle b ∨ b = 16 ∨ b = 8)) ∨ (z = 0 ∧ ¬ (wle b ∨ b = 16 ∨ b = 8)))) : ez_W (d + 1) cm_52 107 [(4, .inl (z)), (3, .inl (y)), (0, .inl (a)), (1, .inl (b))] [] h Q := by
  obtain ⟨ar1, ar2⟩ := id ar
  obtain ⟨br1, br2⟩ := id br
  refine ez_go (n := 1) (pc' := 108) (L' := [(4, .inl (z)), (3, .inl (y)), (0, .inl (a)), (1, .inl (b))]) (st' := [.inl (y)]) rfl ?_
  refine ez_if rfl rfl ⟨by first | omega | exact (sz_i32 _).1, by first | omega | exact (sz_i32 _).2⟩ (fun (c1 : (y) = (0)) => ?_) (fun (c1 : ¬((y) = (0))) => ?_)
  · skip
    refine ez_go (n := 2) (pc' := 120) (L' := [(4, .inl (z)), (3, .inl (y)), (0, .inl (a)), (1, .inl (b))]) (st' := [.inl (17), .inl (a)]) rfl ?_
    refine ez_icmp rfl rfl ⟨by first | omega | exact (sz_i32 _).1, by first | omega | exact (sz_i32 _).2⟩ ⟨by first | omega | exact (sz_i32 _).1, by first | omega | exact (sz_i32 _).2⟩ (fun (c2 : (a) ≠ (17)) => ?_) (fun (c2 : ¬((a) ≠ (17))) => ?_)
    · skip
      refine ez_go (n := 1) (pc' := 133) (L' := [(4, .inl (z)), (3, .inl (y)), (0, .inl (a)), (1, .inl (b))]) (st' := [.inl (0)]) rfl ?_
      exact ez_retZ rfl rfl (Or.inl rfl) (k0 (by omega))
    · skip
      refine ez_go (n := 1) (pc' := 125) (L' := [(4, .inl (z)), (3, .inl (y)), (0, .inl (a)), (1, .inl (b))]) (st' := [.inl (z)]) rfl ?_
      refine ez_if rfl rfl ⟨by first | omega | exact (sz_i32 _).1, by first | omega | exact (sz_i32 _).2⟩ (fun (c3 : (z) = (0)) => ?_) (fun (c3 : ¬((z) = (0))) => ?_)
      · skip
        refine ez_go (n := 1) (pc' := 133) (L' := [(4, .inl (z)), (3, .inl (y)), (0, .inl (a)), (1, .inl (b))]) (st' := [.inl (0)]) rfl ?_
        exact ez_retZ rfl rfl (Or.inl rfl) (k0 (by omega))
      · skip
        refine ez_go (n := 2) (pc' := 133) (L' := [(4, .inl (z)), (3, .inl (y)), (0, .inl (a)), (1, .inl (b))]) (st' := [.inl (1)]) rfl ?_
        exact ez_retZ rfl rfl (Or.inr rfl) (k1 (by omega))
  · skip
    refine ez_go (n := 2) (pc' := 114) (L' := [(4, .inl (z)), (3, .inl (y)), (0, .inl (a)), (1, .inl (b))]) (st' := [.inl (17), .inl (b)]) rfl ?_
    refine ez_icmp rfl rfl ⟨by first | omega | exact (sz_i32 _).1, by first | omega | exact (sz_i32 _).2⟩ ⟨by first | omega | exact (sz_i32 _).1, by first | omega | exact (sz_i32 _).2⟩ (fun (c4 : (b) = (17)) => ?_) (fun (c4 : ¬((b) = (17))) => ?_)
    · skip
      refine ez_go (n := 2) (pc' := 133) (L' := [(4, .inl (z)), (3, .inl (y)), (0, .inl (a)), (1, .inl (b))]) (st' := [.inl (1)]) rfl ?_
      exact ez_retZ rfl rfl (Or.inr rfl) (k1 (by omega))
    · skip
      refine ez_go (n := 2) (pc' := 120) (L' := [(4, .inl (z)), (3, .inl (y)), (0, .inl (a)), (1, .inl (b))]) (st' := [.inl (17), .inl (a)]) rfl ?_
      refine ez_icmp rfl rfl ⟨by first | omega | exact (sz_i32 _).1, by first | omega | exact (sz_i32 _).2⟩ ⟨by first | omega | exact (sz_i32 _).1, by first | omega | exact (sz_i32 _).2⟩ (fun (c5 : (a) ≠ (17)) => ?_) (fun (c5 : ¬((a) ≠ (17))) => ?_)
      · skip
        refine ez_go (n := 1) (pc' := 133) (L' := [(4, .inl (z)), (3, .inl (y)), (0, .inl (a)), (1, .inl (b))]) (st' := [.inl (0)]) rfl ?_
        exact ez_retZ rfl rfl (Or.inl rfl) (k0 (by omega))
      · skip
        refine ez_go (n := 1) (pc' := 125) (L' := [(4, .inl (z)), (3, .inl (y)), (0, .inl (a)), (1, .inl (b))]) (st' := [.inl (z)]) rfl ?_
        refine ez_if rfl rfl ⟨by first | omega | exact (sz_i32 _).1, by first | omega | exact (sz_i32 _).2⟩ (fun (c6 : (z) = (0)) => ?_) (fun (c6 : ¬((z) = (0))) => ?_)
        · skip
          refine ez_go (n := 1) (pc' := 133) (L' := [(4, .inl (z)), (3, .inl (y)), (0, .inl (a)), (1, .inl (b))]) (st' := [.inl (0)]) rfl ?_
          exact ez_retZ rfl rfl (Or.inl rfl) (k0 (by omega))
        · skip
          refine ez_go (n := 2) (pc' := 133) (L' := [(4, .inl (z)), (3, .inl (y)), (0, .inl (a)), (1, .inl (b))]) (st' := [.inl (1)]) rfl ?_
          exact ez_retZ rfl rfl (Or.inr rfl) (k1 (by omega))

theorem rd_inW3 {a b y : Int} (hB : ez_B τ h) (ar : ez_rg a) (br : ez_rg b) (k1 : inW a b → Q (.inl (some (ez_v (.inl 1))), h)) (k0 : ¬ inW a b → Q (.inl (some (ez_v (.inl 0))), h)) (n1 : ¬ (((wle a ∨ a = 16) ∧ (wle b ∨ b = 16)) ∨ (a = 8 ∧ b = 8))) (hy : ((y = 1 ∧ (wle a ∨ a = 16 ∨ a = 8 ∨ a = 17)) ∨ (y = 0 ∧ ¬ (wle a ∨ a = 16 ∨ a = 8 ∨ a = 17)))) : ez_W (d + 1) cm_52 81 [(3, .inl (y)), (0, .inl (a)), (1, .inl (b))] [] h Q := by
  obtain ⟨ar1, ar2⟩ := id ar
  obtain ⟨br1, br2⟩ := id br
  refine ez_go (n := 1) (pc' := 82) (L' := [(3, .inl (y)), (0, .inl (a)), (1, .inl (b))]) (st' := [.inl (b)]) rfl ?_
  refine ez_cs hB.2.1 rfl rfl rfl rfl rfl (rd_bisLetter hB ⟨by omega, by omega⟩ (fun (w13 : wle (b)) => ez_K1 ?_) (fun (w13 : ¬ wle (b)) => ez_K1 ?_))
  · skip
    refine ez_if rfl rfl ⟨by decide, by decide⟩ (fun _ => ?_) (fun (c1 : ¬((1 : Int) ≠ (0))) => absurd c1 (by decide))
    refine ez_go (n := 3) (pc' := 107) (L' := [(4, .inl (1)), (3, .inl (y)), (0, .inl (a)), (1, .inl (b))]) (st' := []) rfl ?_
    refine ez_less [(4, .inl (1)), (3, .inl (y)), (0, .inl (a)), (1, .inl (b))] rfl ⟨rfl, rfl, rfl, rfl, trivial⟩ ?_
    exact rd_inW4 (y := y) (z := 1) hB ar br k1 k0 n1 hy (by omega)
  · skip
    refine ez_if rfl rfl ⟨by decide, by decide⟩ (fun (c2 : (0 : Int) ≠ (0)) => absurd c2 (by decide)) (fun _ => ?_)
    refine ez_go (n := 2) (pc' := 91) (L' := [(3, .inl (y)), (0, .inl (a)), (1, .inl (b))]) (st' := [.inl (16), .inl (b)]) rfl ?_
    refine ez_icmp rfl rfl ⟨by first | omega | exact (sz_i32 _).1, by first | omega | exact (sz_i32 _).2⟩ ⟨by first | omega | exact (sz_i32 _).1, by first | omega | exact (sz_i32 _).2⟩ (fun (c3 : (b) = (16)) => ?_) (fun (c3 : ¬((b) = (16))) => ?_)
    · skip
      refine ez_go (n := 3) (pc' := 107) (L' := [(4, .inl (1)), (3, .inl (y)), (0, .inl (a)), (1, .inl (b))]) (st' := []) rfl ?_
      refine ez_less [(4, .inl (1)), (3, .inl (y)), (0, .inl (a)), (1, .inl (b))] rfl ⟨rfl, rfl, rfl, rfl, trivial⟩ ?_
      exact rd_inW4 (y := y) (z := 1) hB ar br k1 k0 n1 hy (by omega)
    · skip
      refine ez_go (n := 2) (pc' := 97) (L' := [(3, .inl (y)), (0, .inl (a)), (1, .inl (b))]) (st' := [.inl (8), .inl (b)]) rfl ?_
      refine ez_icmp rfl rfl ⟨by first | omega | exact (sz_i32 _).1, by first | omega | exact (sz_i32 _).2⟩ ⟨by first | omega | exact (sz_i32 _).1, by first | omega | exact (sz_i32 _).2⟩ (fun (c4 : (b) ≠ (8)) => ?_) (fun (c4 : ¬((b) ≠ (8))) => ?_)
      · skip
        refine ez_go (n := 2) (pc' := 107) (L' := [(4, .inl (0)), (3, .inl (y)), (0, .inl (a)), (1, .inl (b))]) (st' := []) rfl ?_
        refine ez_less [(4, .inl (0)), (3, .inl (y)), (0, .inl (a)), (1, .inl (b))] rfl ⟨rfl, rfl, rfl, rfl, trivial⟩ ?_
        exact rd_inW4 (y := y) (z := 0) hB ar br k1 k0 n1 hy (by omega)
      · skip
        refine ez_go (n := 3) (pc' := 107) (L' := [(4, .inl (1)), (3, .inl (y)), (0, .inl (a)), (1, .inl (b))]) (st' := []) rfl ?_
        refine ez_less [(4, .inl (1)), (3, .inl (y)), (0, .inl (a)), (1, .inl (b))] rfl ⟨rfl, rfl, rfl, rfl, trivial⟩ ?_
        exact rd_inW4 (y := y) (z := 1) hB ar br k1 k0 n1 hy (by omega)

theorem rd_inW2 {a b : Int} (hB : ez_B τ h) (ar : ez_rg a) (br : ez_rg b) (k1 : inW a b → Q (.inl (some (ez_v (.inl 1))), h)) (k0 : ¬ inW a b → Q (.inl (some (ez_v (.inl 0))), h)) (n1 : ¬ (((wle a ∨ a = 16) ∧ (wle b ∨ b = 16)) ∨ (a = 8 ∧ b = 8))) : ez_W (d + 1) cm_52 50 [(0, .inl (a)), (1, .inl (b))] [] h Q := by
  obtain ⟨ar1, ar2⟩ := id ar
  obtain ⟨br1, br2⟩ := id br
  refine ez_go (n := 1) (pc' := 51) (L' := [(0, .inl (a)), (1, .inl (b))]) (st' := [.inl (a)]) rfl ?_
  refine ez_cs hB.2.1 rfl rfl rfl rfl rfl (rd_bisLetter hB ⟨by omega, by omega⟩ (fun (w14 : wle (a)) => ez_K1 ?_) (fun (w14 : ¬ wle (a)) => ez_K1 ?_))
  · skip
    refine ez_if rfl rfl ⟨by decide, by decide⟩ (fun _ => ?_) (fun (c1 : ¬((1 : Int) ≠ (0))) => absurd c1 (by decide))
    refine ez_go (n := 3) (pc' := 81) (L' := [(3, .inl (1)), (0, .inl (a)), (1, .inl (b))]) (st' := []) rfl ?_
    refine ez_less [(3, .inl (1)), (0, .inl (a)), (1, .inl (b))] rfl ⟨rfl, rfl, rfl, trivial⟩ ?_
    exact rd_inW3 (y := 1) hB ar br k1 k0 n1 (by omega)
  · skip
    refine ez_if rfl rfl ⟨by decide, by decide⟩ (fun (c2 : (0 : Int) ≠ (0)) => absurd c2 (by decide)) (fun _ => ?_)
    refine ez_go (n := 2) (pc' := 60) (L' := [(0, .inl (a)), (1, .inl (b))]) (st' := [.inl (16), .inl (a)]) rfl ?_
    refine ez_icmp rfl rfl ⟨by first | omega | exact (sz_i32 _).1, by first | omega | exact (sz_i32 _).2⟩ ⟨by first | omega | exact (sz_i32 _).1, by first | omega | exact (sz_i32 _).2⟩ (fun (c3 : (a) = (16)) => ?_) (fun (c3 : ¬((a) = (16))) => ?_)
    · skip
      refine ez_go (n := 3) (pc' := 81) (L' := [(3, .inl (1)), (0, .inl (a)), (1, .inl (b))]) (st' := []) rfl ?_
      refine ez_less [(3, .inl (1)), (0, .inl (a)), (1, .inl (b))] rfl ⟨rfl, rfl, rfl, trivial⟩ ?_
      exact rd_inW3 (y := 1) hB ar br k1 k0 n1 (by omega)
    · skip
      refine ez_go (n := 2) (pc' := 66) (L' := [(0, .inl (a)), (1, .inl (b))]) (st' := [.inl (8), .inl (a)]) rfl ?_
      refine ez_icmp rfl rfl ⟨by first | omega | exact (sz_i32 _).1, by first | omega | exact (sz_i32 _).2⟩ ⟨by first | omega | exact (sz_i32 _).1, by first | omega | exact (sz_i32 _).2⟩ (fun (c4 : (a) = (8)) => ?_) (fun (c4 : ¬((a) = (8))) => ?_)
      · skip
        refine ez_go (n := 3) (pc' := 81) (L' := [(3, .inl (1)), (0, .inl (a)), (1, .inl (b))]) (st' := []) rfl ?_
        refine ez_less [(3, .inl (1)), (0, .inl (a)), (1, .inl (b))] rfl ⟨rfl, rfl, rfl, trivial⟩ ?_
        exact rd_inW3 (y := 1) hB ar br k1 k0 n1 (by omega)
      · skip
        refine ez_go (n := 2) (pc' := 72) (L' := [(0, .inl (a)), (1, .inl (b))]) (st' := [.inl (17), .inl (a)]) rfl ?_
        refine ez_icmp rfl rfl ⟨by first | omega | exact (sz_i32 _).1, by first | omega | exact (sz_i32 _).2⟩ ⟨by first | omega | exact (sz_i32 _).1, by first | omega | exact (sz_i32 _).2⟩ (fun (c5 : (a) ≠ (17)) => ?_) (fun (c5 : ¬((a) ≠ (17))) => ?_)
        · skip
          refine ez_go (n := 2) (pc' := 81) (L' := [(3, .inl (0)), (0, .inl (a)), (1, .inl (b))]) (st' := []) rfl ?_
          refine ez_less [(3, .inl (0)), (0, .inl (a)), (1, .inl (b))] rfl ⟨rfl, rfl, rfl, trivial⟩ ?_
          exact rd_inW3 (y := 0) hB ar br k1 k0 n1 (by omega)
        · skip
          refine ez_go (n := 3) (pc' := 81) (L' := [(3, .inl (1)), (0, .inl (a)), (1, .inl (b))]) (st' := []) rfl ?_
          refine ez_less [(3, .inl (1)), (0, .inl (a)), (1, .inl (b))] rfl ⟨rfl, rfl, rfl, trivial⟩ ?_
          exact rd_inW3 (y := 1) hB ar br k1 k0 n1 (by omega)

theorem rd_inW1 {a b x : Int} (hB : ez_B τ h) (ar : ez_rg a) (br : ez_rg b) (k1 : inW a b → Q (.inl (some (ez_v (.inl 1))), h)) (k0 : ¬ inW a b → Q (.inl (some (ez_v (.inl 0))), h)) (hx : ((x = 1 ∧ ((wle a ∨ a = 16) ∧ (wle b ∨ b = 16))) ∨ (x = 0 ∧ ¬ ((wle a ∨ a = 16) ∧ (wle b ∨ b = 16))))) : ez_W (d + 1) cm_52 32 [(2, .inl (x)), (0, .inl (a)), (1, .inl (b))] [] h Q := by
  obtain ⟨ar1, ar2⟩ := id ar
  obtain ⟨br1, br2⟩ := id br
  refine ez_go (n := 1) (pc' := 33) (L' := [(2, .inl (x)), (0, .inl (a)), (1, .inl (b))]) (st' := [.inl (x)]) rfl ?_
  refine ez_if rfl rfl ⟨by first | omega | exact (sz_i32 _).1, by first | omega | exact (sz_i32 _).2⟩ (fun (c1 : (x) ≠ (0)) => ?_) (fun (c1 : ¬((x) ≠ (0))) => ?_)
  · skip
    refine ez_go (n := 1) (pc' := 49) (L' := [(2, .inl (x)), (0, .inl (a)), (1, .inl (b))]) (st' := [.inl (1)]) rfl ?_
    exact ez_retZ rfl rfl (Or.inr rfl) (k1 (by omega))
  · skip
    refine ez_go (n := 2) (pc' := 39) (L' := [(2, .inl (x)), (0, .inl (a)), (1, .inl (b))]) (st' := [.inl (8), .inl (a)]) rfl ?_
    refine ez_icmp rfl rfl ⟨by first | omega | exact (sz_i32 _).1, by first | omega | exact (sz_i32 _).2⟩ ⟨by first | omega | exact (sz_i32 _).1, by first | omega | exact (sz_i32 _).2⟩ (fun (c2 : (a) ≠ (8)) => ?_) (fun (c2 : ¬((a) ≠ (8))) => ?_)
    · skip
      refine ez_less [(0, .inl (a)), (1, .inl (b))] rfl ⟨rfl, rfl, trivial⟩ ?_
      exact rd_inW2 hB ar br k1 k0 (by omega)
    · skip
      refine ez_go (n := 2) (pc' := 45) (L' := [(2, .inl (x)), (0, .inl (a)), (1, .inl (b))]) (st' := [.inl (8), .inl (b)]) rfl ?_
      refine ez_icmp rfl rfl ⟨by first | omega | exact (sz_i32 _).1, by first | omega | exact (sz_i32 _).2⟩ ⟨by first | omega | exact (sz_i32 _).1, by first | omega | exact (sz_i32 _).2⟩ (fun (c3 : (b) ≠ (8)) => ?_) (fun (c3 : ¬((b) ≠ (8))) => ?_)
      · skip
        refine ez_less [(0, .inl (a)), (1, .inl (b))] rfl ⟨rfl, rfl, trivial⟩ ?_
        exact rd_inW2 hB ar br k1 k0 (by omega)
      · skip
        refine ez_go (n := 1) (pc' := 49) (L' := [(2, .inl (x)), (0, .inl (a)), (1, .inl (b))]) (st' := [.inl (1)]) rfl ?_
        exact ez_retZ rfl rfl (Or.inr rfl) (k1 (by omega))

theorem rd_inW {a b : Int} (hB : ez_B τ h) (ar : ez_rg a) (br : ez_rg b) (k1 : inW a b → Q (.inl (some (ez_v (.inl 1))), h)) (k0 : ¬ inW a b → Q (.inl (some (ez_v (.inl 0))), h))  : ez_W (d + 1) cm_52 0 [(0, .inl (a)), (1, .inl (b))] [] h Q := by
  obtain ⟨ar1, ar2⟩ := id ar
  obtain ⟨br1, br2⟩ := id br
  refine ez_go (n := 1) (pc' := 1) (L' := [(0, .inl (a)), (1, .inl (b))]) (st' := [.inl (a)]) rfl ?_
  refine ez_cs hB.2.1 rfl rfl rfl rfl rfl (rd_bisLetter hB ⟨by omega, by omega⟩ (fun (w15 : wle (a)) => ez_K1 ?_) (fun (w15 : ¬ wle (a)) => ez_K1 ?_))
  · skip
    refine ez_if rfl rfl ⟨by decide, by decide⟩ (fun _ => ?_) (fun (c1 : ¬((1 : Int) ≠ (0))) => absurd c1 (by decide))
    refine ez_go (n := 1) (pc' := 14) (L' := [(0, .inl (a)), (1, .inl (b))]) (st' := [.inl (b)]) rfl ?_
    refine ez_cs hB.2.1 rfl rfl rfl rfl rfl (rd_bisLetter hB ⟨by omega, by omega⟩ (fun (w16 : wle (b)) => ez_K1 ?_) (fun (w16 : ¬ wle (b)) => ez_K1 ?_))
    · skip
      refine ez_if rfl rfl ⟨by decide, by decide⟩ (fun _ => ?_) (fun (c2 : ¬((1 : Int) ≠ (0))) => absurd c2 (by decide))
      refine ez_go (n := 3) (pc' := 32) (L' := [(2, .inl (1)), (0, .inl (a)), (1, .inl (b))]) (st' := []) rfl ?_
      refine ez_less [(2, .inl (1)), (0, .inl (a)), (1, .inl (b))] rfl ⟨rfl, rfl, rfl, trivial⟩ ?_
      exact rd_inW1 (x := 1) hB ar br k1 k0 (by omega)
    · skip
      refine ez_if rfl rfl ⟨by decide, by decide⟩ (fun (c3 : (0 : Int) ≠ (0)) => absurd c3 (by decide)) (fun _ => ?_)
      refine ez_go (n := 2) (pc' := 23) (L' := [(0, .inl (a)), (1, .inl (b))]) (st' := [.inl (16), .inl (b)]) rfl ?_
      refine ez_icmp rfl rfl ⟨by first | omega | exact (sz_i32 _).1, by first | omega | exact (sz_i32 _).2⟩ ⟨by first | omega | exact (sz_i32 _).1, by first | omega | exact (sz_i32 _).2⟩ (fun (c4 : (b) ≠ (16)) => ?_) (fun (c4 : ¬((b) ≠ (16))) => ?_)
      · skip
        refine ez_go (n := 2) (pc' := 32) (L' := [(2, .inl (0)), (0, .inl (a)), (1, .inl (b))]) (st' := []) rfl ?_
        refine ez_less [(2, .inl (0)), (0, .inl (a)), (1, .inl (b))] rfl ⟨rfl, rfl, rfl, trivial⟩ ?_
        exact rd_inW1 (x := 0) hB ar br k1 k0 (by omega)
      · skip
        refine ez_go (n := 3) (pc' := 32) (L' := [(2, .inl (1)), (0, .inl (a)), (1, .inl (b))]) (st' := []) rfl ?_
        refine ez_less [(2, .inl (1)), (0, .inl (a)), (1, .inl (b))] rfl ⟨rfl, rfl, rfl, trivial⟩ ?_
        exact rd_inW1 (x := 1) hB ar br k1 k0 (by omega)
  · skip
    refine ez_if rfl rfl ⟨by decide, by decide⟩ (fun (c5 : (0 : Int) ≠ (0)) => absurd c5 (by decide)) (fun _ => ?_)
    refine ez_go (n := 2) (pc' := 10) (L' := [(0, .inl (a)), (1, .inl (b))]) (st' := [.inl (16), .inl (a)]) rfl ?_
    refine ez_icmp rfl rfl ⟨by first | omega | exact (sz_i32 _).1, by first | omega | exact (sz_i32 _).2⟩ ⟨by first | omega | exact (sz_i32 _).1, by first | omega | exact (sz_i32 _).2⟩ (fun (c6 : (a) ≠ (16)) => ?_) (fun (c6 : ¬((a) ≠ (16))) => ?_)
    · skip
      refine ez_go (n := 2) (pc' := 32) (L' := [(2, .inl (0)), (0, .inl (a)), (1, .inl (b))]) (st' := []) rfl ?_
      refine ez_less [(2, .inl (0)), (0, .inl (a)), (1, .inl (b))] rfl ⟨rfl, rfl, rfl, trivial⟩ ?_
      exact rd_inW1 (x := 0) hB ar br k1 k0 (by omega)
    · skip
      refine ez_go (n := 1) (pc' := 14) (L' := [(0, .inl (a)), (1, .inl (b))]) (st' := [.inl (b)]) rfl ?_
      refine ez_cs hB.2.1 rfl rfl rfl rfl rfl (rd_bisLetter hB ⟨by omega, by omega⟩ (fun (w17 : wle (b)) => ez_K1 ?_) (fun (w17 : ¬ wle (b)) => ez_K1 ?_))
      · skip
        refine ez_if rfl rfl ⟨by decide, by decide⟩ (fun _ => ?_) (fun (c7 : ¬((1 : Int) ≠ (0))) => absurd c7 (by decide))
        refine ez_go (n := 3) (pc' := 32) (L' := [(2, .inl (1)), (0, .inl (a)), (1, .inl (b))]) (st' := []) rfl ?_
        refine ez_less [(2, .inl (1)), (0, .inl (a)), (1, .inl (b))] rfl ⟨rfl, rfl, rfl, trivial⟩ ?_
        exact rd_inW1 (x := 1) hB ar br k1 k0 (by omega)
      · skip
        refine ez_if rfl rfl ⟨by decide, by decide⟩ (fun (c8 : (0 : Int) ≠ (0)) => absurd c8 (by decide)) (fun _ => ?_)
        refine ez_go (n := 2) (pc' := 23) (L' := [(0, .inl (a)), (1, .inl (b))]) (st' := [.inl (16), .inl (b)]) rfl ?_
        refine ez_icmp rfl rfl ⟨by first | omega | exact (sz_i32 _).1, by first | omega | exact (sz_i32 _).2⟩ ⟨by first | omega | exact (sz_i32 _).1, by first | omega | exact (sz_i32 _).2⟩ (fun (c9 : (b) ≠ (16)) => ?_) (fun (c9 : ¬((b) ≠ (16))) => ?_)
        · skip
          refine ez_go (n := 2) (pc' := 32) (L' := [(2, .inl (0)), (0, .inl (a)), (1, .inl (b))]) (st' := []) rfl ?_
          refine ez_less [(2, .inl (0)), (0, .inl (a)), (1, .inl (b))] rfl ⟨rfl, rfl, rfl, trivial⟩ ?_
          exact rd_inW1 (x := 0) hB ar br k1 k0 (by omega)
        · skip
          refine ez_go (n := 3) (pc' := 32) (L' := [(2, .inl (1)), (0, .inl (a)), (1, .inl (b))]) (st' := []) rfl ?_
          refine ez_less [(2, .inl (1)), (0, .inl (a)), (1, .inl (b))] rfl ⟨rfl, rfl, rfl, trivial⟩ ?_
          exact rd_inW1 (x := 1) hB ar br k1 k0 (by omega)

theorem rd_vbh_l {i : Int} (c : bkC τ h D u) (i0 : 0 ≤ i) (i1 : i < (u.length : Int)) (k9 : ∀ v, ez_rg v → vbR (wV D u) u.length i v → Q (.inl (some (ez_v (.inl v))), h)) : ∀ (n : Nat) (k : Int), n = ((u.length : Int) - k).toNat → i < k → k ≤ (u.length : Int) → (∀ j, i < j → j < k → ign (wV D u j)) → ez_W (d + 1) cm_60 4 [(2, .inl (k)), (0, .inr (.inr (some (733)))), (1, .inl (i))] [] h Q := by
  have hB := c.1.1
  have t733 : τ 733 = 65 := c.1.2 733 (by decide)
  have n2 := c.2.1
  have e5 := c.2.2.1.1
  have e6 := c.2.2.1.2
  intro n
  induction n with
  | zero =>
    intro k hn0 ka kb hn
    refine ez_go (n := 2) (pc' := 6) (L' := [(2, .inl (k)), (0, .inr (.inr (some (733)))), (1, .inl (i))]) (st' := [.inr (.inr (some (733))), .inl (k)]) rfl ?_
    refine ez_gI hB t733 rfl rfl tq_65 rfl rfl (fun (b1 : 0 ≤ qz_I h 733 5) (b1' : qz_I h 733 5 ≤ 2000) => ?_)
    refine ez_icmp rfl rfl ⟨by first | omega | exact (sz_i32 _).1, by first | omega | exact (sz_i32 _).2⟩ ⟨by first | omega | exact (sz_i32 _).1, by first | omega | exact (sz_i32 _).2⟩ (fun (c2 : (qz_I h 733 5) ≤ (k)) => ?_) (fun (c2 : ¬((qz_I h 733 5) ≤ (k))) => ?_)
    · skip
      refine ez_go (n := 2) (pc' := 32) (L' := [(2, .inl (k)), (0, .inr (.inr (some (733)))), (1, .inl (i))]) (st' := [.inr (.inr (some (733))), .inl (k)]) rfl ?_
      refine ez_gI hB t733 rfl rfl tq_65 rfl rfl (fun (b3 : 0 ≤ qz_I h 733 5) (b3' : qz_I h 733 5 ≤ 2000) => ?_)
      refine ez_icmp rfl rfl ⟨by first | omega | exact (sz_i32 _).1, by first | omega | exact (sz_i32 _).2⟩ ⟨by first | omega | exact (sz_i32 _).1, by first | omega | exact (sz_i32 _).2⟩ (fun (c4 : (qz_I h 733 5) ≤ (k)) => ?_) (fun (c4 : ¬((qz_I h 733 5) ≤ (k))) => ?_)
      · skip
        refine ez_go (n := 1) (pc' := 48) (L' := [(2, .inl (k)), (0, .inr (.inr (some (733)))), (1, .inl (i))]) (st' := [.inl (-1)]) rfl ?_
        first | (exfalso; omega) | exact ez_retI rfl rfl (k9 _ ⟨by decide, by decide⟩ (Or.inr ⟨fun j a b => hn j a (by omega), rfl⟩))
      · skip
        refine ez_go (n := 1) (pc' := 39) (L' := [(2, .inl (k)), (0, .inr (.inr (some (733)))), (1, .inl (i))]) (st' := [.inr (.inr (some (733)))]) rfl ?_
        refine ez_gC (p := 734) (tg := 66) hB t733 rfl rfl tq_65 rfl rfl (fun (t734 : _ = 66) => ?_)
        refine ez_go (n := 1) (pc' := 43) (L' := [(2, .inl (k)), (0, .inr (.inr (some (733)))), (1, .inl (i))]) (st' := [.inl (k), .inr (.inr (some (734)))]) rfl ?_
        have n6 : 2000 ≤ qz_N h 734 ∧ qz_N h 734 ≤ 2000 := ez_len hB t734 tq_66 rfl
        refine ez_aI hB t734 rfl tq_66 rfl rfl (by omega) (by omega) (fun (b5 : -2147483648 ≤ qz_I h 734 (k).toNat) (b5' : qz_I h 734 (k).toNat ≤ 2147483647) => ?_)
        have e34 := (c.2.2.2 (k) (by omega) (by omega)).1
        rw [show qz_I h 734 (k).toNat = wV D u (k) from e34]
        refine ez_go (n := 1) (pc' := 48) (L' := [(2, .inl (k)), (0, .inr (.inr (some (733)))), (1, .inl (i))]) (st' := [.inl (wV D u (k))]) rfl ?_
        first | (exfalso; omega) | exact ez_retI rfl rfl (k9 _ ⟨by omega, by omega⟩ (Or.inl ⟨k, by omega, by omega, by assumption, hn, rfl⟩))
    · skip
      refine ez_go (n := 1) (pc' := 13) (L' := [(2, .inl (k)), (0, .inr (.inr (some (733)))), (1, .inl (i))]) (st' := [.inr (.inr (some (733)))]) rfl ?_
      refine ez_gC (p := 734) (tg := 66) hB t733 rfl rfl tq_65 rfl rfl (fun (t734 : _ = 66) => ?_)
      refine ez_go (n := 1) (pc' := 17) (L' := [(2, .inl (k)), (0, .inr (.inr (some (733)))), (1, .inl (i))]) (st' := [.inl (k), .inr (.inr (some (734)))]) rfl ?_
      have n8 : 2000 ≤ qz_N h 734 ∧ qz_N h 734 ≤ 2000 := ez_len hB t734 tq_66 rfl
      refine ez_aI hB t734 rfl tq_66 rfl rfl (by omega) (by omega) (fun (b7 : -2147483648 ≤ qz_I h 734 (k).toNat) (b7' : qz_I h 734 (k).toNat ≤ 2147483647) => ?_)
      have e34 := (c.2.2.2 (k) (by omega) (by omega)).1
      rw [show qz_I h 734 (k).toNat = wV D u (k) from e34]
      refine ez_cs hB.2.1 rfl rfl rfl rfl rfl (rd_bisIgnored hB ⟨by omega, by omega⟩ (fun (w1 : ign (wV D u (k))) => ez_K1 ?_) (fun (w1 : ¬ ign (wV D u (k))) => ez_K1 ?_))
      · skip
        refine ez_if rfl rfl ⟨by decide, by decide⟩ (fun (c9 : (1 : Int) = (0)) => absurd c9 (by decide)) (fun _ => ?_)
        refine ez_go (n := 2) (pc' := 4) (L' := [(2, .inl (k + 1)), (0, .inr (.inr (some (733)))), (1, .inl (i))]) (st' := []) rfl ?_
        exfalso; omega
      · skip
        refine ez_if rfl rfl ⟨by decide, by decide⟩ (fun _ => ?_) (fun (c10 : ¬((0 : Int) = (0))) => absurd c10 (by decide))
        refine ez_go (n := 2) (pc' := 32) (L' := [(2, .inl (k)), (0, .inr (.inr (some (733)))), (1, .inl (i))]) (st' := [.inr (.inr (some (733))), .inl (k)]) rfl ?_
        refine ez_gI hB t733 rfl rfl tq_65 rfl rfl (fun (b11 : 0 ≤ qz_I h 733 5) (b11' : qz_I h 733 5 ≤ 2000) => ?_)
        refine ez_icmp rfl rfl ⟨by first | omega | exact (sz_i32 _).1, by first | omega | exact (sz_i32 _).2⟩ ⟨by first | omega | exact (sz_i32 _).1, by first | omega | exact (sz_i32 _).2⟩ (fun (c12 : (qz_I h 733 5) ≤ (k)) => ?_) (fun (c12 : ¬((qz_I h 733 5) ≤ (k))) => ?_)
        · skip
          refine ez_go (n := 1) (pc' := 48) (L' := [(2, .inl (k)), (0, .inr (.inr (some (733)))), (1, .inl (i))]) (st' := [.inl (-1)]) rfl ?_
          first | (exfalso; omega) | exact ez_retI rfl rfl (k9 _ ⟨by decide, by decide⟩ (Or.inr ⟨fun j a b => hn j a (by omega), rfl⟩))
        · skip
          refine ez_go (n := 1) (pc' := 39) (L' := [(2, .inl (k)), (0, .inr (.inr (some (733)))), (1, .inl (i))]) (st' := [.inr (.inr (some (733)))]) rfl ?_
          refine ez_gC (p := 734) (tg := 66) hB t733 rfl rfl tq_65 rfl rfl (fun (t734 : _ = 66) => ?_)
          refine ez_go (n := 1) (pc' := 43) (L' := [(2, .inl (k)), (0, .inr (.inr (some (733)))), (1, .inl (i))]) (st' := [.inl (k), .inr (.inr (some (734)))]) rfl ?_
          have n14 : 2000 ≤ qz_N h 734 ∧ qz_N h 734 ≤ 2000 := ez_len hB t734 tq_66 rfl
          refine ez_aI hB t734 rfl tq_66 rfl rfl (by omega) (by omega) (fun (b13 : -2147483648 ≤ qz_I h 734 (k).toNat) (b13' : qz_I h 734 (k).toNat ≤ 2147483647) => ?_)
          have e34 := (c.2.2.2 (k) (by omega) (by omega)).1
          rw [show qz_I h 734 (k).toNat = wV D u (k) from e34]
          refine ez_go (n := 1) (pc' := 48) (L' := [(2, .inl (k)), (0, .inr (.inr (some (733)))), (1, .inl (i))]) (st' := [.inl (wV D u (k))]) rfl ?_
          first | (exfalso; omega) | exact ez_retI rfl rfl (k9 _ ⟨by omega, by omega⟩ (Or.inl ⟨k, by omega, by omega, by assumption, hn, rfl⟩))
  | succ n ih =>
    intro k hn0 ka kb hn
    refine ez_go (n := 2) (pc' := 6) (L' := [(2, .inl (k)), (0, .inr (.inr (some (733)))), (1, .inl (i))]) (st' := [.inr (.inr (some (733))), .inl (k)]) rfl ?_
    refine ez_gI hB t733 rfl rfl tq_65 rfl rfl (fun (b1 : 0 ≤ qz_I h 733 5) (b1' : qz_I h 733 5 ≤ 2000) => ?_)
    refine ez_icmp rfl rfl ⟨by first | omega | exact (sz_i32 _).1, by first | omega | exact (sz_i32 _).2⟩ ⟨by first | omega | exact (sz_i32 _).1, by first | omega | exact (sz_i32 _).2⟩ (fun (c2 : (qz_I h 733 5) ≤ (k)) => ?_) (fun (c2 : ¬((qz_I h 733 5) ≤ (k))) => ?_)
    · skip
      refine ez_go (n := 2) (pc' := 32) (L' := [(2, .inl (k)), (0, .inr (.inr (some (733)))), (1, .inl (i))]) (st' := [.inr (.inr (some (733))), .inl (k)]) rfl ?_
      refine ez_gI hB t733 rfl rfl tq_65 rfl rfl (fun (b3 : 0 ≤ qz_I h 733 5) (b3' : qz_I h 733 5 ≤ 2000) => ?_)
      refine ez_icmp rfl rfl ⟨by first | omega | exact (sz_i32 _).1, by first | omega | exact (sz_i32 _).2⟩ ⟨by first | omega | exact (sz_i32 _).1, by first | omega | exact (sz_i32 _).2⟩ (fun (c4 : (qz_I h 733 5) ≤ (k)) => ?_) (fun (c4 : ¬((qz_I h 733 5) ≤ (k))) => ?_)
      · skip
        refine ez_go (n := 1) (pc' := 48) (L' := [(2, .inl (k)), (0, .inr (.inr (some (733)))), (1, .inl (i))]) (st' := [.inl (-1)]) rfl ?_
        first | (exfalso; omega) | exact ez_retI rfl rfl (k9 _ ⟨by decide, by decide⟩ (Or.inr ⟨fun j a b => hn j a (by omega), rfl⟩))
      · skip
        refine ez_go (n := 1) (pc' := 39) (L' := [(2, .inl (k)), (0, .inr (.inr (some (733)))), (1, .inl (i))]) (st' := [.inr (.inr (some (733)))]) rfl ?_
        refine ez_gC (p := 734) (tg := 66) hB t733 rfl rfl tq_65 rfl rfl (fun (t734 : _ = 66) => ?_)
        refine ez_go (n := 1) (pc' := 43) (L' := [(2, .inl (k)), (0, .inr (.inr (some (733)))), (1, .inl (i))]) (st' := [.inl (k), .inr (.inr (some (734)))]) rfl ?_
        have n6 : 2000 ≤ qz_N h 734 ∧ qz_N h 734 ≤ 2000 := ez_len hB t734 tq_66 rfl
        refine ez_aI hB t734 rfl tq_66 rfl rfl (by omega) (by omega) (fun (b5 : -2147483648 ≤ qz_I h 734 (k).toNat) (b5' : qz_I h 734 (k).toNat ≤ 2147483647) => ?_)
        have e34 := (c.2.2.2 (k) (by omega) (by omega)).1
        rw [show qz_I h 734 (k).toNat = wV D u (k) from e34]
        refine ez_go (n := 1) (pc' := 48) (L' := [(2, .inl (k)), (0, .inr (.inr (some (733)))), (1, .inl (i))]) (st' := [.inl (wV D u (k))]) rfl ?_
        first | (exfalso; omega) | exact ez_retI rfl rfl (k9 _ ⟨by omega, by omega⟩ (Or.inl ⟨k, by omega, by omega, by assumption, hn, rfl⟩))
    · skip
      refine ez_go (n := 1) (pc' := 13) (L' := [(2, .inl (k)), (0, .inr (.inr (some (733)))), (1, .inl (i))]) (st' := [.inr (.inr (some (733)))]) rfl ?_
      refine ez_gC (p := 734) (tg := 66) hB t733 rfl rfl tq_65 rfl rfl (fun (t734 : _ = 66) => ?_)
      refine ez_go (n := 1) (pc' := 17) (L' := [(2, .inl (k)), (0, .inr (.inr (some (733)))), (1, .inl (i))]) (st' := [.inl (k), .inr (.inr (some (734)))]) rfl ?_
      have n8 : 2000 ≤ qz_N h 734 ∧ qz_N h 734 ≤ 2000 := ez_len hB t734 tq_66 rfl
      refine ez_aI hB t734 rfl tq_66 rfl rfl (by omega) (by omega) (fun (b7 : -2147483648 ≤ qz_I h 734 (k).toNat) (b7' : qz_I h 734 (k).toNat ≤ 2147483647) => ?_)
      have e34 := (c.2.2.2 (k) (by omega) (by omega)).1
      rw [show qz_I h 734 (k).toNat = wV D u (k) from e34]
      refine ez_cs hB.2.1 rfl rfl rfl rfl rfl (rd_bisIgnored hB ⟨by omega, by omega⟩ (fun (w1 : ign (wV D u (k))) => ez_K1 ?_) (fun (w1 : ¬ ign (wV D u (k))) => ez_K1 ?_))
      · skip
        refine ez_if rfl rfl ⟨by decide, by decide⟩ (fun (c9 : (1 : Int) = (0)) => absurd c9 (by decide)) (fun _ => ?_)
        refine ez_go (n := 2) (pc' := 4) (L' := [(2, .inl (k + 1)), (0, .inr (.inr (some (733)))), (1, .inl (i))]) (st' := []) rfl ?_
        refine ez_less [(2, .inl (k + 1)), (0, .inr (.inr (some (733)))), (1, .inl (i))] rfl ⟨rfl, rfl, rfl, trivial⟩ ?_
        refine ih _ (by omega) (by omega) (by omega) (fun j a b => ?_)
        by_cases e : j = k
        · rw [e]; assumption
        · exact hn j a (by omega)
      · skip
        refine ez_if rfl rfl ⟨by decide, by decide⟩ (fun _ => ?_) (fun (c10 : ¬((0 : Int) = (0))) => absurd c10 (by decide))
        refine ez_go (n := 2) (pc' := 32) (L' := [(2, .inl (k)), (0, .inr (.inr (some (733)))), (1, .inl (i))]) (st' := [.inr (.inr (some (733))), .inl (k)]) rfl ?_
        refine ez_gI hB t733 rfl rfl tq_65 rfl rfl (fun (b11 : 0 ≤ qz_I h 733 5) (b11' : qz_I h 733 5 ≤ 2000) => ?_)
        refine ez_icmp rfl rfl ⟨by first | omega | exact (sz_i32 _).1, by first | omega | exact (sz_i32 _).2⟩ ⟨by first | omega | exact (sz_i32 _).1, by first | omega | exact (sz_i32 _).2⟩ (fun (c12 : (qz_I h 733 5) ≤ (k)) => ?_) (fun (c12 : ¬((qz_I h 733 5) ≤ (k))) => ?_)
        · skip
          refine ez_go (n := 1) (pc' := 48) (L' := [(2, .inl (k)), (0, .inr (.inr (some (733)))), (1, .inl (i))]) (st' := [.inl (-1)]) rfl ?_
          first | (exfalso; omega) | exact ez_retI rfl rfl (k9 _ ⟨by decide, by decide⟩ (Or.inr ⟨fun j a b => hn j a (by omega), rfl⟩))
        · skip
          refine ez_go (n := 1) (pc' := 39) (L' := [(2, .inl (k)), (0, .inr (.inr (some (733)))), (1, .inl (i))]) (st' := [.inr (.inr (some (733)))]) rfl ?_
          refine ez_gC (p := 734) (tg := 66) hB t733 rfl rfl tq_65 rfl rfl (fun (t734 : _ = 66) => ?_)
          refine ez_go (n := 1) (pc' := 43) (L' := [(2, .inl (k)), (0, .inr (.inr (some (733)))), (1, .inl (i))]) (st' := [.inl (k), .inr (.inr (some (734)))]) rfl ?_
          have n14 : 2000 ≤ qz_N h 734 ∧ qz_N h 734 ≤ 2000 := ez_len hB t734 tq_66 rfl
          refine ez_aI hB t734 rfl tq_66 rfl rfl (by omega) (by omega) (fun (b13 : -2147483648 ≤ qz_I h 734 (k).toNat) (b13' : qz_I h 734 (k).toNat ≤ 2147483647) => ?_)
          have e34 := (c.2.2.2 (k) (by omega) (by omega)).1
          rw [show qz_I h 734 (k).toNat = wV D u (k) from e34]
          refine ez_go (n := 1) (pc' := 48) (L' := [(2, .inl (k)), (0, .inr (.inr (some (733)))), (1, .inl (i))]) (st' := [.inl (wV D u (k))]) rfl ?_
          first | (exfalso; omega) | exact ez_retI rfl rfl (k9 _ ⟨by omega, by omega⟩ (Or.inl ⟨k, by omega, by omega, by assumption, hn, rfl⟩))

theorem rd_vbh {i : Int} (c : bkC τ h D u) (i0 : 0 ≤ i) (i1 : i < (u.length : Int)) (k9 : ∀ v, ez_rg v → vbR (wV D u) u.length i v → Q (.inl (some (ez_v (.inl v))), h)) : ez_W (d + 1) cm_60 0 [(0, .inr (.inr (some (733)))), (1, .inl (i))] [] h Q := by
  have hB := c.1.1
  have t733 : τ 733 = 65 := c.1.2 733 (by decide)
  have n2 := c.2.1
  have e5 := c.2.2.1.1
  have e6 := c.2.2.1.2
  refine ez_go (n := 4) (pc' := 4) (L' := [(2, .inl ((i) + (1))), (0, .inr (.inr (some (733)))), (1, .inl (i))]) (st' := []) rfl ?_
  refine ez_less [(2, .inl ((i) + (1))), (0, .inr (.inr (some (733)))), (1, .inl (i))] rfl ⟨rfl, rfl, rfl, trivial⟩ ?_
  exact rd_vbh_l c i0 i1 k9 _ _ rfl (by omega) (by omega) (fun j a b => by omega)

theorem rd_wb169 {i : Int} (c : bkC τ h D u) (i0 : 0 < i) (i1 : i < (u.length : Int)) (r0 : ez_rg (wV D u (i - 1))) (r1 : ez_rg (wV D u i)) (k1 : wbd (wV D u) (wpi D u) u.length i → Q (.inl (some (ez_v (.inl 1))), h)) (k0 : ¬ wbd (wV D u) (wpi D u) u.length i → Q (.inl (some (ez_v (.inl 0))), h)) (ra : ez_rg (wV D u (bas (wV D u) (i - 1).toNat))) (raa : ez_rg (vaa (wV D u) (bas (wV D u) (i - 1).toNat))) (h5 : ¬ (wV D u i = 6 ∧ odd (wV D u) (bas (wV D u) (i - 1).toNat)) → wbd (wV D u) (wpi D u) u.length i) (h4 : wV D u i = 6 ∧ odd (wV D u) (bas (wV D u) (i - 1).toNat) → ¬ wbd (wV D u) (wpi D u) u.length i) : ez_W (d + 2) cm_57 169 [(2, .inl (wV D u (bas (wV D u) (i - 1).toNat))), (3, .inl (wV D u i)), (4, .inl ((bas (wV D u) (i - 1).toNat : Int))), (5, .inl (vaa (wV D u) (bas (wV D u) (i - 1).toNat))), (0, .inr (.inr (some (733)))), (1, .inl (i))] [] h Q := by
  have hB := c.1.1
  have t733 : τ 733 = 65 := c.1.2 733 (by decide)
  have n2 := c.2.1
  have e5 := c.2.2.1.1
  have e6 := c.2.2.1.2
  obtain ⟨r01, r02⟩ := id r0
  obtain ⟨r11, r12⟩ := id r1
  have bl := bas_le (wV D u) (i - 1).toNat
  obtain ⟨ra1, ra2⟩ := id ra
  obtain ⟨raa1, raa2⟩ := id raa
  refine ez_go (n := 2) (pc' := 172) (L' := [(2, .inl (wV D u (bas (wV D u) (i - 1).toNat))), (3, .inl (wV D u i)), (4, .inl ((bas (wV D u) (i - 1).toNat : Int))), (5, .inl (vaa (wV D u) (bas (wV D u) (i - 1).toNat))), (0, .inr (.inr (some (733)))), (1, .inl (i))]) (st' := [.inl (6), .inl (wV D u i)]) rfl ?_
  refine ez_icmp rfl rfl ⟨by first | omega | exact (sz_i32 _).1, by first | omega | exact (sz_i32 _).2⟩ ⟨by first | omega | exact (sz_i32 _).1, by first | omega | exact (sz_i32 _).2⟩ (fun (c1 : (wV D u i) ≠ (6)) => ?_) (fun (c1 : ¬((wV D u i) ≠ (6))) => ?_)
  · skip
    refine ez_go (n := 2) (pc' := 190) (L' := [(2, .inl (wV D u (bas (wV D u) (i - 1).toNat))), (3, .inl (wV D u i)), (4, .inl ((bas (wV D u) (i - 1).toNat : Int))), (5, .inl (vaa (wV D u) (bas (wV D u) (i - 1).toNat))), (0, .inr (.inr (some (733)))), (1, .inl (i))]) (st' := [.inl (1)]) rfl ?_
    exact ez_retZ rfl rfl (Or.inr rfl) (k1 (h5 (fun w => by first | exact absurd w.1 (by assumption) | (have w8 := e37.mpr w.2; omega))))
  · skip
    refine ez_go (n := 1) (pc' := 176) (L' := [(2, .inl (wV D u (bas (wV D u) (i - 1).toNat))), (3, .inl (wV D u i)), (4, .inl ((bas (wV D u) (i - 1).toNat : Int))), (5, .inl (vaa (wV D u) (bas (wV D u) (i - 1).toNat))), (0, .inr (.inr (some (733)))), (1, .inl (i))]) (st' := [.inr (.inr (some (733)))]) rfl ?_
    refine ez_gC (p := 737) (tg := 69) hB t733 rfl rfl tq_65 rfl rfl (fun (t737 : _ = 69) => ?_)
    refine ez_go (n := 1) (pc' := 181) (L' := [(2, .inl (wV D u (bas (wV D u) (i - 1).toNat))), (3, .inl (wV D u i)), (4, .inl ((bas (wV D u) (i - 1).toNat : Int))), (5, .inl (vaa (wV D u) (bas (wV D u) (i - 1).toNat))), (0, .inr (.inr (some (733)))), (1, .inl (i))]) (st' := [.inl ((bas (wV D u) (i - 1).toNat : Int)), .inr (.inr (some (737)))]) rfl ?_
    have n3 : 2000 ≤ qz_N h 737 ∧ qz_N h 737 ≤ 2000 := ez_len hB t737 tq_69 rfl
    refine ez_aI hB t737 rfl tq_69 rfl rfl (by omega) (by omega) (fun (b2 : 0 ≤ qz_I h 737 ((bas (wV D u) (i - 1).toNat : Int)).toNat) (b2' : qz_I h 737 ((bas (wV D u) (i - 1).toNat : Int)).toNat ≤ 1) => ?_)
    have e37 := (c.2.2.2 (((bas (wV D u) (i - 1).toNat : Nat) : Int)) (by omega) (by omega)).2.2.2
    rw [show ((bas (wV D u) (i - 1).toNat : Nat) : Int).toNat = bas (wV D u) (i - 1).toNat from Int.toNat_natCast _] at e37
    have b37 : 0 ≤ qz_I h 737 ((bas (wV D u) (i - 1).toNat : Int)).toNat ∧ qz_I h 737 ((bas (wV D u) (i - 1).toNat : Int)).toNat ≤ 1 := ⟨by omega, by omega⟩
    rw [show ((bas (wV D u) (i - 1).toNat : Nat) : Int).toNat = bas (wV D u) (i - 1).toNat from Int.toNat_natCast _] at b37 ⊢
    refine ez_if rfl rfl ⟨by first | omega | exact (sz_i32 _).1, by first | omega | exact (sz_i32 _).2⟩ (fun (c4 : (qz_I h 737 (bas (wV D u) (i - 1).toNat)) ≠ (0)) => ?_) (fun (c4 : ¬((qz_I h 737 (bas (wV D u) (i - 1).toNat)) ≠ (0))) => ?_)
    · skip
      refine ez_go (n := 1) (pc' := 190) (L' := [(2, .inl (wV D u (bas (wV D u) (i - 1).toNat))), (3, .inl (wV D u i)), (4, .inl ((bas (wV D u) (i - 1).toNat : Int))), (5, .inl (vaa (wV D u) (bas (wV D u) (i - 1).toNat))), (0, .inr (.inr (some (733)))), (1, .inl (i))]) (st' := [.inl (0)]) rfl ?_
      exact ez_retZ rfl rfl (Or.inl rfl) (k0 (h4 ⟨by omega, e37.mp (by omega)⟩))
    · skip
      refine ez_go (n := 2) (pc' := 190) (L' := [(2, .inl (wV D u (bas (wV D u) (i - 1).toNat))), (3, .inl (wV D u i)), (4, .inl ((bas (wV D u) (i - 1).toNat : Int))), (5, .inl (vaa (wV D u) (bas (wV D u) (i - 1).toNat))), (0, .inr (.inr (some (733)))), (1, .inl (i))]) (st' := [.inl (1)]) rfl ?_
      exact ez_retZ rfl rfl (Or.inr rfl) (k1 (h5 (fun w => by first | exact absurd w.1 (by assumption) | (have w8 := e37.mpr w.2; omega))))

theorem rd_wb155 {i : Int} (c : bkC τ h D u) (i0 : 0 < i) (i1 : i < (u.length : Int)) (r0 : ez_rg (wV D u (i - 1))) (r1 : ez_rg (wV D u i)) (k1 : wbd (wV D u) (wpi D u) u.length i → Q (.inl (some (ez_v (.inl 1))), h)) (k0 : ¬ wbd (wV D u) (wpi D u) u.length i → Q (.inl (some (ez_v (.inl 0))), h)) (n1 : ¬ lnd (wV D u (i - 1))) (n2b : ¬ lnd (wV D u i)) (n3 : ¬ ((wV D u (i - 1) = 5 ∧ wpi D u i) ∨ (wV D u (i - 1) = 18 ∧ wV D u i = 18) ∨ ign (wV D u i))) (ra : ez_rg (wV D u (bas (wV D u) (i - 1).toNat))) (raa : ez_rg (vaa (wV D u) (bas (wV D u) (i - 1).toNat))) {bb : Int} (hb : vbR (wV D u) u.length i bb) (m1 : ¬ inW (wV D u (bas (wV D u) (i - 1).toNat)) (wV D u i)) (m2 : ¬ aro (vaa (wV D u) (bas (wV D u) (i - 1).toNat)) (wV D u (bas (wV D u) (i - 1).toNat)) (wV D u i)) (m3 : ¬ aro bb (wV D u i) (wV D u (bas (wV D u) (i - 1).toNat))) : ez_W (d + 2) cm_57 155 [(2, .inl (wV D u (bas (wV D u) (i - 1).toNat))), (3, .inl (wV D u i)), (4, .inl ((bas (wV D u) (i - 1).toNat : Int))), (5, .inl (vaa (wV D u) (bas (wV D u) (i - 1).toNat))), (0, .inr (.inr (some (733)))), (1, .inl (i))] [] h Q := by
  have hB := c.1.1
  have t733 : τ 733 = 65 := c.1.2 733 (by decide)
  have n2 := c.2.1
  have e5 := c.2.2.1.1
  have e6 := c.2.2.1.2
  obtain ⟨r01, r02⟩ := id r0
  obtain ⟨r11, r12⟩ := id r1
  have bl := bas_le (wV D u) (i - 1).toNat
  obtain ⟨ra1, ra2⟩ := id ra
  obtain ⟨raa1, raa2⟩ := id raa
  refine ez_go (n := 2) (pc' := 158) (L' := [(2, .inl (wV D u (bas (wV D u) (i - 1).toNat))), (3, .inl (wV D u i)), (4, .inl ((bas (wV D u) (i - 1).toNat : Int))), (5, .inl (vaa (wV D u) (bas (wV D u) (i - 1).toNat))), (0, .inr (.inr (some (733)))), (1, .inl (i))]) (st' := [.inl (9), .inl (wV D u (bas (wV D u) (i - 1).toNat))]) rfl ?_
  refine ez_icmp rfl rfl ⟨by first | omega | exact (sz_i32 _).1, by first | omega | exact (sz_i32 _).2⟩ ⟨by first | omega | exact (sz_i32 _).1, by first | omega | exact (sz_i32 _).2⟩ (fun (c1 : (wV D u (bas (wV D u) (i - 1).toNat)) ≠ (9)) => ?_) (fun (c1 : ¬((wV D u (bas (wV D u) (i - 1).toNat)) ≠ (9))) => ?_)
  · skip
    refine ez_less [(2, .inl (wV D u (bas (wV D u) (i - 1).toNat))), (3, .inl (wV D u i)), (4, .inl ((bas (wV D u) (i - 1).toNat : Int))), (5, .inl (vaa (wV D u) (bas (wV D u) (i - 1).toNat))), (0, .inr (.inr (some (733)))), (1, .inl (i))] rfl ⟨rfl, rfl, rfl, rfl, rfl, rfl, trivial⟩ ?_
    exact rd_wb169 c i0 i1 r0 r1 k1 k0 ra raa (fun w => wbd_5 (fun q => n1 (Or.inl q.1)) n3 hb (fun x => by unfold wbI at x; rcases x with x | x | x | x | x; (· exact m1 x); (· exact m2 x); (· exact m3 x); (· first | exact absurd x.1 (by assumption) | exact absurd x.2 (by assumption) | omega); (· exact w x))) (fun w => wbd_4 i0 i1 n1 n2b hb (Or.inr (Or.inr (Or.inr (Or.inr w)))))
  · skip
    refine ez_go (n := 2) (pc' := 164) (L' := [(2, .inl (wV D u (bas (wV D u) (i - 1).toNat))), (3, .inl (wV D u i)), (4, .inl ((bas (wV D u) (i - 1).toNat : Int))), (5, .inl (vaa (wV D u) (bas (wV D u) (i - 1).toNat))), (0, .inr (.inr (some (733)))), (1, .inl (i))]) (st' := [.inl (14), .inl (wV D u i)]) rfl ?_
    refine ez_icmp rfl rfl ⟨by first | omega | exact (sz_i32 _).1, by first | omega | exact (sz_i32 _).2⟩ ⟨by first | omega | exact (sz_i32 _).1, by first | omega | exact (sz_i32 _).2⟩ (fun (c2 : (wV D u i) ≠ (14)) => ?_) (fun (c2 : ¬((wV D u i) ≠ (14))) => ?_)
    · skip
      refine ez_less [(2, .inl (wV D u (bas (wV D u) (i - 1).toNat))), (3, .inl (wV D u i)), (4, .inl ((bas (wV D u) (i - 1).toNat : Int))), (5, .inl (vaa (wV D u) (bas (wV D u) (i - 1).toNat))), (0, .inr (.inr (some (733)))), (1, .inl (i))] rfl ⟨rfl, rfl, rfl, rfl, rfl, rfl, trivial⟩ ?_
      exact rd_wb169 c i0 i1 r0 r1 k1 k0 ra raa (fun w => wbd_5 (fun q => n1 (Or.inl q.1)) n3 hb (fun x => by unfold wbI at x; rcases x with x | x | x | x | x; (· exact m1 x); (· exact m2 x); (· exact m3 x); (· first | exact absurd x.1 (by assumption) | exact absurd x.2 (by assumption) | omega); (· exact w x))) (fun w => wbd_4 i0 i1 n1 n2b hb (Or.inr (Or.inr (Or.inr (Or.inr w)))))
    · skip
      refine ez_go (n := 1) (pc' := 168) (L' := [(2, .inl (wV D u (bas (wV D u) (i - 1).toNat))), (3, .inl (wV D u i)), (4, .inl ((bas (wV D u) (i - 1).toNat : Int))), (5, .inl (vaa (wV D u) (bas (wV D u) (i - 1).toNat))), (0, .inr (.inr (some (733)))), (1, .inl (i))]) (st' := [.inl (0)]) rfl ?_
      exact ez_retZ rfl rfl (Or.inl rfl) (k0 (wbd_4 i0 i1 n1 n2b hb (Or.inr (Or.inr (Or.inr (Or.inl ⟨by omega, by omega⟩))))))

theorem vbR_ex (V : Int → Int) (n : Int) : ∀ (i : Int), ∃ v, vbR V n i v := fun i => by
  have key : ∀ (m : Nat) (k : Int), m = (n - k).toNat → i < k → (∀ j, i < j → j < k → ign (V j)) → ∃ v, vbR V n i v := by
    intro m
    induction m with
    | zero => intro k h1 h2 h3; exact ⟨-1, Or.inr ⟨fun j a b => h3 j a (by omega), rfl⟩⟩
    | succ m ih =>
      intro k h1 h2 h3
      by_cases e : ign (V k)
      · exact ih (k + 1) (by omega) (by omega) (fun j a b => by
          by_cases w : j = k
          · rw [w]; exact e
          · exact h3 j a (by omega))
      · exact ⟨V k, Or.inl ⟨k, h2, by omega, e, h3, rfl⟩⟩
  exact key _ (i + 1) rfl (by omega) (fun j a b => by omega)
theorem rd_wb114 {i : Int} (c : bkC τ h D u) (i0 : 0 < i) (i1 : i < (u.length : Int)) (r0 : ez_rg (wV D u (i - 1))) (r1 : ez_rg (wV D u i)) (k1 : wbd (wV D u) (wpi D u) u.length i → Q (.inl (some (ez_v (.inl 1))), h)) (k0 : ¬ wbd (wV D u) (wpi D u) u.length i → Q (.inl (some (ez_v (.inl 0))), h)) (n1 : ¬ lnd (wV D u (i - 1))) (n2b : ¬ lnd (wV D u i)) (n3 : ¬ ((wV D u (i - 1) = 5 ∧ wpi D u i) ∨ (wV D u (i - 1) = 18 ∧ wV D u i = 18) ∨ ign (wV D u i))) (ra : ez_rg (wV D u (bas (wV D u) (i - 1).toNat))) (raa : ez_rg (vaa (wV D u) (bas (wV D u) (i - 1).toNat))) : ez_W (d + 2) cm_57 114 [(2, .inl (wV D u (i - 1))), (3, .inl (wV D u i)), (4, .inl ((bas (wV D u) (i - 1).toNat : Int))), (5, .inl (vaa (wV D u) (bas (wV D u) (i - 1).toNat))), (0, .inr (.inr (some (733)))), (1, .inl (i))] [] h Q := by
  have hB := c.1.1
  have t733 : τ 733 = 65 := c.1.2 733 (by decide)
  have n2 := c.2.1
  have e5 := c.2.2.1.1
  have e6 := c.2.2.1.2
  obtain ⟨r01, r02⟩ := id r0
  obtain ⟨r11, r12⟩ := id r1
  have bl := bas_le (wV D u) (i - 1).toNat
  obtain ⟨ra1, ra2⟩ := id ra
  obtain ⟨raa1, raa2⟩ := id raa
  refine ez_go (n := 1) (pc' := 115) (L' := [(2, .inl (wV D u (i - 1))), (3, .inl (wV D u i)), (4, .inl ((bas (wV D u) (i - 1).toNat : Int))), (5, .inl (vaa (wV D u) (bas (wV D u) (i - 1).toNat))), (0, .inr (.inr (some (733)))), (1, .inl (i))]) (st' := [.inr (.inr (some (733)))]) rfl ?_
  refine ez_gC (p := 734) (tg := 66) hB t733 rfl rfl tq_65 rfl rfl (fun (t734 : _ = 66) => ?_)
  refine ez_go (n := 1) (pc' := 120) (L' := [(2, .inl (wV D u (i - 1))), (3, .inl (wV D u i)), (4, .inl ((bas (wV D u) (i - 1).toNat : Int))), (5, .inl (vaa (wV D u) (bas (wV D u) (i - 1).toNat))), (0, .inr (.inr (some (733)))), (1, .inl (i))]) (st' := [.inl ((bas (wV D u) (i - 1).toNat : Int)), .inr (.inr (some (734)))]) rfl ?_
  have n2 : 2000 ≤ qz_N h 734 ∧ qz_N h 734 ≤ 2000 := ez_len hB t734 tq_66 rfl
  refine ez_aI hB t734 rfl tq_66 rfl rfl (by omega) (by omega) (fun (b1 : -2147483648 ≤ qz_I h 734 ((bas (wV D u) (i - 1).toNat : Int)).toNat) (b1' : qz_I h 734 ((bas (wV D u) (i - 1).toNat : Int)).toNat ≤ 2147483647) => ?_)
  have e34 := (c.2.2.2 ((bas (wV D u) (i - 1).toNat : Int)) (by omega) (by omega)).1
  rw [show qz_I h 734 ((bas (wV D u) (i - 1).toNat : Int)).toNat = wV D u ((bas (wV D u) (i - 1).toNat : Int)) from e34]
  refine ez_go (n := 3) (pc' := 124) (L' := [(2, .inl (wV D u ((bas (wV D u) (i - 1).toNat : Int)))), (3, .inl (wV D u i)), (4, .inl ((bas (wV D u) (i - 1).toNat : Int))), (5, .inl (vaa (wV D u) (bas (wV D u) (i - 1).toNat))), (0, .inr (.inr (some (733)))), (1, .inl (i))]) (st' := [.inl (wV D u i), .inl (wV D u ((bas (wV D u) (i - 1).toNat : Int)))]) rfl ?_
  refine ez_cs hB.2.1 rfl rfl rfl rfl rfl (rd_inW hB ra r1 (fun m1 => ez_K1 ?_) (fun m1 => ez_K1 ?_))
  · skip
    refine ez_if rfl rfl ⟨by decide, by decide⟩ (fun _ => ?_) (fun (c3 : ¬((1 : Int) ≠ (0))) => absurd c3 (by decide))
    refine ez_go (n := 1) (pc' := 154) (L' := [(2, .inl (wV D u ((bas (wV D u) (i - 1).toNat : Int)))), (3, .inl (wV D u i)), (4, .inl ((bas (wV D u) (i - 1).toNat : Int))), (5, .inl (vaa (wV D u) (bas (wV D u) (i - 1).toNat))), (0, .inr (.inr (some (733)))), (1, .inl (i))]) (st' := [.inl (0)]) rfl ?_
    exact ez_retZ rfl rfl (Or.inl rfl) (k0 (by first | exact wbd_4 i0 i1 n1 n2b hb (Or.inr (Or.inr (Or.inl m3))) | (obtain ⟨b9, h9⟩ := vbR_ex (wV D u) u.length i; exact wbd_4 i0 i1 n1 n2b h9 (by first | exact Or.inl m1 | exact Or.inr (Or.inl m2)))))
  · skip
    refine ez_if rfl rfl ⟨by decide, by decide⟩ (fun (c4 : (0 : Int) ≠ (0)) => absurd c4 (by decide)) (fun _ => ?_)
    refine ez_go (n := 3) (pc' := 134) (L' := [(2, .inl (wV D u ((bas (wV D u) (i - 1).toNat : Int)))), (3, .inl (wV D u i)), (4, .inl ((bas (wV D u) (i - 1).toNat : Int))), (5, .inl (vaa (wV D u) (bas (wV D u) (i - 1).toNat))), (0, .inr (.inr (some (733)))), (1, .inl (i))]) (st' := [.inl (wV D u i), .inl (wV D u ((bas (wV D u) (i - 1).toNat : Int))), .inl (vaa (wV D u) (bas (wV D u) (i - 1).toNat))]) rfl ?_
    refine ez_cs hB.2.1 rfl rfl rfl rfl rfl (rd_aro hB raa ra r1 (fun m2 => ez_K1 ?_) (fun m2 => ez_K1 ?_))
    · skip
      refine ez_if rfl rfl ⟨by decide, by decide⟩ (fun _ => ?_) (fun (c5 : ¬((1 : Int) ≠ (0))) => absurd c5 (by decide))
      refine ez_go (n := 1) (pc' := 154) (L' := [(2, .inl (wV D u ((bas (wV D u) (i - 1).toNat : Int)))), (3, .inl (wV D u i)), (4, .inl ((bas (wV D u) (i - 1).toNat : Int))), (5, .inl (vaa (wV D u) (bas (wV D u) (i - 1).toNat))), (0, .inr (.inr (some (733)))), (1, .inl (i))]) (st' := [.inl (0)]) rfl ?_
      exact ez_retZ rfl rfl (Or.inl rfl) (k0 (by first | exact wbd_4 i0 i1 n1 n2b hb (Or.inr (Or.inr (Or.inl m3))) | (obtain ⟨b9, h9⟩ := vbR_ex (wV D u) u.length i; exact wbd_4 i0 i1 n1 n2b h9 (by first | exact Or.inl m1 | exact Or.inr (Or.inl m2)))))
    · skip
      refine ez_if rfl rfl ⟨by decide, by decide⟩ (fun (c6 : (0 : Int) ≠ (0)) => absurd c6 (by decide)) (fun _ => ?_)
      refine ez_go (n := 2) (pc' := 142) (L' := [(2, .inl (wV D u ((bas (wV D u) (i - 1).toNat : Int)))), (3, .inl (wV D u i)), (4, .inl ((bas (wV D u) (i - 1).toNat : Int))), (5, .inl (vaa (wV D u) (bas (wV D u) (i - 1).toNat))), (0, .inr (.inr (some (733)))), (1, .inl (i))]) (st' := [.inl (i), .inr (.inr (some (733)))]) rfl ?_
      refine ez_cv hB t733 rfl rfl rfl tq_65 rfl rfl rfl (rd_vbh c (by omega) i1 (fun bb rbb hb => ez_K1 ?_))
      refine ez_go (n := 2) (pc' := 147) (L' := [(2, .inl (wV D u ((bas (wV D u) (i - 1).toNat : Int)))), (3, .inl (wV D u i)), (4, .inl ((bas (wV D u) (i - 1).toNat : Int))), (5, .inl (vaa (wV D u) (bas (wV D u) (i - 1).toNat))), (0, .inr (.inr (some (733)))), (1, .inl (i))]) (st' := [.inl (wV D u ((bas (wV D u) (i - 1).toNat : Int))), .inl (wV D u i), .inl (bb)]) rfl ?_
      refine ez_cs hB.2.1 rfl rfl rfl rfl rfl (rd_aro hB rbb r1 ra (fun m3 => ez_K1 ?_) (fun m3 => ez_K1 ?_))
      · skip
        refine ez_if rfl rfl ⟨by decide, by decide⟩ (fun (c7 : (1 : Int) = (0)) => absurd c7 (by decide)) (fun _ => ?_)
        refine ez_go (n := 1) (pc' := 154) (L' := [(2, .inl (wV D u ((bas (wV D u) (i - 1).toNat : Int)))), (3, .inl (wV D u i)), (4, .inl ((bas (wV D u) (i - 1).toNat : Int))), (5, .inl (vaa (wV D u) (bas (wV D u) (i - 1).toNat))), (0, .inr (.inr (some (733)))), (1, .inl (i))]) (st' := [.inl (0)]) rfl ?_
        exact ez_retZ rfl rfl (Or.inl rfl) (k0 (by first | exact wbd_4 i0 i1 n1 n2b hb (Or.inr (Or.inr (Or.inl m3))) | (obtain ⟨b9, h9⟩ := vbR_ex (wV D u) u.length i; exact wbd_4 i0 i1 n1 n2b h9 (by first | exact Or.inl m1 | exact Or.inr (Or.inl m2)))))
      · skip
        refine ez_if rfl rfl ⟨by decide, by decide⟩ (fun _ => ?_) (fun (c8 : ¬((0 : Int) = (0))) => absurd c8 (by decide))
        refine ez_less [(2, .inl (wV D u (bas (wV D u) (i - 1).toNat))), (3, .inl (wV D u i)), (4, .inl ((bas (wV D u) (i - 1).toNat : Int))), (5, .inl (vaa (wV D u) (bas (wV D u) (i - 1).toNat))), (0, .inr (.inr (some (733)))), (1, .inl (i))] rfl ⟨rfl, rfl, rfl, rfl, rfl, rfl, trivial⟩ ?_
        exact rd_wb155 c i0 i1 r0 r1 k1 k0 n1 n2b n3 ra raa hb m1 m2 m3

theorem rd_wb79 {i : Int} (c : bkC τ h D u) (i0 : 0 < i) (i1 : i < (u.length : Int)) (r0 : ez_rg (wV D u (i - 1))) (r1 : ez_rg (wV D u i)) (k1 : wbd (wV D u) (wpi D u) u.length i → Q (.inl (some (ez_v (.inl 1))), h)) (k0 : ¬ wbd (wV D u) (wpi D u) u.length i → Q (.inl (some (ez_v (.inl 0))), h)) (n1 : ¬ lnd (wV D u (i - 1))) (n2b : ¬ lnd (wV D u i)) (n3 : ¬ ((wV D u (i - 1) = 5 ∧ wpi D u i) ∨ (wV D u (i - 1) = 18 ∧ wV D u i = 18) ∨ ign (wV D u i))) : ez_W (d + 2) cm_57 79 [(2, .inl (wV D u (i - 1))), (3, .inl (wV D u i)), (0, .inr (.inr (some (733)))), (1, .inl (i))] [] h Q := by
  have hB := c.1.1
  have t733 : τ 733 = 65 := c.1.2 733 (by decide)
  have n2 := c.2.1
  have e5 := c.2.2.1.1
  have e6 := c.2.2.1.2
  obtain ⟨r01, r02⟩ := id r0
  obtain ⟨r11, r12⟩ := id r1
  have bl := bas_le (wV D u) (i - 1).toNat
  have ea9 := (c.2.2.2 (((bas (wV D u) (i - 1).toNat : Nat) : Int)) (by omega) (by omega)).1
  have t734 : τ 734 = 66 := c.1.2 734 (by decide)
  have l34 : 2000 ≤ qz_N h 734 ∧ qz_N h 734 ≤ 2000 := ez_len hB t734 tq_66 rfl
  have ba9 : -2147483648 ≤ qz_I h 734 ((bas (wV D u) (i - 1).toNat : Nat) : Int).toNat ∧ qz_I h 734 ((bas (wV D u) (i - 1).toNat : Nat) : Int).toNat ≤ 2147483647 := ez_aB hB t734 tq_66 rfl rfl (by decide) (by omega) (by omega)
  have ra : ez_rg (wV D u (bas (wV D u) (i - 1).toNat)) := by rw [← ea9]; exact ba9
  refine ez_go (n := 1) (pc' := 80) (L' := [(2, .inl (wV D u (i - 1))), (3, .inl (wV D u i)), (0, .inr (.inr (some (733)))), (1, .inl (i))]) (st' := [.inr (.inr (some (733)))]) rfl ?_
  refine ez_gC (p := 736) (tg := 68) hB t733 rfl rfl tq_65 rfl rfl (fun (t736 : _ = 68) => ?_)
  refine ez_go (n := 3) (pc' := 86) (L' := [(2, .inl (wV D u (i - 1))), (3, .inl (wV D u i)), (0, .inr (.inr (some (733)))), (1, .inl (i))]) (st' := [.inl ((i) - (1)), .inr (.inr (some (736)))]) rfl ?_
  have n2 : 2000 ≤ qz_N h 736 ∧ qz_N h 736 ≤ 2000 := ez_len hB t736 tq_68 rfl
  refine ez_aI hB t736 rfl tq_68 rfl rfl (by omega) (by omega) (fun (b1 : 0 ≤ qz_I h 736 ((i) - (1)).toNat) (b1' : qz_I h 736 ((i) - (1)).toNat ≤ 1999) => ?_)
  have e36 := (c.2.2.2 (i - 1) (by omega) (by omega)).2.2.1
  rw [show qz_I h 736 ((i) - (1)).toNat = (bas (wV D u) (i - 1).toNat : Int) from e36]
  refine ez_go (n := 2) (pc' := 91) (L' := [(4, .inl ((bas (wV D u) (i - 1).toNat : Int))), (2, .inl (wV D u (i - 1))), (3, .inl (wV D u i)), (0, .inr (.inr (some (733)))), (1, .inl (i))]) (st' := [.inl ((bas (wV D u) (i - 1).toNat : Int))]) rfl ?_
  refine ez_if rfl rfl ⟨by first | omega | exact (sz_i32 _).1, by first | omega | exact (sz_i32 _).2⟩ (fun (c3 : ((bas (wV D u) (i - 1).toNat : Int)) ≤ (0)) => ?_) (fun (c3 : ¬(((bas (wV D u) (i - 1).toNat : Int)) ≤ (0))) => ?_)
  · skip
    refine ez_go (n := 1) (pc' := 112) (L' := [(4, .inl ((bas (wV D u) (i - 1).toNat : Int))), (2, .inl (wV D u (i - 1))), (3, .inl (wV D u i)), (0, .inr (.inr (some (733)))), (1, .inl (i))]) (st' := [.inl (-1)]) rfl ?_
    have ea : (-1 : Int) = vaa (wV D u) (bas (wV D u) (i - 1).toNat) := by unfold vaa; rw [if_neg (by omega)]
    have raa : ez_rg (vaa (wV D u) (bas (wV D u) (i - 1).toNat)) := by rw [← ea]; exact ⟨by decide, by decide⟩
    rw [ea]
    refine ez_go (n := 1) (pc' := 114) (L' := [(5, .inl (vaa (wV D u) (bas (wV D u) (i - 1).toNat))), (4, .inl ((bas (wV D u) (i - 1).toNat : Int))), (2, .inl (wV D u (i - 1))), (3, .inl (wV D u i)), (0, .inr (.inr (some (733)))), (1, .inl (i))]) (st' := []) rfl ?_
    refine ez_less [(2, .inl (wV D u (i - 1))), (3, .inl (wV D u i)), (4, .inl ((bas (wV D u) (i - 1).toNat : Int))), (5, .inl (vaa (wV D u) (bas (wV D u) (i - 1).toNat))), (0, .inr (.inr (some (733)))), (1, .inl (i))] rfl ⟨rfl, rfl, rfl, rfl, rfl, rfl, trivial⟩ ?_
    exact rd_wb114 c i0 i1 r0 r1 k1 k0 n1 n2b n3 ra raa
  · skip
    refine ez_go (n := 1) (pc' := 95) (L' := [(4, .inl ((bas (wV D u) (i - 1).toNat : Int))), (2, .inl (wV D u (i - 1))), (3, .inl (wV D u i)), (0, .inr (.inr (some (733)))), (1, .inl (i))]) (st' := [.inr (.inr (some (733)))]) rfl ?_
    refine ez_gC (p := 734) (tg := 66) hB t733 rfl rfl tq_65 rfl rfl (fun (t734 : _ = 66) => ?_)
    refine ez_go (n := 1) (pc' := 99) (L' := [(4, .inl ((bas (wV D u) (i - 1).toNat : Int))), (2, .inl (wV D u (i - 1))), (3, .inl (wV D u i)), (0, .inr (.inr (some (733)))), (1, .inl (i))]) (st' := [.inr (.inr (some (733))), .inr (.inr (some (734)))]) rfl ?_
    refine ez_gC (p := 736) (tg := 68) hB t733 rfl rfl tq_65 rfl rfl (fun (t736 : _ = 68) => ?_)
    refine ez_go (n := 3) (pc' := 106) (L' := [(4, .inl ((bas (wV D u) (i - 1).toNat : Int))), (2, .inl (wV D u (i - 1))), (3, .inl (wV D u i)), (0, .inr (.inr (some (733)))), (1, .inl (i))]) (st' := [.inl (((bas (wV D u) (i - 1).toNat : Int)) - (1)), .inr (.inr (some (736))), .inr (.inr (some (734)))]) rfl ?_
    have n5 : 2000 ≤ qz_N h 736 ∧ qz_N h 736 ≤ 2000 := ez_len hB t736 tq_68 rfl
    refine ez_aI hB t736 rfl tq_68 rfl rfl (by omega) (by omega) (fun (b4 : 0 ≤ qz_I h 736 (((bas (wV D u) (i - 1).toNat : Int)) - (1)).toNat) (b4' : qz_I h 736 (((bas (wV D u) (i - 1).toNat : Int)) - (1)).toNat ≤ 1999) => ?_)
    have b9 := bas_le (wV D u) (bas (wV D u) (i - 1).toNat - 1)
    have q9 : (((bas (wV D u) (i - 1).toNat : Nat) : Int) - 1).toNat = bas (wV D u) (i - 1).toNat - 1 := by omega
    have e36b := (c.2.2.2 ((bas (wV D u) (i - 1).toNat : Int) - 1) (by omega) (by omega)).2.2.1
    rw [q9] at e36b
    rw [show qz_I h 736 (((bas (wV D u) (i - 1).toNat : Int)) - (1)).toNat = (bas (wV D u) (bas (wV D u) (i - 1).toNat - 1) : Int) from by rw [show (((bas (wV D u) (i - 1).toNat : Int)) - (1)).toNat = bas (wV D u) (i - 1).toNat - 1 from q9]; exact e36b]
    have n7 : 2000 ≤ qz_N h 734 ∧ qz_N h 734 ≤ 2000 := ez_len hB t734 tq_66 rfl
    refine ez_aI hB t734 rfl tq_66 rfl rfl (by omega) (by omega) (fun (b6 : -2147483648 ≤ qz_I h 734 ((bas (wV D u) (bas (wV D u) (i - 1).toNat - 1) : Int)).toNat) (b6' : qz_I h 734 ((bas (wV D u) (bas (wV D u) (i - 1).toNat - 1) : Int)).toNat ≤ 2147483647) => ?_)
    have e34 := (c.2.2.2 ((bas (wV D u) (bas (wV D u) (i - 1).toNat - 1) : Int)) (by omega) (by omega)).1
    rw [show qz_I h 734 ((bas (wV D u) (bas (wV D u) (i - 1).toNat - 1) : Int)).toNat = wV D u ((bas (wV D u) (bas (wV D u) (i - 1).toNat - 1) : Int)) from e34]
    refine ez_go (n := 1) (pc' := 112) (L' := [(4, .inl ((bas (wV D u) (i - 1).toNat : Int))), (2, .inl (wV D u (i - 1))), (3, .inl (wV D u i)), (0, .inr (.inr (some (733)))), (1, .inl (i))]) (st' := [.inl (wV D u ((bas (wV D u) (bas (wV D u) (i - 1).toNat - 1) : Int)))]) rfl ?_
    have ea : wV D u ((bas (wV D u) (bas (wV D u) (i - 1).toNat - 1) : Int)) = vaa (wV D u) (bas (wV D u) (i - 1).toNat) := by unfold vaa; rw [if_pos (by omega)]
    have raa : ez_rg (vaa (wV D u) (bas (wV D u) (i - 1).toNat)) := by rw [← ea]; exact ⟨by omega, by omega⟩
    rw [ea]
    refine ez_go (n := 1) (pc' := 114) (L' := [(5, .inl (vaa (wV D u) (bas (wV D u) (i - 1).toNat))), (4, .inl ((bas (wV D u) (i - 1).toNat : Int))), (2, .inl (wV D u (i - 1))), (3, .inl (wV D u i)), (0, .inr (.inr (some (733)))), (1, .inl (i))]) (st' := []) rfl ?_
    refine ez_less [(2, .inl (wV D u (i - 1))), (3, .inl (wV D u i)), (4, .inl ((bas (wV D u) (i - 1).toNat : Int))), (5, .inl (vaa (wV D u) (bas (wV D u) (i - 1).toNat))), (0, .inr (.inr (some (733)))), (1, .inl (i))] rfl ⟨rfl, rfl, rfl, rfl, rfl, rfl, trivial⟩ ?_
    exact rd_wb114 c i0 i1 r0 r1 k1 k0 n1 n2b n3 ra raa

theorem rd_wb44 {i : Int} (c : bkC τ h D u) (i0 : 0 < i) (i1 : i < (u.length : Int)) (r0 : ez_rg (wV D u (i - 1))) (r1 : ez_rg (wV D u i)) (k1 : wbd (wV D u) (wpi D u) u.length i → Q (.inl (some (ez_v (.inl 1))), h)) (k0 : ¬ wbd (wV D u) (wpi D u) u.length i → Q (.inl (some (ez_v (.inl 0))), h)) (n1 : ¬ lnd (wV D u (i - 1))) (n2b : ¬ lnd (wV D u i)) : ez_W (d + 2) cm_57 44 [(2, .inl (wV D u (i - 1))), (3, .inl (wV D u i)), (0, .inr (.inr (some (733)))), (1, .inl (i))] [] h Q := by
  have hB := c.1.1
  have t733 : τ 733 = 65 := c.1.2 733 (by decide)
  have n2 := c.2.1
  have e5 := c.2.2.1.1
  have e6 := c.2.2.1.2
  obtain ⟨r01, r02⟩ := id r0
  obtain ⟨r11, r12⟩ := id r1
  refine ez_go (n := 2) (pc' := 46) (L' := [(2, .inl (wV D u (i - 1))), (3, .inl (wV D u i)), (0, .inr (.inr (some (733)))), (1, .inl (i))]) (st' := [.inl (5), .inl (wV D u (i - 1))]) rfl ?_
  refine ez_icmp rfl rfl ⟨by first | omega | exact (sz_i32 _).1, by first | omega | exact (sz_i32 _).2⟩ ⟨by first | omega | exact (sz_i32 _).1, by first | omega | exact (sz_i32 _).2⟩ (fun (c1 : (wV D u (i - 1)) ≠ (5)) => ?_) (fun (c1 : ¬((wV D u (i - 1)) ≠ (5))) => ?_)
  · skip
    refine ez_go (n := 2) (pc' := 61) (L' := [(2, .inl (wV D u (i - 1))), (3, .inl (wV D u i)), (0, .inr (.inr (some (733)))), (1, .inl (i))]) (st' := [.inl (18), .inl (wV D u (i - 1))]) rfl ?_
    refine ez_icmp rfl rfl ⟨by first | omega | exact (sz_i32 _).1, by first | omega | exact (sz_i32 _).2⟩ ⟨by first | omega | exact (sz_i32 _).1, by first | omega | exact (sz_i32 _).2⟩ (fun (c2 : (wV D u (i - 1)) ≠ (18)) => ?_) (fun (c2 : ¬((wV D u (i - 1)) ≠ (18))) => ?_)
    · skip
      refine ez_go (n := 1) (pc' := 71) (L' := [(2, .inl (wV D u (i - 1))), (3, .inl (wV D u i)), (0, .inr (.inr (some (733)))), (1, .inl (i))]) (st' := [.inl (wV D u i)]) rfl ?_
      refine ez_cs hB.2.1 rfl rfl rfl rfl rfl (rd_bisIgnored hB ⟨by omega, by omega⟩ (fun (w1 : ign (wV D u i)) => ez_K1 ?_) (fun (w1 : ¬ ign (wV D u i)) => ez_K1 ?_))
      · skip
        refine ez_if rfl rfl ⟨by decide, by decide⟩ (fun (c3 : (1 : Int) = (0)) => absurd c3 (by decide)) (fun _ => ?_)
        refine ez_go (n := 1) (pc' := 78) (L' := [(2, .inl (wV D u (i - 1))), (3, .inl (wV D u i)), (0, .inr (.inr (some (733)))), (1, .inl (i))]) (st' := [.inl (0)]) rfl ?_
        exact ez_retZ rfl rfl (Or.inl rfl) (k0 (wbd_3 i0 i1 n1 n2b (by first | exact Or.inr (Or.inl ⟨by omega, by omega⟩) | exact Or.inl ⟨by omega, e35.mp (by omega)⟩ | exact Or.inr (Or.inr (by assumption)))))
      · skip
        refine ez_if rfl rfl ⟨by decide, by decide⟩ (fun _ => ?_) (fun (c4 : ¬((0 : Int) = (0))) => absurd c4 (by decide))
        refine ez_less [(2, .inl (wV D u (i - 1))), (3, .inl (wV D u i)), (0, .inr (.inr (some (733)))), (1, .inl (i))] rfl ⟨rfl, rfl, rfl, rfl, trivial⟩ ?_
        exact rd_wb79 c i0 i1 r0 r1 k1 k0 n1 n2b (fun w => by rcases w with w | w | w; (· first | (exfalso; omega) | (have := e35.mpr w.2; omega)); (· omega); (· first | exact absurd w (by assumption) | omega))
    · skip
      refine ez_go (n := 2) (pc' := 67) (L' := [(2, .inl (wV D u (i - 1))), (3, .inl (wV D u i)), (0, .inr (.inr (some (733)))), (1, .inl (i))]) (st' := [.inl (18), .inl (wV D u i)]) rfl ?_
      refine ez_icmp rfl rfl ⟨by first | omega | exact (sz_i32 _).1, by first | omega | exact (sz_i32 _).2⟩ ⟨by first | omega | exact (sz_i32 _).1, by first | omega | exact (sz_i32 _).2⟩ (fun (c5 : (wV D u i) = (18)) => ?_) (fun (c5 : ¬((wV D u i) = (18))) => ?_)
      · skip
        refine ez_go (n := 1) (pc' := 78) (L' := [(2, .inl (wV D u (i - 1))), (3, .inl (wV D u i)), (0, .inr (.inr (some (733)))), (1, .inl (i))]) (st' := [.inl (0)]) rfl ?_
        exact ez_retZ rfl rfl (Or.inl rfl) (k0 (wbd_3 i0 i1 n1 n2b (by first | exact Or.inr (Or.inl ⟨by omega, by omega⟩) | exact Or.inl ⟨by omega, e35.mp (by omega)⟩ | exact Or.inr (Or.inr (by assumption)))))
      · skip
        refine ez_go (n := 1) (pc' := 71) (L' := [(2, .inl (wV D u (i - 1))), (3, .inl (wV D u i)), (0, .inr (.inr (some (733)))), (1, .inl (i))]) (st' := [.inl (wV D u i)]) rfl ?_
        refine ez_cs hB.2.1 rfl rfl rfl rfl rfl (rd_bisIgnored hB ⟨by omega, by omega⟩ (fun (w2 : ign (wV D u i)) => ez_K1 ?_) (fun (w2 : ¬ ign (wV D u i)) => ez_K1 ?_))
        · skip
          refine ez_if rfl rfl ⟨by decide, by decide⟩ (fun (c6 : (1 : Int) = (0)) => absurd c6 (by decide)) (fun _ => ?_)
          refine ez_go (n := 1) (pc' := 78) (L' := [(2, .inl (wV D u (i - 1))), (3, .inl (wV D u i)), (0, .inr (.inr (some (733)))), (1, .inl (i))]) (st' := [.inl (0)]) rfl ?_
          exact ez_retZ rfl rfl (Or.inl rfl) (k0 (wbd_3 i0 i1 n1 n2b (by first | exact Or.inr (Or.inl ⟨by omega, by omega⟩) | exact Or.inl ⟨by omega, e35.mp (by omega)⟩ | exact Or.inr (Or.inr (by assumption)))))
        · skip
          refine ez_if rfl rfl ⟨by decide, by decide⟩ (fun _ => ?_) (fun (c7 : ¬((0 : Int) = (0))) => absurd c7 (by decide))
          refine ez_less [(2, .inl (wV D u (i - 1))), (3, .inl (wV D u i)), (0, .inr (.inr (some (733)))), (1, .inl (i))] rfl ⟨rfl, rfl, rfl, rfl, trivial⟩ ?_
          exact rd_wb79 c i0 i1 r0 r1 k1 k0 n1 n2b (fun w => by rcases w with w | w | w; (· first | (exfalso; omega) | (have := e35.mpr w.2; omega)); (· omega); (· first | exact absurd w (by assumption) | omega))
  · skip
    refine ez_go (n := 1) (pc' := 50) (L' := [(2, .inl (wV D u (i - 1))), (3, .inl (wV D u i)), (0, .inr (.inr (some (733)))), (1, .inl (i))]) (st' := [.inr (.inr (some (733)))]) rfl ?_
    refine ez_gC (p := 735) (tg := 67) hB t733 rfl rfl tq_65 rfl rfl (fun (t735 : _ = 67) => ?_)
    refine ez_go (n := 1) (pc' := 54) (L' := [(2, .inl (wV D u (i - 1))), (3, .inl (wV D u i)), (0, .inr (.inr (some (733)))), (1, .inl (i))]) (st' := [.inl (i), .inr (.inr (some (735)))]) rfl ?_
    have n9 : 2000 ≤ qz_N h 735 ∧ qz_N h 735 ≤ 2000 := ez_len hB t735 tq_67 rfl
    refine ez_aI hB t735 rfl tq_67 rfl rfl (by omega) (by omega) (fun (b8 : 0 ≤ qz_I h 735 (i).toNat) (b8' : qz_I h 735 (i).toNat ≤ 1) => ?_)
    have e35 := (c.2.2.2 (i) (by omega) (by omega)).2.1
    refine ez_if rfl rfl ⟨by first | omega | exact (sz_i32 _).1, by first | omega | exact (sz_i32 _).2⟩ (fun (c10 : (qz_I h 735 (i).toNat) ≠ (0)) => ?_) (fun (c10 : ¬((qz_I h 735 (i).toNat) ≠ (0))) => ?_)
    · skip
      refine ez_go (n := 1) (pc' := 78) (L' := [(2, .inl (wV D u (i - 1))), (3, .inl (wV D u i)), (0, .inr (.inr (some (733)))), (1, .inl (i))]) (st' := [.inl (0)]) rfl ?_
      exact ez_retZ rfl rfl (Or.inl rfl) (k0 (wbd_3 i0 i1 n1 n2b (by first | exact Or.inr (Or.inl ⟨by omega, by omega⟩) | exact Or.inl ⟨by omega, e35.mp (by omega)⟩ | exact Or.inr (Or.inr (by assumption)))))
    · skip
      refine ez_go (n := 2) (pc' := 61) (L' := [(2, .inl (wV D u (i - 1))), (3, .inl (wV D u i)), (0, .inr (.inr (some (733)))), (1, .inl (i))]) (st' := [.inl (18), .inl (wV D u (i - 1))]) rfl ?_
      refine ez_icmp rfl rfl ⟨by first | omega | exact (sz_i32 _).1, by first | omega | exact (sz_i32 _).2⟩ ⟨by first | omega | exact (sz_i32 _).1, by first | omega | exact (sz_i32 _).2⟩ (fun (c11 : (wV D u (i - 1)) ≠ (18)) => ?_) (fun (c11 : ¬((wV D u (i - 1)) ≠ (18))) => ?_)
      · skip
        refine ez_go (n := 1) (pc' := 71) (L' := [(2, .inl (wV D u (i - 1))), (3, .inl (wV D u i)), (0, .inr (.inr (some (733)))), (1, .inl (i))]) (st' := [.inl (wV D u i)]) rfl ?_
        refine ez_cs hB.2.1 rfl rfl rfl rfl rfl (rd_bisIgnored hB ⟨by omega, by omega⟩ (fun (w3 : ign (wV D u i)) => ez_K1 ?_) (fun (w3 : ¬ ign (wV D u i)) => ez_K1 ?_))
        · skip
          refine ez_if rfl rfl ⟨by decide, by decide⟩ (fun (c12 : (1 : Int) = (0)) => absurd c12 (by decide)) (fun _ => ?_)
          refine ez_go (n := 1) (pc' := 78) (L' := [(2, .inl (wV D u (i - 1))), (3, .inl (wV D u i)), (0, .inr (.inr (some (733)))), (1, .inl (i))]) (st' := [.inl (0)]) rfl ?_
          exact ez_retZ rfl rfl (Or.inl rfl) (k0 (wbd_3 i0 i1 n1 n2b (by first | exact Or.inr (Or.inl ⟨by omega, by omega⟩) | exact Or.inl ⟨by omega, e35.mp (by omega)⟩ | exact Or.inr (Or.inr (by assumption)))))
        · skip
          refine ez_if rfl rfl ⟨by decide, by decide⟩ (fun _ => ?_) (fun (c13 : ¬((0 : Int) = (0))) => absurd c13 (by decide))
          refine ez_less [(2, .inl (wV D u (i - 1))), (3, .inl (wV D u i)), (0, .inr (.inr (some (733)))), (1, .inl (i))] rfl ⟨rfl, rfl, rfl, rfl, trivial⟩ ?_
          exact rd_wb79 c i0 i1 r0 r1 k1 k0 n1 n2b (fun w => by rcases w with w | w | w; (· first | (exfalso; omega) | (have := e35.mpr w.2; omega)); (· omega); (· first | exact absurd w (by assumption) | omega))
      · skip
        refine ez_go (n := 2) (pc' := 67) (L' := [(2, .inl (wV D u (i - 1))), (3, .inl (wV D u i)), (0, .inr (.inr (some (733)))), (1, .inl (i))]) (st' := [.inl (18), .inl (wV D u i)]) rfl ?_
        refine ez_icmp rfl rfl ⟨by first | omega | exact (sz_i32 _).1, by first | omega | exact (sz_i32 _).2⟩ ⟨by first | omega | exact (sz_i32 _).1, by first | omega | exact (sz_i32 _).2⟩ (fun (c14 : (wV D u i) = (18)) => ?_) (fun (c14 : ¬((wV D u i) = (18))) => ?_)
        · skip
          refine ez_go (n := 1) (pc' := 78) (L' := [(2, .inl (wV D u (i - 1))), (3, .inl (wV D u i)), (0, .inr (.inr (some (733)))), (1, .inl (i))]) (st' := [.inl (0)]) rfl ?_
          exact ez_retZ rfl rfl (Or.inl rfl) (k0 (wbd_3 i0 i1 n1 n2b (by first | exact Or.inr (Or.inl ⟨by omega, by omega⟩) | exact Or.inl ⟨by omega, e35.mp (by omega)⟩ | exact Or.inr (Or.inr (by assumption)))))
        · skip
          refine ez_go (n := 1) (pc' := 71) (L' := [(2, .inl (wV D u (i - 1))), (3, .inl (wV D u i)), (0, .inr (.inr (some (733)))), (1, .inl (i))]) (st' := [.inl (wV D u i)]) rfl ?_
          refine ez_cs hB.2.1 rfl rfl rfl rfl rfl (rd_bisIgnored hB ⟨by omega, by omega⟩ (fun (w4 : ign (wV D u i)) => ez_K1 ?_) (fun (w4 : ¬ ign (wV D u i)) => ez_K1 ?_))
          · skip
            refine ez_if rfl rfl ⟨by decide, by decide⟩ (fun (c15 : (1 : Int) = (0)) => absurd c15 (by decide)) (fun _ => ?_)
            refine ez_go (n := 1) (pc' := 78) (L' := [(2, .inl (wV D u (i - 1))), (3, .inl (wV D u i)), (0, .inr (.inr (some (733)))), (1, .inl (i))]) (st' := [.inl (0)]) rfl ?_
            exact ez_retZ rfl rfl (Or.inl rfl) (k0 (wbd_3 i0 i1 n1 n2b (by first | exact Or.inr (Or.inl ⟨by omega, by omega⟩) | exact Or.inl ⟨by omega, e35.mp (by omega)⟩ | exact Or.inr (Or.inr (by assumption)))))
          · skip
            refine ez_if rfl rfl ⟨by decide, by decide⟩ (fun _ => ?_) (fun (c16 : ¬((0 : Int) = (0))) => absurd c16 (by decide))
            refine ez_less [(2, .inl (wV D u (i - 1))), (3, .inl (wV D u i)), (0, .inr (.inr (some (733)))), (1, .inl (i))] rfl ⟨rfl, rfl, rfl, rfl, trivial⟩ ?_
            exact rd_wb79 c i0 i1 r0 r1 k1 k0 n1 n2b (fun w => by rcases w with w | w | w; (· first | (exfalso; omega) | (have := e35.mpr w.2; omega)); (· omega); (· first | exact absurd w (by assumption) | omega))

theorem rd_wb28 {i : Int} (c : bkC τ h D u) (i0 : 0 < i) (i1 : i < (u.length : Int)) (r0 : ez_rg (wV D u (i - 1))) (r1 : ez_rg (wV D u i)) (k1 : wbd (wV D u) (wpi D u) u.length i → Q (.inl (some (ez_v (.inl 1))), h)) (k0 : ¬ wbd (wV D u) (wpi D u) u.length i → Q (.inl (some (ez_v (.inl 0))), h)) (n12 : ¬ (wV D u (i - 1) = 1 ∧ wV D u i = 2)) : ez_W (d + 2) cm_57 28 [(2, .inl (wV D u (i - 1))), (3, .inl (wV D u i)), (0, .inr (.inr (some (733)))), (1, .inl (i))] [] h Q := by
  have hB := c.1.1
  have t733 : τ 733 = 65 := c.1.2 733 (by decide)
  have n2 := c.2.1
  have e5 := c.2.2.1.1
  have e6 := c.2.2.1.2
  obtain ⟨r01, r02⟩ := id r0
  obtain ⟨r11, r12⟩ := id r1
  refine ez_go (n := 1) (pc' := 29) (L' := [(2, .inl (wV D u (i - 1))), (3, .inl (wV D u i)), (0, .inr (.inr (some (733)))), (1, .inl (i))]) (st' := [.inl (wV D u (i - 1))]) rfl ?_
  refine ez_cs hB.2.1 rfl rfl rfl rfl rfl (rd_bisLineEnd hB ⟨by omega, by omega⟩ (fun (w1 : lnd (wV D u (i - 1))) => ez_K1 ?_) (fun (w1 : ¬ lnd (wV D u (i - 1))) => ez_K1 ?_))
  · skip
    refine ez_if rfl rfl ⟨by decide, by decide⟩ (fun _ => ?_) (fun (c1 : ¬((1 : Int) ≠ (0))) => absurd c1 (by decide))
    refine ez_go (n := 1) (pc' := 43) (L' := [(2, .inl (wV D u (i - 1))), (3, .inl (wV D u i)), (0, .inr (.inr (some (733)))), (1, .inl (i))]) (st' := [.inl (1)]) rfl ?_
    exact ez_retZ rfl rfl (Or.inr rfl) (k1 (wbd_2 n12 (by first | exact Or.inl (by assumption) | exact Or.inr (by assumption))))
  · skip
    refine ez_if rfl rfl ⟨by decide, by decide⟩ (fun (c2 : (0 : Int) ≠ (0)) => absurd c2 (by decide)) (fun _ => ?_)
    refine ez_go (n := 1) (pc' := 36) (L' := [(2, .inl (wV D u (i - 1))), (3, .inl (wV D u i)), (0, .inr (.inr (some (733)))), (1, .inl (i))]) (st' := [.inl (wV D u i)]) rfl ?_
    refine ez_cs hB.2.1 rfl rfl rfl rfl rfl (rd_bisLineEnd hB ⟨by omega, by omega⟩ (fun (w2 : lnd (wV D u i)) => ez_K1 ?_) (fun (w2 : ¬ lnd (wV D u i)) => ez_K1 ?_))
    · skip
      refine ez_if rfl rfl ⟨by decide, by decide⟩ (fun (c3 : (1 : Int) = (0)) => absurd c3 (by decide)) (fun _ => ?_)
      refine ez_go (n := 1) (pc' := 43) (L' := [(2, .inl (wV D u (i - 1))), (3, .inl (wV D u i)), (0, .inr (.inr (some (733)))), (1, .inl (i))]) (st' := [.inl (1)]) rfl ?_
      exact ez_retZ rfl rfl (Or.inr rfl) (k1 (wbd_2 n12 (by first | exact Or.inl (by assumption) | exact Or.inr (by assumption))))
    · skip
      refine ez_if rfl rfl ⟨by decide, by decide⟩ (fun _ => ?_) (fun (c4 : ¬((0 : Int) = (0))) => absurd c4 (by decide))
      refine ez_less [(2, .inl (wV D u (i - 1))), (3, .inl (wV D u i)), (0, .inr (.inr (some (733)))), (1, .inl (i))] rfl ⟨rfl, rfl, rfl, rfl, trivial⟩ ?_
      exact rd_wb44 c i0 i1 r0 r1 k1 k0 (by assumption) (by assumption)

theorem rd_isWB {i : Int} (c : bkC τ h D u) (i0 : 0 < i) (i1 : i < (u.length : Int)) (k1 : wbd (wV D u) (wpi D u) u.length i → Q (.inl (some (ez_v (.inl 1))), h)) (k0 : ¬ wbd (wV D u) (wpi D u) u.length i → Q (.inl (some (ez_v (.inl 0))), h)) : ez_W (d + 2) cm_57 0 [(0, .inr (.inr (some (733)))), (1, .inl (i))] [] h Q := by
  have hB := c.1.1
  have t733 : τ 733 = 65 := c.1.2 733 (by decide)
  have n2 := c.2.1
  have e5 := c.2.2.1.1
  have e6 := c.2.2.1.2
  refine ez_go (n := 1) (pc' := 1) (L' := [(0, .inr (.inr (some (733)))), (1, .inl (i))]) (st' := [.inr (.inr (some (733)))]) rfl ?_
  refine ez_gC (p := 734) (tg := 66) hB t733 rfl rfl tq_65 rfl rfl (fun (t734 : _ = 66) => ?_)
  refine ez_go (n := 3) (pc' := 7) (L' := [(0, .inr (.inr (some (733)))), (1, .inl (i))]) (st' := [.inl ((i) - (1)), .inr (.inr (some (734)))]) rfl ?_
  have n2 : 2000 ≤ qz_N h 734 ∧ qz_N h 734 ≤ 2000 := ez_len hB t734 tq_66 rfl
  refine ez_aI hB t734 rfl tq_66 rfl rfl (by omega) (by omega) (fun (b1 : -2147483648 ≤ qz_I h 734 ((i) - (1)).toNat) (b1' : qz_I h 734 ((i) - (1)).toNat ≤ 2147483647) => ?_)
  have e34 := (c.2.2.2 (i - 1) (by omega) (by omega)).1
  rw [show qz_I h 734 ((i) - (1)).toNat = wV D u (i - 1) from e34]
  have r0 : ez_rg (wV D u (i - 1)) := ⟨by omega, by omega⟩
  refine ez_go (n := 2) (pc' := 10) (L' := [(2, .inl (wV D u (i - 1))), (0, .inr (.inr (some (733)))), (1, .inl (i))]) (st' := [.inr (.inr (some (733)))]) rfl ?_
  refine ez_gC (p := 734) (tg := 66) hB t733 rfl rfl tq_65 rfl rfl (fun (t734 : _ = 66) => ?_)
  refine ez_go (n := 1) (pc' := 14) (L' := [(2, .inl (wV D u (i - 1))), (0, .inr (.inr (some (733)))), (1, .inl (i))]) (st' := [.inl (i), .inr (.inr (some (734)))]) rfl ?_
  have n4 : 2000 ≤ qz_N h 734 ∧ qz_N h 734 ≤ 2000 := ez_len hB t734 tq_66 rfl
  refine ez_aI hB t734 rfl tq_66 rfl rfl (by omega) (by omega) (fun (b3 : -2147483648 ≤ qz_I h 734 (i).toNat) (b3' : qz_I h 734 (i).toNat ≤ 2147483647) => ?_)
  have e34 := (c.2.2.2 (i) (by omega) (by omega)).1
  rw [show qz_I h 734 (i).toNat = wV D u (i) from e34]
  have r1 : ez_rg (wV D u i) := ⟨by omega, by omega⟩
  refine ez_go (n := 3) (pc' := 18) (L' := [(3, .inl (wV D u i)), (2, .inl (wV D u (i - 1))), (0, .inr (.inr (some (733)))), (1, .inl (i))]) (st' := [.inl (1), .inl (wV D u (i - 1))]) rfl ?_
  refine ez_icmp rfl rfl ⟨by first | omega | exact (sz_i32 _).1, by first | omega | exact (sz_i32 _).2⟩ ⟨by first | omega | exact (sz_i32 _).1, by first | omega | exact (sz_i32 _).2⟩ (fun (c5 : (wV D u (i - 1)) ≠ (1)) => ?_) (fun (c5 : ¬((wV D u (i - 1)) ≠ (1))) => ?_)
  · skip
    refine ez_less [(2, .inl (wV D u (i - 1))), (3, .inl (wV D u i)), (0, .inr (.inr (some (733)))), (1, .inl (i))] rfl ⟨rfl, rfl, rfl, rfl, trivial⟩ ?_
    exact rd_wb28 c i0 i1 r0 r1 k1 k0 (by omega)
  · skip
    refine ez_go (n := 2) (pc' := 23) (L' := [(3, .inl (wV D u i)), (2, .inl (wV D u (i - 1))), (0, .inr (.inr (some (733)))), (1, .inl (i))]) (st' := [.inl (2), .inl (wV D u i)]) rfl ?_
    refine ez_icmp rfl rfl ⟨by first | omega | exact (sz_i32 _).1, by first | omega | exact (sz_i32 _).2⟩ ⟨by first | omega | exact (sz_i32 _).1, by first | omega | exact (sz_i32 _).2⟩ (fun (c6 : (wV D u i) ≠ (2)) => ?_) (fun (c6 : ¬((wV D u i) ≠ (2))) => ?_)
    · skip
      refine ez_less [(2, .inl (wV D u (i - 1))), (3, .inl (wV D u i)), (0, .inr (.inr (some (733)))), (1, .inl (i))] rfl ⟨rfl, rfl, rfl, rfl, trivial⟩ ?_
      exact rd_wb28 c i0 i1 r0 r1 k1 k0 (by omega)
    · skip
      refine ez_go (n := 1) (pc' := 27) (L' := [(3, .inl (wV D u i)), (2, .inl (wV D u (i - 1))), (0, .inr (.inr (some (733)))), (1, .inl (i))]) (st' := [.inl (0)]) rfl ?_
      exact ez_retZ rfl rfl (Or.inl rfl) (k0 (wbd_1 i0 i1 (by omega) (by omega)))

theorem rd_isB {i : Int} (c : bkC τ h D u) (i0 : 0 ≤ i) (i1 : i < (u.length : Int)) (k1 : wbd (wV D u) (wpi D u) u.length i → Q (.inl (some (ez_v (.inl 1))), h)) (k0 : ¬ wbd (wV D u) (wpi D u) u.length i → Q (.inl (some (ez_v (.inl 0))), h)) : ez_W (d + 3) cm_47 0 [(0, .inr (.inr (some (733)))), (1, .inl (i))] [] h Q := by
  have hB := c.1.1
  have t733 : τ 733 = 65 := c.1.2 733 (by decide)
  have n2 := c.2.1
  have e5 := c.2.2.1.1
  have e6 := c.2.2.1.2
  refine ez_go (n := 1) (pc' := 1) (L' := [(0, .inr (.inr (some (733)))), (1, .inl (i))]) (st' := [.inr (.inr (some (733)))]) rfl ?_
  refine ez_gI hB t733 rfl rfl tq_65 rfl rfl (fun (b1 : 0 ≤ qz_I h 733 5) (b1' : qz_I h 733 5 ≤ 2000) => ?_)
  refine ez_if rfl rfl ⟨by first | omega | exact (sz_i32 _).1, by first | omega | exact (sz_i32 _).2⟩ (fun (c2 : (qz_I h 733 5) ≠ (0)) => ?_) (fun (c2 : ¬((qz_I h 733 5) ≠ (0))) => ?_)
  · skip
    refine ez_go (n := 1) (pc' := 10) (L' := [(0, .inr (.inr (some (733)))), (1, .inl (i))]) (st' := [.inl (i)]) rfl ?_
    refine ez_if rfl rfl ⟨by first | omega | exact (sz_i32 _).1, by first | omega | exact (sz_i32 _).2⟩ (fun (c3 : (i) ≤ (0)) => ?_) (fun (c3 : ¬((i) ≤ (0))) => ?_)
    · skip
      refine ez_go (n := 1) (pc' := 22) (L' := [(0, .inr (.inr (some (733)))), (1, .inl (i))]) (st' := [.inl (1)]) rfl ?_
      exact ez_retZ rfl rfl (Or.inr rfl) (k1 (by first | exact w | exact wbd_o (by omega)))
    · skip
      refine ez_go (n := 2) (pc' := 15) (L' := [(0, .inr (.inr (some (733)))), (1, .inl (i))]) (st' := [.inr (.inr (some (733))), .inl (i)]) rfl ?_
      refine ez_gI hB t733 rfl rfl tq_65 rfl rfl (fun (b4 : 0 ≤ qz_I h 733 5) (b4' : qz_I h 733 5 ≤ 2000) => ?_)
      refine ez_icmp rfl rfl ⟨by first | omega | exact (sz_i32 _).1, by first | omega | exact (sz_i32 _).2⟩ ⟨by first | omega | exact (sz_i32 _).1, by first | omega | exact (sz_i32 _).2⟩ (fun (c5 : (i) < (qz_I h 733 5)) => ?_) (fun (c5 : ¬((i) < (qz_I h 733 5))) => ?_)
      · skip
        refine ez_go (n := 1) (pc' := 24) (L' := [(0, .inr (.inr (some (733)))), (1, .inl (i))]) (st' := [.inr (.inr (some (733)))]) rfl ?_
        refine ez_gI hB t733 rfl rfl tq_65 rfl rfl (fun (b6 : 0 ≤ qz_I h 733 6) (b6' : qz_I h 733 6 ≤ 1) => ?_)
        refine ez_if rfl rfl ⟨by first | omega | exact (sz_i32 _).1, by first | omega | exact (sz_i32 _).2⟩ (fun (c7 : (qz_I h 733 6) = (0)) => ?_) (fun (c7 : ¬((qz_I h 733 6) = (0))) => ?_)
        · exfalso; omega
        · skip
          refine ez_go (n := 2) (pc' := 32) (L' := [(0, .inr (.inr (some (733)))), (1, .inl (i))]) (st' := [.inl (i), .inr (.inr (some (733)))]) rfl ?_
          refine ez_cv hB t733 rfl rfl rfl tq_65 rfl rfl rfl (rd_isWB c (by omega) (by omega) (fun w => ez_K1 ?_) (fun w => ez_K1 ?_))
          · skip
            refine ez_go (n := 1) (pc' := 43) (L' := [(0, .inr (.inr (some (733)))), (1, .inl (i))]) (st' := [.inl (1)]) rfl ?_
            exact ez_retZ rfl rfl (Or.inr rfl) (k1 (by first | exact w | exact wbd_o (by omega)))
          · skip
            refine ez_go (n := 1) (pc' := 43) (L' := [(0, .inr (.inr (some (733)))), (1, .inl (i))]) (st' := [.inl (0)]) rfl ?_
            exact ez_retZ rfl rfl (Or.inl rfl) (k0 (by first | exact w | (exfalso; omega)))
      · skip
        refine ez_go (n := 1) (pc' := 22) (L' := [(0, .inr (.inr (some (733)))), (1, .inl (i))]) (st' := [.inl (1)]) rfl ?_
        exact ez_retZ rfl rfl (Or.inr rfl) (k1 (by first | exact w | exact wbd_o (by omega)))
  · skip
    refine ez_go (n := 1) (pc' := 8) (L' := [(0, .inr (.inr (some (733)))), (1, .inl (i))]) (st' := [.inl (0)]) rfl ?_
    exact ez_retZ rfl rfl (Or.inl rfl) (k0 (by first | exact w | (exfalso; omega)))

end EzBk
theorem bas_0 (V : Int → Int) {i : Int} (h : i ≤ 0) : bas V i.toNat = 0 := by rw [show i.toNat = 0 by omega]; rfl
theorem bas_s (V : Int → Int) {i : Int} (h : 0 < i) : bas V i.toNat = if ign (V i) ∧ ¬ lnd (V (i - 1)) then bas V (i - 1).toNat else i.toNat := by
  have e : i.toNat = (i - 1).toNat + 1 := by omega
  have e2 : (((i - 1).toNat : Nat) : Int) + 1 = i := by omega
  have e3 : (((i - 1).toNat : Nat) : Int) = i - 1 := by omega
  rw [e]
  show (if ign (V ((((i - 1).toNat : Nat) : Int) + 1)) ∧ ¬ lnd (V (((i - 1).toNat : Nat) : Int)) then bas V (i - 1).toNat else (i - 1).toNat + 1) = _
  rw [e2, e3]
theorem odd_s (V : Int → Int) {i : Int} (h : 0 ≤ i) : odd V i.toNat ↔ (V i = 6 ∧ ¬ (0 < i ∧ odd V (bas V (i - 1).toNat))) := by
  have e : ((i.toNat : Nat) : Int) = i := by omega
  rw [odd_eq, e, show i.toNat - 1 = (i - 1).toNat by omega]
  exact ⟨fun w => ⟨w.1, fun q => w.2 ⟨by omega, q.2⟩⟩, fun w => ⟨w.1, fun q => w.2 ⟨by omega, q.2⟩⟩⟩
theorem uX_tx {h : cz_H} {r : Nat} {u : List Int} (a : tx h r u) {k : Int} (k1 : k.toNat < u.length) : qz_I h (r + 1) k.toNat = uX u k := a.2 _ _ (uX_e k1)
theorem ckC.tr {τ : Nat → Nat} {h g : cz_H} {F : rz_W} {D : Int → xD} {p : Nat} {u : List Int} {loc : Int} (a : ckC τ h F D p u loc) (hB : ez_B τ g) (f : ez_fr cg_P h g) (e : ∀ q, 738 ≤ q → q ≤ 742 → ∀ j, ¬ (q = 738 ∧ j = 9) → qz_I g q j = qz_I h q j) : ckC τ g F D p u loc := by
  obtain ⟨a1, a2, a3, a4, a5⟩ := a
  refine ⟨⟨hB, a1.2⟩, a2, a3, ?_, fun k k0 k1 => ?_⟩
  · rw [e 738 (by decide) (by decide) 6 (by decide), e 738 (by decide) (by decide) 7 (by decide), e 738 (by decide) (by decide) 8 (by decide)]; exact a4
  · obtain ⟨b1, b2, b3, b4, b5⟩ := a5 k k0 k1
    rw [e 740 (by decide) (by decide) _ (fun w => absurd w.1 (by decide)), e 741 (by decide) (by decide) _ (fun w => absurd w.1 (by decide)), e 742 (by decide) (by decide) _ (fun w => absurd w.1 (by decide)), e 739 (by decide) (by decide) _ (fun w => absurd w.1 (by decide))]
    refine ⟨?_, b2, b3, b4, cg_ta hB a1.2 f b5⟩
    rw [← b1]
    exact f.I (cg_tag a1.2 (by rw [a2]; decide) (by rw [a2]; decide) (Or.inr (by rw [a2]; decide))) _
theorem xO_n {τ : Nat → Nat} {h : cz_H} {v : Int} {o : Option (List Int)} (a : xO τ h v o) (e : v = 0) : o = none := by
  cases o with
  | none => rfl
  | some l => obtain ⟨p, q, -⟩ := a.2 l rfl; exfalso; omega
theorem xO_y {τ : Nat → Nat} {h : cz_H} {v : Int} {o : Option (List Int)} (a : xO τ h v o) (e : 1 ≤ v) : o ≠ none := fun w => by have := a.1 w; omega
/-- a row of folding, or none -/
def ofr (τ : Nat → Nat) (h : cz_H) (o : Option Nat) (r : Option (List Int)) : Prop := (r = none → o = none) ∧ ∀ l, r = some l → ∃ w, o = some w ∧ τ w = 5 ∧ qz_N h w = (l.length : Int) ∧ ∀ (j : Nat) x, l[j]? = some x → qz_I h w j = x
theorem ofr_y {τ : Nat → Nat} {h : cz_H} {v : Int} {o : Option (List Int)} (a : xO τ h v o) (e : 1 ≤ v) : ofr τ h (some (v - 1).toNat) o := ⟨fun w => absurd w (xO_y a e), fun l hl => by
  obtain ⟨p, q1, q2, q3, q4⟩ := a.2 l hl
  exact ⟨p, by rw [show (v - 1).toNat = p by omega], q2, q3, q4⟩⟩
theorem fdo_T {loc : Int} {D : xD} (h : loc = 1 ∨ loc = 2) (h2 : D.2.2.1.2.2 ≠ none) : fdo loc D = D.2.2.1.2.2 := by unfold fdo; rw [if_pos ⟨h, h2⟩]
theorem fdo_F {loc : Int} {D : xD} (h : ¬ ((loc = 1 ∨ loc = 2) ∧ D.2.2.1.2.2 ≠ none)) (h2 : D.2.2.1.2.1 ≠ none) : fdo loc D = D.2.2.1.2.1 := by unfold fdo; rw [if_neg h, if_pos h2]
theorem fdo_C {loc : Int} {D : xD} (h : ¬ ((loc = 1 ∨ loc = 2) ∧ D.2.2.1.2.2 ≠ none)) (h2 : D.2.2.1.2.1 = none) : fdo loc D = D.2.2.1.1 := by unfold fdo; rw [if_neg h, if_neg (fun w => w h2)]
theorem fdl_s {loc x : Int} {D : xD} {l : List Int} (h : fdo loc D = some l) : fdl loc D x = l := by unfold fdl; rw [h]; rfl
theorem fdl_n {loc x : Int} {D : xD} (h : fdo loc D = none) : fdl loc D x = [x] := by unfold fdl; rw [h]; rfl
theorem ptl_rg {l : List Int} (h : ptl l) : ∀ (j : Nat) v, l[j]? = some v → ez_rg v := fun j v hv => by have := ptl_at h hv; exact ⟨by omega, by omega⟩
theorem cg_tx {z : Nat} (h : tx_P 196 z = true) : cg_P z = true := by
  unfold tx_P at h
  rcases Bool.or_eq_true_iff.mp h with w | w
  · rw [Nat.eq_of_beq_eq_true w]; rfl
  · rw [Nat.eq_of_beq_eq_true w]; rfl
theorem cg_one {z : Nat} (h : ez_one 738 z = true) : cg_P z = true := by
  unfold ez_one at h
  rw [Nat.eq_of_beq_eq_true h]; rfl
theorem ckC.ap {τ : Nat → Nat} {h g : cz_H} {F : rz_W} {D : Int → xD} {p : Nat} {u : List Int} {loc : Int} (a : ckC τ h F D p u loc) (hB : ez_B τ g) (f : ez_fr (tx_P 196) h g) : ckC τ g F D p u loc := a.tr hB (ez_fr_mono f (fun z hz => cg_tx hz)) (fun q q1 q2 j _ => f.I (tx_Pn (by omega) (by omega)) j)
theorem bkC.ap {τ : Nat → Nat} {h g : cz_H} {D : Int → xD} {u : List Int} (a : bkC τ h D u) (hB : ez_B τ g) (f : ez_fr (tx_P 196) h g) : bkC τ g D u := a.tr hB (fun q q1 q2 => f.2.2 q (tx_Pn (by omega) (by omega)))
theorem tx_clr {g : cz_H} {r : Nat} (e : qz_I g r 1 = 0) : tx g r [] := ⟨e, fun j v hv => by cases hv⟩
