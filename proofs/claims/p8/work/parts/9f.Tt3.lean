/-! COMPOSED, as lists have it. -/
def hzv (a b : Int) : Int := if a ≤ 4370 then 44032 + ((a - 4352) * 21 + (b - 4449)) * 28 else a + b - 4519
/-- what two become, -1 where they are no PAIR -/
def cpR (F : rz_W) (E : Int → Prop) (a b v : Int) : Prop := (hz_pair a b ∧ v = hzv a b) ∨ (¬ hz_pair a b ∧ ez_p F E v a b) ∨ (¬ hz_pair a b ∧ (¬ ∃ x, ez_p F E x a b) ∧ v = -1)
theorem hzv_bd {a b : Int} (h : hz_pair a b) : hz (hzv a b) := by
  unfold hz_pair hz at h
  unfold hzv hz
  split <;> omega
theorem cpR_u {F : rz_W} {E : Int → Prop} {a b v w : Int} (s : uz_S4 F E) (h1 : cpR F E a b v) (h2 : cpR F E a b w) : v = w := by
  rcases h1 with ⟨p, e⟩ | ⟨p, e⟩ | ⟨p, q, e⟩ <;> rcases h2 with ⟨p', e'⟩ | ⟨p', e'⟩ | ⟨p', q', e'⟩
  · rw [e, e']
  · exact absurd p p'
  · exact absurd p p'
  · exact absurd p' p
  · exact s.2 v w a b e e'
  · exact absurd ⟨v, e⟩ q'
  · exact absurd p' p
  · exact absurd ⟨w, e'⟩ q
  · rw [e, e']
theorem cpR_bd {F : rz_W} {E : Int → Prop} {a b v : Int} (hw : uz_wf F) (h : cpR F E a b v) : v = -1 ∨ (0 ≤ v ∧ v ≤ 1114111) := by
  rcases h with ⟨p, e⟩ | ⟨p, e⟩ | ⟨p, q, e⟩
  · have h9 := hzv_bd p
    unfold hz at h9
    omega
  · exact Or.inr ((hw v).2 _ _ e.1).2.2.2
  · exact Or.inl e
/-- the last one of rank 0, all behind it below r -/
def lst (K : List (Int × Int)) (r : Int) (s : Nat) (x : Int × Int) : Prop := K[s]? = some x ∧ x.2 = 0 ∧ ∀ j y, s < j → K[j]? = some y → y.2 ≠ 0 ∧ y.2 < r
theorem lst_u {K : List (Int × Int)} {r : Int} {s s' : Nat} {x x' : Int × Int} (h1 : lst K r s x) (h2 : lst K r s' x') : s = s' ∧ x = x' := by
  have e : s = s' := by
    by_cases a : s < s'
    · exact absurd h2.2.1 (h1.2.2 s' x' a h2.1).1
    · by_cases b : s' < s
      · exact absurd h1.2.1 (h2.2.2 s x b h1.1).1
      · omega
  subst e
  have := h1.1
  rw [h2.1] at this
  cases this
  exact ⟨rfl, rfl⟩
/-- one point more -/
def kst (F : rz_W) (E : Int → Prop) (K : List (Int × Int)) (c : Int × Int) (K' : List (Int × Int)) : Prop :=
  (∃ s x v, lst K c.2 s x ∧ cpR F E x.1 c.1 v ∧ v ≠ -1 ∧ K' = K.set s (v, (F v).1)) ∨ ((∀ s x, lst K c.2 s x → cpR F E x.1 c.1 (-1)) ∧ K' = K ++ [c])
theorem kst_u {F : rz_W} {E : Int → Prop} {K K1 K2 : List (Int × Int)} {c : Int × Int} (s4 : uz_S4 F E) (h1 : kst F E K c K1) (h2 : kst F E K c K2) : K1 = K2 := by
  rcases h1 with ⟨s, x, v, a1, a2, a3, a4⟩ | ⟨a1, a2⟩ <;> rcases h2 with ⟨s', x', v', b1, b2, b3, b4⟩ | ⟨b1, b2⟩
  · obtain ⟨rfl, rfl⟩ := lst_u a1 b1
    rw [a4, b4, cpR_u s4 a2 b2]
  · exact absurd (cpR_u s4 a2 (b1 s x a1)) a3
  · exact absurd (cpR_u s4 b2 (a1 s' x' b1)) b3
  · rw [a2, b2]
def kcR (F : rz_W) (E : Int → Prop) : List (Int × Int) → List (Int × Int) → List (Int × Int) → Prop
  | [], K, R => R = K
  | c :: L, K, R => ∃ K', kst F E K c K' ∧ kcR F E L K' R
theorem kcR_u {F : rz_W} {E : Int → Prop} (s4 : uz_S4 F E) : ∀ {L K R1 R2 : List (Int × Int)}, kcR F E L K R1 → kcR F E L K R2 → R1 = R2
  | [], K, R1, R2, h1, h2 => h1.trans h2.symm
  | c :: L, K, R1, R2, ⟨K1, a1, a2⟩, ⟨K2, b1, b2⟩ => by
    rw [kst_u s4 a1 b1] at a2
    exact kcR_u s4 a2 b2
/-- kept ones: points with their ranks -/
def kok (F : rz_W) (K : List (Int × Int)) : Prop := ∀ x ∈ K, (0 ≤ x.1 ∧ x.1 ≤ 1114111) ∧ x.2 = (F x.1).1
theorem kst_ok {F : rz_W} {E : Int → Prop} {K K' : List (Int × Int)} {c : Int × Int} (hw : uz_wf F) (h : kst F E K c K') (hK : kok F K) (hc : (0 ≤ c.1 ∧ c.1 ≤ 1114111) ∧ c.2 = (F c.1).1) : kok F K' := by
  rcases h with ⟨s, x, v, a1, a2, a3, a4⟩ | ⟨a1, a2⟩
  · intro y hy
    rw [a4] at hy
    rcases List.mem_or_eq_of_mem_set hy with w | w
    · exact hK y w
    · rw [w]; exact ⟨(cpR_bd hw a2).resolve_left a3, rfl⟩
  · intro y hy
    rw [a2] at hy
    rcases List.mem_append.mp hy with w | w
    · exact hK y w
    · rw [List.mem_singleton] at w; rw [w]; exact hc
theorem kst_len {F : rz_W} {E : Int → Prop} {K K' : List (Int × Int)} {c : Int × Int} (h : kst F E K c K') : K'.length ≤ K.length + 1 ∧ K.length ≤ K'.length := by
  rcases h with ⟨s, x, v, a1, a2, a3, a4⟩ | ⟨a1, a2⟩
  · rw [a4, List.length_set]; omega
  · rw [a2, List.length_append, List.length_singleton]; omega
theorem kok_zl {F : rz_W} {l : List Int} (h : ptl l) : kok F (zl F l) := fun x hx => ⟨h _ (zl_mem hx).1, (zl_mem hx).2⟩
theorem os_ins_mem {x z : Int × Int} : ∀ {L : List (Int × Int)}, z ∈ os_ins x L → z = x ∨ z ∈ L
  | [], h => by
    rw [show os_ins x [] = [x] from rfl, List.mem_singleton] at h; exact Or.inl h
  | y :: L, h => by
    unfold os_ins at h
    split at h
    · rcases List.mem_cons.mp h with w | w
      · rw [w]; exact Or.inr List.mem_cons_self
      · rcases os_ins_mem w with v | v
        · exact Or.inl v
        · exact Or.inr (List.mem_cons_of_mem _ v)
    · rcases List.mem_cons.mp h with w | w
      · exact Or.inl w
      · exact Or.inr w
theorem os_srt_mem {z : Int × Int} : ∀ {L : List (Int × Int)}, z ∈ os_srt L → z ∈ L
  | [], h => h
  | x :: L, h => by
    rcases os_ins_mem h with w | w
    · rw [w]; exact List.mem_cons_self
    · exact List.mem_cons_of_mem _ (os_srt_mem w)
theorem os_ins_len {x : Int × Int} : ∀ (L : List (Int × Int)), (os_ins x L).length = L.length + 1
  | [] => rfl
  | y :: L => by
    unfold os_ins
    split
    · rw [List.length_cons, List.length_cons, os_ins_len L]
    · rfl
theorem os_srt_len : ∀ (L : List (Int × Int)), (os_srt L).length = L.length
  | [] => rfl
  | x :: L => by
    show (os_ins x (os_srt L)).length = _
    rw [os_ins_len, os_srt_len L]; rfl
theorem kok_srt {F : rz_W} {L : List (Int × Int)} (h : kok F L) : kok F (os_srt L) := fun x hx => h x (os_srt_mem hx)
/-- a FORM of a row of points: decomposed, ordered, composed -/
def nfR (F : rz_W) (E : Int → Prop) (fm : Int) (m r : List Int) : Prop := ∃ R, (if fm = 2 ∨ fm = 3 then kcR F E (os_srt (zl F m)) [] R else R = os_srt (zl F m)) ∧ r = R.map Prod.fst
theorem nfR_u {F : rz_W} {E : Int → Prop} {fm : Int} {m r r' : List Int} (s4 : uz_S4 F E) (h1 : nfR F E fm m r) (h2 : nfR F E fm m r') : r = r' := by
  obtain ⟨R, a1, a2⟩ := h1
  obtain ⟨R', b1, b2⟩ := h2
  rw [a2, b2]
  split at a1
  · rename_i e
    rw [if_pos e] at b1
    rw [kcR_u s4 a1 b1]
  · rename_i e
    rw [if_neg e] at b1
    rw [a1, b1]
/-- the pairs of the class -/
def cP (h : cz_H) (F : rz_W) (E : Int → Prop) : Prop := ri (pp h) (qz_I h 723 8) ∧ (∀ j, 0 ≤ j → j < qz_I h 723 8 → ∃ a b, ez_p F E (qz_I h 728 j.toNat) a b ∧ pp h j = a * 2097152 + b) ∧ ∀ x a b, ez_p F E x a b → ∃ j, 0 ≤ j ∧ j < qz_I h 723 8 ∧ pp h j = a * 2097152 + b
theorem cP.keep {h g : cz_H} {F : rz_W} {E : Int → Prop} (a : cP h F E) (e1 : g.2.2 723 = h.2.2 723) (e2 : g.2.2 727 = h.2.2 727) (e3 : g.2.2 728 = h.2.2 728) : cP g F E := by
  unfold cP pp ri qz_I at a ⊢
  rw [e1, e2, e3]; exact a
/-- the class's state within compose -/
def cst (K : List (Int × Int)) (st hi : Int) : Prop := ((st = -1 ∧ ∀ (j : Nat) y, K[j]? = some y → y.2 ≠ 0) ∨ (0 ≤ st ∧ ∃ x, K[st.toNat]? = some x ∧ x.2 = 0 ∧ ∀ (j : Nat) y, st < (j : Int) → K[j]? = some y → y.2 ≠ 0)) ∧ (∀ (j : Nat) y, st < (j : Int) → K[j]? = some y → y.2 ≤ hi) ∧ (hi = -1 ∨ ∃ (j : Nat) y, st < (j : Int) ∧ K[j]? = some y ∧ y.2 = hi) ∧ -1 ≤ hi
theorem cst_lst {K : List (Int × Int)} {st hi r : Int} (c : cst K st hi) (r0 : 0 ≤ r) : (∀ s x, lst K r s x → st = (s : Int) ∧ hi < r) ∧ (0 ≤ st → hi < r → ∃ x, lst K r st.toNat x) := by
  obtain ⟨c1, c2, c3, c4⟩ := c
  refine ⟨fun s x hs => ?_, fun s0 hr => ?_⟩
  · have e : st = (s : Int) := by
      rcases c1 with ⟨-, w⟩ | ⟨w0, y, w1, w2, w3⟩
      · exact absurd hs.2.1 (w s x hs.1)
      · by_cases a : st < (s : Int)
        · exact absurd hs.2.1 (w3 s x a hs.1)
        · by_cases b : (s : Int) < st
          · exact absurd w2 (hs.2.2 st.toNat y (by omega) w1).1
          · omega
    refine ⟨e, ?_⟩
    rcases c3 with w | ⟨j, y, w1, w2, w3⟩
    · omega
    · have := (hs.2.2 j y (by omega) w2).2; omega
  · rcases c1 with ⟨w, -⟩ | ⟨w0, y, w1, w2, w3⟩
    · omega
    · exact ⟨y, w1, w2, fun j z hj hz => ⟨w3 j z (by omega) hz, by have := c2 j z (by omega) hz; omega⟩⟩
theorem cst_0 : cst [] (-1) (-1) := ⟨Or.inl ⟨rfl, fun j y h => by cases h⟩, fun j y _ h => by cases h, Or.inl rfl, by omega⟩
theorem cst_z {K : List (Int × Int)} {st hi : Int} {c : Int × Int} (hc : c.2 = 0) : cst (K ++ [c]) (K.length : Int) (-1) := by
  have no : ∀ (j : Nat) y, (K.length : Int) < (j : Int) → (K ++ [c])[j]? = some y → False := fun j y h1 h2 => by
    have := (List.getElem?_eq_some_iff.mp h2).1
    rw [List.length_append, List.length_singleton] at this
    omega
  refine ⟨Or.inr ⟨by omega, c, by rw [Int.toNat_natCast, List.getElem?_append_right (Nat.le_refl _), Nat.sub_self]; rfl, hc, fun j y h1 h2 => (no j y h1 h2).elim⟩, fun j y h1 h2 => (no j y h1 h2).elim, Or.inl rfl, by omega⟩
theorem cst_n {K : List (Int × Int)} {st hi : Int} {c : Int × Int} (h : cst K st hi) (hs : st < (K.length : Int)) (hc : c.2 ≠ 0) (c0 : 0 ≤ c.2) : cst (K ++ [c]) st (max hi c.2) := by
  obtain ⟨c1, c2, c3, c4⟩ := h
  have at' : ∀ (j : Nat) y, (K ++ [c])[j]? = some y → (j < K.length ∧ K[j]? = some y) ∨ (j = K.length ∧ y = c) := fun j y hj => by
    by_cases e : j < K.length
    · rw [List.getElem?_append_left e] at hj; exact Or.inl ⟨e, hj⟩
    · rw [List.getElem?_append_right (by omega)] at hj
      have e0 : j - K.length = 0 := by
        by_cases w : j - K.length = 0
        · exact w
        · rw [List.getElem?_eq_none (by rw [List.length_singleton]; omega)] at hj; cases hj
      rw [e0] at hj; cases hj
      exact Or.inr ⟨by omega, rfl⟩
  refine ⟨?_, fun j y h1 h2 => ?_, ?_, by omega⟩
  · rcases c1 with ⟨w0, w⟩ | ⟨w0, x, w1, w2, w3⟩
    · refine Or.inl ⟨w0, fun j y hj => ?_⟩
      rcases at' j y hj with ⟨-, v⟩ | ⟨-, v⟩
      · exact w j y v
      · rw [v]; exact hc
    · refine Or.inr ⟨w0, x, by rw [List.getElem?_append_left (by omega)]; exact w1, w2, fun j y hj hy => ?_⟩
      rcases at' j y hy with ⟨-, v⟩ | ⟨-, v⟩
      · exact w3 j y hj v
      · rw [v]; exact hc
  · rcases at' j y h2 with ⟨-, v⟩ | ⟨-, v⟩
    · have := c2 j y h1 v; omega
    · rw [v]; omega
  · by_cases e : hi ≤ c.2
    · exact Or.inr ⟨K.length, c, hs, by rw [List.getElem?_append_right (Nat.le_refl _), Nat.sub_self]; rfl, by omega⟩
    · rcases c3 with w | ⟨j, y, w1, w2, w3⟩
      · omega
      · exact Or.inr ⟨j, y, w1, by rw [List.getElem?_append_left (List.getElem?_eq_some_iff.mp w2).1]; exact w2, by omega⟩
/-- the starter becomes another one of rank 0 -/
theorem cst_set0 {K : List (Int × Int)} {st hi : Int} {c : Int × Int} (h : cst K st hi) (s0 : 0 ≤ st) (hc : c.2 = 0) : cst (K.set st.toNat c) st hi := by
  obtain ⟨c1, c2, c3, c4⟩ := h
  have at' : ∀ (j : Nat), st < (j : Int) → (K.set st.toNat c)[j]? = K[j]? := fun j hj => List.getElem?_set_ne (by omega)
  rcases c1 with ⟨w0, w⟩ | ⟨w0, x, w1, w2, w3⟩
  · omega
  · refine ⟨Or.inr ⟨w0, c, ?_, hc, fun j y hj hy => w3 j y hj (by rw [← at' j hj]; exact hy)⟩, fun j y hj hy => c2 j y hj (by rw [← at' j hj]; exact hy), ?_, c4⟩
    · rw [List.getElem?_set_self (List.getElem?_eq_some_iff.mp w1).1]
    · rcases c3 with v | ⟨j, y, v1, v2, v3⟩
      · exact Or.inl v
      · exact Or.inr ⟨j, y, v1, by rw [at' j v1]; exact v2, v3⟩
/-- found anew -/
theorem cst_new {K : List (Int × Int)} {st hi : Int} (h1 : (st = -1 ∧ ∀ (j : Nat) y, K[j]? = some y → y.2 ≠ 0) ∨ (0 ≤ st ∧ ∃ x, K[st.toNat]? = some x ∧ x.2 = 0 ∧ ∀ (j : Nat) y, st < (j : Int) → K[j]? = some y → y.2 ≠ 0)) (h2 : (∀ (j : Nat) y, st < (j : Int) → K[j]? = some y → y.2 ≤ hi) ∧ (hi = -1 ∨ ∃ (j : Nat) y, st < (j : Int) ∧ K[j]? = some y ∧ y.2 = hi) ∧ -1 ≤ hi) : cst K st hi := ⟨h1, h2.1, h2.2.1, h2.2.2⟩
theorem cst_lt {K : List (Int × Int)} {st hi : Int} (h : cst K st hi) : st < (K.length : Int) := by
  rcases h.1 with ⟨w, -⟩ | ⟨w0, x, w1, -⟩
  · omega
  · have := (List.getElem?_eq_some_iff.mp w1).1; omega
