theorem nz_P2_f {a b q : Nat} (h1 : q ≠ a) (h2 : q ≠ b) : nz_P2 a b q = false := by unfold nz_P2; rw [dz_beq_ne h1, dz_beq_ne h2]; rfl
def gel (h : cz_H) : Nat := qz_P h 770 35
def gfo (h : cz_H) : Nat := qz_P h 770 38
def got (h : cz_H) : Nat := qz_P h 770 39
def gke (h : cz_H) : Nat := qz_P h 770 40
theorem ez_tg5 {τ : Nat → Nat} {h : cz_H} (hB : ez_B τ h) (t770 : τ 770 = 75) : (qz_I h 770 24 = (sk h : Int) + 1 ∧ qz_I h 770 35 = (gel h : Int) + 1 ∧ qz_I h 770 38 = (gfo h : Int) + 1 ∧ qz_I h 770 39 = (got h : Int) + 1 ∧ qz_I h 770 40 = (gke h : Int) + 1) ∧ τ (sk h) = 21 ∧ τ (gel h) = 23 ∧ τ (gfo h) = 24 ∧ τ (got h) = 25 ∧ τ (gke h) = 25 := by
  have b24 : 1 ≤ qz_I h 770 24 ∧ qz_I h 770 24 ≤ 1000000 := ez_fB (cl := 11) hB t770 tq_75 rfl rfl (by decide)
  have e24 : qz_I h 770 24 = (sk h : Int) + 1 := by unfold sk qz_P; omega
  have b35 : 1 ≤ qz_I h 770 35 ∧ qz_I h 770 35 ≤ 1000000 := ez_fB (cl := 11) hB t770 tq_75 rfl rfl (by decide)
  have e35 : qz_I h 770 35 = (gel h : Int) + 1 := by unfold gel qz_P; omega
  have b38 : 1 ≤ qz_I h 770 38 ∧ qz_I h 770 38 ≤ 1000000 := ez_fB (cl := 11) hB t770 tq_75 rfl rfl (by decide)
  have e38 : qz_I h 770 38 = (gfo h : Int) + 1 := by unfold gfo qz_P; omega
  have b39 : 1 ≤ qz_I h 770 39 ∧ qz_I h 770 39 ≤ 1000000 := ez_fB (cl := 11) hB t770 tq_75 rfl rfl (by decide)
  have e39 : qz_I h 770 39 = (got h : Int) + 1 := by unfold got qz_P; omega
  have b40 : 1 ≤ qz_I h 770 40 ∧ qz_I h 770 40 ≤ 1000000 := ez_fB (cl := 11) hB t770 tq_75 rfl rfl (by decide)
  have e40 : qz_I h 770 40 = (gke h : Int) + 1 := by unfold gke qz_P; omega
  exact ⟨⟨e24, e35, e38, e39, e40⟩, (ez_old (cl := 11) (k := 24) hB t770 tq_75 rfl rfl (by decide) e24).1, (ez_old (cl := 11) (k := 35) hB t770 tq_75 rfl rfl (by decide) e35).1, (ez_old (cl := 11) (k := 38) hB t770 tq_75 rfl rfl (by decide) e38).1, (ez_old (cl := 11) (k := 39) hB t770 tq_75 rfl rfl (by decide) e39).1, (ez_old (cl := 11) (k := 40) hB t770 tq_75 rfl rfl (by decide) e40).1⟩

/-! COLLATION: elements, weights, keys; nothing of heaps. -/
/-- (variable or not, first, second, third weight) -/
abbrev eL : Type := Int × Int × Int × Int
/-- marks behind are taken up, as far as they make a longer entry -/
def sca (LK : List Int → Option (List eL)) (K : Int → Int) : List Int → List Int → List eL → Int → List Int → List eL × List Int
  | [], _, best, _, ps => (best, ps)
  | x :: xs, row, best, most, ps =>
    if 0 < K x then
      (match LK (row ++ [x]) with
        | some e => if most < K x ∧ row.length < 3 then sca LK K xs (row ++ [x]) e most ps else sca LK K xs row best (max most (K x)) (ps ++ [x])
        | none => sca LK K xs row best (max most (K x)) (ps ++ [x]))
    else (best, ps ++ x :: xs)
section KSca
variable {LK : List Int → Option (List eL)} {K : Int → Int} {x : Int} {xs row ps : List Int} {best e : List eL} {most : Int}
theorem sca_nil : sca LK K [] row best most ps = (best, ps) := rfl
theorem sca_y (h0 : 0 < K x) (h1 : most < K x) (h2 : row.length < 3) (h3 : LK (row ++ [x]) = some e) : sca LK K (x :: xs) row best most ps = sca LK K xs (row ++ [x]) e most ps := by
  simp only [sca, if_pos h0, h3, if_pos (And.intro h1 h2)]
theorem sca_n (h0 : 0 < K x) (h : ¬ (most < K x ∧ row.length < 3) ∨ LK (row ++ [x]) = none) : sca LK K (x :: xs) row best most ps = sca LK K xs row best (max most (K x)) (ps ++ [x]) := by
  cases hl : LK (row ++ [x]) with
  | none => simp only [sca, if_pos h0, hl]
  | some e =>
    rcases h with h | h
    · simp only [sca, if_pos h0, hl, if_neg h]
    · rw [hl] at h; cases h
theorem sca_z (h0 : ¬ 0 < K x) : sca LK K (x :: xs) row best most ps = (best, ps ++ x :: xs) := by
  simp only [sca, if_neg h0]
/-- where nothing longer is told -/
theorem sca_stop (hn : ∀ y, ¬ row.length < 3 ∨ LK (row ++ [y]) = none) : ∀ (xs : List Int) (most : Int) (ps : List Int), sca LK K xs row best most ps = (best, ps ++ xs)
  | [], most, ps => by rw [List.append_nil]; rfl
  | x :: xs, most, ps => by
    by_cases h0 : 0 < K x
    · rw [sca_n h0 ((hn x).elim (fun w => Or.inl (fun q => w q.2)) Or.inr), sca_stop hn xs, List.append_assoc]; rfl
    · exact sca_z h0
theorem sca_len : ∀ (xs row : List Int) (best : List eL) (most : Int) (ps : List Int), (sca LK K xs row best most ps).2.length ≤ ps.length + xs.length
  | [], row, best, most, ps => by rw [sca_nil]; exact Nat.le_refl _
  | x :: xs, row, best, most, ps => by
    by_cases h0 : 0 < K x
    · have n1 := sca_len xs row best (max most (K x)) (ps ++ [x])
      rw [List.length_append, List.length_singleton] at n1
      have e1 : (x :: xs).length = xs.length + 1 := rfl
      cases hl : LK (row ++ [x]) with
      | none => rw [sca_n h0 (Or.inr hl)]; omega
      | some e =>
        by_cases h1 : most < K x ∧ row.length < 3
        · rw [sca_y h0 h1.1 h1.2 hl]
          have := sca_len xs (row ++ [x]) e most ps
          omega
        · rw [sca_n h0 (Or.inl h1)]; omega
    · rw [sca_z h0]; show (ps ++ x :: xs).length ≤ _; rw [List.length_append]; exact Nat.le_refl _
end KSca
def lon1 (LK : List Int → Option (List eL)) (l : List Int) (n : Nat) (r : Option (Nat × List eL)) : Option (Nat × List eL) := if n ≤ l.length then (match LK (l.take n) with
  | some e => some (n, e)
  | none => r) else r
/-- the longest entry at the beginning -/
def lon (LK : List Int → Option (List eL)) (l : List Int) : Option (Nat × List eL) := lon1 LK l 3 (lon1 LK l 2 (lon1 LK l 1 none))
section KLon
variable {LK : List Int → Option (List eL)} {l : List Int} {n : Nat} {r : Option (Nat × List eL)} {e : List eL}
theorem lon1_y (h1 : n ≤ l.length) (h2 : LK (l.take n) = some e) : lon1 LK l n r = some (n, e) := by unfold lon1; rw [if_pos h1, h2]
theorem lon1_n (h : ¬ n ≤ l.length ∨ LK (l.take n) = none) : lon1 LK l n r = r := by
  unfold lon1
  by_cases h1 : n ≤ l.length
  · rw [if_pos h1, h.resolve_left (fun w => w h1)]
  · rw [if_neg h1]
theorem lon1_ok {m : Nat} (h : lon1 LK l n r = some (m, e)) : (m = n ∧ n ≤ l.length ∧ LK (l.take n) = some e) ∨ r = some (m, e) := by
  by_cases h1 : n ≤ l.length
  · cases hl : LK (l.take n) with
    | none => rw [lon1_n (Or.inr hl)] at h; exact Or.inr h
    | some f => rw [lon1_y h1 hl] at h; cases h; exact Or.inl ⟨rfl, h1, rfl⟩
  · rw [lon1_n (Or.inl h1)] at h; exact Or.inr h
theorem lon_ok (h : lon LK l = some (n, e)) : 1 ≤ n ∧ n ≤ 3 ∧ n ≤ l.length ∧ LK (l.take n) = some e := by
  rcases lon1_ok h with ⟨a, b, c⟩ | h
  · subst a; exact ⟨by omega, by omega, b, c⟩
  · rcases lon1_ok h with ⟨a, b, c⟩ | h
    · subst a; exact ⟨by omega, by omega, b, c⟩
    · rcases lon1_ok h with ⟨a, b, c⟩ | h
      · subst a; exact ⟨by omega, by omega, b, c⟩
      · cases h
end KLon
def impE (UB : Int → Int) (p : Int) : List eL := [(0, UB p + p / 32768, 32, 2), (0, p % 32768 + 32768, 0, 0)]
/-- the elements of a row of points -/
def els (LK : List Int → Option (List eL)) (K UB : Int → Int) : Nat → List Int → List eL
  | 0, _ => []
  | _ + 1, [] => []
  | f + 1, p :: t => match lon LK (p :: t) with
    | none => impE UB p ++ els LK K UB f t
    | some (n, e) => (sca LK K ((p :: t).drop n) ((p :: t).take n) e 0 []).1 ++ els LK K UB f (sca LK K ((p :: t).drop n) ((p :: t).take n) e 0 []).2
section KEls
variable {LK : List Int → Option (List eL)} {K UB : Int → Int} {p : Int} {t : List Int} {f n : Nat} {e : List eL}
theorem els_0 : els LK K UB f [] = [] := by cases f <;> rfl
theorem els_n (h : lon LK (p :: t) = none) : els LK K UB (f + 1) (p :: t) = impE UB p ++ els LK K UB f t := by simp only [els, h]
theorem els_s (h : lon LK (p :: t) = some (n, e)) : els LK K UB (f + 1) (p :: t) = (sca LK K ((p :: t).drop n) ((p :: t).take n) e 0 []).1 ++ els LK K UB f (sca LK K ((p :: t).drop n) ((p :: t).take n) e 0 []).2 := by simp only [els, h]
end KEls
/-- the four weights of each, and whether a variable one stands before -/
def wtb (sh b : Bool) (e : eL) : Bool := if sh = true then (if e.2.1 = 0 then b else decide (e.1 = 1)) else b
def wt1 (sh b : Bool) (e : eL) : eL := if sh = true then (if wtb sh b e = true then (0, 0, 0, e.2.1) else if e.2.1 = 0 ∧ e.2.2.1 = 0 ∧ e.2.2.2 = 0 then (0, 0, 0, 0) else (e.2.1, e.2.2.1, e.2.2.2, 65535)) else (e.2.1, e.2.2.1, e.2.2.2, 0)
def wts (sh : Bool) : Bool → List eL → List eL
  | _, [] => []
  | b, e :: t => wt1 sh b e :: wts sh (wtb sh b e) t
def wtz (sh : Bool) : Bool → List eL → Bool
  | b, [] => b
  | b, e :: t => wtz sh (wtb sh b e) t
theorem wts_app (sh : Bool) : ∀ (l : List eL) (b : Bool) (m : List eL), wts sh b (l ++ m) = wts sh b l ++ wts sh (wtz sh b l) m
  | [], _, _ => rfl
  | e :: t, b, m => by show wt1 sh b e :: wts sh (wtb sh b e) (t ++ m) = wt1 sh b e :: (wts sh (wtb sh b e) t ++ _); rw [wts_app sh t]; rfl
theorem wtz_app (sh : Bool) : ∀ (l : List eL) (b : Bool) (m : List eL), wtz sh b (l ++ m) = wtz sh (wtz sh b l) m
  | [], _, _ => rfl
  | e :: t, b, m => wtz_app sh t _ m
theorem wts_len (sh : Bool) : ∀ (l : List eL) (b : Bool), (wts sh b l).length = l.length
  | [], _ => rfl
  | e :: t, b => by show (wts sh _ t).length + 1 = t.length + 1; rw [wts_len sh t]
def wk (w : eL) : Nat → Int
  | 0 => w.1
  | 1 => w.2.1
  | 2 => w.2.2.1
  | _ => w.2.2.2
/-- a level's weights -/
def lev (W : List eL) (k : Nat) : List Int := (W.map (fun w => wk w k)).filter (fun x => decide (x ≠ 0))
theorem lev_nil (k : Nat) : lev [] k = [] := rfl
theorem lev_app (A B : List eL) (k : Nat) : lev (A ++ B) k = lev A k ++ lev B k := by unfold lev; rw [List.map_append, List.filter_append]
theorem lev_1 (w : eL) (k : Nat) : lev [w] k = if wk w k = 0 then [] else [wk w k] := by
  unfold lev
  by_cases e : wk w k = 0
  · rw [if_pos e]; simp [e]
  · rw [if_neg e]; simp [e]
theorem lev_ne {W : List eL} {k : Nat} {x : Int} (h : x ∈ lev W k) : x ≠ 0 := by
  have := (List.mem_filter.mp h).2
  exact of_decide_eq_true this
/-- the key's weights, with what stands between -/
def KY (W : List eL) : Nat → List Int
  | 0 => []
  | 1 => lev W 0
  | n + 2 => KY W (n + 1) ++ 0 :: lev W (n + 1)
/-- one row of weights against another -/
def lcp : List Int → List Int → Int
  | [], [] => 0
  | [], _ :: _ => -1
  | _ :: _, [] => 1
  | a :: s, b :: t => if a = b then lcp s t else if a < b then -1 else 1
theorem lcp_e {a b : Int} {s t : List Int} (h : a = b) : lcp (a :: s) (b :: t) = lcp s t := by show (if a = b then lcp s t else if a < b then -1 else 1) = _; rw [if_pos h]
theorem lcp_l {a b : Int} {s t : List Int} (h : a < b) : lcp (a :: s) (b :: t) = -1 := by show (if a = b then lcp s t else if a < b then -1 else 1) = _; rw [if_neg (by omega), if_pos h]
theorem lcp_g {a b : Int} {s t : List Int} (h : b < a) : lcp (a :: s) (b :: t) = 1 := by show (if a = b then lcp s t else if a < b then -1 else 1) = _; rw [if_neg (by omega), if_neg (by omega)]
theorem lcp_bd : ∀ (A B : List Int), -1 ≤ lcp A B ∧ lcp A B ≤ 1
  | [], [] => by show -1 ≤ (0 : Int) ∧ (0 : Int) ≤ 1; omega
  | [], _ :: _ => by show -1 ≤ (-1 : Int) ∧ (-1 : Int) ≤ 1; omega
  | _ :: _, [] => by show -1 ≤ (1 : Int) ∧ (1 : Int) ≤ 1; omega
  | a :: s, b :: t => by
    rcases Int.lt_trichotomy a b with e | e | e
    · rw [lcp_l e]; omega
    · rw [lcp_e e]; exact lcp_bd s t
    · rw [lcp_g e]; omega
/-- level by level is the same -/
theorem lcp_sep : ∀ {A A' : List Int} (B B' : List Int), (∀ x ∈ A, 0 < x) → (∀ x ∈ A', 0 < x) → lcp (A ++ 0 :: B) (A' ++ 0 :: B') = if lcp A A' = 0 then lcp B B' else lcp A A'
  | [], [], B, B', _, _ => by show lcp (0 :: B) (0 :: B') = _; rw [lcp_e rfl]; rfl
  | [], b :: t, B, B', _, h => by show lcp (0 :: B) (b :: (t ++ 0 :: B')) = _; rw [lcp_l (h b List.mem_cons_self)]; rfl
  | a :: s, [], B, B', h, _ => by show lcp (a :: (s ++ 0 :: B)) (0 :: B') = _; rw [lcp_g (h a List.mem_cons_self)]; rfl
  | a :: s, b :: t, B, B', h, h' => by
    show lcp (a :: (s ++ 0 :: B)) (b :: (t ++ 0 :: B')) = _
    rcases Int.lt_trichotomy a b with e | e | e
    · rw [lcp_l e, lcp_l e]; rfl
    · rw [lcp_e e, lcp_e e]; exact lcp_sep B B' (fun x hx => h x (List.mem_cons_of_mem _ hx)) (fun x hx => h' x (List.mem_cons_of_mem _ hx))
    · rw [lcp_g e, lcp_g e]; rfl
/-- two bytes for each -/
def by2 : List Int → List Int
  | [] => []
  | w :: t => w / 256 :: w % 256 :: by2 t
theorem by2_app : ∀ (A B : List Int), by2 (A ++ B) = by2 A ++ by2 B
  | [], _ => rfl
  | w :: t, B => by show w / 256 :: w % 256 :: by2 (t ++ B) = _; rw [by2_app t]; rfl
theorem by2_len : ∀ (A : List Int), (by2 A).length = 2 * A.length
  | [] => rfl
  | w :: t => by show (by2 t).length + 1 + 1 = 2 * (t.length + 1); rw [by2_len t]; omega
theorem lcp_by : ∀ {A B : List Int}, lcp (by2 A) (by2 B) = lcp A B
  | [], [] => rfl
  | [], b :: t => rfl
  | a :: s, [] => rfl
  | a :: s, b :: t => by
    show lcp (a / 256 :: a % 256 :: by2 s) (b / 256 :: b % 256 :: by2 t) = _
    rcases Int.lt_trichotomy a b with e | e | e
    · rw [lcp_l e]
      by_cases q : a / 256 = b / 256
      · rw [lcp_e q, lcp_l (by omega)]
      · rw [lcp_l (by omega)]
    · subst e; rw [lcp_e rfl, lcp_e rfl, lcp_e rfl]; exact lcp_by
    · rw [lcp_g e]
      by_cases q : a / 256 = b / 256
      · rw [lcp_e q, lcp_g (by omega)]
      · rw [lcp_g (by omega)]
/-- levels, one behind the other -/
def lvc (W V : List eL) : Nat → Int
  | 0 => 0
  | n + 1 => if lvc W V n ≠ 0 then lvc W V n else lcp (lev W n) (lev V n)
def wps (W : List eL) : Prop := ∀ w ∈ W, (0 ≤ w.1 ∧ w.1 ≤ 65535) ∧ (0 ≤ w.2.1 ∧ w.2.1 ≤ 65535) ∧ (0 ≤ w.2.2.1 ∧ w.2.2.1 ≤ 65535) ∧ 0 ≤ w.2.2.2 ∧ w.2.2.2 ≤ 65535
theorem wk_bd {w : eL} (h : (0 ≤ w.1 ∧ w.1 ≤ 65535) ∧ (0 ≤ w.2.1 ∧ w.2.1 ≤ 65535) ∧ (0 ≤ w.2.2.1 ∧ w.2.2.1 ≤ 65535) ∧ 0 ≤ w.2.2.2 ∧ w.2.2.2 ≤ 65535) : ∀ k, 0 ≤ wk w k ∧ wk w k ≤ 65535
  | 0 => h.1
  | 1 => h.2.1
  | 2 => h.2.2.1
  | _ + 3 => h.2.2.2
theorem lev_pos {W : List eL} (hW : wps W) {k : Nat} {x : Int} (h : x ∈ lev W k) : 0 < x ∧ x ≤ 65535 := by
  have n0 := lev_ne h
  obtain ⟨w, w1, w2⟩ := List.mem_map.mp (List.mem_filter.mp h).1
  have := wk_bd (hW w w1) k
  omega
/-- the keys' order is the levels' -/
theorem KY_lvc {W V : List eL} (hW : wps W) (hV : wps V) : ∀ n, 1 ≤ n → lcp (KY W n) (KY V n) = lvc W V n
  | 0, h => absurd h (by decide)
  | 1, _ => by
    show lcp (lev W 0) (lev V 0) = if (0 : Int) ≠ 0 then 0 else lcp (lev W 0) (lev V 0)
    rw [if_neg (by decide)]
  | n + 2, _ => by
    have ih := KY_lvc hW hV (n + 1) (by omega)
    have key : ∀ (m : Nat) (B B' : List Int), lcp (KY W (m + 1) ++ 0 :: B) (KY V (m + 1) ++ 0 :: B') = if lcp (KY W (m + 1)) (KY V (m + 1)) = 0 then lcp B B' else lcp (KY W (m + 1)) (KY V (m + 1)) := by
      intro m
      induction m with
      | zero => intro B B'; exact lcp_sep B B' (fun x hx => (lev_pos hW hx).1) (fun x hx => (lev_pos hV hx).1)
      | succ m ihm =>
        intro B B'
        show lcp ((KY W (m + 1) ++ 0 :: lev W (m + 1)) ++ 0 :: B) ((KY V (m + 1) ++ 0 :: lev V (m + 1)) ++ 0 :: B') = if lcp (KY W (m + 1) ++ 0 :: lev W (m + 1)) (KY V (m + 1) ++ 0 :: lev V (m + 1)) = 0 then lcp B B' else lcp (KY W (m + 1) ++ 0 :: lev W (m + 1)) (KY V (m + 1) ++ 0 :: lev V (m + 1))
        rw [List.append_assoc, List.append_assoc, List.cons_append, List.cons_append, ihm, ihm, lcp_sep B B' (fun x hx => (lev_pos hW hx).1) (fun x hx => (lev_pos hV hx).1)]
        by_cases e : lcp (KY W (m + 1)) (KY V (m + 1)) = 0
        · simp only [if_pos e]
        · simp only [if_neg e]
    show lcp (KY W (n + 1) ++ 0 :: lev W (n + 1)) (KY V (n + 1) ++ 0 :: lev V (n + 1)) = if lvc W V (n + 1) ≠ 0 then lvc W V (n + 1) else lcp (lev W (n + 1)) (lev V (n + 1))
    rw [key n, ih]
    by_cases e : lvc W V (n + 1) = 0
    · rw [if_pos e, if_neg (fun w => w e)]
    · rw [if_neg e, if_pos e]

/-! Longs as numbers of 64 bits. -/
def uv (x : Int64) : Nat := x.toBitVec.toNat
theorem uv_lt (x : Int64) : uv x < 18446744073709551616 := x.toBitVec.isLt
theorem uv_inj {x y : Int64} (h : uv x = uv y) : x = y := Int64.toBitVec_inj.mp (BitVec.eq_of_toNat_eq h)
theorem uv_or (x y : Int64) : uv (x ||| y) = uv x ||| uv y := by unfold uv; rw [Int64.toBitVec_or, BitVec.toNat_or]
theorem uv_and (x y : Int64) : uv (x &&& y) = uv x &&& uv y := by unfold uv; rw [Int64.toBitVec_and, BitVec.toNat_and]
theorem uv_of {n : Int} (h0 : 0 ≤ n) (h1 : n < 18446744073709551616) : uv (Int64.ofInt n) = n.toNat := by
  show (BitVec.ofInt 64 n).toNat = n.toNat
  rw [show n = ((n.toNat : Nat) : Int) by omega, BitVec.ofInt_natCast, BitVec.toNat_ofNat, Int.toNat_natCast]
  exact Nat.mod_eq_of_lt (by omega)
theorem i2l_of {n : Int} (h0 : -2147483648 ≤ n) (h1 : n ≤ 2147483647) : (Int32.ofInt n).toInt64 = Int64.ofInt n := by
  apply Int64.toInt_inj.mp
  rw [Int32.toInt_toInt64, dz_toInt_i h0 h1, Int64.toInt_ofInt_of_le (by omega) (by omega)]
theorem uv_i2l {n : Int} (h0 : 0 ≤ n) (h1 : n ≤ 2147483647) : uv ((Int32.ofInt n).toInt64) = n.toNat := by rw [i2l_of (by omega) h1]; exact uv_of h0 (by omega)
theorem uv_toInt {x : Int64} (h : uv x < 9223372036854775808) : x.toInt = (uv x : Int) := by
  show x.toBitVec.toInt = _
  exact BitVec.toInt_eq_toNat_of_lt (by show 2 * uv x < 2 ^ 64; omega)
theorem uv_of_uv (x : Int64) : Int64.ofInt (uv x : Int) = x := uv_inj (by rw [uv_of (by omega) (by have := uv_lt x; omega), Int.toNat_natCast])
theorem uv_shl48 (x : Int64) : uv (x <<< ((Int32.ofInt 48).toInt64 &&& 63)) = uv x * 281474976710656 % 18446744073709551616 := by
  rw [show (Int32.ofInt 48).toInt64 &&& 63 = 48 by decide]
  show (x.toBitVec <<< (48 : Nat)).toNat = _
  rw [BitVec.toNat_shiftLeft, Nat.shiftLeft_eq]; rfl
theorem uv_shl42 (x : Int64) : uv (x <<< ((Int32.ofInt 42).toInt64 &&& 63)) = uv x * 4398046511104 % 18446744073709551616 := by
  rw [show (Int32.ofInt 42).toInt64 &&& 63 = 42 by decide]
  show (x.toBitVec <<< (42 : Nat)).toNat = _
  rw [BitVec.toNat_shiftLeft, Nat.shiftLeft_eq]; rfl
theorem uv_shl32 (x : Int64) : uv (x <<< ((Int32.ofInt 32).toInt64 &&& 63)) = uv x * 4294967296 % 18446744073709551616 := by
  rw [show (Int32.ofInt 32).toInt64 &&& 63 = 32 by decide]
  show (x.toBitVec <<< (32 : Nat)).toNat = _
  rw [BitVec.toNat_shiftLeft, Nat.shiftLeft_eq]; rfl
theorem uv_shl21 (x : Int64) : uv (x <<< ((Int32.ofInt 21).toInt64 &&& 63)) = uv x * 2097152 % 18446744073709551616 := by
  rw [show (Int32.ofInt 21).toInt64 &&& 63 = 21 by decide]
  show (x.toBitVec <<< (21 : Nat)).toNat = _
  rw [BitVec.toNat_shiftLeft, Nat.shiftLeft_eq]; rfl
theorem uv_shl16 (x : Int64) : uv (x <<< ((Int32.ofInt 16).toInt64 &&& 63)) = uv x * 65536 % 18446744073709551616 := by
  rw [show (Int32.ofInt 16).toInt64 &&& 63 = 16 by decide]
  show (x.toBitVec <<< (16 : Nat)).toNat = _
  rw [BitVec.toNat_shiftLeft, Nat.shiftLeft_eq]; rfl
theorem uv_shl0 (x : Int64) : uv (x <<< ((Int32.ofInt 0).toInt64 &&& 63)) = uv x := by
  rw [show (Int32.ofInt 0).toInt64 &&& 63 = 0 by decide]
  show (x.toBitVec <<< (0 : Nat)).toNat = _
  rw [BitVec.shiftLeft_zero]; rfl
/-- a shift to the right -/
def lsr (x : Int64) (k : Int) : Int64 := (x.toUInt64 >>> ((Int32.ofInt k).toInt64.toUInt64 &&& Int64.toUInt64 63)).toInt64
theorem uv_lsr48 (x : Int64) : uv (lsr x 48) = uv x / 281474976710656 := by
  unfold lsr
  rw [show (Int32.ofInt 48).toInt64.toUInt64 &&& Int64.toUInt64 63 = 48 by decide]
  show (x.toBitVec >>> (48 : Nat)).toNat = _
  rw [BitVec.toNat_ushiftRight, Nat.shiftRight_eq_div_pow]; rfl
theorem uv_lsr42 (x : Int64) : uv (lsr x 42) = uv x / 4398046511104 := by
  unfold lsr
  rw [show (Int32.ofInt 42).toInt64.toUInt64 &&& Int64.toUInt64 63 = 42 by decide]
  show (x.toBitVec >>> (42 : Nat)).toNat = _
  rw [BitVec.toNat_ushiftRight, Nat.shiftRight_eq_div_pow]; rfl
theorem uv_lsr32 (x : Int64) : uv (lsr x 32) = uv x / 4294967296 := by
  unfold lsr
  rw [show (Int32.ofInt 32).toInt64.toUInt64 &&& Int64.toUInt64 63 = 32 by decide]
  show (x.toBitVec >>> (32 : Nat)).toNat = _
  rw [BitVec.toNat_ushiftRight, Nat.shiftRight_eq_div_pow]; rfl
theorem uv_lsr21 (x : Int64) : uv (lsr x 21) = uv x / 2097152 := by
  unfold lsr
  rw [show (Int32.ofInt 21).toInt64.toUInt64 &&& Int64.toUInt64 63 = 21 by decide]
  show (x.toBitVec >>> (21 : Nat)).toNat = _
  rw [BitVec.toNat_ushiftRight, Nat.shiftRight_eq_div_pow]; rfl
theorem uv_lsr16 (x : Int64) : uv (lsr x 16) = uv x / 65536 := by
  unfold lsr
  rw [show (Int32.ofInt 16).toInt64.toUInt64 &&& Int64.toUInt64 63 = 16 by decide]
  show (x.toBitVec >>> (16 : Nat)).toNat = _
  rw [BitVec.toNat_ushiftRight, Nat.shiftRight_eq_div_pow]; rfl
theorem uv_lsr8 (x : Int64) : uv (lsr x 8) = uv x / 256 := by
  unfold lsr
  rw [show (Int32.ofInt 8).toInt64.toUInt64 &&& Int64.toUInt64 63 = 8 by decide]
  show (x.toBitVec >>> (8 : Nat)).toNat = _
  rw [BitVec.toNat_ushiftRight, Nat.shiftRight_eq_div_pow]; rfl
theorem uv_lsr0 (x : Int64) : uv (lsr x 0) = uv x := by
  unfold lsr
  rw [show (Int32.ofInt 0).toInt64.toUInt64 &&& Int64.toUInt64 63 = 0 by decide]
  show (x.toBitVec >>> (0 : Nat)).toNat = _
  rw [BitVec.ushiftRight_zero]; rfl
/-- disjoint ones -/
theorem or_add16 {a b : Nat} (h : b < 65536) : a * 65536 ||| b = a * 65536 + b := by
  have := Nat.shiftLeft_add_eq_or_of_lt (i := 16) (by exact h : b < 2 ^ 16) a
  rw [Nat.shiftLeft_eq] at this
  exact this.symm
theorem or_add32 {a b : Nat} (h : b < 4294967296) : a * 4294967296 ||| b = a * 4294967296 + b := by
  have := Nat.shiftLeft_add_eq_or_of_lt (i := 32) (by exact h : b < 2 ^ 32) a
  rw [Nat.shiftLeft_eq] at this
  exact this.symm
theorem or_add48 {a b : Nat} (h : b < 281474976710656) : a * 281474976710656 ||| b = a * 281474976710656 + b := by
  have := Nat.shiftLeft_add_eq_or_of_lt (i := 48) (by exact h : b < 2 ^ 48) a
  rw [Nat.shiftLeft_eq] at this
  exact this.symm
theorem or_add21 {a b : Nat} (h : b < 2097152) : a * 2097152 ||| b = a * 2097152 + b := by
  have := Nat.shiftLeft_add_eq_or_of_lt (i := 21) (by exact h : b < 2 ^ 21) a
  rw [Nat.shiftLeft_eq] at this
  exact this.symm
theorem or_add42 {a b : Nat} (h : b < 4398046511104) : a * 4398046511104 ||| b = a * 4398046511104 + b := by
  have := Nat.shiftLeft_add_eq_or_of_lt (i := 42) (by exact h : b < 2 ^ 42) a
  rw [Nat.shiftLeft_eq] at this
  exact this.symm
theorem and_low16 (a : Nat) : a &&& 65535 = a % 65536 := Nat.and_two_pow_sub_one_eq_mod a 16
/-- all but the lowest 16 bits -/
theorem and_high16 {a : Nat} (h : a < 18446744073709551616) : a &&& 18446744073709486080 = a / 65536 * 65536 := by
  apply Nat.eq_of_testBit_eq
  intro i
  rw [Nat.testBit_and, show a / 65536 * 65536 = (a >>> 16) <<< 16 by rw [Nat.shiftLeft_eq, Nat.shiftRight_eq_div_pow], Nat.testBit_shiftLeft, Nat.testBit_shiftRight, show (18446744073709486080 : Nat) = (2 ^ 48 - 1) <<< 16 from rfl, Nat.testBit_shiftLeft, Nat.testBit_two_pow_sub_one]
  by_cases e : 16 ≤ i
  · rw [decide_eq_true (show i ≥ 16 from e), show 16 + (i - 16) = i by omega]
    by_cases e2 : i - 16 < 48
    · rw [decide_eq_true e2]; cases a.testBit i <;> rfl
    · have : a.testBit i = false := Nat.testBit_lt_two_pow (Nat.lt_of_lt_of_le h (Nat.pow_le_pow_right (n := 2) (Nat.zero_lt_succ 1) (show 64 ≤ i by omega) : 2 ^ 64 ≤ 2 ^ i))
      rw [this]; rfl
  · rw [decide_eq_false (show ¬ i ≥ 16 from e)]; cases a.testBit i <;> rfl
/-- an element as the class keeps it -/
def eP (e : eL) : Int := e.2.1 * 281474976710656 + e.2.2.1 * 4294967296 + e.2.2.2 * 65536 + e.1
def eok (e : eL) : Prop := (0 ≤ e.1 ∧ e.1 ≤ 1) ∧ (0 ≤ e.2.1 ∧ e.2.1 ≤ 65535) ∧ (0 ≤ e.2.2.1 ∧ e.2.2.1 ≤ 65535) ∧ 0 ≤ e.2.2.2 ∧ e.2.2.2 ≤ 65535
theorem eP_bd {e : eL} (h : eok e) : 0 ≤ eP e ∧ eP e < 18446744073709551616 := by unfold eP; obtain ⟨h1, h2, h3, h4⟩ := h; omega
/-- four weights in one -/
def wP (w : eL) : Int := w.1 * 281474976710656 + w.2.1 * 4294967296 + w.2.2.1 * 65536 + w.2.2.2
def wok (w : eL) : Prop := (0 ≤ w.1 ∧ w.1 ≤ 65535) ∧ (0 ≤ w.2.1 ∧ w.2.1 ≤ 65535) ∧ (0 ≤ w.2.2.1 ∧ w.2.2.1 ≤ 65535) ∧ 0 ≤ w.2.2.2 ∧ w.2.2.2 ≤ 65535
theorem wP_bd {w : eL} (h : wok w) : 0 ≤ wP w ∧ wP w < 18446744073709551616 := by unfold wP; obtain ⟨h1, h2, h3, h4⟩ := h; omega
theorem wt1_ok {sh b : Bool} {e : eL} (h : eok e) : wok (wt1 sh b e) := by
  obtain ⟨h1, h2, h3, h4⟩ := h
  have k0 : (0 : Int) ≤ 0 := by decide
  have k5 : (0 : Int) ≤ 65535 := by decide
  have k6 : (65535 : Int) ≤ 65535 := by decide
  unfold wt1
  cases sh
  · rw [if_neg (by decide)]; exact ⟨h2, h3, h4, k0, k5⟩
  · rw [if_pos rfl]
    by_cases q : wtb true b e = true
    · rw [if_pos q]; exact ⟨⟨k0, k5⟩, ⟨k0, k5⟩, ⟨k0, k5⟩, h2⟩
    · rw [if_neg q]
      by_cases z : e.2.1 = 0 ∧ e.2.2.1 = 0 ∧ e.2.2.2 = 0
      · rw [if_pos z]; exact ⟨⟨k0, k5⟩, ⟨k0, k5⟩, ⟨k0, k5⟩, k0, k5⟩
      · rw [if_neg z]; exact ⟨h2, h3, h4, k5, k6⟩
theorem wts_ok {sh : Bool} : ∀ {l : List eL} (b : Bool), (∀ e ∈ l, eok e) → wps (wts sh b l)
  | [], _, _ => fun w hw => by cases hw
  | e :: t, b, h => fun w hw => by
    rcases List.mem_cons.mp hw with q | q
    · rw [q]; exact wt1_ok (h e List.mem_cons_self)
    · exact wts_ok (wtb sh b e) (fun x hx => h x (List.mem_cons_of_mem _ hx)) w q

/-! COLLATION: what the class keeps of entries. -/
/-- a row of points in one number -/
def pkN : List Int → Int
  | [a] => (a + 1) * 4398046511104
  | [a, b] => (a + 1) * 4398046511104 + (b + 1) * 2097152
  | [a, b, c] => (a + 1) * 4398046511104 + (b + 1) * 2097152 + (c + 1)
  | _ => 0
def rowk (row : List Int) : Prop := (1 ≤ row.length ∧ row.length ≤ 3) ∧ ptl row
theorem rowk_cs {row : List Int} (h : rowk row) : (∃ a, row = [a] ∧ 0 ≤ a ∧ a ≤ 1114111) ∨ (∃ a b, row = [a, b] ∧ (0 ≤ a ∧ a ≤ 1114111) ∧ 0 ≤ b ∧ b ≤ 1114111) ∨ ∃ a b c, row = [a, b, c] ∧ (0 ≤ a ∧ a ≤ 1114111) ∧ (0 ≤ b ∧ b ≤ 1114111) ∧ 0 ≤ c ∧ c ≤ 1114111 := by
  obtain ⟨⟨h1, h2⟩, hp⟩ := h
  match row, h1, h2, hp with
  | [a], _, _, hp => exact Or.inl ⟨a, rfl, hp a List.mem_cons_self⟩
  | [a, b], _, _, hp => exact Or.inr (Or.inl ⟨a, b, rfl, hp a List.mem_cons_self, hp b (List.mem_cons_of_mem _ List.mem_cons_self)⟩)
  | [a, b, c], _, _, hp => exact Or.inr (Or.inr ⟨a, b, c, rfl, hp a List.mem_cons_self, hp b (List.mem_cons_of_mem _ List.mem_cons_self), hp c (List.mem_cons_of_mem _ (List.mem_cons_of_mem _ List.mem_cons_self))⟩)
  | [], h, _, _ => exact absurd h (by decide)
  | _ :: _ :: _ :: _ :: _, _, h, _ => exact absurd h (by simp only [List.length_cons]; omega)
theorem pkN_bd {row : List Int} (h : rowk row) : 0 < pkN row ∧ pkN row < 9223372036854775808 := by
  rcases rowk_cs h with ⟨a, e, h1⟩ | ⟨a, b, e, h1, h2⟩ | ⟨a, b, c, e, h1, h2, h3⟩
  · subst e; show 0 < (a + 1) * 4398046511104 ∧ (a + 1) * 4398046511104 < _; omega
  · subst e; show 0 < (a + 1) * 4398046511104 + (b + 1) * 2097152 ∧ (a + 1) * 4398046511104 + (b + 1) * 2097152 < _; omega
  · subst e; show 0 < (a + 1) * 4398046511104 + (b + 1) * 2097152 + (c + 1) ∧ (a + 1) * 4398046511104 + (b + 1) * 2097152 + (c + 1) < _; omega
theorem pkN_inj {r s : List Int} (hr : rowk r) (hs : rowk s) (e : pkN r = pkN s) : r = s := by
  rcases rowk_cs hr with ⟨a, e1, h1⟩ | ⟨a, b, e1, h1, h2⟩ | ⟨a, b, c, e1, h1, h2, h3⟩ <;> rcases rowk_cs hs with ⟨x, e2, g1⟩ | ⟨x, y, e2, g1, g2⟩ | ⟨x, y, z, e2, g1, g2, g3⟩
  · subst e1; subst e2
    have e : (a + 1) * 4398046511104 = (x + 1) * 4398046511104 := e
    rw [show a = x by omega]
  · subst e1; subst e2
    have e : (a + 1) * 4398046511104 = (x + 1) * 4398046511104 + (y + 1) * 2097152 := e
    omega
  · subst e1; subst e2
    have e : (a + 1) * 4398046511104 = (x + 1) * 4398046511104 + (y + 1) * 2097152 + (z + 1) := e
    omega
  · subst e1; subst e2
    have e : (a + 1) * 4398046511104 + (b + 1) * 2097152 = (x + 1) * 4398046511104 := e
    omega
  · subst e1; subst e2
    have e : (a + 1) * 4398046511104 + (b + 1) * 2097152 = (x + 1) * 4398046511104 + (y + 1) * 2097152 := e
    rw [show a = x by omega, show b = y by omega]
  · subst e1; subst e2
    have e : (a + 1) * 4398046511104 + (b + 1) * 2097152 = (x + 1) * 4398046511104 + (y + 1) * 2097152 + (z + 1) := e
    omega
  · subst e1; subst e2
    have e : (a + 1) * 4398046511104 + (b + 1) * 2097152 + (c + 1) = (x + 1) * 4398046511104 := e
    omega
  · subst e1; subst e2
    have e : (a + 1) * 4398046511104 + (b + 1) * 2097152 + (c + 1) = (x + 1) * 4398046511104 + (y + 1) * 2097152 := e
    omega
  · subst e1; subst e2
    have e : (a + 1) * 4398046511104 + (b + 1) * 2097152 + (c + 1) = (x + 1) * 4398046511104 + (y + 1) * 2097152 + (z + 1) := e
    rw [show a = x by omega, show b = y by omega, show c = z by omega]
theorem rowk_app {row : List Int} {p : Int} (h : ptl row) (hl : row.length ≤ 2) (hp : 0 ≤ p ∧ p ≤ 1114111) : rowk (row ++ [p]) := ⟨by rw [List.length_append, List.length_singleton]; omega, ptl_app h (fun v hv => by rw [List.mem_singleton.mp hv]; exact hp)⟩
/-- a point more -/
theorem pk_at {row : List Int} {p : Int} {x : Int64} (hl : row.length ≤ 2) (hr : ptl row) (hp : 0 ≤ p ∧ p ≤ 1114111) (hx : (uv x : Int) = pkN row) : (uv (x ||| (Int32.ofInt (p + 1)).toInt64 <<< ((Int32.ofInt (21 * (2 - (row.length : Int)))).toInt64 &&& 63)) : Int) = pkN (row ++ [p]) := by
  match row, hl, hr, hx with
  | [], _, _, hx =>
    have hx : (uv x : Int) = 0 := hx
    rw [show (21 * (2 - (([] : List Int).length : Int)) : Int) = 42 from rfl, uv_or, uv_shl42, uv_i2l (by omega) (by omega), show uv x = 0 by omega, Nat.zero_or]
    show _ = (p + 1) * 4398046511104
    omega
  | [a], _, hr, hx =>
    have ha := hr a List.mem_cons_self
    have hx : (uv x : Int) = (a + 1) * 4398046511104 := hx
    rw [show (21 * (2 - (([a] : List Int).length : Int)) : Int) = 21 from rfl, uv_or, uv_shl21, uv_i2l (by omega) (by omega), show uv x = (a + 1).toNat * 4398046511104 by omega, or_add42 (by omega)]
    show _ = (a + 1) * 4398046511104 + (p + 1) * 2097152
    omega
  | [a, b], _, hr, hx =>
    have ha := hr a List.mem_cons_self
    have hb := hr b (List.mem_cons_of_mem _ List.mem_cons_self)
    have hx : (uv x : Int) = (a + 1) * 4398046511104 + (b + 1) * 2097152 := hx
    rw [show (21 * (2 - (([a, b] : List Int).length : Int)) : Int) = 0 from rfl, uv_or, uv_shl0, uv_i2l (by omega) (by omega), show uv x = ((a + 1).toNat * 2097152 + (b + 1).toNat) * 2097152 by omega, or_add21 (by omega)]
    show _ = (a + 1) * 4398046511104 + (b + 1) * 2097152 + (p + 1)
    omega
  | _ :: _ :: _ :: _, h, _, _ => exact absurd h (by simp only [List.length_cons]; omega)
/-- an entry's cells -/
def ent (τ : Nat → Nat) (h : cz_H) (v : Int) (a : List Int × List eL) : Prop := ∃ z w : Nat, v = (z : Int) + 1 ∧ τ z = 7 ∧ qz_I h z 0 = (a.1.length : Int) ∧ qz_I h z 1 = (w : Int) + 1 ∧ τ w = 9 ∧ qz_N h w = (a.2.length : Int) ∧ (∀ (j : Nat) e, a.2[j]? = some e → qz_I h w j = (Int64.ofInt (eP e)).toInt) ∧ (∀ e ∈ a.2, eok e) ∧ 1 ≤ a.2.length ∧ a.2.length ≤ 18
theorem ent.tr {τ τ1 : Nat → Nat} {h g : cz_H} {v : Int} {a : List Int × List eL} (x : ent τ h v a) (e : ∀ q, τ q = 7 ∨ τ q = 9 → τ1 q = τ q ∧ g.2.2 q = h.2.2 q) : ent τ1 g v a := by
  obtain ⟨z, w, x1, x2, x3, x4, x5, x6, x7, x8⟩ := x
  obtain ⟨e1, e2⟩ := e z (Or.inl x2)
  obtain ⟨f1, f2⟩ := e w (Or.inr x5)
  exact ⟨z, w, x1, e1.trans x2, by unfold qz_I; rw [e2]; exact x3, by unfold qz_I; rw [e2]; exact x4, f1.trans x5, by unfold qz_N; rw [f2]; exact x6, fun j y hj => by unfold qz_I; rw [f2]; exact x7 j y hj, x8⟩
/-- all entries, in their order -/
def cEr (τ : Nat → Nat) (h : cz_H) (LK : List Int → Option (List eL)) (R : List (List Int × List eL)) : Prop := (R.length : Int) = qz_I h 202 4 ∧ (∀ (i : Nat) a, R[i]? = some a → rowk a.1 ∧ qz_I h 204 i = pkN a.1 ∧ ent τ h (qz_I h 205 i) a ∧ LK a.1 = some a.2) ∧ (∀ (i j : Nat) a b, i < j → R[i]? = some a → R[j]? = some b → pkN a.1 < pkN b.1) ∧ ∀ row e, LK row = some e → ∃ i : Nat, R[i]? = some (row, e)
theorem cEr.tr {τ τ1 : Nat → Nat} {h g : cz_H} {LK : List Int → Option (List eL)} {R : List (List Int × List eL)} (c : cEr τ h LK R) (e4 : qz_I g 202 4 = qz_I h 202 4) (c4 : g.2.2 204 = h.2.2 204) (c5 : g.2.2 205 = h.2.2 205) (e : ∀ q, τ q = 7 ∨ τ q = 9 → τ1 q = τ q ∧ g.2.2 q = h.2.2 q) : cEr τ1 g LK R := by
  obtain ⟨c1, c2, c3⟩ := c
  refine ⟨c1.trans e4.symm, fun i a ha => ?_, c3⟩
  obtain ⟨d1, d2, d3, d4⟩ := c2 i a ha
  exact ⟨d1, by unfold qz_I; rw [c4]; exact d2, by rw [show qz_I g 205 i = qz_I h 205 i by unfold qz_I; rw [c5]]; exact d3.tr e, d4⟩
theorem cEr.row {τ : Nat → Nat} {h : cz_H} {LK : List Int → Option (List eL)} {R : List (List Int × List eL)} (c : cEr τ h LK R) {row : List Int} {e : List eL} (hl : LK row = some e) : rowk row ∧ (∀ x ∈ e, eok x) ∧ 1 ≤ e.length ∧ e.length ≤ 18 := by
  obtain ⟨i, hi⟩ := c.2.2.2 row e hl
  obtain ⟨d1, -, d3, -⟩ := c.2.1 i _ hi
  obtain ⟨z, w, -, -, -, -, -, -, -, x8⟩ := d3
  exact ⟨d1, x8⟩
/-- the order of places is the order of rows -/
theorem cEr.ord {τ : Nat → Nat} {h : cz_H} {LK : List Int → Option (List eL)} {R : List (List Int × List eL)} (c : cEr τ h LK R) {i j : Nat} {a b : List Int × List eL} (ha : R[i]? = some a) (hb : R[j]? = some b) (w : pkN a.1 < pkN b.1) : i < j := by
  rcases Nat.lt_trichotomy i j with e | e | e
  · exact e
  · subst e; rw [ha] at hb; cases hb; omega
  · have := c.2.2.1 j i b a e hb ha; omega
/-- nothing longer -/
theorem cEr.stop {τ : Nat → Nat} {h : cz_H} {LK : List Int → Option (List eL)} {R : List (List Int × List eL)} (c : cEr τ h LK R) {i : Nat} {row : List Int} {e : List eL} (hi : R[i]? = some (row, e)) (hs : ¬ row.length < 3 ∨ R.length ≤ i + 1 ∨ ∃ b, R[i + 1]? = some b ∧ ((row.length = 1 ∧ pkN row / 4398046511104 ≠ pkN b.1 / 4398046511104) ∨ (row.length = 2 ∧ pkN row / 2097152 ≠ pkN b.1 / 2097152))) : ∀ y, ¬ row.length < 3 ∨ LK (row ++ [y]) = none := by
  intro y
  by_cases h3 : row.length < 3
  · refine Or.inr ?_
    cases hl : LK (row ++ [y]) with
    | none => rfl
    | some f =>
      exfalso
      have rk := (c.row hl).1
      obtain ⟨j, hj⟩ := c.2.2.2 _ _ hl
      have rk0 := (c.2.1 i _ hi).1
      have q : pkN row < pkN (row ++ [y]) ∧ (row.length = 1 → pkN row / 4398046511104 = pkN (row ++ [y]) / 4398046511104) ∧ (row.length = 2 → pkN row / 2097152 = pkN (row ++ [y]) / 2097152) := by
        have hy := rk.2 y (List.mem_append_right _ List.mem_cons_self)
        rcases rowk_cs rk0 with ⟨a, e1, h1⟩ | ⟨a, b, e1, h1, h2⟩ | ⟨a, b, c, e1, h1, h2, h4⟩
        · subst e1
          show (a + 1) * 4398046511104 < (a + 1) * 4398046511104 + (y + 1) * 2097152 ∧ (_ → (a + 1) * 4398046511104 / 4398046511104 = ((a + 1) * 4398046511104 + (y + 1) * 2097152) / 4398046511104) ∧ (([a] : List Int).length = 2 → _)
          exact ⟨by omega, fun _ => by omega, fun w => by have w : (1 : Nat) = 2 := w; omega⟩
        · subst e1
          show (a + 1) * 4398046511104 + (b + 1) * 2097152 < (a + 1) * 4398046511104 + (b + 1) * 2097152 + (y + 1) ∧ (([a, b] : List Int).length = 1 → _) ∧ (_ → ((a + 1) * 4398046511104 + (b + 1) * 2097152) / 2097152 = ((a + 1) * 4398046511104 + (b + 1) * 2097152 + (y + 1)) / 2097152)
          exact ⟨by omega, fun w => (by have w : (2 : Nat) = 1 := w; omega), fun _ => by omega⟩
        · subst e1; have h3 : (3 : Nat) < 3 := h3; omega
      have ij := c.ord hi hj q.1
      rcases hs with hs | hs | ⟨b, hb, hs⟩
      · exact hs h3
      · have := (List.getElem?_eq_some_iff.mp hj).1; omega
      · have lb : pkN row < pkN b.1 := c.2.2.1 i (i + 1) _ b (by omega) hi hb
        have ub : pkN b.1 ≤ pkN (row ++ [y]) := by
          by_cases w : i + 1 = j
          · subst w; rw [hb] at hj; cases hj; exact Int.le_refl _
          · have := c.2.2.1 (i + 1) j b _ (by omega) hb hj; exact Int.le_of_lt this
        rcases hs with ⟨s1, s2⟩ | ⟨s1, s2⟩
        · have := q.2.1 s1; omega
        · have := q.2.2 s1; omega
  · exact Or.inl h3
theorem i64lt {A B : Int} {x : Int64} (a0 : 0 ≤ A) (a1 : A < 9223372036854775808) (hx : (uv x : Int) = B) (b1 : B < 9223372036854775808) : Int64.ofInt A < x ↔ A < B := by
  rw [Int64.lt_iff_toInt_lt, Int64.toInt_ofInt_of_le (by omega) (by omega), uv_toInt (by omega), hx]
theorem i64eq {A B : Int} {x : Int64} (a0 : 0 ≤ A) (a1 : A < 9223372036854775808) (hx : (uv x : Int) = B) : Int64.ofInt A = x ↔ A = B := by
  have e := uv_of a0 (show A < 18446744073709551616 by omega)
  refine ⟨fun w => ?_, fun w => uv_inj ?_⟩
  · rw [w] at e; omega
  · rw [e]; omega
theorem cEr.nofd {τ : Nat → Nat} {h : cz_H} {LK : List Int → Option (List eL)} {R : List (List Int × List eL)} (c : cEr τ h LK R) {row : List Int} {x : Int64} {v : Nat} (rk : rowk row) (hx : (uv x : Int) = pkN row) (v1 : v ≤ R.length) (va : v = 0 ∨ Int64.ofInt (qz_I h 204 (v - 1)) < x) (vb : v = R.length ∨ ¬ Int64.ofInt (qz_I h 204 v) < x) (ne : v = R.length ∨ Int64.ofInt (qz_I h 204 v) ≠ x) : LK row = none := by
  have bx := pkN_bd rk
  have at9 : ∀ j, j < R.length → ∃ a, R[j]? = some a ∧ (0 ≤ pkN a.1 ∧ pkN a.1 < 9223372036854775808) ∧ qz_I h 204 j = pkN a.1 := fun j hj => by
    have ha := List.getElem?_eq_getElem hj
    obtain ⟨d1, d2, -⟩ := c.2.1 j _ ha
    have := pkN_bd d1
    exact ⟨_, ha, ⟨by omega, by omega⟩, d2⟩
  cases hl : LK row with
  | none => rfl
  | some e =>
    exfalso
    obtain ⟨j, hj⟩ := c.2.2.2 _ _ hl
    have hj1 := (List.getElem?_eq_some_iff.mp hj).1
    rcases Nat.lt_trichotomy j v with w | w | w
    · obtain ⟨a, a1, a2, a3⟩ := at9 (v - 1) (by omega)
      have q := va.resolve_left (by omega)
      rw [a3] at q
      have q := (i64lt a2.1 a2.2 hx bx.2).mp q
      by_cases e9 : j = v - 1
      · subst e9; rw [a1] at hj; cases hj; have q : pkN row < pkN row := q; omega
      · have q2 : pkN row < pkN a.1 := c.2.2.1 j (v - 1) _ a (by omega) hj a1; omega
    · subst w
      obtain ⟨d1, d2, -⟩ := c.2.1 j _ hj
      have q := ne.resolve_left (by omega)
      rw [d2] at q
      exact q ((i64eq (by have := pkN_bd d1; omega) (by have := pkN_bd d1; omega) hx).mpr rfl)
    · obtain ⟨a, a1, a2, a3⟩ := at9 v (by omega)
      have q := vb.resolve_left (by omega)
      rw [a3] at q
      have := c.2.2.1 v j a _ w a1 hj
      exact q ((i64lt a2.1 a2.2 hx bx.2).mpr this)
theorem cEr.isfd {τ : Nat → Nat} {h : cz_H} {LK : List Int → Option (List eL)} {R : List (List Int × List eL)} (c : cEr τ h LK R) {row : List Int} {x : Int64} {v : Nat} (rk : rowk row) (hx : (uv x : Int) = pkN row) (v1 : v < R.length) (eq : Int64.ofInt (qz_I h 204 v) = x) : ∃ e, R[v]? = some (row, e) ∧ LK row = some e := by
  have ha := List.getElem?_eq_getElem v1
  obtain ⟨d1, d2, -, d4⟩ := c.2.1 v _ ha
  have b := pkN_bd d1
  rw [d2] at eq
  have e := (i64eq (by omega) (by omega) hx).mp eq
  have er := pkN_inj d1 rk e
  refine ⟨R[v].2, ?_, by rw [← er]; exact d4⟩
  rw [ha, ← er]

/-! COLLATION: elements and weights in longs. -/
section KLong
variable {e : eL} {w : eL} {sh b : Bool}
theorem uv_m16 : uv (Int64.ofInt (-65536)) = 18446744073709486080 := by decide
theorem uv_eP (h : eok e) : uv (Int64.ofInt (eP e)) = (eP e).toNat := uv_of (eP_bd h).1 (eP_bd h).2
theorem el_48 (h : eok e) : lsr (Int64.ofInt (eP e)) 48 = Int64.ofInt e.2.1 := by
  apply uv_inj
  rw [uv_lsr48, uv_eP h]
  obtain ⟨h1, h2, h3, h4⟩ := h
  rw [uv_of h2.1 (by omega)]
  unfold eP; omega
theorem el_w (h : eok e) : Int64.ofInt (eP e) &&& Int64.ofInt (-65536) = Int64.ofInt (eP e - e.1) := by
  apply uv_inj
  have bd := eP_bd h
  rw [uv_and, uv_eP h, uv_m16, and_high16 (by omega)]
  obtain ⟨h1, h2, h3, h4⟩ := h
  rw [uv_of (by unfold eP at *; omega) (by omega)]
  unfold eP at *; omega
theorem el_1 (h : eok e) : Int64.ofInt (eP e) &&& Int64.ofInt ((1 : Nat) : Int) = Int64.ofInt e.1 := by
  apply uv_inj
  rw [uv_and, uv_eP h, show uv (Int64.ofInt ((1 : Nat) : Int)) = 1 by decide, Nat.and_one_is_mod]
  obtain ⟨h1, h2, h3, h4⟩ := h
  rw [uv_of h1.1 (by omega)]
  unfold eP; omega
theorem el_m (h : eok e) : Int64.ofInt (eP e - e.1) ||| Int64.ofInt 65535 = Int64.ofInt (eP e - e.1 + 65535) := by
  apply uv_inj
  have bd := eP_bd h
  obtain ⟨h1, h2, h3, h4⟩ := h
  have e0 : eP e - e.1 = (e.2.1 * 4294967296 + e.2.2.1 * 65536 + e.2.2.2) * 65536 := by unfold eP; omega
  rw [uv_or, uv_of (by omega) (by omega), show uv (Int64.ofInt 65535) = 65535 by decide, uv_of (by omega) (by omega), e0, show ((e.2.1 * 4294967296 + e.2.2.1 * 65536 + e.2.2.2) * 65536).toNat = (e.2.1 * 4294967296 + e.2.2.1 * 65536 + e.2.2.2).toNat * 65536 by omega, or_add16 (by decide)]
  omega
theorem of_z {a : Int} (h0 : 0 ≤ a) (h1 : a < 18446744073709551616) : (lg_cmp (Int64.ofInt a) (Int64.ofInt ((0 : Nat) : Int))).toInt = 0 ↔ a = 0 := by
  rw [nz_ceq]
  refine ⟨fun w => ?_, fun w => by rw [w]; rfl⟩
  have := congrArg uv w
  rw [uv_of h0 h1, show uv (Int64.ofInt ((0 : Nat) : Int)) = 0 by decide] at this
  omega
theorem el_0 (h : eok e) : Int64.ofInt (eP e) &&& Int64.ofInt (-65536) = Int64.ofInt (wP (wt1 false b e)) := by
  rw [el_w h]
  congr 1
  show eP e - e.1 = e.2.1 * 281474976710656 + e.2.2.1 * 4294967296 + e.2.2.2 * 65536 + 0
  unfold eP; omega
theorem sh_A (h : eok e) (p0 : e.2.1 ≠ 0) (v1 : e.1 = 1) : wtb true b e = true ∧ Int64.ofInt e.2.1 = Int64.ofInt (wP (wt1 true b e)) := by
  have q : wtb true b e = true := by unfold wtb; rw [if_pos rfl, if_neg p0]; exact decide_eq_true v1
  refine ⟨q, ?_⟩
  unfold wt1
  rw [if_pos rfl, if_pos q]
  congr 1
  show e.2.1 = 0 * 281474976710656 + 0 * 4294967296 + 0 * 65536 + e.2.1
  omega
theorem sh_B (h : eok e) (p0 : e.2.1 ≠ 0) (v1 : e.1 ≠ 1) : wtb true b e = false ∧ Int64.ofInt (eP e - e.1 + 65535) = Int64.ofInt (wP (wt1 true b e)) := by
  have q : wtb true b e = false := by unfold wtb; rw [if_pos rfl, if_neg p0]; exact decide_eq_false v1
  refine ⟨q, ?_⟩
  unfold wt1
  rw [if_pos rfl, q, if_neg (by decide), if_neg (fun z => p0 z.1)]
  congr 1
  show eP e - e.1 + 65535 = e.2.1 * 281474976710656 + e.2.2.1 * 4294967296 + e.2.2.2 * 65536 + 65535
  unfold eP; omega
theorem sh_C (p0 : e.2.1 = 0) (hb : b = true) : wtb true b e = true ∧ Int64.ofInt ((0 : Nat) : Int) = Int64.ofInt (wP (wt1 true b e)) := by
  have q : wtb true b e = true := by unfold wtb; rw [if_pos rfl, if_pos p0]; exact hb
  refine ⟨q, ?_⟩
  unfold wt1
  rw [if_pos rfl, if_pos q]
  congr 1
  show ((0 : Nat) : Int) = 0 * 281474976710656 + 0 * 4294967296 + 0 * 65536 + e.2.1
  omega
theorem sh_D (h : eok e) (p0 : e.2.1 = 0) (hb : b = false) (z : eP e - e.1 = 0) : wtb true b e = false ∧ Int64.ofInt ((0 : Nat) : Int) = Int64.ofInt (wP (wt1 true b e)) := by
  have q : wtb true b e = false := by unfold wtb; rw [if_pos rfl, if_pos p0]; exact hb
  obtain ⟨h1, h2, h3, h4⟩ := h
  refine ⟨q, ?_⟩
  unfold wt1
  rw [if_pos rfl, q, if_neg (by decide), if_pos (by unfold eP at z; omega)]
  rfl
theorem sh_E (h : eok e) (p0 : e.2.1 = 0) (hb : b = false) (z : eP e - e.1 ≠ 0) : wtb true b e = false ∧ Int64.ofInt (eP e - e.1 + 65535) = Int64.ofInt (wP (wt1 true b e)) := by
  have q : wtb true b e = false := by unfold wtb; rw [if_pos rfl, if_pos p0]; exact hb
  obtain ⟨h1, h2, h3, h4⟩ := h
  refine ⟨q, ?_⟩
  unfold wt1
  rw [if_pos rfl, q, if_neg (by decide), if_neg (fun y => z (by unfold eP; omega))]
  congr 1
  show eP e - e.1 + 65535 = e.2.1 * 281474976710656 + e.2.2.1 * 4294967296 + e.2.2.2 * 65536 + 65535
  unfold eP; omega
/-- a weight out of four -/
theorem w_at (h : wok w) {k : Int} (k0 : 0 ≤ k) (k3 : k ≤ 3) : lsr (Int64.ofInt (wP w)) (16 * (3 - k)) &&& Int64.ofInt 65535 = Int64.ofInt (wk w k.toNat) := by
  apply uv_inj
  have bd := wP_bd h
  have e0 := uv_of bd.1 bd.2
  rw [uv_and, show uv (Int64.ofInt 65535) = 65535 by decide, and_low16]
  obtain ⟨h1, h2, h3, h4⟩ := h
  have hk : k = 0 ∨ k = 1 ∨ k = 2 ∨ k = 3 := by omega
  rcases hk with e | e | e | e
  · subst e
    rw [show (16 * (3 - 0) : Int) = 48 from rfl, uv_lsr48, e0]
    show _ = uv (Int64.ofInt w.1)
    rw [uv_of h1.1 (by omega)]; unfold wP; omega
  · subst e
    rw [show (16 * (3 - 1) : Int) = 32 from rfl, uv_lsr32, e0]
    show _ = uv (Int64.ofInt w.2.1)
    rw [uv_of h2.1 (by omega)]; unfold wP; omega
  · subst e
    rw [show (16 * (3 - 2) : Int) = 16 from rfl, uv_lsr16, e0]
    show _ = uv (Int64.ofInt w.2.2.1)
    rw [uv_of h3.1 (by omega)]; unfold wP; omega
  · subst e
    rw [show (16 * (3 - 3) : Int) = 0 from rfl, uv_lsr0, e0]
    show _ = uv (Int64.ofInt w.2.2.2)
    rw [uv_of h4.1 (by omega)]; unfold wP; omega
/-- the elements of what no LINE tells -/
theorem im_1 {u p : Int} (u0 : 0 ≤ u) (u1 : u ≤ 65000) (p0 : 0 ≤ p) (p1 : p ≤ 1114111) : ((Int32.ofInt (u + p / 32768)).toInt64 <<< ((Int32.ofInt 48).toInt64 &&& 63) ||| Int64.ofInt 137438953472) ||| Int64.ofInt 131072 = Int64.ofInt (eP (0, u + p / 32768, 32, 2)) := by
  apply uv_inj
  have e2 : eP (0, u + p / 32768, 32, 2) = (u + p / 32768) * 281474976710656 + 32 * 4294967296 + 2 * 65536 + 0 := rfl
  rw [uv_or, uv_or, uv_shl48, uv_i2l (by omega) (by omega), show uv (Int64.ofInt 137438953472) = 137438953472 by decide, show uv (Int64.ofInt 131072) = 131072 by decide, uv_of (by omega) (by omega), e2, Nat.mod_eq_of_lt (by omega), or_add48 (by decide), show (u + p / 32768).toNat * 281474976710656 + 137438953472 = ((u + p / 32768).toNat * 65536 + 32) * 4294967296 by omega, or_add32 (by decide)]
  omega
end KLong

/-! COLLATION: the class, small methods. (Written by wip/p2/py/pvk1.py.) -/
def bz (b : Bool) (v : Int) : Prop := (b = true ∧ v = 1) ∨ (b = false ∧ v = 0)
/-- where a Collation's own arrays lie -/
def clr (h : cz_H) (r : Nat) : Prop := qz_I h r 2 = (r : Int) + 2 ∧ qz_I h r 3 = (r : Int) + 4 ∧ qz_I h r 4 = (r : Int) + 5
/-- the items put down so far -/
def cts (h : cz_H) (r : Nat) (sh b : Bool) (W : List eL) : Prop := (qz_I h r 5 = (W.length : Int) ∧ bz sh (qz_I h r 6) ∧ bz b (qz_I h r 7)) ∧ ∀ (j : Nat) w, W[j]? = some w → qz_I h (r + 4) j = (Int64.ofInt (wP w)).toInt
section EzKs
variable {d : Nat} {h : cz_H} {τ : Nat → Nat} {P Q : cz_F → Prop} {LK : List Int → Option (List eL)} {R : List (List Int × List eL)} {row : List Int} {el : eL} {W : List eL} {sh b : Bool}
theorem rd_cpackAt {x : Int64} {p : Int} (hl : row.length ≤ 2) (hr : ptl row) (hp : 0 ≤ p ∧ p ≤ 1114111) (hx : (uv x : Int) = pkN row) (k : ∀ y : Int64, (uv y : Int) = pkN (row ++ [p]) → Q (.inl (some (.inr (.inl y))), h)) : ez_W d cm_101 0 [(0, .inr (.inl (x))), (2, .inl ((row.length : Int))), (3, .inl (p))] [] h Q := by
  refine ez_go (n := 12) (pc' := 13) (L' := [(0, .inr (.inl (x))), (2, .inl ((row.length : Int))), (3, .inl (p))]) (st' := [.inr (.inl ((x) ||| (((Int32.ofInt ((p) + (1))).toInt64) <<< ((Int32.ofInt ((21) * ((2) - ((row.length : Int))))).toInt64 &&& 63))))]) rfl ?_
  exact ez_retL rfl rfl (k _ (pk_at hl hr hp hx))

theorem rd_entryIndex {x : Int64} (hB : ez_B τ h) (hX : jz_X τ) (c : cEr τ h LK R) (rk : rowk row) (hx : (uv x : Int) = pkN row) (k1 : ∀ v e, 0 ≤ v → R[v.toNat]? = some (row, e) → LK row = some e → Q (.inl (some (ez_v (.inl v))), h)) (k0 : LK row = none → Q (.inl (some (ez_v (.inl (-1)))), h)) : ez_W (d + 1) cm_98 0 [(0, .inr (.inr (some (202)))), (1, .inr (.inl (x)))] [] h Q := by
  have t202 : τ 202 = 48 := hX 202 (by decide)
  have t204 : τ 204 = 50 := hX 204 (by decide)
  have t205 : τ 205 = 51 := hX 205 (by decide)
  refine ez_go (n := 2) (pc' := 2) (L' := [(0, .inr (.inr (some (202)))), (1, .inr (.inl (x)))]) (st' := [.inr (.inr (some (202))), .inr (.inl (x))]) rfl ?_
  refine ez_gC (p := 204) (tg := 50) hB t202 rfl rfl tq_48 rfl rfl (fun (t204 : _ = 50) => ?_)
  refine ez_go (n := 1) (pc' := 6) (L' := [(0, .inr (.inr (some (202)))), (1, .inr (.inl (x)))]) (st' := [.inr (.inr (some (202))), .inr (.inr (some (204))), .inr (.inl (x))]) rfl ?_
  refine ez_gI hB t202 rfl rfl tq_48 rfl rfl (fun (b1 : 0 ≤ qz_I h 202 4) (b1' : qz_I h 202 4 ≤ 256) => ?_)
  refine ez_cs hB.2.1 rfl rfl rfl rfl rfl (rd_placeOfR hB t204 (by omega) (by omega) (fun v v0 v1 va vb => ez_K1 ?_))
  have cn := c.1
  have vn : (v.toNat : Int) = v := by omega
  have va2 : v.toNat = 0 ∨ Int64.ofInt (qz_I h 204 (v.toNat - 1)) < x := va.elim (fun w => Or.inl (by omega)) (fun w => Or.inr (by rw [show v.toNat - 1 = (v - 1).toNat by omega]; exact w))
  have vb2 : v.toNat = R.length ∨ ¬ Int64.ofInt (qz_I h 204 v.toNat) < x := vb.elim (fun w => Or.inl (by omega)) Or.inr
  refine ez_go (n := 3) (pc' := 15) (L' := [(3, .inl (v)), (0, .inr (.inr (some (202)))), (1, .inr (.inl (x)))]) (st' := [.inr (.inr (some (202))), .inl (v)]) rfl ?_
  refine ez_gI hB t202 rfl rfl tq_48 rfl rfl (fun (b2 : 0 ≤ qz_I h 202 4) (b2' : qz_I h 202 4 ≤ 256) => ?_)
  refine ez_icmp rfl rfl ⟨by first | omega | exact (sz_i32 _).1, by first | omega | exact (sz_i32 _).2⟩ ⟨by first | omega | exact (sz_i32 _).1, by first | omega | exact (sz_i32 _).2⟩ (fun (c3 : (qz_I h 202 4) ≤ (v)) => ?_) (fun (c3 : ¬((qz_I h 202 4) ≤ (v))) => ?_)
  · skip
    refine ez_go (n := 1) (pc' := 37) (L' := [(3, .inl (v)), (0, .inr (.inr (some (202)))), (1, .inr (.inl (x)))]) (st' := [.inl (-1)]) rfl ?_
    exact ez_retI rfl rfl (k0 (c.nofd rk hx (by omega) va2 vb2 (by first | exact Or.inl (by omega) | exact Or.inr (fun w => absurd (zc.mpr w) (by omega)))))
  · skip
    refine ez_go (n := 1) (pc' := 22) (L' := [(3, .inl (v)), (0, .inr (.inr (some (202)))), (1, .inr (.inl (x)))]) (st' := [.inr (.inr (some (202)))]) rfl ?_
    refine ez_gC (p := 204) (tg := 50) hB t202 rfl rfl tq_48 rfl rfl (fun (t204 : _ = 50) => ?_)
    refine ez_go (n := 1) (pc' := 26) (L' := [(3, .inl (v)), (0, .inr (.inr (some (202)))), (1, .inr (.inl (x)))]) (st' := [.inl (v), .inr (.inr (some (204)))]) rfl ?_
    have n4 : 256 ≤ qz_N h 204 ∧ qz_N h 204 ≤ 256 := ez_len hB t204 tq_50 rfl
    refine ez_aL hB t204 rfl tq_50 rfl rfl (by omega) (by omega) ?_
    refine ez_go (n := 2) (pc' := 29) (L' := [(3, .inl (v)), (0, .inr (.inr (some (202)))), (1, .inr (.inl (x)))]) (st' := [.inl ((lg_cmp (Int64.ofInt (qz_I h 204 (v).toNat)) (x)).toInt)]) rfl ?_
    have zc := nz_ceq (Int64.ofInt (qz_I h 204 (v).toNat)) x
    refine ez_if rfl rfl ⟨by first | omega | exact (sz_i32 _).1, by first | omega | exact (sz_i32 _).2⟩ (fun (c5 : ((lg_cmp (Int64.ofInt (qz_I h 204 (v).toNat)) (x)).toInt) ≠ (0)) => ?_) (fun (c5 : ¬(((lg_cmp (Int64.ofInt (qz_I h 204 (v).toNat)) (x)).toInt) ≠ (0))) => ?_)
    · skip
      refine ez_go (n := 1) (pc' := 37) (L' := [(3, .inl (v)), (0, .inr (.inr (some (202)))), (1, .inr (.inl (x)))]) (st' := [.inl (-1)]) rfl ?_
      exact ez_retI rfl rfl (k0 (c.nofd rk hx (by omega) va2 vb2 (by first | exact Or.inl (by omega) | exact Or.inr (fun w => absurd (zc.mpr w) (by omega)))))
    · skip
      refine ez_go (n := 2) (pc' := 37) (L' := [(3, .inl (v)), (0, .inr (.inr (some (202)))), (1, .inr (.inl (x)))]) (st' := [.inl (v)]) rfl ?_
      obtain ⟨e, e1, e2⟩ := c.isfd rk hx (v := v.toNat) (by omega) (zc.mp (by omega))
      exact ez_retI rfl rfl (k1 v e v0 e1 e2)

theorem rd_hasLonger {i : Int} {e : List eL} (hB : ez_B τ h) (hX : jz_X τ) (c : cEr τ h LK R) (i0 : 0 ≤ i) (hi : R[i.toNat]? = some (row, e)) (k1 : Q (.inl (some (ez_v (.inl 1))), h)) (k0 : (∀ y, ¬ row.length < 3 ∨ LK (row ++ [y]) = none) → Q (.inl (some (ez_v (.inl 0))), h)) : ez_W d cm_99 0 [(0, .inr (.inr (some (202)))), (1, .inl (i))] [] h Q := by
  have t202 : τ 202 = 48 := hX 202 (by decide)
  have t204 : τ 204 = 50 := hX 204 (by decide)
  have t205 : τ 205 = 51 := hX 205 (by decide)
  have il := (List.getElem?_eq_some_iff.mp hi).1
  have cn := c.1
  obtain ⟨rk, q4, en, -⟩ := c.2.1 _ _ hi
  obtain ⟨z, w, x1, x2, x3, x4, x5, x6, x7, x8⟩ := id en
  have rl := rk.1
  have q4 : qz_I h 204 (i).toNat = pkN row := q4
  have bn : 0 ≤ qz_I h 202 4 ∧ qz_I h 202 4 ≤ 256 := ez_fB (cl := 2) (k := 4) hB t202 tq_48 rfl rfl (by decide)
  have x3 : qz_I h z 0 = (row.length : Int) := x3
  refine ez_go (n := 4) (pc' := 4) (L' := [(0, .inr (.inr (some (202)))), (1, .inl (i))]) (st' := [.inr (.inr (some (202))), .inl ((i) + (1))]) rfl ?_
  refine ez_gI hB t202 rfl rfl tq_48 rfl rfl (fun (b1 : 0 ≤ qz_I h 202 4) (b1' : qz_I h 202 4 ≤ 256) => ?_)
  refine ez_icmp rfl rfl ⟨by first | omega | exact (sz_i32 _).1, by first | omega | exact (sz_i32 _).2⟩ ⟨by first | omega | exact (sz_i32 _).1, by first | omega | exact (sz_i32 _).2⟩ (fun (c2 : ((i) + (1)) < (qz_I h 202 4)) => ?_) (fun (c2 : ¬(((i) + (1)) < (qz_I h 202 4))) => ?_)
  · skip
    refine ez_go (n := 3) (pc' := 16) (L' := [(0, .inr (.inr (some (202)))), (1, .inl (i))]) (st' := [.inr (.inr (some (202))), .inl (3), .inl (21)]) rfl ?_
    refine ez_gC (p := 205) (tg := 51) hB t202 rfl rfl tq_48 rfl rfl (fun (t205 : _ = 51) => ?_)
    refine ez_go (n := 1) (pc' := 20) (L' := [(0, .inr (.inr (some (202)))), (1, .inl (i))]) (st' := [.inl (i), .inr (.inr (some (205))), .inl (3), .inl (21)]) rfl ?_
    have n4 : 256 ≤ qz_N h 205 ∧ qz_N h 205 ≤ 256 := ez_len hB t205 tq_51 rfl
    have y5 : 1 ≤ qz_I h 205 (i).toNat := (by rw [x1]; omega)
    have y6 : 0 ≤ qz_I h 205 (i).toNat ∧ qz_I h 205 (i).toNat ≤ 1000000 := ez_aB hB t205 tq_51 rfl rfl (by decide) (by omega) (by omega)
    have y6' : ((qz_P h 205 (i).toNat : Nat) : Int) + 1 = qz_I h 205 (i).toNat := by unfold qz_P; omega
    refine ez_aR hB t205 rfl tq_51 rfl rfl (by omega) (by omega) (by omega) (fun (t3 : _ = 7) => ?_)
    rw [show qz_P h 205 (i).toNat = z by unfold qz_P; rw [x1]; omega]
    refine ez_gI hB x2 rfl rfl tq_7 rfl rfl (fun (b7 : 0 ≤ qz_I h z 0) (b7' : qz_I h z 0 ≤ 3) => ?_)
    rw [x3]
    refine ez_go (n := 4) (pc' := 28) (L' := [(2, .inl ((21) * ((3) - ((row.length : Int))))), (0, .inr (.inr (some (202)))), (1, .inl (i))]) (st' := [.inl ((21) * ((3) - ((row.length : Int))))]) rfl ?_
    refine ez_if rfl rfl ⟨by first | omega | exact (sz_i32 _).1, by first | omega | exact (sz_i32 _).2⟩ (fun (c8 : ((21) * ((3) - ((row.length : Int)))) ≤ (0)) => ?_) (fun (c8 : ¬(((21) * ((3) - ((row.length : Int)))) ≤ (0))) => ?_)
    · skip
      refine ez_go (n := 1) (pc' := 58) (L' := [(2, .inl ((21) * ((3) - ((row.length : Int))))), (0, .inr (.inr (some (202)))), (1, .inl (i))]) (st' := [.inl (0)]) rfl ?_
      refine ez_retZ rfl rfl (Or.inl rfl) (k0 (c.stop hi ?_))
      first
        | exact Or.inr (Or.inl (by omega))
        | exact Or.inl (by omega)
        | (have il2 : i.toNat + 1 < R.length := by omega
           have hb9 := List.getElem?_eq_getElem il2
           obtain ⟨rkb, qb, -⟩ := c.2.1 _ _ hb9
           refine Or.inr (Or.inr ⟨_, hb9, ?_⟩)
           have b1 := pkN_bd rk
           have b2 := pkN_bd rkb
           have u1 : uv (Int64.ofInt (qz_I h 204 (i).toNat)) = (pkN row).toNat := by rw [q4]; exact uv_of (by omega) (by omega)
           have u2 : uv (Int64.ofInt (qz_I h 204 ((i) + (1)).toNat)) = (pkN R[i.toNat + 1].1).toNat := by rw [show ((i) + (1)).toNat = i.toNat + 1 by omega, qb]; exact uv_of (by omega) (by omega)
           have nz9 := fun w => (absurd (zc.mpr w) (by omega) : False)
           have hl9 : row.length = 1 ∨ row.length = 2 := by omega
           rcases hl9 with e | e
           · refine Or.inl ⟨e, fun w => nz9 (uv_inj ?_)⟩
             rw [e, show (21 * (3 - ((1 : Nat) : Int)) : Int) = 42 from rfl, uv_lsr42, uv_lsr42, u1, u2]; omega
           · refine Or.inr ⟨e, fun w => nz9 (uv_inj ?_)⟩
             rw [e, show (21 * (3 - ((2 : Nat) : Int)) : Int) = 21 from rfl, uv_lsr21, uv_lsr21, u1, u2]; omega)
    · skip
      refine ez_go (n := 1) (pc' := 32) (L' := [(2, .inl ((21) * ((3) - ((row.length : Int))))), (0, .inr (.inr (some (202)))), (1, .inl (i))]) (st' := [.inr (.inr (some (202)))]) rfl ?_
      refine ez_gC (p := 204) (tg := 50) hB t202 rfl rfl tq_48 rfl rfl (fun (t204 : _ = 50) => ?_)
      refine ez_go (n := 1) (pc' := 36) (L' := [(2, .inl ((21) * ((3) - ((row.length : Int))))), (0, .inr (.inr (some (202)))), (1, .inl (i))]) (st' := [.inl (i), .inr (.inr (some (204)))]) rfl ?_
      have n9 : 256 ≤ qz_N h 204 ∧ qz_N h 204 ≤ 256 := ez_len hB t204 tq_50 rfl
      refine ez_aL hB t204 rfl tq_50 rfl rfl (by omega) (by omega) ?_
      refine ez_go (n := 3) (pc' := 40) (L' := [(2, .inl ((21) * ((3) - ((row.length : Int))))), (0, .inr (.inr (some (202)))), (1, .inl (i))]) (st' := [.inr (.inr (some (202))), .inr (.inl (lsr (Int64.ofInt (qz_I h 204 (i).toNat)) ((21) * ((3) - ((row.length : Int))))))]) rfl ?_
      refine ez_gC (p := 204) (tg := 50) hB t202 rfl rfl tq_48 rfl rfl (fun (t204 : _ = 50) => ?_)
      refine ez_go (n := 3) (pc' := 46) (L' := [(2, .inl ((21) * ((3) - ((row.length : Int))))), (0, .inr (.inr (some (202)))), (1, .inl (i))]) (st' := [.inl ((i) + (1)), .inr (.inr (some (204))), .inr (.inl (lsr (Int64.ofInt (qz_I h 204 (i).toNat)) ((21) * ((3) - ((row.length : Int))))))]) rfl ?_
      have n10 : 256 ≤ qz_N h 204 ∧ qz_N h 204 ≤ 256 := ez_len hB t204 tq_50 rfl
      refine ez_aL hB t204 rfl tq_50 rfl rfl (by omega) (by omega) ?_
      refine ez_go (n := 3) (pc' := 50) (L' := [(2, .inl ((21) * ((3) - ((row.length : Int))))), (0, .inr (.inr (some (202)))), (1, .inl (i))]) (st' := [.inl ((lg_cmp (lsr (Int64.ofInt (qz_I h 204 (i).toNat)) ((21) * ((3) - ((row.length : Int))))) (lsr (Int64.ofInt (qz_I h 204 ((i) + (1)).toNat)) ((21) * ((3) - ((row.length : Int)))))).toInt)]) rfl ?_
      have zc := nz_ceq (lsr (Int64.ofInt (qz_I h 204 (i).toNat)) ((21) * ((3) - ((row.length : Int))))) (lsr (Int64.ofInt (qz_I h 204 ((i) + (1)).toNat)) ((21) * ((3) - ((row.length : Int)))))
      refine ez_if rfl rfl ⟨by first | omega | exact (sz_i32 _).1, by first | omega | exact (sz_i32 _).2⟩ (fun (c11 : ((lg_cmp (lsr (Int64.ofInt (qz_I h 204 (i).toNat)) ((21) * ((3) - ((row.length : Int))))) (lsr (Int64.ofInt (qz_I h 204 ((i) + (1)).toNat)) ((21) * ((3) - ((row.length : Int)))))).toInt) ≠ (0)) => ?_) (fun (c11 : ¬(((lg_cmp (lsr (Int64.ofInt (qz_I h 204 (i).toNat)) ((21) * ((3) - ((row.length : Int))))) (lsr (Int64.ofInt (qz_I h 204 ((i) + (1)).toNat)) ((21) * ((3) - ((row.length : Int)))))).toInt) ≠ (0))) => ?_)
      · skip
        refine ez_go (n := 1) (pc' := 58) (L' := [(2, .inl ((21) * ((3) - ((row.length : Int))))), (0, .inr (.inr (some (202)))), (1, .inl (i))]) (st' := [.inl (0)]) rfl ?_
        refine ez_retZ rfl rfl (Or.inl rfl) (k0 (c.stop hi ?_))
        first
          | exact Or.inr (Or.inl (by omega))
          | exact Or.inl (by omega)
          | (have il2 : i.toNat + 1 < R.length := by omega
             have hb9 := List.getElem?_eq_getElem il2
             obtain ⟨rkb, qb, -⟩ := c.2.1 _ _ hb9
             refine Or.inr (Or.inr ⟨_, hb9, ?_⟩)
             have b1 := pkN_bd rk
             have b2 := pkN_bd rkb
             have u1 : uv (Int64.ofInt (qz_I h 204 (i).toNat)) = (pkN row).toNat := by rw [q4]; exact uv_of (by omega) (by omega)
             have u2 : uv (Int64.ofInt (qz_I h 204 ((i) + (1)).toNat)) = (pkN R[i.toNat + 1].1).toNat := by rw [show ((i) + (1)).toNat = i.toNat + 1 by omega, qb]; exact uv_of (by omega) (by omega)
             have nz9 := fun w => (absurd (zc.mpr w) (by omega) : False)
             have hl9 : row.length = 1 ∨ row.length = 2 := by omega
             rcases hl9 with e | e
             · refine Or.inl ⟨e, fun w => nz9 (uv_inj ?_)⟩
               rw [e, show (21 * (3 - ((1 : Nat) : Int)) : Int) = 42 from rfl, uv_lsr42, uv_lsr42, u1, u2]; omega
             · refine Or.inr ⟨e, fun w => nz9 (uv_inj ?_)⟩
               rw [e, show (21 * (3 - ((2 : Nat) : Int)) : Int) = 21 from rfl, uv_lsr21, uv_lsr21, u1, u2]; omega)
      · skip
        refine ez_go (n := 2) (pc' := 58) (L' := [(2, .inl ((21) * ((3) - ((row.length : Int))))), (0, .inr (.inr (some (202)))), (1, .inl (i))]) (st' := [.inl (1)]) rfl ?_
        exact ez_retZ rfl rfl (Or.inr rfl) k1
  · skip
    refine ez_go (n := 1) (pc' := 11) (L' := [(0, .inr (.inr (some (202)))), (1, .inl (i))]) (st' := [.inl (0)]) rfl ?_
    refine ez_retZ rfl rfl (Or.inl rfl) (k0 (c.stop hi ?_))
    first
      | exact Or.inr (Or.inl (by omega))
      | exact Or.inl (by omega)
      | (have il2 : i.toNat + 1 < R.length := by omega
         have hb9 := List.getElem?_eq_getElem il2
         obtain ⟨rkb, qb, -⟩ := c.2.1 _ _ hb9
         refine Or.inr (Or.inr ⟨_, hb9, ?_⟩)
         have b1 := pkN_bd rk
         have b2 := pkN_bd rkb
         have u1 : uv (Int64.ofInt (qz_I h 204 (i).toNat)) = (pkN row).toNat := by rw [q4]; exact uv_of (by omega) (by omega)
         have u2 : uv (Int64.ofInt (qz_I h 204 ((i) + (1)).toNat)) = (pkN R[i.toNat + 1].1).toNat := by rw [show ((i) + (1)).toNat = i.toNat + 1 by omega, qb]; exact uv_of (by omega) (by omega)
         have nz9 := fun w => (absurd (zc.mpr w) (by omega) : False)
         have hl9 : row.length = 1 ∨ row.length = 2 := by omega
         rcases hl9 with e | e
         · refine Or.inl ⟨e, fun w => nz9 (uv_inj ?_)⟩
           rw [e, show (21 * (3 - ((1 : Nat) : Int)) : Int) = 42 from rfl, uv_lsr42, uv_lsr42, u1, u2]; omega
         · refine Or.inr ⟨e, fun w => nz9 (uv_inj ?_)⟩
           rw [e, show (21 * (3 - ((2 : Nat) : Int)) : Int) = 21 from rfl, uv_lsr21, uv_lsr21, u1, u2]; omega)

theorem rd_longer_l {p : Int} {i : Int} {e : List eL} (hB : ez_B τ h) (hX : jz_X τ) (c : cEr τ h LK R) (i0 : 0 ≤ i) (hi : R[i.toNat]? = some (row, e)) (hp : 0 ≤ p ∧ p ≤ 1114111) (k1 : ∀ v f, 0 ≤ v → row.length < 3 → R[v.toNat]? = some (row ++ [p], f) → LK (row ++ [p]) = some f → Q (.inl (some (ez_v (.inl v))), h)) (k0 : ¬ row.length < 3 ∨ LK (row ++ [p]) = none → Q (.inl (some (ez_v (.inl (-1)))), h)) : ez_W (d + 2) cm_83 0 [(0, .inr (.inr (some (744)))), (1, .inl (i)), (2, .inl (p))] [] h Q := by
  have t202 : τ 202 = 48 := hX 202 (by decide)
  have t204 : τ 204 = 50 := hX 204 (by decide)
  have t205 : τ 205 = 51 := hX 205 (by decide)
  have tc : τ 744 = 10 := hX 744 (by decide)
  have tg1 : τ 745 = 1 := hX 745 (by decide)
  have tg2 : τ 746 = 2 := hX 746 (by decide)
  have tg3 : τ 747 = 11 := hX 747 (by decide)
  have tg4 : τ 748 = 12 := hX 748 (by decide)
  have il := (List.getElem?_eq_some_iff.mp hi).1
  have cn := c.1
  obtain ⟨rk, q4, en, -⟩ := c.2.1 _ _ hi
  obtain ⟨z, w, x1, x2, x3, x4, x5, x6, x7, x8⟩ := id en
  have rl := rk.1
  have q4 : qz_I h 204 (i).toNat = pkN row := q4
  have bn : 0 ≤ qz_I h 202 4 ∧ qz_I h 202 4 ≤ 256 := ez_fB (cl := 2) (k := 4) hB t202 tq_48 rfl rfl (by decide)
  have x3 : qz_I h z 0 = (row.length : Int) := x3
  refine ez_go (n := 1) (pc' := 1) (L' := [(0, .inr (.inr (some (744)))), (1, .inl (i)), (2, .inl (p))]) (st' := [.inr (.inr (some (744)))]) rfl ?_
  refine ez_gC (p := 202) (tg := 48) hB tc rfl rfl tq_10 rfl rfl (fun (t202 : _ = 48) => ?_)
  refine ez_gC (p := 205) (tg := 51) hB t202 rfl rfl tq_48 rfl rfl (fun (t205 : _ = 51) => ?_)
  refine ez_go (n := 1) (pc' := 8) (L' := [(0, .inr (.inr (some (744)))), (1, .inl (i)), (2, .inl (p))]) (st' := [.inl (i), .inr (.inr (some (205)))]) rfl ?_
  have n2 : 256 ≤ qz_N h 205 ∧ qz_N h 205 ≤ 256 := ez_len hB t205 tq_51 rfl
  have y3 : 1 ≤ qz_I h 205 (i).toNat := (by rw [x1]; omega)
  have y4 : 0 ≤ qz_I h 205 (i).toNat ∧ qz_I h 205 (i).toNat ≤ 1000000 := ez_aB hB t205 tq_51 rfl rfl (by decide) (by omega) (by omega)
  have y4' : ((qz_P h 205 (i).toNat : Nat) : Int) + 1 = qz_I h 205 (i).toNat := by unfold qz_P; omega
  refine ez_aR hB t205 rfl tq_51 rfl rfl (by omega) (by omega) (by omega) (fun (t1 : _ = 7) => ?_)
  rw [show qz_P h 205 (i).toNat = z by unfold qz_P; rw [x1]; omega]
  refine ez_gI hB x2 rfl rfl tq_7 rfl rfl (fun (b5 : 0 ≤ qz_I h z 0) (b5' : qz_I h z 0 ≤ 3) => ?_)
  rw [x3]
  refine ez_go (n := 3) (pc' := 15) (L' := [(3, .inl ((row.length : Int))), (0, .inr (.inr (some (744)))), (1, .inl (i)), (2, .inl (p))]) (st' := [.inl (3), .inl ((row.length : Int))]) rfl ?_
  refine ez_icmp rfl rfl ⟨by first | omega | exact (sz_i32 _).1, by first | omega | exact (sz_i32 _).2⟩ ⟨by first | omega | exact (sz_i32 _).1, by first | omega | exact (sz_i32 _).2⟩ (fun (c6 : (3) ≤ ((row.length : Int))) => ?_) (fun (c6 : ¬((3) ≤ ((row.length : Int)))) => ?_)
  · skip
    refine ez_go (n := 1) (pc' := 43) (L' := [(3, .inl ((row.length : Int))), (0, .inr (.inr (some (744)))), (1, .inl (i)), (2, .inl (p))]) (st' := [.inl (-1)]) rfl ?_
    exact ez_retI rfl rfl (k0 (by first | exact Or.inr f2 | exact Or.inl (by omega)))
  · skip
    refine ez_go (n := 1) (pc' := 19) (L' := [(3, .inl ((row.length : Int))), (0, .inr (.inr (some (744)))), (1, .inl (i)), (2, .inl (p))]) (st' := [.inr (.inr (some (744)))]) rfl ?_
    refine ez_gC (p := 202) (tg := 48) hB tc rfl rfl tq_10 rfl rfl (fun (t202 : _ = 48) => ?_)
    refine ez_go (n := 1) (pc' := 23) (L' := [(3, .inl ((row.length : Int))), (0, .inr (.inr (some (744)))), (1, .inl (i)), (2, .inl (p))]) (st' := [.inr (.inr (some (744))), .inr (.inr (some (202)))]) rfl ?_
    refine ez_gC (p := 202) (tg := 48) hB tc rfl rfl tq_10 rfl rfl (fun (t202 : _ = 48) => ?_)
    refine ez_gC (p := 204) (tg := 50) hB t202 rfl rfl tq_48 rfl rfl (fun (t204 : _ = 50) => ?_)
    refine ez_go (n := 1) (pc' := 30) (L' := [(3, .inl ((row.length : Int))), (0, .inr (.inr (some (744)))), (1, .inl (i)), (2, .inl (p))]) (st' := [.inl (i), .inr (.inr (some (204))), .inr (.inr (some (202)))]) rfl ?_
    have n7 : 256 ≤ qz_N h 204 ∧ qz_N h 204 ≤ 256 := ez_len hB t204 tq_50 rfl
    refine ez_aL hB t204 rfl tq_50 rfl rfl (by omega) (by omega) ?_
    refine ez_go (n := 2) (pc' := 33) (L' := [(3, .inl ((row.length : Int))), (0, .inr (.inr (some (744)))), (1, .inl (i)), (2, .inl (p))]) (st' := [.inl (p), .inl ((row.length : Int)), .inr (.inl (Int64.ofInt (qz_I h 204 (i).toNat))), .inr (.inr (some (202)))]) rfl ?_
    refine ez_cs hB.2.1 rfl rfl rfl rfl rfl (rd_cpackAt (row := row) (by omega) rk.2 hp (by rw [q4, uv_of (by have := pkN_bd rk; omega) (by have := pkN_bd rk; omega)]; have := pkN_bd rk; omega) (fun y hy => ez_KL ?_))
    refine ez_cv hB t202 rfl rfl rfl tq_48 rfl rfl rfl (rd_entryIndex hB hX c (rowk_app rk.2 (by omega) hp) hy (fun v f v0 f1 f2 => ez_K1 ?_) (fun f2 => ez_K1 ?_))
    · skip
      refine ez_go (n := 1) (pc' := 43) (L' := [(3, .inl ((row.length : Int))), (0, .inr (.inr (some (744)))), (1, .inl (i)), (2, .inl (p))]) (st' := [.inl (v)]) rfl ?_
      exact ez_retI rfl rfl (k1 v f v0 (by omega) f1 f2)
    · skip
      refine ez_go (n := 1) (pc' := 43) (L' := [(3, .inl ((row.length : Int))), (0, .inr (.inr (some (744)))), (1, .inl (i)), (2, .inl (p))]) (st' := [.inl (-1)]) rfl ?_
      exact ez_retI rfl rfl (k0 (by first | exact Or.inr f2 | exact Or.inl (by omega)))

theorem rd_wgt_l {i k : Int} {w9 : eL} (hB : ez_B τ h) (hX : jz_X τ) (cl : clr h 744) (cs : cts h 744 sh b W) (W9 : wps W) (W2 : W.length ≤ 36000) (i0 : 0 ≤ i) (hw : W[i.toNat]? = some w9) (k0 : 0 ≤ k) (k3 : k ≤ 3) (kx : Q (.inl (some (.inr (.inl (Int64.ofInt (wk w9 k.toNat))))), h)) : ez_W d cm_91 0 [(0, .inr (.inr (some (744)))), (1, .inl (i)), (2, .inl (k))] [] h Q := by
  have tc : τ 744 = 10 := hX 744 (by decide)
  have tg1 : τ 745 = 1 := hX 745 (by decide)
  have tg2 : τ 746 = 2 := hX 746 (by decide)
  have tg3 : τ 747 = 11 := hX 747 (by decide)
  have tg4 : τ 748 = 12 := hX 748 (by decide)
  have il := (List.getElem?_eq_some_iff.mp hw).1
  have wl := W2
  refine ez_go (n := 1) (pc' := 1) (L' := [(0, .inr (.inr (some (744)))), (1, .inl (i)), (2, .inl (k))]) (st' := [.inr (.inr (some (744)))]) rfl ?_
  refine ez_gR hB tc rfl rfl tq_10 rfl rfl (fun (t1 : _ = 12) (t1' : 1 ≤ qz_I h 744 4) => ?_)
  rw [show qz_P h 744 4 = 748 by unfold qz_P; rw [cl.2.2]; first | rfl | omega]
  refine ez_go (n := 1) (pc' := 5) (L' := [(0, .inr (.inr (some (744)))), (1, .inl (i)), (2, .inl (k))]) (st' := [.inl (i), .inr (.inr (some (748)))]) rfl ?_
  have n2 : 36000 ≤ qz_N h 748 ∧ qz_N h 748 ≤ 36000 := ez_len hB tg4 tq_12 rfl
  refine ez_aL hB tg4 rfl tq_12 rfl rfl (by omega) (by omega) ?_
  refine ez_go (n := 6) (pc' := 13) (L' := [(0, .inr (.inr (some (744)))), (1, .inl (i)), (2, .inl (k))]) (st' := [.inr (.inl (lsr (Int64.ofInt (qz_I h 748 (i).toNat)) ((16) * ((3) - (k)))))]) rfl ?_
  refine ez_ldc2 (65535) rfl rfl rfl ?_
  refine ez_go (n := 1) (pc' := 17) (L' := [(0, .inr (.inr (some (744)))), (1, .inl (i)), (2, .inl (k))]) (st' := [.inr (.inl ((lsr (Int64.ofInt (qz_I h 748 (i).toNat)) ((16) * ((3) - (k)))) &&& (Int64.ofInt (65535))))]) rfl ?_
  rw [cs.2 i.toNat w9 hw, Int64.ofInt_toInt, w_at (W9 w9 (List.mem_of_getElem? hw)) k0 k3]
  exact ez_retL rfl rfl kx

theorem rd_shift_l (hB : ez_B τ h) (hX : jz_X τ) (eo : eok el) (hb : bz b (qz_I h 744 7)) (k : ∀ g, ez_B τ g → ez_fr (ez_one 744) h g → (∀ j, j ≠ 7 → qz_I g 744 j = qz_I h 744 j) → bz (wtb true b el) (qz_I g 744 7) → Q (.inl (some (.inr (.inl (Int64.ofInt (wP (wt1 true b el)))))), g)) : ez_W d cm_88 0 [(0, .inr (.inr (some (744)))), (1, .inr (.inl (Int64.ofInt (eP el))))] [] h Q := by
  have tc : τ 744 = 10 := hX 744 (by decide)
  have tg1 : τ 745 = 1 := hX 745 (by decide)
  have tg2 : τ 746 = 2 := hX 746 (by decide)
  have tg3 : τ 747 = 11 := hX 747 (by decide)
  have tg4 : τ 748 = 12 := hX 748 (by decide)
  obtain ⟨eo1, eo2, eo3, eo4⟩ := id eo
  have eb := eP_bd eo
  have ew : 0 ≤ eP el - el.1 := by unfold eP; omega
  refine ez_go (n := 5) (pc' := 6) (L' := [(3, .inr (.inl (lsr (Int64.ofInt (eP el)) (48)))), (0, .inr (.inr (some (744)))), (1, .inr (.inl (Int64.ofInt (eP el))))]) (st' := [.inr (.inl (Int64.ofInt (eP el)))]) rfl ?_
  refine ez_ldc2 (-65536) rfl rfl rfl ?_
  refine ez_go (n := 5) (pc' := 15) (L' := [(5, .inr (.inl ((Int64.ofInt (eP el)) &&& (Int64.ofInt (-65536))))), (3, .inr (.inl (lsr (Int64.ofInt (eP el)) (48)))), (0, .inr (.inr (some (744)))), (1, .inr (.inl (Int64.ofInt (eP el))))]) (st' := [.inl ((lg_cmp (lsr (Int64.ofInt (eP el)) (48)) (Int64.ofInt (0 : Nat))).toInt)]) rfl ?_
  rw [el_48 eo, el_w eo]
  have z1 := of_z (a := el.2.1) (by omega) (by omega)
  refine ez_if rfl rfl ⟨by first | omega | exact (sz_i32 _).1, by first | omega | exact (sz_i32 _).2⟩ (fun (c1 : ((lg_cmp (Int64.ofInt el.2.1) (Int64.ofInt (0 : Nat))).toInt) = (0)) => ?_) (fun (c1 : ¬(((lg_cmp (Int64.ofInt el.2.1) (Int64.ofInt (0 : Nat))).toInt) = (0))) => ?_)
  · skip
    refine ez_go (n := 1) (pc' := 54) (L' := [(5, .inr (.inl (Int64.ofInt (eP el - el.1)))), (3, .inr (.inl (Int64.ofInt el.2.1))), (0, .inr (.inr (some (744)))), (1, .inr (.inl (Int64.ofInt (eP el))))]) (st' := [.inr (.inr (some (744)))]) rfl ?_
    refine ez_gI hB tc rfl rfl tq_10 rfl rfl (fun (b2 : 0 ≤ qz_I h 744 7) (b2' : qz_I h 744 7 ≤ 1) => ?_)
    refine ez_if rfl rfl ⟨by first | omega | exact (sz_i32 _).1, by first | omega | exact (sz_i32 _).2⟩ (fun (c3 : (qz_I h 744 7) ≠ (0)) => ?_) (fun (c3 : ¬((qz_I h 744 7) ≠ (0))) => ?_)
    · skip
      refine ez_go (n := 2) (pc' := 77) (L' := [(5, .inr (.inl (Int64.ofInt (eP el - el.1)))), (3, .inr (.inl (Int64.ofInt el.2.1))), (0, .inr (.inr (some (744)))), (1, .inr (.inl (Int64.ofInt (eP el))))]) (st' := [.inr (.inl (Int64.ofInt (0 : Nat)))]) rfl ?_
      rcases hb with ⟨b1, b2⟩ | ⟨b1, b2⟩
      · obtain ⟨q1, q2⟩ := sh_C (e := el) (by omega) b1; rw [q2]; exact ez_retL rfl rfl (k h hB (ez_fr.refl _ h) (fun _ _ => rfl) (Or.inl ⟨q1, b2⟩))
      · first | (exfalso; omega) | (obtain ⟨q1, q2⟩ := sh_D eo (by omega) b1 (by omega); rw [q2]; exact ez_retL rfl rfl (k h hB (ez_fr.refl _ h) (fun _ _ => rfl) (Or.inr ⟨q1, b2⟩)))
    · skip
      refine ez_go (n := 3) (pc' := 64) (L' := [(5, .inr (.inl (Int64.ofInt (eP el - el.1)))), (3, .inr (.inl (Int64.ofInt el.2.1))), (0, .inr (.inr (some (744)))), (1, .inr (.inl (Int64.ofInt (eP el))))]) (st' := [.inl ((lg_cmp (Int64.ofInt (eP el - el.1)) (Int64.ofInt (0 : Nat))).toInt)]) rfl ?_
      have z3 := of_z (a := eP el - el.1) (by omega) (by omega)
      refine ez_if rfl rfl ⟨by first | omega | exact (sz_i32 _).1, by first | omega | exact (sz_i32 _).2⟩ (fun (c4 : ((lg_cmp (Int64.ofInt (eP el - el.1)) (Int64.ofInt (0 : Nat))).toInt) ≠ (0)) => ?_) (fun (c4 : ¬(((lg_cmp (Int64.ofInt (eP el - el.1)) (Int64.ofInt (0 : Nat))).toInt) ≠ (0))) => ?_)
      · skip
        refine ez_go (n := 1) (pc' := 73) (L' := [(5, .inr (.inl (Int64.ofInt (eP el - el.1)))), (3, .inr (.inl (Int64.ofInt el.2.1))), (0, .inr (.inr (some (744)))), (1, .inr (.inl (Int64.ofInt (eP el))))]) (st' := [.inr (.inl (Int64.ofInt (eP el - el.1)))]) rfl ?_
        refine ez_ldc2 (65535) rfl rfl rfl ?_
        refine ez_go (n := 1) (pc' := 77) (L' := [(5, .inr (.inl (Int64.ofInt (eP el - el.1)))), (3, .inr (.inl (Int64.ofInt el.2.1))), (0, .inr (.inr (some (744)))), (1, .inr (.inl (Int64.ofInt (eP el))))]) (st' := [.inr (.inl ((Int64.ofInt (eP el - el.1)) ||| (Int64.ofInt (65535))))]) rfl ?_
        rcases hb with ⟨b1, b2⟩ | ⟨b1, b2⟩
        · exfalso; omega
        · obtain ⟨q1, q2⟩ := sh_E eo (by omega) b1 (by omega); rw [show (Int64.ofInt (eP el - el.1)) ||| (Int64.ofInt (65535)) = Int64.ofInt (eP el - el.1 + 65535) from el_m eo, q2]; exact ez_retL rfl rfl (k h hB (ez_fr.refl _ h) (fun _ _ => rfl) (Or.inr ⟨q1, b2⟩))
      · skip
        refine ez_go (n := 2) (pc' := 77) (L' := [(5, .inr (.inl (Int64.ofInt (eP el - el.1)))), (3, .inr (.inl (Int64.ofInt el.2.1))), (0, .inr (.inr (some (744)))), (1, .inr (.inl (Int64.ofInt (eP el))))]) (st' := [.inr (.inl (Int64.ofInt (0 : Nat)))]) rfl ?_
        rcases hb with ⟨b1, b2⟩ | ⟨b1, b2⟩
        · obtain ⟨q1, q2⟩ := sh_C (e := el) (by omega) b1; rw [q2]; exact ez_retL rfl rfl (k h hB (ez_fr.refl _ h) (fun _ _ => rfl) (Or.inl ⟨q1, b2⟩))
        · first | (exfalso; omega) | (obtain ⟨q1, q2⟩ := sh_D eo (by omega) b1 (by omega); rw [q2]; exact ez_retL rfl rfl (k h hB (ez_fr.refl _ h) (fun _ _ => rfl) (Or.inr ⟨q1, b2⟩)))
  · skip
    refine ez_go (n := 6) (pc' := 24) (L' := [(5, .inr (.inl (Int64.ofInt (eP el - el.1)))), (3, .inr (.inl (Int64.ofInt el.2.1))), (0, .inr (.inr (some (744)))), (1, .inr (.inl (Int64.ofInt (eP el))))]) (st' := [.inl ((lg_cmp ((Int64.ofInt (eP el)) &&& (Int64.ofInt (1 : Nat))) (Int64.ofInt (0 : Nat))).toInt), .inr (.inr (some (744)))]) rfl ?_
    rw [el_1 eo]
    have z2 := of_z (a := el.1) (by omega) (by omega)
    refine ez_if rfl rfl ⟨by first | omega | exact (sz_i32 _).1, by first | omega | exact (sz_i32 _).2⟩ (fun (c5 : ((lg_cmp (Int64.ofInt el.1) (Int64.ofInt (0 : Nat))).toInt) = (0)) => ?_) (fun (c5 : ¬(((lg_cmp (Int64.ofInt el.1) (Int64.ofInt (0 : Nat))).toInt) = (0))) => ?_)
    · skip
      refine ez_go (n := 1) (pc' := 32) (L' := [(5, .inr (.inl (Int64.ofInt (eP el - el.1)))), (3, .inr (.inl (Int64.ofInt el.2.1))), (0, .inr (.inr (some (744)))), (1, .inr (.inl (Int64.ofInt (eP el))))]) (st' := [.inl (0), .inr (.inr (some (744)))]) rfl ?_
      refine ez_pf hB tc rfl rfl tq_10 rfl rfl rfl rfl (ez_vdI rfl rfl (by omega) (by omega)) (fun hB6 w7 => ?_)
      have v7 : qz_I (dz_put h 744 7 (ez_v (.inl (0)))) 744 7 = 0 := w7.trans (rz_rd ⟨by omega, by omega⟩)
      have o7 : ∀ j, j ≠ 7 → qz_I (dz_put h 744 7 (ez_v (.inl (0)))) 744 j = qz_I h 744 j := fun j hj => ez_put_I (fun q => hj q.2)
      have f7 : ez_fr (ez_one 744) h (dz_put h 744 7 (ez_v (.inl (0)))) := (ez_fr.refl (ez_one 744) h).put rfl _ _
      have B7 := hB6
      generalize (dz_put h 744 7 (ez_v (.inl (0)))) = g1 at *
      refine ez_go (n := 1) (pc' := 36) (L' := [(5, .inr (.inl (Int64.ofInt (eP el - el.1)))), (3, .inr (.inl (Int64.ofInt el.2.1))), (0, .inr (.inr (some (744)))), (1, .inr (.inl (Int64.ofInt (eP el))))]) (st' := [.inr (.inr (some (744)))]) rfl ?_
      refine ez_gI B7 tc rfl rfl tq_10 rfl rfl (fun (b8 : 0 ≤ qz_I g1 744 7) (b8' : qz_I g1 744 7 ≤ 1) => ?_)
      refine ez_if rfl rfl ⟨by first | omega | exact (sz_i32 _).1, by first | omega | exact (sz_i32 _).2⟩ (fun (c9 : (qz_I g1 744 7) = (0)) => ?_) (fun (c9 : ¬((qz_I g1 744 7) = (0))) => ?_)
      · skip
        refine ez_go (n := 1) (pc' := 48) (L' := [(5, .inr (.inl (Int64.ofInt (eP el - el.1)))), (3, .inr (.inl (Int64.ofInt el.2.1))), (0, .inr (.inr (some (744)))), (1, .inr (.inl (Int64.ofInt (eP el))))]) (st' := [.inr (.inl (Int64.ofInt (eP el - el.1)))]) rfl ?_
        refine ez_ldc2 (65535) rfl rfl rfl ?_
        refine ez_go (n := 1) (pc' := 52) (L' := [(5, .inr (.inl (Int64.ofInt (eP el - el.1)))), (3, .inr (.inl (Int64.ofInt el.2.1))), (0, .inr (.inr (some (744)))), (1, .inr (.inl (Int64.ofInt (eP el))))]) (st' := [.inr (.inl ((Int64.ofInt (eP el - el.1)) ||| (Int64.ofInt (65535))))]) rfl ?_
        first | (exfalso; omega) | (obtain ⟨q1, q2⟩ := sh_B (b := b) eo (by omega) (by omega); rw [show (Int64.ofInt (eP el - el.1)) ||| (Int64.ofInt (65535)) = Int64.ofInt (eP el - el.1 + 65535) from el_m eo, q2]; exact ez_retL rfl rfl (k g1 B7 f7 o7 (Or.inr ⟨q1, by omega⟩)))
      · skip
        refine ez_go (n := 2) (pc' := 52) (L' := [(5, .inr (.inl (Int64.ofInt (eP el - el.1)))), (3, .inr (.inl (Int64.ofInt el.2.1))), (0, .inr (.inr (some (744)))), (1, .inr (.inl (Int64.ofInt (eP el))))]) (st' := [.inr (.inl (Int64.ofInt el.2.1))]) rfl ?_
        first | (exfalso; omega) | (obtain ⟨q1, q2⟩ := sh_A (b := b) eo (by omega) (by omega); rw [q2]; exact ez_retL rfl rfl (k g1 B7 f7 o7 (Or.inl ⟨q1, by omega⟩)))
    · skip
      refine ez_go (n := 2) (pc' := 32) (L' := [(5, .inr (.inl (Int64.ofInt (eP el - el.1)))), (3, .inr (.inl (Int64.ofInt el.2.1))), (0, .inr (.inr (some (744)))), (1, .inr (.inl (Int64.ofInt (eP el))))]) (st' := [.inl (1), .inr (.inr (some (744)))]) rfl ?_
      refine ez_pf hB tc rfl rfl tq_10 rfl rfl rfl rfl (ez_vdI rfl rfl (by omega) (by omega)) (fun hB10 w11 => ?_)
      have v7 : qz_I (dz_put h 744 7 (ez_v (.inl (1)))) 744 7 = 1 := w11.trans (rz_rd ⟨by omega, by omega⟩)
      have o7 : ∀ j, j ≠ 7 → qz_I (dz_put h 744 7 (ez_v (.inl (1)))) 744 j = qz_I h 744 j := fun j hj => ez_put_I (fun q => hj q.2)
      have f7 : ez_fr (ez_one 744) h (dz_put h 744 7 (ez_v (.inl (1)))) := (ez_fr.refl (ez_one 744) h).put rfl _ _
      have B7 := hB10
      generalize (dz_put h 744 7 (ez_v (.inl (1)))) = g1 at *
      refine ez_go (n := 1) (pc' := 36) (L' := [(5, .inr (.inl (Int64.ofInt (eP el - el.1)))), (3, .inr (.inl (Int64.ofInt el.2.1))), (0, .inr (.inr (some (744)))), (1, .inr (.inl (Int64.ofInt (eP el))))]) (st' := [.inr (.inr (some (744)))]) rfl ?_
      refine ez_gI B7 tc rfl rfl tq_10 rfl rfl (fun (b12 : 0 ≤ qz_I g1 744 7) (b12' : qz_I g1 744 7 ≤ 1) => ?_)
      refine ez_if rfl rfl ⟨by first | omega | exact (sz_i32 _).1, by first | omega | exact (sz_i32 _).2⟩ (fun (c13 : (qz_I g1 744 7) = (0)) => ?_) (fun (c13 : ¬((qz_I g1 744 7) = (0))) => ?_)
      · skip
        refine ez_go (n := 1) (pc' := 48) (L' := [(5, .inr (.inl (Int64.ofInt (eP el - el.1)))), (3, .inr (.inl (Int64.ofInt el.2.1))), (0, .inr (.inr (some (744)))), (1, .inr (.inl (Int64.ofInt (eP el))))]) (st' := [.inr (.inl (Int64.ofInt (eP el - el.1)))]) rfl ?_
        refine ez_ldc2 (65535) rfl rfl rfl ?_
        refine ez_go (n := 1) (pc' := 52) (L' := [(5, .inr (.inl (Int64.ofInt (eP el - el.1)))), (3, .inr (.inl (Int64.ofInt el.2.1))), (0, .inr (.inr (some (744)))), (1, .inr (.inl (Int64.ofInt (eP el))))]) (st' := [.inr (.inl ((Int64.ofInt (eP el - el.1)) ||| (Int64.ofInt (65535))))]) rfl ?_
        first | (exfalso; omega) | (obtain ⟨q1, q2⟩ := sh_B (b := b) eo (by omega) (by omega); rw [show (Int64.ofInt (eP el - el.1)) ||| (Int64.ofInt (65535)) = Int64.ofInt (eP el - el.1 + 65535) from el_m eo, q2]; exact ez_retL rfl rfl (k g1 B7 f7 o7 (Or.inr ⟨q1, by omega⟩)))
      · skip
        refine ez_go (n := 2) (pc' := 52) (L' := [(5, .inr (.inl (Int64.ofInt (eP el - el.1)))), (3, .inr (.inl (Int64.ofInt el.2.1))), (0, .inr (.inr (some (744)))), (1, .inr (.inl (Int64.ofInt (eP el))))]) (st' := [.inr (.inl (Int64.ofInt el.2.1))]) rfl ?_
        first | (exfalso; omega) | (obtain ⟨q1, q2⟩ := sh_A (b := b) eo (by omega) (by omega); rw [q2]; exact ez_retL rfl rfl (k g1 B7 f7 o7 (Or.inl ⟨q1, by omega⟩)))

theorem rd_put_l (hB : ez_B τ h) (hX : jz_X τ) (cl : clr h 744) (cs : cts h 744 sh b W) (wl : W.length < 36000) (eo : eok el) (k : ∀ g, ez_B τ g → ez_fr (nz_P2 744 748) h g → (∀ j, j ≠ 5 → j ≠ 7 → qz_I g 744 j = qz_I h 744 j) → cts g 744 sh (wtb sh b el) (W ++ [wt1 sh b el]) → Q (.inl none, g)) : ez_W (d + 1) cm_86 0 [(0, .inr (.inr (some (744)))), (1, .inr (.inl (Int64.ofInt (eP el))))] [] h Q := by
  have tc : τ 744 = 10 := hX 744 (by decide)
  have tg1 : τ 745 = 1 := hX 745 (by decide)
  have tg2 : τ 746 = 2 := hX 746 (by decide)
  have tg3 : τ 747 = 11 := hX 747 (by decide)
  have tg4 : τ 748 = 12 := hX 748 (by decide)
  obtain ⟨⟨ic, sh6, sb7⟩, cv⟩ := id cs
  have t6 : qz_I h 744 6 = 0 ∨ qz_I h 744 6 = 1 := by rcases sh6 with q | q; (· exact Or.inr q.2); (· exact Or.inl q.2)
  refine ez_go (n := 1) (pc' := 1) (L' := [(0, .inr (.inr (some (744)))), (1, .inr (.inl (Int64.ofInt (eP el))))]) (st' := [.inr (.inr (some (744)))]) rfl ?_
  refine ez_gI hB tc rfl rfl tq_10 rfl rfl (fun (b1 : 0 ≤ qz_I h 744 5) (b1' : qz_I h 744 5 ≤ 36000) => ?_)
  rw [ic]
  refine ez_go (n := 1) (pc' := 5) (L' := [(0, .inr (.inr (some (744)))), (1, .inr (.inl (Int64.ofInt (eP el))))]) (st' := [.inr (.inr (some (744))), .inl ((W.length : Int))]) rfl ?_
  refine ez_gR hB tc rfl rfl tq_10 rfl rfl (fun (t2 : _ = 12) (t2' : 1 ≤ qz_I h 744 4) => ?_)
  rw [show qz_P h 744 4 = 748 by unfold qz_P; rw [cl.2.2]; first | rfl | omega]
  refine ez_al hB tg4 rfl tq_12 rfl (fun (b3 : 36000 ≤ qz_N h 748) (b3' : qz_N h 748 ≤ 36000) => ?_)
  refine ez_icmp rfl rfl ⟨by first | omega | exact (sz_i32 _).1, by first | omega | exact (sz_i32 _).2⟩ ⟨by first | omega | exact (sz_i32 _).1, by first | omega | exact (sz_i32 _).2⟩ (fun (c4 : (qz_N h 748) ≤ ((W.length : Int))) => ?_) (fun (c4 : ¬((qz_N h 748) ≤ ((W.length : Int)))) => ?_)
  · skip
    exfalso; omega
  · skip
    refine ez_go (n := 1) (pc' := 13) (L' := [(0, .inr (.inr (some (744)))), (1, .inr (.inl (Int64.ofInt (eP el))))]) (st' := [.inr (.inr (some (744)))]) rfl ?_
    refine ez_gR hB tc rfl rfl tq_10 rfl rfl (fun (t5 : _ = 12) (t5' : 1 ≤ qz_I h 744 4) => ?_)
    rw [show qz_P h 744 4 = 748 by unfold qz_P; rw [cl.2.2]; first | rfl | omega]
    refine ez_go (n := 1) (pc' := 17) (L' := [(0, .inr (.inr (some (744)))), (1, .inr (.inl (Int64.ofInt (eP el))))]) (st' := [.inr (.inr (some (744))), .inr (.inr (some (748)))]) rfl ?_
    refine ez_gI hB tc rfl rfl tq_10 rfl rfl (fun (b6 : 0 ≤ qz_I h 744 5) (b6' : qz_I h 744 5 ≤ 36000) => ?_)
    rw [ic]
    refine ez_go (n := 1) (pc' := 21) (L' := [(0, .inr (.inr (some (744)))), (1, .inr (.inl (Int64.ofInt (eP el))))]) (st' := [.inr (.inr (some (744))), .inl ((W.length : Int)), .inr (.inr (some (748)))]) rfl ?_
    refine ez_gI hB tc rfl rfl tq_10 rfl rfl (fun (b7 : 0 ≤ qz_I h 744 6) (b7' : qz_I h 744 6 ≤ 1) => ?_)
    refine ez_if rfl rfl ⟨by first | omega | exact (sz_i32 _).1, by first | omega | exact (sz_i32 _).2⟩ (fun (c8 : (qz_I h 744 6) = (0)) => ?_) (fun (c8 : ¬((qz_I h 744 6) = (0))) => ?_)
    · skip
      refine ez_go (n := 1) (pc' := 36) (L' := [(0, .inr (.inr (some (744)))), (1, .inr (.inl (Int64.ofInt (eP el))))]) (st' := [.inr (.inl (Int64.ofInt (eP el))), .inl ((W.length : Int)), .inr (.inr (some (748)))]) rfl ?_
      refine ez_ldc2 (-65536) rfl rfl rfl ?_
      refine ez_go (n := 1) (pc' := 40) (L' := [(0, .inr (.inr (some (744)))), (1, .inr (.inl (Int64.ofInt (eP el))))]) (st' := [.inr (.inl ((Int64.ofInt (eP el)) &&& (Int64.ofInt (-65536)))), .inl ((W.length : Int)), .inr (.inr (some (748)))]) rfl ?_
      have es : sh = false := by rcases sh6 with q | q; (· exfalso; omega); (· exact q.1)
      subst es
      rw [el_0 (b := b) eo]
      have n11 : 36000 ≤ qz_N h 748 ∧ qz_N h 748 ≤ 36000 := ez_len hB tg4 tq_12 rfl
      refine ez_as hB tg4 rfl tq_12 rfl rfl (by omega) (by omega) ez_vdJ (fun hB9 w10 => ?_)
      have vA : qz_I (dz_put h 748 ((W.length : Int)).toNat (ez_v (.inr (.inl (Int64.ofInt (wP (wt1 false b el))))))) 748 ((W.length : Int)).toNat = (Int64.ofInt (wP (wt1 false b el))).toInt := w10
      have oA : ∀ q j, ¬ (q = 748 ∧ j = ((W.length : Int)).toNat) → qz_I (dz_put h 748 ((W.length : Int)).toNat (ez_v (.inr (.inl (Int64.ofInt (wP (wt1 false b el))))))) q j = qz_I h q j := fun q j w => ez_put_I w
      have fA : ez_fr (nz_P2 744 748) h (dz_put h 748 ((W.length : Int)).toNat (ez_v (.inr (.inl (Int64.ofInt (wP (wt1 false b el))))))) := (ez_fr.refl (nz_P2 744 748) h).put (by unfold nz_P2; rfl) _ _
      have BA := hB9
      generalize (dz_put h 748 ((W.length : Int)).toNat (ez_v (.inr (.inl (Int64.ofInt (wP (wt1 false b el))))))) = gA at *
      refine ez_go (n := 2) (pc' := 43) (L' := [(0, .inr (.inr (some (744)))), (1, .inr (.inl (Int64.ofInt (eP el))))]) (st' := [.inr (.inr (some (744))), .inr (.inr (some (744)))]) rfl ?_
      refine ez_gI BA tc rfl rfl tq_10 rfl rfl (fun (b12 : 0 ≤ qz_I gA 744 5) (b12' : qz_I gA 744 5 ≤ 36000) => ?_)
      rw [show qz_I gA 744 5 = (W.length : Int) from (oA _ _ (fun q => absurd q.1 (by decide))).trans ic]
      refine ez_go (n := 2) (pc' := 48) (L' := [(0, .inr (.inr (some (744)))), (1, .inr (.inl (Int64.ofInt (eP el))))]) (st' := [.inl (((W.length : Int)) + (1)), .inr (.inr (some (744)))]) rfl ?_
      refine ez_pf BA tc rfl rfl tq_10 rfl rfl rfl rfl (ez_vdI rfl rfl (by omega) (by omega)) (fun hB13 w14 => ?_)
      have eh : ∀ j, j ≠ 5 → qz_I (dz_put gA 744 5 (ez_v (.inl (((W.length : Int)) + (1))))) 744 j = qz_I gA 744 j := fun j hj => ez_put_I (fun q => hj q.2)
      have e4 : ∀ j, qz_I (dz_put gA 744 5 (ez_v (.inl (((W.length : Int)) + (1))))) 748 j = qz_I gA 748 j := fun j => ez_put_I (fun q => absurd q.1 (by decide))
      have gh : ∀ j, j ≠ 5 → j ≠ 7 → qz_I (dz_put gA 744 5 (ez_v (.inl (((W.length : Int)) + (1))))) 744 j = qz_I h 744 j := fun j h5 h7 => (eh j h5).trans ((oA 744 j (fun q => absurd q.1 (by decide))))
      have p4 : ∀ j, qz_I h 748 j = qz_I h 748 j := fun j => rfl
      refine ez_ret0 rfl rfl (k _ hB13 (fA.put (by unfold nz_P2; rfl) _ _) gh ⟨⟨w14.trans ((rz_rd ⟨by omega, by omega⟩).trans (by rw [List.length_append]; rfl)), by rw [gh 6 (by decide) (by decide)]; exact sh6, ?_⟩, fun j w hw => ?_⟩)
      · rw [eh 7 (by decide), oA 744 7 (fun q => absurd q.1 (by decide))]; exact sb7
      · rw [e4]
        by_cases e9 : j < W.length
        · rw [List.getElem?_append_left e9] at hw
          rw [oA _ _ (fun q => by omega), p4]; exact cv j w hw
        · rw [List.getElem?_append_right (by omega)] at hw
          have e0 : j - W.length = 0 := by
            by_cases q : j - W.length = 0
            · exact q
            · rw [List.getElem?_eq_none (by rw [List.length_singleton]; omega)] at hw; cases hw
          rw [e0] at hw
          cases hw
          rw [show j = ((W.length : Int)).toNat by omega]; exact vA
    · skip
      refine ez_go (n := 2) (pc' := 29) (L' := [(0, .inr (.inr (some (744)))), (1, .inr (.inl (Int64.ofInt (eP el))))]) (st' := [.inr (.inl (Int64.ofInt (eP el))), .inr (.inr (some (744))), .inl ((W.length : Int)), .inr (.inr (some (748)))]) rfl ?_
      have es : sh = true := by rcases sh6 with q | q; (· exact q.1); (· exfalso; omega)
      subst es
      refine ez_cv hB tc rfl rfl rfl tq_10 rfl rfl rfl (rd_shift_l hB hX eo sb7 (fun g1 B1 f1 o1 b7 => ez_KL ?_))
      have c15 := o1 5 (by decide); have c16 := o1 6 (by decide)
      refine ez_go (n := 1) (pc' := 40) (L' := [(0, .inr (.inr (some (744)))), (1, .inr (.inl (Int64.ofInt (eP el))))]) (st' := [.inr (.inl (Int64.ofInt (wP (wt1 true b el)))), .inl ((W.length : Int)), .inr (.inr (some (748)))]) rfl ?_
      have n17 : 36000 ≤ qz_N g1 748 ∧ qz_N g1 748 ≤ 36000 := ez_len B1 tg4 tq_12 rfl
      refine ez_as B1 tg4 rfl tq_12 rfl rfl (by omega) (by omega) ez_vdJ (fun hB15 w16 => ?_)
      have vA : qz_I (dz_put g1 748 ((W.length : Int)).toNat (ez_v (.inr (.inl (Int64.ofInt (wP (wt1 true b el))))))) 748 ((W.length : Int)).toNat = (Int64.ofInt (wP (wt1 true b el))).toInt := w16
      have oA : ∀ q j, ¬ (q = 748 ∧ j = ((W.length : Int)).toNat) → qz_I (dz_put g1 748 ((W.length : Int)).toNat (ez_v (.inr (.inl (Int64.ofInt (wP (wt1 true b el))))))) q j = qz_I g1 q j := fun q j w => ez_put_I w
      have fA : ez_fr (nz_P2 744 748) g1 (dz_put g1 748 ((W.length : Int)).toNat (ez_v (.inr (.inl (Int64.ofInt (wP (wt1 true b el))))))) := (ez_fr.refl (nz_P2 744 748) g1).put (by unfold nz_P2; rfl) _ _
      have BA := hB15
      generalize (dz_put g1 748 ((W.length : Int)).toNat (ez_v (.inr (.inl (Int64.ofInt (wP (wt1 true b el))))))) = gA at *
      refine ez_go (n := 2) (pc' := 43) (L' := [(0, .inr (.inr (some (744)))), (1, .inr (.inl (Int64.ofInt (eP el))))]) (st' := [.inr (.inr (some (744))), .inr (.inr (some (744)))]) rfl ?_
      refine ez_gI BA tc rfl rfl tq_10 rfl rfl (fun (b18 : 0 ≤ qz_I gA 744 5) (b18' : qz_I gA 744 5 ≤ 36000) => ?_)
      rw [show qz_I gA 744 5 = (W.length : Int) from (oA _ _ (fun q => absurd q.1 (by decide))).trans (c15.trans ic)]
      refine ez_go (n := 2) (pc' := 48) (L' := [(0, .inr (.inr (some (744)))), (1, .inr (.inl (Int64.ofInt (eP el))))]) (st' := [.inl (((W.length : Int)) + (1)), .inr (.inr (some (744)))]) rfl ?_
      refine ez_pf BA tc rfl rfl tq_10 rfl rfl rfl rfl (ez_vdI rfl rfl (by omega) (by omega)) (fun hB19 w20 => ?_)
      have eh : ∀ j, j ≠ 5 → qz_I (dz_put gA 744 5 (ez_v (.inl (((W.length : Int)) + (1))))) 744 j = qz_I gA 744 j := fun j hj => ez_put_I (fun q => hj q.2)
      have e4 : ∀ j, qz_I (dz_put gA 744 5 (ez_v (.inl (((W.length : Int)) + (1))))) 748 j = qz_I gA 748 j := fun j => ez_put_I (fun q => absurd q.1 (by decide))
      have gh : ∀ j, j ≠ 5 → j ≠ 7 → qz_I (dz_put gA 744 5 (ez_v (.inl (((W.length : Int)) + (1))))) 744 j = qz_I h 744 j := fun j h5 h7 => (eh j h5).trans ((oA 744 j (fun q => absurd q.1 (by decide))).trans (o1 j (by omega)))
      have p4 : ∀ j, qz_I g1 748 j = qz_I h 748 j := fun j => f1.I rfl j
      refine ez_ret0 rfl rfl (k _ hB19 (((ez_fr_mono f1 (fun z hz => by unfold ez_one at hz; unfold nz_P2; rw [hz]; rfl)).trans fA).put (by unfold nz_P2; rfl) _ _) gh ⟨⟨w20.trans ((rz_rd ⟨by omega, by omega⟩).trans (by rw [List.length_append]; rfl)), by rw [gh 6 (by decide) (by decide)]; exact sh6, ?_⟩, fun j w hw => ?_⟩)
      · rw [eh 7 (by decide), oA 744 7 (fun q => absurd q.1 (by decide))]; exact b7
      · rw [e4]
        by_cases e9 : j < W.length
        · rw [List.getElem?_append_left e9] at hw
          rw [oA _ _ (fun q => by omega), p4]; exact cv j w hw
        · rw [List.getElem?_append_right (by omega)] at hw
          have e0 : j - W.length = 0 := by
            by_cases q : j - W.length = 0
            · exact q
            · rw [List.getElem?_eq_none (by rw [List.length_singleton]; omega)] at hw; cases hw
          rw [e0] at hw
          cases hw
          rw [show j = ((W.length : Int)).toNat by omega]; exact vA

theorem rd_longer_r {p : Int} {i : Int} {e : List eL} (hB : ez_B τ h) (hX : jz_X τ) (c : cEr τ h LK R) (i0 : 0 ≤ i) (hi : R[i.toNat]? = some (row, e)) (hp : 0 ≤ p ∧ p ≤ 1114111) (k1 : ∀ v f, 0 ≤ v → row.length < 3 → R[v.toNat]? = some (row ++ [p], f) → LK (row ++ [p]) = some f → Q (.inl (some (ez_v (.inl v))), h)) (k0 : ¬ row.length < 3 ∨ LK (row ++ [p]) = none → Q (.inl (some (ez_v (.inl (-1)))), h)) : ez_W (d + 2) cm_83 0 [(0, .inr (.inr (some (749)))), (1, .inl (i)), (2, .inl (p))] [] h Q := by
  have t202 : τ 202 = 48 := hX 202 (by decide)
  have t204 : τ 204 = 50 := hX 204 (by decide)
  have t205 : τ 205 = 51 := hX 205 (by decide)
  have tc : τ 749 = 10 := hX 749 (by decide)
  have tg1 : τ 750 = 1 := hX 750 (by decide)
  have tg2 : τ 751 = 2 := hX 751 (by decide)
  have tg3 : τ 752 = 11 := hX 752 (by decide)
  have tg4 : τ 753 = 12 := hX 753 (by decide)
  have il := (List.getElem?_eq_some_iff.mp hi).1
  have cn := c.1
  obtain ⟨rk, q4, en, -⟩ := c.2.1 _ _ hi
  obtain ⟨z, w, x1, x2, x3, x4, x5, x6, x7, x8⟩ := id en
  have rl := rk.1
  have q4 : qz_I h 204 (i).toNat = pkN row := q4
  have bn : 0 ≤ qz_I h 202 4 ∧ qz_I h 202 4 ≤ 256 := ez_fB (cl := 2) (k := 4) hB t202 tq_48 rfl rfl (by decide)
  have x3 : qz_I h z 0 = (row.length : Int) := x3
  refine ez_go (n := 1) (pc' := 1) (L' := [(0, .inr (.inr (some (749)))), (1, .inl (i)), (2, .inl (p))]) (st' := [.inr (.inr (some (749)))]) rfl ?_
  refine ez_gC (p := 202) (tg := 48) hB tc rfl rfl tq_10 rfl rfl (fun (t202 : _ = 48) => ?_)
  refine ez_gC (p := 205) (tg := 51) hB t202 rfl rfl tq_48 rfl rfl (fun (t205 : _ = 51) => ?_)
  refine ez_go (n := 1) (pc' := 8) (L' := [(0, .inr (.inr (some (749)))), (1, .inl (i)), (2, .inl (p))]) (st' := [.inl (i), .inr (.inr (some (205)))]) rfl ?_
  have n2 : 256 ≤ qz_N h 205 ∧ qz_N h 205 ≤ 256 := ez_len hB t205 tq_51 rfl
  have y3 : 1 ≤ qz_I h 205 (i).toNat := (by rw [x1]; omega)
  have y4 : 0 ≤ qz_I h 205 (i).toNat ∧ qz_I h 205 (i).toNat ≤ 1000000 := ez_aB hB t205 tq_51 rfl rfl (by decide) (by omega) (by omega)
  have y4' : ((qz_P h 205 (i).toNat : Nat) : Int) + 1 = qz_I h 205 (i).toNat := by unfold qz_P; omega
  refine ez_aR hB t205 rfl tq_51 rfl rfl (by omega) (by omega) (by omega) (fun (t1 : _ = 7) => ?_)
  rw [show qz_P h 205 (i).toNat = z by unfold qz_P; rw [x1]; omega]
  refine ez_gI hB x2 rfl rfl tq_7 rfl rfl (fun (b5 : 0 ≤ qz_I h z 0) (b5' : qz_I h z 0 ≤ 3) => ?_)
  rw [x3]
  refine ez_go (n := 3) (pc' := 15) (L' := [(3, .inl ((row.length : Int))), (0, .inr (.inr (some (749)))), (1, .inl (i)), (2, .inl (p))]) (st' := [.inl (3), .inl ((row.length : Int))]) rfl ?_
  refine ez_icmp rfl rfl ⟨by first | omega | exact (sz_i32 _).1, by first | omega | exact (sz_i32 _).2⟩ ⟨by first | omega | exact (sz_i32 _).1, by first | omega | exact (sz_i32 _).2⟩ (fun (c6 : (3) ≤ ((row.length : Int))) => ?_) (fun (c6 : ¬((3) ≤ ((row.length : Int)))) => ?_)
  · skip
    refine ez_go (n := 1) (pc' := 43) (L' := [(3, .inl ((row.length : Int))), (0, .inr (.inr (some (749)))), (1, .inl (i)), (2, .inl (p))]) (st' := [.inl (-1)]) rfl ?_
    exact ez_retI rfl rfl (k0 (by first | exact Or.inr f2 | exact Or.inl (by omega)))
  · skip
    refine ez_go (n := 1) (pc' := 19) (L' := [(3, .inl ((row.length : Int))), (0, .inr (.inr (some (749)))), (1, .inl (i)), (2, .inl (p))]) (st' := [.inr (.inr (some (749)))]) rfl ?_
    refine ez_gC (p := 202) (tg := 48) hB tc rfl rfl tq_10 rfl rfl (fun (t202 : _ = 48) => ?_)
    refine ez_go (n := 1) (pc' := 23) (L' := [(3, .inl ((row.length : Int))), (0, .inr (.inr (some (749)))), (1, .inl (i)), (2, .inl (p))]) (st' := [.inr (.inr (some (749))), .inr (.inr (some (202)))]) rfl ?_
    refine ez_gC (p := 202) (tg := 48) hB tc rfl rfl tq_10 rfl rfl (fun (t202 : _ = 48) => ?_)
    refine ez_gC (p := 204) (tg := 50) hB t202 rfl rfl tq_48 rfl rfl (fun (t204 : _ = 50) => ?_)
    refine ez_go (n := 1) (pc' := 30) (L' := [(3, .inl ((row.length : Int))), (0, .inr (.inr (some (749)))), (1, .inl (i)), (2, .inl (p))]) (st' := [.inl (i), .inr (.inr (some (204))), .inr (.inr (some (202)))]) rfl ?_
    have n7 : 256 ≤ qz_N h 204 ∧ qz_N h 204 ≤ 256 := ez_len hB t204 tq_50 rfl
    refine ez_aL hB t204 rfl tq_50 rfl rfl (by omega) (by omega) ?_
    refine ez_go (n := 2) (pc' := 33) (L' := [(3, .inl ((row.length : Int))), (0, .inr (.inr (some (749)))), (1, .inl (i)), (2, .inl (p))]) (st' := [.inl (p), .inl ((row.length : Int)), .inr (.inl (Int64.ofInt (qz_I h 204 (i).toNat))), .inr (.inr (some (202)))]) rfl ?_
    refine ez_cs hB.2.1 rfl rfl rfl rfl rfl (rd_cpackAt (row := row) (by omega) rk.2 hp (by rw [q4, uv_of (by have := pkN_bd rk; omega) (by have := pkN_bd rk; omega)]; have := pkN_bd rk; omega) (fun y hy => ez_KL ?_))
    refine ez_cv hB t202 rfl rfl rfl tq_48 rfl rfl rfl (rd_entryIndex hB hX c (rowk_app rk.2 (by omega) hp) hy (fun v f v0 f1 f2 => ez_K1 ?_) (fun f2 => ez_K1 ?_))
    · skip
      refine ez_go (n := 1) (pc' := 43) (L' := [(3, .inl ((row.length : Int))), (0, .inr (.inr (some (749)))), (1, .inl (i)), (2, .inl (p))]) (st' := [.inl (v)]) rfl ?_
      exact ez_retI rfl rfl (k1 v f v0 (by omega) f1 f2)
    · skip
      refine ez_go (n := 1) (pc' := 43) (L' := [(3, .inl ((row.length : Int))), (0, .inr (.inr (some (749)))), (1, .inl (i)), (2, .inl (p))]) (st' := [.inl (-1)]) rfl ?_
      exact ez_retI rfl rfl (k0 (by first | exact Or.inr f2 | exact Or.inl (by omega)))

theorem rd_wgt_r {i k : Int} {w9 : eL} (hB : ez_B τ h) (hX : jz_X τ) (cl : clr h 749) (cs : cts h 749 sh b W) (W9 : wps W) (W2 : W.length ≤ 36000) (i0 : 0 ≤ i) (hw : W[i.toNat]? = some w9) (k0 : 0 ≤ k) (k3 : k ≤ 3) (kx : Q (.inl (some (.inr (.inl (Int64.ofInt (wk w9 k.toNat))))), h)) : ez_W d cm_91 0 [(0, .inr (.inr (some (749)))), (1, .inl (i)), (2, .inl (k))] [] h Q := by
  have tc : τ 749 = 10 := hX 749 (by decide)
  have tg1 : τ 750 = 1 := hX 750 (by decide)
  have tg2 : τ 751 = 2 := hX 751 (by decide)
  have tg3 : τ 752 = 11 := hX 752 (by decide)
  have tg4 : τ 753 = 12 := hX 753 (by decide)
  have il := (List.getElem?_eq_some_iff.mp hw).1
  have wl := W2
  refine ez_go (n := 1) (pc' := 1) (L' := [(0, .inr (.inr (some (749)))), (1, .inl (i)), (2, .inl (k))]) (st' := [.inr (.inr (some (749)))]) rfl ?_
  refine ez_gR hB tc rfl rfl tq_10 rfl rfl (fun (t1 : _ = 12) (t1' : 1 ≤ qz_I h 749 4) => ?_)
  rw [show qz_P h 749 4 = 753 by unfold qz_P; rw [cl.2.2]; first | rfl | omega]
  refine ez_go (n := 1) (pc' := 5) (L' := [(0, .inr (.inr (some (749)))), (1, .inl (i)), (2, .inl (k))]) (st' := [.inl (i), .inr (.inr (some (753)))]) rfl ?_
  have n2 : 36000 ≤ qz_N h 753 ∧ qz_N h 753 ≤ 36000 := ez_len hB tg4 tq_12 rfl
  refine ez_aL hB tg4 rfl tq_12 rfl rfl (by omega) (by omega) ?_
  refine ez_go (n := 6) (pc' := 13) (L' := [(0, .inr (.inr (some (749)))), (1, .inl (i)), (2, .inl (k))]) (st' := [.inr (.inl (lsr (Int64.ofInt (qz_I h 753 (i).toNat)) ((16) * ((3) - (k)))))]) rfl ?_
  refine ez_ldc2 (65535) rfl rfl rfl ?_
  refine ez_go (n := 1) (pc' := 17) (L' := [(0, .inr (.inr (some (749)))), (1, .inl (i)), (2, .inl (k))]) (st' := [.inr (.inl ((lsr (Int64.ofInt (qz_I h 753 (i).toNat)) ((16) * ((3) - (k)))) &&& (Int64.ofInt (65535))))]) rfl ?_
  rw [cs.2 i.toNat w9 hw, Int64.ofInt_toInt, w_at (W9 w9 (List.mem_of_getElem? hw)) k0 k3]
  exact ez_retL rfl rfl kx

theorem rd_shift_r (hB : ez_B τ h) (hX : jz_X τ) (eo : eok el) (hb : bz b (qz_I h 749 7)) (k : ∀ g, ez_B τ g → ez_fr (ez_one 749) h g → (∀ j, j ≠ 7 → qz_I g 749 j = qz_I h 749 j) → bz (wtb true b el) (qz_I g 749 7) → Q (.inl (some (.inr (.inl (Int64.ofInt (wP (wt1 true b el)))))), g)) : ez_W d cm_88 0 [(0, .inr (.inr (some (749)))), (1, .inr (.inl (Int64.ofInt (eP el))))] [] h Q := by
  have tc : τ 749 = 10 := hX 749 (by decide)
  have tg1 : τ 750 = 1 := hX 750 (by decide)
  have tg2 : τ 751 = 2 := hX 751 (by decide)
  have tg3 : τ 752 = 11 := hX 752 (by decide)
  have tg4 : τ 753 = 12 := hX 753 (by decide)
  obtain ⟨eo1, eo2, eo3, eo4⟩ := id eo
  have eb := eP_bd eo
  have ew : 0 ≤ eP el - el.1 := by unfold eP; omega
  refine ez_go (n := 5) (pc' := 6) (L' := [(3, .inr (.inl (lsr (Int64.ofInt (eP el)) (48)))), (0, .inr (.inr (some (749)))), (1, .inr (.inl (Int64.ofInt (eP el))))]) (st' := [.inr (.inl (Int64.ofInt (eP el)))]) rfl ?_
  refine ez_ldc2 (-65536) rfl rfl rfl ?_
  refine ez_go (n := 5) (pc' := 15) (L' := [(5, .inr (.inl ((Int64.ofInt (eP el)) &&& (Int64.ofInt (-65536))))), (3, .inr (.inl (lsr (Int64.ofInt (eP el)) (48)))), (0, .inr (.inr (some (749)))), (1, .inr (.inl (Int64.ofInt (eP el))))]) (st' := [.inl ((lg_cmp (lsr (Int64.ofInt (eP el)) (48)) (Int64.ofInt (0 : Nat))).toInt)]) rfl ?_
  rw [el_48 eo, el_w eo]
  have z1 := of_z (a := el.2.1) (by omega) (by omega)
  refine ez_if rfl rfl ⟨by first | omega | exact (sz_i32 _).1, by first | omega | exact (sz_i32 _).2⟩ (fun (c1 : ((lg_cmp (Int64.ofInt el.2.1) (Int64.ofInt (0 : Nat))).toInt) = (0)) => ?_) (fun (c1 : ¬(((lg_cmp (Int64.ofInt el.2.1) (Int64.ofInt (0 : Nat))).toInt) = (0))) => ?_)
  · skip
    refine ez_go (n := 1) (pc' := 54) (L' := [(5, .inr (.inl (Int64.ofInt (eP el - el.1)))), (3, .inr (.inl (Int64.ofInt el.2.1))), (0, .inr (.inr (some (749)))), (1, .inr (.inl (Int64.ofInt (eP el))))]) (st' := [.inr (.inr (some (749)))]) rfl ?_
    refine ez_gI hB tc rfl rfl tq_10 rfl rfl (fun (b2 : 0 ≤ qz_I h 749 7) (b2' : qz_I h 749 7 ≤ 1) => ?_)
    refine ez_if rfl rfl ⟨by first | omega | exact (sz_i32 _).1, by first | omega | exact (sz_i32 _).2⟩ (fun (c3 : (qz_I h 749 7) ≠ (0)) => ?_) (fun (c3 : ¬((qz_I h 749 7) ≠ (0))) => ?_)
    · skip
      refine ez_go (n := 2) (pc' := 77) (L' := [(5, .inr (.inl (Int64.ofInt (eP el - el.1)))), (3, .inr (.inl (Int64.ofInt el.2.1))), (0, .inr (.inr (some (749)))), (1, .inr (.inl (Int64.ofInt (eP el))))]) (st' := [.inr (.inl (Int64.ofInt (0 : Nat)))]) rfl ?_
      rcases hb with ⟨b1, b2⟩ | ⟨b1, b2⟩
      · obtain ⟨q1, q2⟩ := sh_C (e := el) (by omega) b1; rw [q2]; exact ez_retL rfl rfl (k h hB (ez_fr.refl _ h) (fun _ _ => rfl) (Or.inl ⟨q1, b2⟩))
      · first | (exfalso; omega) | (obtain ⟨q1, q2⟩ := sh_D eo (by omega) b1 (by omega); rw [q2]; exact ez_retL rfl rfl (k h hB (ez_fr.refl _ h) (fun _ _ => rfl) (Or.inr ⟨q1, b2⟩)))
    · skip
      refine ez_go (n := 3) (pc' := 64) (L' := [(5, .inr (.inl (Int64.ofInt (eP el - el.1)))), (3, .inr (.inl (Int64.ofInt el.2.1))), (0, .inr (.inr (some (749)))), (1, .inr (.inl (Int64.ofInt (eP el))))]) (st' := [.inl ((lg_cmp (Int64.ofInt (eP el - el.1)) (Int64.ofInt (0 : Nat))).toInt)]) rfl ?_
      have z3 := of_z (a := eP el - el.1) (by omega) (by omega)
      refine ez_if rfl rfl ⟨by first | omega | exact (sz_i32 _).1, by first | omega | exact (sz_i32 _).2⟩ (fun (c4 : ((lg_cmp (Int64.ofInt (eP el - el.1)) (Int64.ofInt (0 : Nat))).toInt) ≠ (0)) => ?_) (fun (c4 : ¬(((lg_cmp (Int64.ofInt (eP el - el.1)) (Int64.ofInt (0 : Nat))).toInt) ≠ (0))) => ?_)
      · skip
        refine ez_go (n := 1) (pc' := 73) (L' := [(5, .inr (.inl (Int64.ofInt (eP el - el.1)))), (3, .inr (.inl (Int64.ofInt el.2.1))), (0, .inr (.inr (some (749)))), (1, .inr (.inl (Int64.ofInt (eP el))))]) (st' := [.inr (.inl (Int64.ofInt (eP el - el.1)))]) rfl ?_
        refine ez_ldc2 (65535) rfl rfl rfl ?_
        refine ez_go (n := 1) (pc' := 77) (L' := [(5, .inr (.inl (Int64.ofInt (eP el - el.1)))), (3, .inr (.inl (Int64.ofInt el.2.1))), (0, .inr (.inr (some (749)))), (1, .inr (.inl (Int64.ofInt (eP el))))]) (st' := [.inr (.inl ((Int64.ofInt (eP el - el.1)) ||| (Int64.ofInt (65535))))]) rfl ?_
        rcases hb with ⟨b1, b2⟩ | ⟨b1, b2⟩
        · exfalso; omega
        · obtain ⟨q1, q2⟩ := sh_E eo (by omega) b1 (by omega); rw [show (Int64.ofInt (eP el - el.1)) ||| (Int64.ofInt (65535)) = Int64.ofInt (eP el - el.1 + 65535) from el_m eo, q2]; exact ez_retL rfl rfl (k h hB (ez_fr.refl _ h) (fun _ _ => rfl) (Or.inr ⟨q1, b2⟩))
      · skip
        refine ez_go (n := 2) (pc' := 77) (L' := [(5, .inr (.inl (Int64.ofInt (eP el - el.1)))), (3, .inr (.inl (Int64.ofInt el.2.1))), (0, .inr (.inr (some (749)))), (1, .inr (.inl (Int64.ofInt (eP el))))]) (st' := [.inr (.inl (Int64.ofInt (0 : Nat)))]) rfl ?_
        rcases hb with ⟨b1, b2⟩ | ⟨b1, b2⟩
        · obtain ⟨q1, q2⟩ := sh_C (e := el) (by omega) b1; rw [q2]; exact ez_retL rfl rfl (k h hB (ez_fr.refl _ h) (fun _ _ => rfl) (Or.inl ⟨q1, b2⟩))
        · first | (exfalso; omega) | (obtain ⟨q1, q2⟩ := sh_D eo (by omega) b1 (by omega); rw [q2]; exact ez_retL rfl rfl (k h hB (ez_fr.refl _ h) (fun _ _ => rfl) (Or.inr ⟨q1, b2⟩)))
  · skip
    refine ez_go (n := 6) (pc' := 24) (L' := [(5, .inr (.inl (Int64.ofInt (eP el - el.1)))), (3, .inr (.inl (Int64.ofInt el.2.1))), (0, .inr (.inr (some (749)))), (1, .inr (.inl (Int64.ofInt (eP el))))]) (st' := [.inl ((lg_cmp ((Int64.ofInt (eP el)) &&& (Int64.ofInt (1 : Nat))) (Int64.ofInt (0 : Nat))).toInt), .inr (.inr (some (749)))]) rfl ?_
    rw [el_1 eo]
    have z2 := of_z (a := el.1) (by omega) (by omega)
    refine ez_if rfl rfl ⟨by first | omega | exact (sz_i32 _).1, by first | omega | exact (sz_i32 _).2⟩ (fun (c5 : ((lg_cmp (Int64.ofInt el.1) (Int64.ofInt (0 : Nat))).toInt) = (0)) => ?_) (fun (c5 : ¬(((lg_cmp (Int64.ofInt el.1) (Int64.ofInt (0 : Nat))).toInt) = (0))) => ?_)
    · skip
      refine ez_go (n := 1) (pc' := 32) (L' := [(5, .inr (.inl (Int64.ofInt (eP el - el.1)))), (3, .inr (.inl (Int64.ofInt el.2.1))), (0, .inr (.inr (some (749)))), (1, .inr (.inl (Int64.ofInt (eP el))))]) (st' := [.inl (0), .inr (.inr (some (749)))]) rfl ?_
      refine ez_pf hB tc rfl rfl tq_10 rfl rfl rfl rfl (ez_vdI rfl rfl (by omega) (by omega)) (fun hB6 w7 => ?_)
      have v7 : qz_I (dz_put h 749 7 (ez_v (.inl (0)))) 749 7 = 0 := w7.trans (rz_rd ⟨by omega, by omega⟩)
      have o7 : ∀ j, j ≠ 7 → qz_I (dz_put h 749 7 (ez_v (.inl (0)))) 749 j = qz_I h 749 j := fun j hj => ez_put_I (fun q => hj q.2)
      have f7 : ez_fr (ez_one 749) h (dz_put h 749 7 (ez_v (.inl (0)))) := (ez_fr.refl (ez_one 749) h).put rfl _ _
      have B7 := hB6
      generalize (dz_put h 749 7 (ez_v (.inl (0)))) = g1 at *
      refine ez_go (n := 1) (pc' := 36) (L' := [(5, .inr (.inl (Int64.ofInt (eP el - el.1)))), (3, .inr (.inl (Int64.ofInt el.2.1))), (0, .inr (.inr (some (749)))), (1, .inr (.inl (Int64.ofInt (eP el))))]) (st' := [.inr (.inr (some (749)))]) rfl ?_
      refine ez_gI B7 tc rfl rfl tq_10 rfl rfl (fun (b8 : 0 ≤ qz_I g1 749 7) (b8' : qz_I g1 749 7 ≤ 1) => ?_)
      refine ez_if rfl rfl ⟨by first | omega | exact (sz_i32 _).1, by first | omega | exact (sz_i32 _).2⟩ (fun (c9 : (qz_I g1 749 7) = (0)) => ?_) (fun (c9 : ¬((qz_I g1 749 7) = (0))) => ?_)
      · skip
        refine ez_go (n := 1) (pc' := 48) (L' := [(5, .inr (.inl (Int64.ofInt (eP el - el.1)))), (3, .inr (.inl (Int64.ofInt el.2.1))), (0, .inr (.inr (some (749)))), (1, .inr (.inl (Int64.ofInt (eP el))))]) (st' := [.inr (.inl (Int64.ofInt (eP el - el.1)))]) rfl ?_
        refine ez_ldc2 (65535) rfl rfl rfl ?_
        refine ez_go (n := 1) (pc' := 52) (L' := [(5, .inr (.inl (Int64.ofInt (eP el - el.1)))), (3, .inr (.inl (Int64.ofInt el.2.1))), (0, .inr (.inr (some (749)))), (1, .inr (.inl (Int64.ofInt (eP el))))]) (st' := [.inr (.inl ((Int64.ofInt (eP el - el.1)) ||| (Int64.ofInt (65535))))]) rfl ?_
        first | (exfalso; omega) | (obtain ⟨q1, q2⟩ := sh_B (b := b) eo (by omega) (by omega); rw [show (Int64.ofInt (eP el - el.1)) ||| (Int64.ofInt (65535)) = Int64.ofInt (eP el - el.1 + 65535) from el_m eo, q2]; exact ez_retL rfl rfl (k g1 B7 f7 o7 (Or.inr ⟨q1, by omega⟩)))
      · skip
        refine ez_go (n := 2) (pc' := 52) (L' := [(5, .inr (.inl (Int64.ofInt (eP el - el.1)))), (3, .inr (.inl (Int64.ofInt el.2.1))), (0, .inr (.inr (some (749)))), (1, .inr (.inl (Int64.ofInt (eP el))))]) (st' := [.inr (.inl (Int64.ofInt el.2.1))]) rfl ?_
        first | (exfalso; omega) | (obtain ⟨q1, q2⟩ := sh_A (b := b) eo (by omega) (by omega); rw [q2]; exact ez_retL rfl rfl (k g1 B7 f7 o7 (Or.inl ⟨q1, by omega⟩)))
    · skip
      refine ez_go (n := 2) (pc' := 32) (L' := [(5, .inr (.inl (Int64.ofInt (eP el - el.1)))), (3, .inr (.inl (Int64.ofInt el.2.1))), (0, .inr (.inr (some (749)))), (1, .inr (.inl (Int64.ofInt (eP el))))]) (st' := [.inl (1), .inr (.inr (some (749)))]) rfl ?_
      refine ez_pf hB tc rfl rfl tq_10 rfl rfl rfl rfl (ez_vdI rfl rfl (by omega) (by omega)) (fun hB10 w11 => ?_)
      have v7 : qz_I (dz_put h 749 7 (ez_v (.inl (1)))) 749 7 = 1 := w11.trans (rz_rd ⟨by omega, by omega⟩)
      have o7 : ∀ j, j ≠ 7 → qz_I (dz_put h 749 7 (ez_v (.inl (1)))) 749 j = qz_I h 749 j := fun j hj => ez_put_I (fun q => hj q.2)
      have f7 : ez_fr (ez_one 749) h (dz_put h 749 7 (ez_v (.inl (1)))) := (ez_fr.refl (ez_one 749) h).put rfl _ _
      have B7 := hB10
      generalize (dz_put h 749 7 (ez_v (.inl (1)))) = g1 at *
      refine ez_go (n := 1) (pc' := 36) (L' := [(5, .inr (.inl (Int64.ofInt (eP el - el.1)))), (3, .inr (.inl (Int64.ofInt el.2.1))), (0, .inr (.inr (some (749)))), (1, .inr (.inl (Int64.ofInt (eP el))))]) (st' := [.inr (.inr (some (749)))]) rfl ?_
      refine ez_gI B7 tc rfl rfl tq_10 rfl rfl (fun (b12 : 0 ≤ qz_I g1 749 7) (b12' : qz_I g1 749 7 ≤ 1) => ?_)
      refine ez_if rfl rfl ⟨by first | omega | exact (sz_i32 _).1, by first | omega | exact (sz_i32 _).2⟩ (fun (c13 : (qz_I g1 749 7) = (0)) => ?_) (fun (c13 : ¬((qz_I g1 749 7) = (0))) => ?_)
      · skip
        refine ez_go (n := 1) (pc' := 48) (L' := [(5, .inr (.inl (Int64.ofInt (eP el - el.1)))), (3, .inr (.inl (Int64.ofInt el.2.1))), (0, .inr (.inr (some (749)))), (1, .inr (.inl (Int64.ofInt (eP el))))]) (st' := [.inr (.inl (Int64.ofInt (eP el - el.1)))]) rfl ?_
        refine ez_ldc2 (65535) rfl rfl rfl ?_
        refine ez_go (n := 1) (pc' := 52) (L' := [(5, .inr (.inl (Int64.ofInt (eP el - el.1)))), (3, .inr (.inl (Int64.ofInt el.2.1))), (0, .inr (.inr (some (749)))), (1, .inr (.inl (Int64.ofInt (eP el))))]) (st' := [.inr (.inl ((Int64.ofInt (eP el - el.1)) ||| (Int64.ofInt (65535))))]) rfl ?_
        first | (exfalso; omega) | (obtain ⟨q1, q2⟩ := sh_B (b := b) eo (by omega) (by omega); rw [show (Int64.ofInt (eP el - el.1)) ||| (Int64.ofInt (65535)) = Int64.ofInt (eP el - el.1 + 65535) from el_m eo, q2]; exact ez_retL rfl rfl (k g1 B7 f7 o7 (Or.inr ⟨q1, by omega⟩)))
      · skip
        refine ez_go (n := 2) (pc' := 52) (L' := [(5, .inr (.inl (Int64.ofInt (eP el - el.1)))), (3, .inr (.inl (Int64.ofInt el.2.1))), (0, .inr (.inr (some (749)))), (1, .inr (.inl (Int64.ofInt (eP el))))]) (st' := [.inr (.inl (Int64.ofInt el.2.1))]) rfl ?_
        first | (exfalso; omega) | (obtain ⟨q1, q2⟩ := sh_A (b := b) eo (by omega) (by omega); rw [q2]; exact ez_retL rfl rfl (k g1 B7 f7 o7 (Or.inl ⟨q1, by omega⟩)))

theorem rd_put_r (hB : ez_B τ h) (hX : jz_X τ) (cl : clr h 749) (cs : cts h 749 sh b W) (wl : W.length < 36000) (eo : eok el) (k : ∀ g, ez_B τ g → ez_fr (nz_P2 749 753) h g → (∀ j, j ≠ 5 → j ≠ 7 → qz_I g 749 j = qz_I h 749 j) → cts g 749 sh (wtb sh b el) (W ++ [wt1 sh b el]) → Q (.inl none, g)) : ez_W (d + 1) cm_86 0 [(0, .inr (.inr (some (749)))), (1, .inr (.inl (Int64.ofInt (eP el))))] [] h Q := by
  have tc : τ 749 = 10 := hX 749 (by decide)
  have tg1 : τ 750 = 1 := hX 750 (by decide)
  have tg2 : τ 751 = 2 := hX 751 (by decide)
  have tg3 : τ 752 = 11 := hX 752 (by decide)
  have tg4 : τ 753 = 12 := hX 753 (by decide)
  obtain ⟨⟨ic, sh6, sb7⟩, cv⟩ := id cs
  have t6 : qz_I h 749 6 = 0 ∨ qz_I h 749 6 = 1 := by rcases sh6 with q | q; (· exact Or.inr q.2); (· exact Or.inl q.2)
  refine ez_go (n := 1) (pc' := 1) (L' := [(0, .inr (.inr (some (749)))), (1, .inr (.inl (Int64.ofInt (eP el))))]) (st' := [.inr (.inr (some (749)))]) rfl ?_
  refine ez_gI hB tc rfl rfl tq_10 rfl rfl (fun (b1 : 0 ≤ qz_I h 749 5) (b1' : qz_I h 749 5 ≤ 36000) => ?_)
  rw [ic]
  refine ez_go (n := 1) (pc' := 5) (L' := [(0, .inr (.inr (some (749)))), (1, .inr (.inl (Int64.ofInt (eP el))))]) (st' := [.inr (.inr (some (749))), .inl ((W.length : Int))]) rfl ?_
  refine ez_gR hB tc rfl rfl tq_10 rfl rfl (fun (t2 : _ = 12) (t2' : 1 ≤ qz_I h 749 4) => ?_)
  rw [show qz_P h 749 4 = 753 by unfold qz_P; rw [cl.2.2]; first | rfl | omega]
  refine ez_al hB tg4 rfl tq_12 rfl (fun (b3 : 36000 ≤ qz_N h 753) (b3' : qz_N h 753 ≤ 36000) => ?_)
  refine ez_icmp rfl rfl ⟨by first | omega | exact (sz_i32 _).1, by first | omega | exact (sz_i32 _).2⟩ ⟨by first | omega | exact (sz_i32 _).1, by first | omega | exact (sz_i32 _).2⟩ (fun (c4 : (qz_N h 753) ≤ ((W.length : Int))) => ?_) (fun (c4 : ¬((qz_N h 753) ≤ ((W.length : Int)))) => ?_)
  · skip
    exfalso; omega
  · skip
    refine ez_go (n := 1) (pc' := 13) (L' := [(0, .inr (.inr (some (749)))), (1, .inr (.inl (Int64.ofInt (eP el))))]) (st' := [.inr (.inr (some (749)))]) rfl ?_
    refine ez_gR hB tc rfl rfl tq_10 rfl rfl (fun (t5 : _ = 12) (t5' : 1 ≤ qz_I h 749 4) => ?_)
    rw [show qz_P h 749 4 = 753 by unfold qz_P; rw [cl.2.2]; first | rfl | omega]
    refine ez_go (n := 1) (pc' := 17) (L' := [(0, .inr (.inr (some (749)))), (1, .inr (.inl (Int64.ofInt (eP el))))]) (st' := [.inr (.inr (some (749))), .inr (.inr (some (753)))]) rfl ?_
    refine ez_gI hB tc rfl rfl tq_10 rfl rfl (fun (b6 : 0 ≤ qz_I h 749 5) (b6' : qz_I h 749 5 ≤ 36000) => ?_)
    rw [ic]
    refine ez_go (n := 1) (pc' := 21) (L' := [(0, .inr (.inr (some (749)))), (1, .inr (.inl (Int64.ofInt (eP el))))]) (st' := [.inr (.inr (some (749))), .inl ((W.length : Int)), .inr (.inr (some (753)))]) rfl ?_
    refine ez_gI hB tc rfl rfl tq_10 rfl rfl (fun (b7 : 0 ≤ qz_I h 749 6) (b7' : qz_I h 749 6 ≤ 1) => ?_)
    refine ez_if rfl rfl ⟨by first | omega | exact (sz_i32 _).1, by first | omega | exact (sz_i32 _).2⟩ (fun (c8 : (qz_I h 749 6) = (0)) => ?_) (fun (c8 : ¬((qz_I h 749 6) = (0))) => ?_)
    · skip
      refine ez_go (n := 1) (pc' := 36) (L' := [(0, .inr (.inr (some (749)))), (1, .inr (.inl (Int64.ofInt (eP el))))]) (st' := [.inr (.inl (Int64.ofInt (eP el))), .inl ((W.length : Int)), .inr (.inr (some (753)))]) rfl ?_
      refine ez_ldc2 (-65536) rfl rfl rfl ?_
      refine ez_go (n := 1) (pc' := 40) (L' := [(0, .inr (.inr (some (749)))), (1, .inr (.inl (Int64.ofInt (eP el))))]) (st' := [.inr (.inl ((Int64.ofInt (eP el)) &&& (Int64.ofInt (-65536)))), .inl ((W.length : Int)), .inr (.inr (some (753)))]) rfl ?_
      have es : sh = false := by rcases sh6 with q | q; (· exfalso; omega); (· exact q.1)
      subst es
      rw [el_0 (b := b) eo]
      have n11 : 36000 ≤ qz_N h 753 ∧ qz_N h 753 ≤ 36000 := ez_len hB tg4 tq_12 rfl
      refine ez_as hB tg4 rfl tq_12 rfl rfl (by omega) (by omega) ez_vdJ (fun hB9 w10 => ?_)
      have vA : qz_I (dz_put h 753 ((W.length : Int)).toNat (ez_v (.inr (.inl (Int64.ofInt (wP (wt1 false b el))))))) 753 ((W.length : Int)).toNat = (Int64.ofInt (wP (wt1 false b el))).toInt := w10
      have oA : ∀ q j, ¬ (q = 753 ∧ j = ((W.length : Int)).toNat) → qz_I (dz_put h 753 ((W.length : Int)).toNat (ez_v (.inr (.inl (Int64.ofInt (wP (wt1 false b el))))))) q j = qz_I h q j := fun q j w => ez_put_I w
      have fA : ez_fr (nz_P2 749 753) h (dz_put h 753 ((W.length : Int)).toNat (ez_v (.inr (.inl (Int64.ofInt (wP (wt1 false b el))))))) := (ez_fr.refl (nz_P2 749 753) h).put (by unfold nz_P2; rfl) _ _
      have BA := hB9
      generalize (dz_put h 753 ((W.length : Int)).toNat (ez_v (.inr (.inl (Int64.ofInt (wP (wt1 false b el))))))) = gA at *
      refine ez_go (n := 2) (pc' := 43) (L' := [(0, .inr (.inr (some (749)))), (1, .inr (.inl (Int64.ofInt (eP el))))]) (st' := [.inr (.inr (some (749))), .inr (.inr (some (749)))]) rfl ?_
      refine ez_gI BA tc rfl rfl tq_10 rfl rfl (fun (b12 : 0 ≤ qz_I gA 749 5) (b12' : qz_I gA 749 5 ≤ 36000) => ?_)
      rw [show qz_I gA 749 5 = (W.length : Int) from (oA _ _ (fun q => absurd q.1 (by decide))).trans ic]
      refine ez_go (n := 2) (pc' := 48) (L' := [(0, .inr (.inr (some (749)))), (1, .inr (.inl (Int64.ofInt (eP el))))]) (st' := [.inl (((W.length : Int)) + (1)), .inr (.inr (some (749)))]) rfl ?_
      refine ez_pf BA tc rfl rfl tq_10 rfl rfl rfl rfl (ez_vdI rfl rfl (by omega) (by omega)) (fun hB13 w14 => ?_)
      have eh : ∀ j, j ≠ 5 → qz_I (dz_put gA 749 5 (ez_v (.inl (((W.length : Int)) + (1))))) 749 j = qz_I gA 749 j := fun j hj => ez_put_I (fun q => hj q.2)
      have e4 : ∀ j, qz_I (dz_put gA 749 5 (ez_v (.inl (((W.length : Int)) + (1))))) 753 j = qz_I gA 753 j := fun j => ez_put_I (fun q => absurd q.1 (by decide))
      have gh : ∀ j, j ≠ 5 → j ≠ 7 → qz_I (dz_put gA 749 5 (ez_v (.inl (((W.length : Int)) + (1))))) 749 j = qz_I h 749 j := fun j h5 h7 => (eh j h5).trans ((oA 749 j (fun q => absurd q.1 (by decide))))
      have p4 : ∀ j, qz_I h 753 j = qz_I h 753 j := fun j => rfl
      refine ez_ret0 rfl rfl (k _ hB13 (fA.put (by unfold nz_P2; rfl) _ _) gh ⟨⟨w14.trans ((rz_rd ⟨by omega, by omega⟩).trans (by rw [List.length_append]; rfl)), by rw [gh 6 (by decide) (by decide)]; exact sh6, ?_⟩, fun j w hw => ?_⟩)
      · rw [eh 7 (by decide), oA 749 7 (fun q => absurd q.1 (by decide))]; exact sb7
      · rw [e4]
        by_cases e9 : j < W.length
        · rw [List.getElem?_append_left e9] at hw
          rw [oA _ _ (fun q => by omega), p4]; exact cv j w hw
        · rw [List.getElem?_append_right (by omega)] at hw
          have e0 : j - W.length = 0 := by
            by_cases q : j - W.length = 0
            · exact q
            · rw [List.getElem?_eq_none (by rw [List.length_singleton]; omega)] at hw; cases hw
          rw [e0] at hw
          cases hw
          rw [show j = ((W.length : Int)).toNat by omega]; exact vA
    · skip
      refine ez_go (n := 2) (pc' := 29) (L' := [(0, .inr (.inr (some (749)))), (1, .inr (.inl (Int64.ofInt (eP el))))]) (st' := [.inr (.inl (Int64.ofInt (eP el))), .inr (.inr (some (749))), .inl ((W.length : Int)), .inr (.inr (some (753)))]) rfl ?_
      have es : sh = true := by rcases sh6 with q | q; (· exact q.1); (· exfalso; omega)
      subst es
      refine ez_cv hB tc rfl rfl rfl tq_10 rfl rfl rfl (rd_shift_r hB hX eo sb7 (fun g1 B1 f1 o1 b7 => ez_KL ?_))
      have c15 := o1 5 (by decide); have c16 := o1 6 (by decide)
      refine ez_go (n := 1) (pc' := 40) (L' := [(0, .inr (.inr (some (749)))), (1, .inr (.inl (Int64.ofInt (eP el))))]) (st' := [.inr (.inl (Int64.ofInt (wP (wt1 true b el)))), .inl ((W.length : Int)), .inr (.inr (some (753)))]) rfl ?_
      have n17 : 36000 ≤ qz_N g1 753 ∧ qz_N g1 753 ≤ 36000 := ez_len B1 tg4 tq_12 rfl
      refine ez_as B1 tg4 rfl tq_12 rfl rfl (by omega) (by omega) ez_vdJ (fun hB15 w16 => ?_)
      have vA : qz_I (dz_put g1 753 ((W.length : Int)).toNat (ez_v (.inr (.inl (Int64.ofInt (wP (wt1 true b el))))))) 753 ((W.length : Int)).toNat = (Int64.ofInt (wP (wt1 true b el))).toInt := w16
      have oA : ∀ q j, ¬ (q = 753 ∧ j = ((W.length : Int)).toNat) → qz_I (dz_put g1 753 ((W.length : Int)).toNat (ez_v (.inr (.inl (Int64.ofInt (wP (wt1 true b el))))))) q j = qz_I g1 q j := fun q j w => ez_put_I w
      have fA : ez_fr (nz_P2 749 753) g1 (dz_put g1 753 ((W.length : Int)).toNat (ez_v (.inr (.inl (Int64.ofInt (wP (wt1 true b el))))))) := (ez_fr.refl (nz_P2 749 753) g1).put (by unfold nz_P2; rfl) _ _
      have BA := hB15
      generalize (dz_put g1 753 ((W.length : Int)).toNat (ez_v (.inr (.inl (Int64.ofInt (wP (wt1 true b el))))))) = gA at *
      refine ez_go (n := 2) (pc' := 43) (L' := [(0, .inr (.inr (some (749)))), (1, .inr (.inl (Int64.ofInt (eP el))))]) (st' := [.inr (.inr (some (749))), .inr (.inr (some (749)))]) rfl ?_
      refine ez_gI BA tc rfl rfl tq_10 rfl rfl (fun (b18 : 0 ≤ qz_I gA 749 5) (b18' : qz_I gA 749 5 ≤ 36000) => ?_)
      rw [show qz_I gA 749 5 = (W.length : Int) from (oA _ _ (fun q => absurd q.1 (by decide))).trans (c15.trans ic)]
      refine ez_go (n := 2) (pc' := 48) (L' := [(0, .inr (.inr (some (749)))), (1, .inr (.inl (Int64.ofInt (eP el))))]) (st' := [.inl (((W.length : Int)) + (1)), .inr (.inr (some (749)))]) rfl ?_
      refine ez_pf BA tc rfl rfl tq_10 rfl rfl rfl rfl (ez_vdI rfl rfl (by omega) (by omega)) (fun hB19 w20 => ?_)
      have eh : ∀ j, j ≠ 5 → qz_I (dz_put gA 749 5 (ez_v (.inl (((W.length : Int)) + (1))))) 749 j = qz_I gA 749 j := fun j hj => ez_put_I (fun q => hj q.2)
      have e4 : ∀ j, qz_I (dz_put gA 749 5 (ez_v (.inl (((W.length : Int)) + (1))))) 753 j = qz_I gA 753 j := fun j => ez_put_I (fun q => absurd q.1 (by decide))
      have gh : ∀ j, j ≠ 5 → j ≠ 7 → qz_I (dz_put gA 749 5 (ez_v (.inl (((W.length : Int)) + (1))))) 749 j = qz_I h 749 j := fun j h5 h7 => (eh j h5).trans ((oA 749 j (fun q => absurd q.1 (by decide))).trans (o1 j (by omega)))
      have p4 : ∀ j, qz_I g1 753 j = qz_I h 753 j := fun j => f1.I rfl j
      refine ez_ret0 rfl rfl (k _ hB19 (((ez_fr_mono f1 (fun z hz => by unfold ez_one at hz; unfold nz_P2; rw [hz]; rfl)).trans fA).put (by unfold nz_P2; rfl) _ _) gh ⟨⟨w20.trans ((rz_rd ⟨by omega, by omega⟩).trans (by rw [List.length_append]; rfl)), by rw [gh 6 (by decide) (by decide)]; exact sh6, ?_⟩, fun j w hw => ?_⟩)
      · rw [eh 7 (by decide), oA 749 7 (fun q => absurd q.1 (by decide))]; exact b7
      · rw [e4]
        by_cases e9 : j < W.length
        · rw [List.getElem?_append_left e9] at hw
          rw [oA _ _ (fun q => by omega), p4]; exact cv j w hw
        · rw [List.getElem?_append_right (by omega)] at hw
          have e0 : j - W.length = 0 := by
            by_cases q : j - W.length = 0
            · exact q
            · rw [List.getElem?_eq_none (by rw [List.length_singleton]; omega)] at hw; cases hw
          rw [e0] at hw
          cases hw
          rw [show j = ((W.length : Int)).toNat by omega]; exact vA

end EzKs

/-! COLLATION: the class, elements. (Written by wip/p2/py/pvk2.py.) -/
/-- what is left of the text, from at on -/
def rst (h : cz_H) (r : Nat) (K : Int → Int) (at9 : Int) (rem : List Int) : Prop := (0 ≤ at9 ∧ at9 + (rem.length : Int) ≤ 2000 ∧ ptl rem) ∧ qz_I h (r + 1) 1 = at9 + (rem.length : Int) ∧ ∀ (j : Nat) v, rem[j]? = some v → qz_I h (r + 2) (at9.toNat + j) = v ∧ qz_I h (r + 3) (at9.toNat + j) = K v
theorem rst.tr {h g : cz_H} {r : Nat} {K : Int → Int} {a : Int} {rem : List Int} (x : rst h r K a rem) (e1 : qz_I g (r + 1) 1 = qz_I h (r + 1) 1) (e2 : ∀ j, qz_I g (r + 2) j = qz_I h (r + 2) j) (e3 : ∀ j, qz_I g (r + 3) j = qz_I h (r + 3) j) : rst g r K a rem := ⟨x.1, e1.trans x.2.1, fun j v hv => ⟨(e2 _).trans (x.2.2 j v hv).1, (e3 _).trans (x.2.2 j v hv).2⟩⟩
theorem tk1 {l : List Int} (h : 1 ≤ l.length) : l.take 1 = [uX l 0] := by
  match l, h with
  | a :: t, _ => rfl
theorem tk2 {l : List Int} (h : 2 ≤ l.length) : l.take 2 = [uX l 0, uX l 1] := by
  match l, h with
  | a :: b :: t, _ => rfl
theorem tk3 {l : List Int} (h : 3 ≤ l.length) : l.take 3 = [uX l 0, uX l 1, uX l 2] := by
  match l, h with
  | a :: b :: c :: t, _ => rfl
theorem ptl1 {a : Int} (ha : 0 ≤ a ∧ a ≤ 1114111) : ptl [a] := fun v hv => by rw [List.mem_singleton.mp hv]; exact ha
theorem ptl2 {a b : Int} (ha : 0 ≤ a ∧ a ≤ 1114111) (hb : 0 ≤ b ∧ b ≤ 1114111) : ptl [a, b] := ptl_app (ptl1 ha) (ptl1 hb)
section EzKt
variable {d : Nat} {h : cz_H} {τ : Nat → Nat} {P Q : cz_F → Prop} {LK : List Int → Option (List eL)} {R : List (List Int × List eL)} {row rem : List Int} {el : eL} {W : List eL} {sh b : Bool} {K : Int → Int} {F : rz_W} {E : Int → Prop} {T : Int → Nat} {D : Int → xD} {O : Nat → Int}
theorem rd_longest_l {at9 : Int} (hB : ez_B τ h) (hX : jz_X τ) (c : cEr τ h LK R) (cl : clr h 744) (rs : rst h 744 K at9 rem) (k1 : ∀ v n e, lon LK rem = some (n, e) → 0 ≤ v → R[v.toNat]? = some (rem.take n, e) → Q (.inl (some (ez_v (.inl v))), h)) (k0 : lon LK rem = none → Q (.inl (some (ez_v (.inl (-1)))), h)) : ez_W (d + 2) cm_84 0 [(0, .inr (.inr (some (744)))), (1, .inl (at9))] [] h Q := by
  have t202 : τ 202 = 48 := hX 202 (by decide)
  have t204 : τ 204 = 50 := hX 204 (by decide)
  have t205 : τ 205 = 51 := hX 205 (by decide)
  have tc : τ 744 = 10 := hX 744 (by decide)
  have tg1 : τ 745 = 1 := hX 745 (by decide)
  have tg2 : τ 746 = 2 := hX 746 (by decide)
  have tg3 : τ 747 = 11 := hX 747 (by decide)
  have tg4 : τ 748 = 12 := hX 748 (by decide)
  obtain ⟨ra, rb, rc⟩ := id rs.1
  refine ez_go (n := 8) (pc' := 11) (L' := [(5, .inl (0)), (4, .inl (-1)), (2, .inr (.inl (Int64.ofInt (0 : Nat)))), (0, .inr (.inr (some (744)))), (1, .inl (at9))]) (st' := [.inl (3), .inl (0)]) rfl ?_
  refine ez_icmp rfl rfl ⟨by decide, by decide⟩ ⟨by decide, by decide⟩ (fun (c1 : (3) ≤ (0 : Int)) => absurd c1 (by decide)) (fun _ => ?_)
  refine ez_go (n := 4) (pc' := 19) (L' := [(5, .inl (0)), (4, .inl (-1)), (2, .inr (.inl (Int64.ofInt (0 : Nat)))), (0, .inr (.inr (some (744)))), (1, .inl (at9))]) (st' := [.inr (.inr (some (744))), .inl ((at9) + (0))]) rfl ?_
  refine ez_gR hB tc rfl rfl tq_10 rfl rfl (fun (t2 : _ = 1) (t2' : 1 ≤ qz_I h 744 2) => ?_)
  rw [show qz_P h 744 2 = 745 by unfold qz_P; rw [cl.1]; first | rfl | omega]
  refine ez_gI hB tg1 rfl rfl tq_1 rfl rfl (fun (b3 : 0 ≤ qz_I h 745 1) (b3' : qz_I h 745 1 ≤ 2000) => ?_)
  rw [rs.2.1]
  refine ez_icmp rfl rfl ⟨by first | omega | exact (sz_i32 _).1, by first | omega | exact (sz_i32 _).2⟩ ⟨by first | omega | exact (sz_i32 _).1, by first | omega | exact (sz_i32 _).2⟩ (fun (c4 : (at9 + (rem.length : Int)) ≤ ((at9) + (0))) => ?_) (fun (c4 : ¬((at9 + (rem.length : Int)) ≤ ((at9) + (0)))) => ?_)
  · skip
    refine ez_go (n := 1) (pc' := 80) (L' := [(5, .inl (0)), (4, .inl (-1)), (2, .inr (.inl (Int64.ofInt (0 : Nat)))), (0, .inr (.inr (some (744)))), (1, .inl (at9))]) (st' := [.inl (-1)]) rfl ?_
    have lo : lon LK rem = none := by unfold lon; rw [lon1_n (Or.inl (by omega)), lon1_n (Or.inl (by omega)), lon1_n (Or.inl (by omega))]
    exact ez_retI rfl rfl (k0 lo)
  · skip
    refine ez_go (n := 3) (pc' := 32) (L' := [(5, .inl (0)), (4, .inl (-1)), (2, .inr (.inl (Int64.ofInt (0 : Nat)))), (0, .inr (.inr (some (744)))), (1, .inl (at9))]) (st' := [.inr (.inr (some (744))), .inl (0), .inr (.inl (Int64.ofInt (0 : Nat)))]) rfl ?_
    refine ez_gR hB tc rfl rfl tq_10 rfl rfl (fun (t5 : _ = 1) (t5' : 1 ≤ qz_I h 744 2) => ?_)
    rw [show qz_P h 744 2 = 745 by unfold qz_P; rw [cl.1]; first | rfl | omega]
    refine ez_g3 hB tg1 rfl rfl tq_1 rfl rfl (fun (t6 : _ = 2) => ?_)
    refine ez_go (n := 3) (pc' := 42) (L' := [(5, .inl (0)), (4, .inl (-1)), (2, .inr (.inl (Int64.ofInt (0 : Nat)))), (0, .inr (.inr (some (744)))), (1, .inl (at9))]) (st' := [.inl ((at9) + (0)), .inr (.inr (some (746))), .inl (0), .inr (.inl (Int64.ofInt (0 : Nat)))]) rfl ?_
    have n8 : 2000 ≤ qz_N h 746 ∧ qz_N h 746 ≤ 2000 := ez_len hB t6 tq_2 rfl
    refine ez_aI hB t6 rfl tq_2 rfl rfl (by omega) (by omega) (fun (b7 : -2147483648 ≤ qz_I h 746 ((at9) + (0)).toNat) (b7' : qz_I h 746 ((at9) + (0)).toNat ≤ 2147483647) => ?_)
    have l0 : 0 < rem.length := by omega
    have e0 : qz_I h 746 ((at9) + (0)).toNat = uX rem 0 := by rw [show ((at9) + (0)).toNat = at9.toNat + 0 by omega]; exact (rs.2.2 0 _ (uX_e (u := rem) (j := 0) (by omega))).1
    have p0 := uX_ptl rs.1.2.2 (j := 0) (show (0 : Int).toNat < rem.length by omega)
    rw [e0]
    refine ez_cs hB.2.1 rfl rfl rfl rfl rfl (rd_cpackAt (row := ([] : List Int)) (Nat.le_of_ble_eq_true rfl) (fun v hv => by cases hv) p0 (by show ((uv (Int64.ofInt ((0 : Nat) : Int)) : Nat) : Int) = 0; decide) (fun y0 hy0 => ez_KL ?_))
    have hy0 : (uv y0 : Int) = pkN [uX rem 0] := hy0
    refine ez_go (n := 2) (pc' := 48) (L' := [(2, .inr (.inl (y0))), (5, .inl (0)), (4, .inl (-1)), (0, .inr (.inr (some (744)))), (1, .inl (at9))]) (st' := [.inr (.inr (some (744)))]) rfl ?_
    refine ez_gC (p := 202) (tg := 48) hB tc rfl rfl tq_10 rfl rfl (fun (t202 : _ = 48) => ?_)
    refine ez_go (n := 1) (pc' := 52) (L' := [(2, .inr (.inl (y0))), (5, .inl (0)), (4, .inl (-1)), (0, .inr (.inr (some (744)))), (1, .inl (at9))]) (st' := [.inr (.inl (y0)), .inr (.inr (some (202)))]) rfl ?_
    refine ez_cv hB t202 rfl rfl rfl tq_48 rfl rfl rfl (rd_entryIndex (row := [uX rem 0]) hB hX c (rowk_app (row := ([] : List Int)) (fun v hv => by cases hv) (Nat.le_of_ble_eq_true rfl) p0) hy0 (fun v0 f0 w0 i0 x0 => ez_K1 ?_) (fun x0 => ez_K1 ?_))
    · have vb0 : -1 < v0 ∧ v0 ≤ 256 := by have q1 := (List.getElem?_eq_some_iff.mp i0).1; have q2 := c.1; have q3 : 0 ≤ qz_I h 202 4 ∧ qz_I h 202 4 ≤ 256 := ez_fB (cl := 2) (k := 4) hB t202 tq_48 rfl rfl (by decide); omega
      refine ez_go (n := 3) (pc' := 60) (L' := [(6, .inl (v0)), (2, .inr (.inl (y0))), (5, .inl (0)), (4, .inl (-1)), (0, .inr (.inr (some (744)))), (1, .inl (at9))]) (st' := [.inl (-1), .inl (v0)]) rfl ?_
      refine ez_icmp rfl rfl ⟨by first | omega | exact (sz_i32 _).1, by first | omega | exact (sz_i32 _).2⟩ ⟨by first | omega | exact (sz_i32 _).1, by first | omega | exact (sz_i32 _).2⟩ (fun (c9 : (v0) = (-1)) => ?_) (fun (c9 : ¬((v0) = (-1))) => ?_)
      · exfalso; omega
      · skip
        refine ez_go (n := 7) (pc' := 11) (L' := [(5, .inl (1)), (4, .inl (v0)), (6, .inl (v0)), (2, .inr (.inl (y0))), (0, .inr (.inr (some (744)))), (1, .inl (at9))]) (st' := [.inl (3), .inl (1)]) rfl ?_
        refine ez_icmp rfl rfl ⟨by decide, by decide⟩ ⟨by decide, by decide⟩ (fun (c10 : (3) ≤ (1 : Int)) => absurd c10 (by decide)) (fun _ => ?_)
        refine ez_go (n := 4) (pc' := 19) (L' := [(5, .inl (1)), (4, .inl (v0)), (6, .inl (v0)), (2, .inr (.inl (y0))), (0, .inr (.inr (some (744)))), (1, .inl (at9))]) (st' := [.inr (.inr (some (744))), .inl ((at9) + (1))]) rfl ?_
        refine ez_gR hB tc rfl rfl tq_10 rfl rfl (fun (t11 : _ = 1) (t11' : 1 ≤ qz_I h 744 2) => ?_)
        rw [show qz_P h 744 2 = 745 by unfold qz_P; rw [cl.1]; first | rfl | omega]
        refine ez_gI hB tg1 rfl rfl tq_1 rfl rfl (fun (b12 : 0 ≤ qz_I h 745 1) (b12' : qz_I h 745 1 ≤ 2000) => ?_)
        rw [rs.2.1]
        refine ez_icmp rfl rfl ⟨by first | omega | exact (sz_i32 _).1, by first | omega | exact (sz_i32 _).2⟩ ⟨by first | omega | exact (sz_i32 _).1, by first | omega | exact (sz_i32 _).2⟩ (fun (c13 : (at9 + (rem.length : Int)) ≤ ((at9) + (1))) => ?_) (fun (c13 : ¬((at9 + (rem.length : Int)) ≤ ((at9) + (1)))) => ?_)
        · skip
          refine ez_go (n := 1) (pc' := 80) (L' := [(5, .inl (1)), (4, .inl (v0)), (6, .inl (v0)), (2, .inr (.inl (y0))), (0, .inr (.inr (some (744)))), (1, .inl (at9))]) (st' := [.inl (v0)]) rfl ?_
          have lo : lon LK rem = some (1, f0) := by unfold lon; rw [lon1_n (Or.inl (by omega)), lon1_n (Or.inl (by omega)), lon1_y (by omega) (by rw [tk1 (by omega)]; exact x0)]
          exact ez_retI rfl rfl (k1 v0 1 f0 lo w0 (by rw [tk1 (by omega)]; exact i0))
        · skip
          refine ez_go (n := 3) (pc' := 32) (L' := [(5, .inl (1)), (4, .inl (v0)), (6, .inl (v0)), (2, .inr (.inl (y0))), (0, .inr (.inr (some (744)))), (1, .inl (at9))]) (st' := [.inr (.inr (some (744))), .inl (1), .inr (.inl (y0))]) rfl ?_
          refine ez_gR hB tc rfl rfl tq_10 rfl rfl (fun (t14 : _ = 1) (t14' : 1 ≤ qz_I h 744 2) => ?_)
          rw [show qz_P h 744 2 = 745 by unfold qz_P; rw [cl.1]; first | rfl | omega]
          refine ez_g3 hB tg1 rfl rfl tq_1 rfl rfl (fun (t15 : _ = 2) => ?_)
          refine ez_go (n := 3) (pc' := 42) (L' := [(5, .inl (1)), (4, .inl (v0)), (6, .inl (v0)), (2, .inr (.inl (y0))), (0, .inr (.inr (some (744)))), (1, .inl (at9))]) (st' := [.inl ((at9) + (1)), .inr (.inr (some (746))), .inl (1), .inr (.inl (y0))]) rfl ?_
          have n17 : 2000 ≤ qz_N h 746 ∧ qz_N h 746 ≤ 2000 := ez_len hB t15 tq_2 rfl
          refine ez_aI hB t15 rfl tq_2 rfl rfl (by omega) (by omega) (fun (b16 : -2147483648 ≤ qz_I h 746 ((at9) + (1)).toNat) (b16' : qz_I h 746 ((at9) + (1)).toNat ≤ 2147483647) => ?_)
          have l1 : 1 < rem.length := by omega
          have e1 : qz_I h 746 ((at9) + (1)).toNat = uX rem 1 := by rw [show ((at9) + (1)).toNat = at9.toNat + 1 by omega]; exact (rs.2.2 1 _ (uX_e (u := rem) (j := 1) (by omega))).1
          have p1 := uX_ptl rs.1.2.2 (j := 1) (show (1 : Int).toNat < rem.length by omega)
          rw [e1]
          refine ez_cs hB.2.1 rfl rfl rfl rfl rfl (rd_cpackAt (row := [uX rem 0]) (Nat.le_of_ble_eq_true rfl) (ptl1 p0) p1 hy0 (fun y1 hy1 => ez_KL ?_))
          have hy1 : (uv y1 : Int) = pkN [uX rem 0, uX rem 1] := hy1
          refine ez_go (n := 2) (pc' := 48) (L' := [(2, .inr (.inl (y1))), (5, .inl (1)), (4, .inl (v0)), (6, .inl (v0)), (0, .inr (.inr (some (744)))), (1, .inl (at9))]) (st' := [.inr (.inr (some (744)))]) rfl ?_
          refine ez_gC (p := 202) (tg := 48) hB tc rfl rfl tq_10 rfl rfl (fun (t202 : _ = 48) => ?_)
          refine ez_go (n := 1) (pc' := 52) (L' := [(2, .inr (.inl (y1))), (5, .inl (1)), (4, .inl (v0)), (6, .inl (v0)), (0, .inr (.inr (some (744)))), (1, .inl (at9))]) (st' := [.inr (.inl (y1)), .inr (.inr (some (202)))]) rfl ?_
          refine ez_cv hB t202 rfl rfl rfl tq_48 rfl rfl rfl (rd_entryIndex (row := [uX rem 0, uX rem 1]) hB hX c (rowk_app (row := [uX rem 0]) (ptl1 p0) (Nat.le_of_ble_eq_true rfl) p1) hy1 (fun v1 f1 w1 i1 x1 => ez_K1 ?_) (fun x1 => ez_K1 ?_))
          · have vb1 : -1 < v1 ∧ v1 ≤ 256 := by have q1 := (List.getElem?_eq_some_iff.mp i1).1; have q2 := c.1; have q3 : 0 ≤ qz_I h 202 4 ∧ qz_I h 202 4 ≤ 256 := ez_fB (cl := 2) (k := 4) hB t202 tq_48 rfl rfl (by decide); omega
            refine ez_go (n := 3) (pc' := 60) (L' := [(6, .inl (v1)), (2, .inr (.inl (y1))), (5, .inl (1)), (4, .inl (v0)), (0, .inr (.inr (some (744)))), (1, .inl (at9))]) (st' := [.inl (-1), .inl (v1)]) rfl ?_
            refine ez_icmp rfl rfl ⟨by first | omega | exact (sz_i32 _).1, by first | omega | exact (sz_i32 _).2⟩ ⟨by first | omega | exact (sz_i32 _).1, by first | omega | exact (sz_i32 _).2⟩ (fun (c18 : (v1) = (-1)) => ?_) (fun (c18 : ¬((v1) = (-1))) => ?_)
            · exfalso; omega
            · skip
              refine ez_go (n := 7) (pc' := 11) (L' := [(5, .inl (2)), (4, .inl (v1)), (6, .inl (v1)), (2, .inr (.inl (y1))), (0, .inr (.inr (some (744)))), (1, .inl (at9))]) (st' := [.inl (3), .inl (2)]) rfl ?_
              refine ez_icmp rfl rfl ⟨by decide, by decide⟩ ⟨by decide, by decide⟩ (fun (c19 : (3) ≤ (2 : Int)) => absurd c19 (by decide)) (fun _ => ?_)
              refine ez_go (n := 4) (pc' := 19) (L' := [(5, .inl (2)), (4, .inl (v1)), (6, .inl (v1)), (2, .inr (.inl (y1))), (0, .inr (.inr (some (744)))), (1, .inl (at9))]) (st' := [.inr (.inr (some (744))), .inl ((at9) + (2))]) rfl ?_
              refine ez_gR hB tc rfl rfl tq_10 rfl rfl (fun (t20 : _ = 1) (t20' : 1 ≤ qz_I h 744 2) => ?_)
              rw [show qz_P h 744 2 = 745 by unfold qz_P; rw [cl.1]; first | rfl | omega]
              refine ez_gI hB tg1 rfl rfl tq_1 rfl rfl (fun (b21 : 0 ≤ qz_I h 745 1) (b21' : qz_I h 745 1 ≤ 2000) => ?_)
              rw [rs.2.1]
              refine ez_icmp rfl rfl ⟨by first | omega | exact (sz_i32 _).1, by first | omega | exact (sz_i32 _).2⟩ ⟨by first | omega | exact (sz_i32 _).1, by first | omega | exact (sz_i32 _).2⟩ (fun (c22 : (at9 + (rem.length : Int)) ≤ ((at9) + (2))) => ?_) (fun (c22 : ¬((at9 + (rem.length : Int)) ≤ ((at9) + (2)))) => ?_)
              · skip
                refine ez_go (n := 1) (pc' := 80) (L' := [(5, .inl (2)), (4, .inl (v1)), (6, .inl (v1)), (2, .inr (.inl (y1))), (0, .inr (.inr (some (744)))), (1, .inl (at9))]) (st' := [.inl (v1)]) rfl ?_
                have lo : lon LK rem = some (2, f1) := by unfold lon; rw [lon1_n (Or.inl (by omega)), lon1_y (by omega) (by rw [tk2 (by omega)]; exact x1)]
                exact ez_retI rfl rfl (k1 v1 2 f1 lo w1 (by rw [tk2 (by omega)]; exact i1))
              · skip
                refine ez_go (n := 3) (pc' := 32) (L' := [(5, .inl (2)), (4, .inl (v1)), (6, .inl (v1)), (2, .inr (.inl (y1))), (0, .inr (.inr (some (744)))), (1, .inl (at9))]) (st' := [.inr (.inr (some (744))), .inl (2), .inr (.inl (y1))]) rfl ?_
                refine ez_gR hB tc rfl rfl tq_10 rfl rfl (fun (t23 : _ = 1) (t23' : 1 ≤ qz_I h 744 2) => ?_)
                rw [show qz_P h 744 2 = 745 by unfold qz_P; rw [cl.1]; first | rfl | omega]
                refine ez_g3 hB tg1 rfl rfl tq_1 rfl rfl (fun (t24 : _ = 2) => ?_)
                refine ez_go (n := 3) (pc' := 42) (L' := [(5, .inl (2)), (4, .inl (v1)), (6, .inl (v1)), (2, .inr (.inl (y1))), (0, .inr (.inr (some (744)))), (1, .inl (at9))]) (st' := [.inl ((at9) + (2)), .inr (.inr (some (746))), .inl (2), .inr (.inl (y1))]) rfl ?_
                have n26 : 2000 ≤ qz_N h 746 ∧ qz_N h 746 ≤ 2000 := ez_len hB t24 tq_2 rfl
                refine ez_aI hB t24 rfl tq_2 rfl rfl (by omega) (by omega) (fun (b25 : -2147483648 ≤ qz_I h 746 ((at9) + (2)).toNat) (b25' : qz_I h 746 ((at9) + (2)).toNat ≤ 2147483647) => ?_)
                have l2 : 2 < rem.length := by omega
                have e2 : qz_I h 746 ((at9) + (2)).toNat = uX rem 2 := by rw [show ((at9) + (2)).toNat = at9.toNat + 2 by omega]; exact (rs.2.2 2 _ (uX_e (u := rem) (j := 2) (by omega))).1
                have p2 := uX_ptl rs.1.2.2 (j := 2) (show (2 : Int).toNat < rem.length by omega)
                rw [e2]
                refine ez_cs hB.2.1 rfl rfl rfl rfl rfl (rd_cpackAt (row := [uX rem 0, uX rem 1]) (Nat.le_of_ble_eq_true rfl) (ptl2 p0 p1) p2 hy1 (fun y2 hy2 => ez_KL ?_))
                have hy2 : (uv y2 : Int) = pkN [uX rem 0, uX rem 1, uX rem 2] := hy2
                refine ez_go (n := 2) (pc' := 48) (L' := [(2, .inr (.inl (y2))), (5, .inl (2)), (4, .inl (v1)), (6, .inl (v1)), (0, .inr (.inr (some (744)))), (1, .inl (at9))]) (st' := [.inr (.inr (some (744)))]) rfl ?_
                refine ez_gC (p := 202) (tg := 48) hB tc rfl rfl tq_10 rfl rfl (fun (t202 : _ = 48) => ?_)
                refine ez_go (n := 1) (pc' := 52) (L' := [(2, .inr (.inl (y2))), (5, .inl (2)), (4, .inl (v1)), (6, .inl (v1)), (0, .inr (.inr (some (744)))), (1, .inl (at9))]) (st' := [.inr (.inl (y2)), .inr (.inr (some (202)))]) rfl ?_
                refine ez_cv hB t202 rfl rfl rfl tq_48 rfl rfl rfl (rd_entryIndex (row := [uX rem 0, uX rem 1, uX rem 2]) hB hX c (rowk_app (row := [uX rem 0, uX rem 1]) (ptl2 p0 p1) (Nat.le_of_ble_eq_true rfl) p2) hy2 (fun v2 f2 w2 i2 x2 => ez_K1 ?_) (fun x2 => ez_K1 ?_))
                · have vb2 : -1 < v2 ∧ v2 ≤ 256 := by have q1 := (List.getElem?_eq_some_iff.mp i2).1; have q2 := c.1; have q3 : 0 ≤ qz_I h 202 4 ∧ qz_I h 202 4 ≤ 256 := ez_fB (cl := 2) (k := 4) hB t202 tq_48 rfl rfl (by decide); omega
                  refine ez_go (n := 3) (pc' := 60) (L' := [(6, .inl (v2)), (2, .inr (.inl (y2))), (5, .inl (2)), (4, .inl (v1)), (0, .inr (.inr (some (744)))), (1, .inl (at9))]) (st' := [.inl (-1), .inl (v2)]) rfl ?_
                  refine ez_icmp rfl rfl ⟨by first | omega | exact (sz_i32 _).1, by first | omega | exact (sz_i32 _).2⟩ ⟨by first | omega | exact (sz_i32 _).1, by first | omega | exact (sz_i32 _).2⟩ (fun (c27 : (v2) = (-1)) => ?_) (fun (c27 : ¬((v2) = (-1))) => ?_)
                  · exfalso; omega
                  · skip
                    refine ez_go (n := 7) (pc' := 11) (L' := [(5, .inl (3)), (4, .inl (v2)), (6, .inl (v2)), (2, .inr (.inl (y2))), (0, .inr (.inr (some (744)))), (1, .inl (at9))]) (st' := [.inl (3), .inl (3)]) rfl ?_
                    refine ez_icmp rfl rfl ⟨by decide, by decide⟩ ⟨by decide, by decide⟩ (fun _ => ?_) (fun (c28 : ¬((3 : Int) ≤ (3))) => absurd c28 (by decide))
                    refine ez_go (n := 1) (pc' := 80) (L' := [(5, .inl (3)), (4, .inl (v2)), (6, .inl (v2)), (2, .inr (.inl (y2))), (0, .inr (.inr (some (744)))), (1, .inl (at9))]) (st' := [.inl (v2)]) rfl ?_
                    have lo : lon LK rem = some (3, f2) := by unfold lon; rw [lon1_y (by omega) (by rw [tk3 (by omega)]; exact x2)]
                    exact ez_retI rfl rfl (k1 v2 3 f2 lo w2 (by rw [tk3 (by omega)]; exact i2))
                · skip
                  refine ez_go (n := 3) (pc' := 60) (L' := [(6, .inl (-1)), (2, .inr (.inl (y2))), (5, .inl (2)), (4, .inl (v1)), (0, .inr (.inr (some (744)))), (1, .inl (at9))]) (st' := [.inl (-1), .inl (-1)]) rfl ?_
                  refine ez_icmp rfl rfl ⟨by decide, by decide⟩ ⟨by decide, by decide⟩ (fun _ => ?_) (fun (c29 : ¬((-1 : Int) = (-1))) => absurd c29 (by decide))
                  refine ez_go (n := 6) (pc' := 11) (L' := [(5, .inl (3)), (4, .inl (v1)), (6, .inl (-1)), (2, .inr (.inl (y2))), (0, .inr (.inr (some (744)))), (1, .inl (at9))]) (st' := [.inl (3), .inl (3)]) rfl ?_
                  refine ez_icmp rfl rfl ⟨by decide, by decide⟩ ⟨by decide, by decide⟩ (fun _ => ?_) (fun (c30 : ¬((3 : Int) ≤ (3))) => absurd c30 (by decide))
                  refine ez_go (n := 1) (pc' := 80) (L' := [(5, .inl (3)), (4, .inl (v1)), (6, .inl (-1)), (2, .inr (.inl (y2))), (0, .inr (.inr (some (744)))), (1, .inl (at9))]) (st' := [.inl (v1)]) rfl ?_
                  have lo : lon LK rem = some (2, f1) := by unfold lon; rw [lon1_n (Or.inr (by rw [tk3 (by omega)]; exact x2)), lon1_y (by omega) (by rw [tk2 (by omega)]; exact x1)]
                  exact ez_retI rfl rfl (k1 v1 2 f1 lo w1 (by rw [tk2 (by omega)]; exact i1))
          · skip
            refine ez_go (n := 3) (pc' := 60) (L' := [(6, .inl (-1)), (2, .inr (.inl (y1))), (5, .inl (1)), (4, .inl (v0)), (0, .inr (.inr (some (744)))), (1, .inl (at9))]) (st' := [.inl (-1), .inl (-1)]) rfl ?_
            refine ez_icmp rfl rfl ⟨by decide, by decide⟩ ⟨by decide, by decide⟩ (fun _ => ?_) (fun (c31 : ¬((-1 : Int) = (-1))) => absurd c31 (by decide))
            refine ez_go (n := 6) (pc' := 11) (L' := [(5, .inl (2)), (4, .inl (v0)), (6, .inl (-1)), (2, .inr (.inl (y1))), (0, .inr (.inr (some (744)))), (1, .inl (at9))]) (st' := [.inl (3), .inl (2)]) rfl ?_
            refine ez_icmp rfl rfl ⟨by decide, by decide⟩ ⟨by decide, by decide⟩ (fun (c32 : (3) ≤ (2 : Int)) => absurd c32 (by decide)) (fun _ => ?_)
            refine ez_go (n := 4) (pc' := 19) (L' := [(5, .inl (2)), (4, .inl (v0)), (6, .inl (-1)), (2, .inr (.inl (y1))), (0, .inr (.inr (some (744)))), (1, .inl (at9))]) (st' := [.inr (.inr (some (744))), .inl ((at9) + (2))]) rfl ?_
            refine ez_gR hB tc rfl rfl tq_10 rfl rfl (fun (t33 : _ = 1) (t33' : 1 ≤ qz_I h 744 2) => ?_)
            rw [show qz_P h 744 2 = 745 by unfold qz_P; rw [cl.1]; first | rfl | omega]
            refine ez_gI hB tg1 rfl rfl tq_1 rfl rfl (fun (b34 : 0 ≤ qz_I h 745 1) (b34' : qz_I h 745 1 ≤ 2000) => ?_)
            rw [rs.2.1]
            refine ez_icmp rfl rfl ⟨by first | omega | exact (sz_i32 _).1, by first | omega | exact (sz_i32 _).2⟩ ⟨by first | omega | exact (sz_i32 _).1, by first | omega | exact (sz_i32 _).2⟩ (fun (c35 : (at9 + (rem.length : Int)) ≤ ((at9) + (2))) => ?_) (fun (c35 : ¬((at9 + (rem.length : Int)) ≤ ((at9) + (2)))) => ?_)
            · skip
              refine ez_go (n := 1) (pc' := 80) (L' := [(5, .inl (2)), (4, .inl (v0)), (6, .inl (-1)), (2, .inr (.inl (y1))), (0, .inr (.inr (some (744)))), (1, .inl (at9))]) (st' := [.inl (v0)]) rfl ?_
              have lo : lon LK rem = some (1, f0) := by unfold lon; rw [lon1_n (Or.inl (by omega)), lon1_n (Or.inr (by rw [tk2 (by omega)]; exact x1)), lon1_y (by omega) (by rw [tk1 (by omega)]; exact x0)]
              exact ez_retI rfl rfl (k1 v0 1 f0 lo w0 (by rw [tk1 (by omega)]; exact i0))
            · skip
              refine ez_go (n := 3) (pc' := 32) (L' := [(5, .inl (2)), (4, .inl (v0)), (6, .inl (-1)), (2, .inr (.inl (y1))), (0, .inr (.inr (some (744)))), (1, .inl (at9))]) (st' := [.inr (.inr (some (744))), .inl (2), .inr (.inl (y1))]) rfl ?_
              refine ez_gR hB tc rfl rfl tq_10 rfl rfl (fun (t36 : _ = 1) (t36' : 1 ≤ qz_I h 744 2) => ?_)
              rw [show qz_P h 744 2 = 745 by unfold qz_P; rw [cl.1]; first | rfl | omega]
              refine ez_g3 hB tg1 rfl rfl tq_1 rfl rfl (fun (t37 : _ = 2) => ?_)
              refine ez_go (n := 3) (pc' := 42) (L' := [(5, .inl (2)), (4, .inl (v0)), (6, .inl (-1)), (2, .inr (.inl (y1))), (0, .inr (.inr (some (744)))), (1, .inl (at9))]) (st' := [.inl ((at9) + (2)), .inr (.inr (some (746))), .inl (2), .inr (.inl (y1))]) rfl ?_
              have n39 : 2000 ≤ qz_N h 746 ∧ qz_N h 746 ≤ 2000 := ez_len hB t37 tq_2 rfl
              refine ez_aI hB t37 rfl tq_2 rfl rfl (by omega) (by omega) (fun (b38 : -2147483648 ≤ qz_I h 746 ((at9) + (2)).toNat) (b38' : qz_I h 746 ((at9) + (2)).toNat ≤ 2147483647) => ?_)
              have l2 : 2 < rem.length := by omega
              have e2 : qz_I h 746 ((at9) + (2)).toNat = uX rem 2 := by rw [show ((at9) + (2)).toNat = at9.toNat + 2 by omega]; exact (rs.2.2 2 _ (uX_e (u := rem) (j := 2) (by omega))).1
              have p2 := uX_ptl rs.1.2.2 (j := 2) (show (2 : Int).toNat < rem.length by omega)
              rw [e2]
              refine ez_cs hB.2.1 rfl rfl rfl rfl rfl (rd_cpackAt (row := [uX rem 0, uX rem 1]) (Nat.le_of_ble_eq_true rfl) (ptl2 p0 p1) p2 hy1 (fun y2 hy2 => ez_KL ?_))
              have hy2 : (uv y2 : Int) = pkN [uX rem 0, uX rem 1, uX rem 2] := hy2
              refine ez_go (n := 2) (pc' := 48) (L' := [(2, .inr (.inl (y2))), (5, .inl (2)), (4, .inl (v0)), (6, .inl (-1)), (0, .inr (.inr (some (744)))), (1, .inl (at9))]) (st' := [.inr (.inr (some (744)))]) rfl ?_
              refine ez_gC (p := 202) (tg := 48) hB tc rfl rfl tq_10 rfl rfl (fun (t202 : _ = 48) => ?_)
              refine ez_go (n := 1) (pc' := 52) (L' := [(2, .inr (.inl (y2))), (5, .inl (2)), (4, .inl (v0)), (6, .inl (-1)), (0, .inr (.inr (some (744)))), (1, .inl (at9))]) (st' := [.inr (.inl (y2)), .inr (.inr (some (202)))]) rfl ?_
              refine ez_cv hB t202 rfl rfl rfl tq_48 rfl rfl rfl (rd_entryIndex (row := [uX rem 0, uX rem 1, uX rem 2]) hB hX c (rowk_app (row := [uX rem 0, uX rem 1]) (ptl2 p0 p1) (Nat.le_of_ble_eq_true rfl) p2) hy2 (fun v2 f2 w2 i2 x2 => ez_K1 ?_) (fun x2 => ez_K1 ?_))
              · have vb2 : -1 < v2 ∧ v2 ≤ 256 := by have q1 := (List.getElem?_eq_some_iff.mp i2).1; have q2 := c.1; have q3 : 0 ≤ qz_I h 202 4 ∧ qz_I h 202 4 ≤ 256 := ez_fB (cl := 2) (k := 4) hB t202 tq_48 rfl rfl (by decide); omega
                refine ez_go (n := 3) (pc' := 60) (L' := [(6, .inl (v2)), (2, .inr (.inl (y2))), (5, .inl (2)), (4, .inl (v0)), (0, .inr (.inr (some (744)))), (1, .inl (at9))]) (st' := [.inl (-1), .inl (v2)]) rfl ?_
                refine ez_icmp rfl rfl ⟨by first | omega | exact (sz_i32 _).1, by first | omega | exact (sz_i32 _).2⟩ ⟨by first | omega | exact (sz_i32 _).1, by first | omega | exact (sz_i32 _).2⟩ (fun (c40 : (v2) = (-1)) => ?_) (fun (c40 : ¬((v2) = (-1))) => ?_)
                · exfalso; omega
                · skip
                  refine ez_go (n := 7) (pc' := 11) (L' := [(5, .inl (3)), (4, .inl (v2)), (6, .inl (v2)), (2, .inr (.inl (y2))), (0, .inr (.inr (some (744)))), (1, .inl (at9))]) (st' := [.inl (3), .inl (3)]) rfl ?_
                  refine ez_icmp rfl rfl ⟨by decide, by decide⟩ ⟨by decide, by decide⟩ (fun _ => ?_) (fun (c41 : ¬((3 : Int) ≤ (3))) => absurd c41 (by decide))
                  refine ez_go (n := 1) (pc' := 80) (L' := [(5, .inl (3)), (4, .inl (v2)), (6, .inl (v2)), (2, .inr (.inl (y2))), (0, .inr (.inr (some (744)))), (1, .inl (at9))]) (st' := [.inl (v2)]) rfl ?_
                  have lo : lon LK rem = some (3, f2) := by unfold lon; rw [lon1_y (by omega) (by rw [tk3 (by omega)]; exact x2)]
                  exact ez_retI rfl rfl (k1 v2 3 f2 lo w2 (by rw [tk3 (by omega)]; exact i2))
              · skip
                refine ez_go (n := 3) (pc' := 60) (L' := [(6, .inl (-1)), (2, .inr (.inl (y2))), (5, .inl (2)), (4, .inl (v0)), (0, .inr (.inr (some (744)))), (1, .inl (at9))]) (st' := [.inl (-1), .inl (-1)]) rfl ?_
                refine ez_icmp rfl rfl ⟨by decide, by decide⟩ ⟨by decide, by decide⟩ (fun _ => ?_) (fun (c42 : ¬((-1 : Int) = (-1))) => absurd c42 (by decide))
                refine ez_go (n := 6) (pc' := 11) (L' := [(5, .inl (3)), (4, .inl (v0)), (6, .inl (-1)), (2, .inr (.inl (y2))), (0, .inr (.inr (some (744)))), (1, .inl (at9))]) (st' := [.inl (3), .inl (3)]) rfl ?_
                refine ez_icmp rfl rfl ⟨by decide, by decide⟩ ⟨by decide, by decide⟩ (fun _ => ?_) (fun (c43 : ¬((3 : Int) ≤ (3))) => absurd c43 (by decide))
                refine ez_go (n := 1) (pc' := 80) (L' := [(5, .inl (3)), (4, .inl (v0)), (6, .inl (-1)), (2, .inr (.inl (y2))), (0, .inr (.inr (some (744)))), (1, .inl (at9))]) (st' := [.inl (v0)]) rfl ?_
                have lo : lon LK rem = some (1, f0) := by unfold lon; rw [lon1_n (Or.inr (by rw [tk3 (by omega)]; exact x2)), lon1_n (Or.inr (by rw [tk2 (by omega)]; exact x1)), lon1_y (by omega) (by rw [tk1 (by omega)]; exact x0)]
                exact ez_retI rfl rfl (k1 v0 1 f0 lo w0 (by rw [tk1 (by omega)]; exact i0))
    · skip
      refine ez_go (n := 3) (pc' := 60) (L' := [(6, .inl (-1)), (2, .inr (.inl (y0))), (5, .inl (0)), (4, .inl (-1)), (0, .inr (.inr (some (744)))), (1, .inl (at9))]) (st' := [.inl (-1), .inl (-1)]) rfl ?_
      refine ez_icmp rfl rfl ⟨by decide, by decide⟩ ⟨by decide, by decide⟩ (fun _ => ?_) (fun (c44 : ¬((-1 : Int) = (-1))) => absurd c44 (by decide))
      refine ez_go (n := 6) (pc' := 11) (L' := [(5, .inl (1)), (4, .inl (-1)), (6, .inl (-1)), (2, .inr (.inl (y0))), (0, .inr (.inr (some (744)))), (1, .inl (at9))]) (st' := [.inl (3), .inl (1)]) rfl ?_
      refine ez_icmp rfl rfl ⟨by decide, by decide⟩ ⟨by decide, by decide⟩ (fun (c45 : (3) ≤ (1 : Int)) => absurd c45 (by decide)) (fun _ => ?_)
      refine ez_go (n := 4) (pc' := 19) (L' := [(5, .inl (1)), (4, .inl (-1)), (6, .inl (-1)), (2, .inr (.inl (y0))), (0, .inr (.inr (some (744)))), (1, .inl (at9))]) (st' := [.inr (.inr (some (744))), .inl ((at9) + (1))]) rfl ?_
      refine ez_gR hB tc rfl rfl tq_10 rfl rfl (fun (t46 : _ = 1) (t46' : 1 ≤ qz_I h 744 2) => ?_)
      rw [show qz_P h 744 2 = 745 by unfold qz_P; rw [cl.1]; first | rfl | omega]
      refine ez_gI hB tg1 rfl rfl tq_1 rfl rfl (fun (b47 : 0 ≤ qz_I h 745 1) (b47' : qz_I h 745 1 ≤ 2000) => ?_)
      rw [rs.2.1]
      refine ez_icmp rfl rfl ⟨by first | omega | exact (sz_i32 _).1, by first | omega | exact (sz_i32 _).2⟩ ⟨by first | omega | exact (sz_i32 _).1, by first | omega | exact (sz_i32 _).2⟩ (fun (c48 : (at9 + (rem.length : Int)) ≤ ((at9) + (1))) => ?_) (fun (c48 : ¬((at9 + (rem.length : Int)) ≤ ((at9) + (1)))) => ?_)
      · skip
        refine ez_go (n := 1) (pc' := 80) (L' := [(5, .inl (1)), (4, .inl (-1)), (6, .inl (-1)), (2, .inr (.inl (y0))), (0, .inr (.inr (some (744)))), (1, .inl (at9))]) (st' := [.inl (-1)]) rfl ?_
        have lo : lon LK rem = none := by unfold lon; rw [lon1_n (Or.inl (by omega)), lon1_n (Or.inl (by omega)), lon1_n (Or.inr (by rw [tk1 (by omega)]; exact x0))]
        exact ez_retI rfl rfl (k0 lo)
      · skip
        refine ez_go (n := 3) (pc' := 32) (L' := [(5, .inl (1)), (4, .inl (-1)), (6, .inl (-1)), (2, .inr (.inl (y0))), (0, .inr (.inr (some (744)))), (1, .inl (at9))]) (st' := [.inr (.inr (some (744))), .inl (1), .inr (.inl (y0))]) rfl ?_
        refine ez_gR hB tc rfl rfl tq_10 rfl rfl (fun (t49 : _ = 1) (t49' : 1 ≤ qz_I h 744 2) => ?_)
        rw [show qz_P h 744 2 = 745 by unfold qz_P; rw [cl.1]; first | rfl | omega]
        refine ez_g3 hB tg1 rfl rfl tq_1 rfl rfl (fun (t50 : _ = 2) => ?_)
        refine ez_go (n := 3) (pc' := 42) (L' := [(5, .inl (1)), (4, .inl (-1)), (6, .inl (-1)), (2, .inr (.inl (y0))), (0, .inr (.inr (some (744)))), (1, .inl (at9))]) (st' := [.inl ((at9) + (1)), .inr (.inr (some (746))), .inl (1), .inr (.inl (y0))]) rfl ?_
        have n52 : 2000 ≤ qz_N h 746 ∧ qz_N h 746 ≤ 2000 := ez_len hB t50 tq_2 rfl
        refine ez_aI hB t50 rfl tq_2 rfl rfl (by omega) (by omega) (fun (b51 : -2147483648 ≤ qz_I h 746 ((at9) + (1)).toNat) (b51' : qz_I h 746 ((at9) + (1)).toNat ≤ 2147483647) => ?_)
        have l1 : 1 < rem.length := by omega
        have e1 : qz_I h 746 ((at9) + (1)).toNat = uX rem 1 := by rw [show ((at9) + (1)).toNat = at9.toNat + 1 by omega]; exact (rs.2.2 1 _ (uX_e (u := rem) (j := 1) (by omega))).1
        have p1 := uX_ptl rs.1.2.2 (j := 1) (show (1 : Int).toNat < rem.length by omega)
        rw [e1]
        refine ez_cs hB.2.1 rfl rfl rfl rfl rfl (rd_cpackAt (row := [uX rem 0]) (Nat.le_of_ble_eq_true rfl) (ptl1 p0) p1 hy0 (fun y1 hy1 => ez_KL ?_))
        have hy1 : (uv y1 : Int) = pkN [uX rem 0, uX rem 1] := hy1
        refine ez_go (n := 2) (pc' := 48) (L' := [(2, .inr (.inl (y1))), (5, .inl (1)), (4, .inl (-1)), (6, .inl (-1)), (0, .inr (.inr (some (744)))), (1, .inl (at9))]) (st' := [.inr (.inr (some (744)))]) rfl ?_
        refine ez_gC (p := 202) (tg := 48) hB tc rfl rfl tq_10 rfl rfl (fun (t202 : _ = 48) => ?_)
        refine ez_go (n := 1) (pc' := 52) (L' := [(2, .inr (.inl (y1))), (5, .inl (1)), (4, .inl (-1)), (6, .inl (-1)), (0, .inr (.inr (some (744)))), (1, .inl (at9))]) (st' := [.inr (.inl (y1)), .inr (.inr (some (202)))]) rfl ?_
        refine ez_cv hB t202 rfl rfl rfl tq_48 rfl rfl rfl (rd_entryIndex (row := [uX rem 0, uX rem 1]) hB hX c (rowk_app (row := [uX rem 0]) (ptl1 p0) (Nat.le_of_ble_eq_true rfl) p1) hy1 (fun v1 f1 w1 i1 x1 => ez_K1 ?_) (fun x1 => ez_K1 ?_))
        · have vb1 : -1 < v1 ∧ v1 ≤ 256 := by have q1 := (List.getElem?_eq_some_iff.mp i1).1; have q2 := c.1; have q3 : 0 ≤ qz_I h 202 4 ∧ qz_I h 202 4 ≤ 256 := ez_fB (cl := 2) (k := 4) hB t202 tq_48 rfl rfl (by decide); omega
          refine ez_go (n := 3) (pc' := 60) (L' := [(6, .inl (v1)), (2, .inr (.inl (y1))), (5, .inl (1)), (4, .inl (-1)), (0, .inr (.inr (some (744)))), (1, .inl (at9))]) (st' := [.inl (-1), .inl (v1)]) rfl ?_
          refine ez_icmp rfl rfl ⟨by first | omega | exact (sz_i32 _).1, by first | omega | exact (sz_i32 _).2⟩ ⟨by first | omega | exact (sz_i32 _).1, by first | omega | exact (sz_i32 _).2⟩ (fun (c53 : (v1) = (-1)) => ?_) (fun (c53 : ¬((v1) = (-1))) => ?_)
          · exfalso; omega
          · skip
            refine ez_go (n := 7) (pc' := 11) (L' := [(5, .inl (2)), (4, .inl (v1)), (6, .inl (v1)), (2, .inr (.inl (y1))), (0, .inr (.inr (some (744)))), (1, .inl (at9))]) (st' := [.inl (3), .inl (2)]) rfl ?_
            refine ez_icmp rfl rfl ⟨by decide, by decide⟩ ⟨by decide, by decide⟩ (fun (c54 : (3) ≤ (2 : Int)) => absurd c54 (by decide)) (fun _ => ?_)
            refine ez_go (n := 4) (pc' := 19) (L' := [(5, .inl (2)), (4, .inl (v1)), (6, .inl (v1)), (2, .inr (.inl (y1))), (0, .inr (.inr (some (744)))), (1, .inl (at9))]) (st' := [.inr (.inr (some (744))), .inl ((at9) + (2))]) rfl ?_
            refine ez_gR hB tc rfl rfl tq_10 rfl rfl (fun (t55 : _ = 1) (t55' : 1 ≤ qz_I h 744 2) => ?_)
            rw [show qz_P h 744 2 = 745 by unfold qz_P; rw [cl.1]; first | rfl | omega]
            refine ez_gI hB tg1 rfl rfl tq_1 rfl rfl (fun (b56 : 0 ≤ qz_I h 745 1) (b56' : qz_I h 745 1 ≤ 2000) => ?_)
            rw [rs.2.1]
            refine ez_icmp rfl rfl ⟨by first | omega | exact (sz_i32 _).1, by first | omega | exact (sz_i32 _).2⟩ ⟨by first | omega | exact (sz_i32 _).1, by first | omega | exact (sz_i32 _).2⟩ (fun (c57 : (at9 + (rem.length : Int)) ≤ ((at9) + (2))) => ?_) (fun (c57 : ¬((at9 + (rem.length : Int)) ≤ ((at9) + (2)))) => ?_)
            · skip
              refine ez_go (n := 1) (pc' := 80) (L' := [(5, .inl (2)), (4, .inl (v1)), (6, .inl (v1)), (2, .inr (.inl (y1))), (0, .inr (.inr (some (744)))), (1, .inl (at9))]) (st' := [.inl (v1)]) rfl ?_
              have lo : lon LK rem = some (2, f1) := by unfold lon; rw [lon1_n (Or.inl (by omega)), lon1_y (by omega) (by rw [tk2 (by omega)]; exact x1)]
              exact ez_retI rfl rfl (k1 v1 2 f1 lo w1 (by rw [tk2 (by omega)]; exact i1))
            · skip
              refine ez_go (n := 3) (pc' := 32) (L' := [(5, .inl (2)), (4, .inl (v1)), (6, .inl (v1)), (2, .inr (.inl (y1))), (0, .inr (.inr (some (744)))), (1, .inl (at9))]) (st' := [.inr (.inr (some (744))), .inl (2), .inr (.inl (y1))]) rfl ?_
              refine ez_gR hB tc rfl rfl tq_10 rfl rfl (fun (t58 : _ = 1) (t58' : 1 ≤ qz_I h 744 2) => ?_)
              rw [show qz_P h 744 2 = 745 by unfold qz_P; rw [cl.1]; first | rfl | omega]
              refine ez_g3 hB tg1 rfl rfl tq_1 rfl rfl (fun (t59 : _ = 2) => ?_)
              refine ez_go (n := 3) (pc' := 42) (L' := [(5, .inl (2)), (4, .inl (v1)), (6, .inl (v1)), (2, .inr (.inl (y1))), (0, .inr (.inr (some (744)))), (1, .inl (at9))]) (st' := [.inl ((at9) + (2)), .inr (.inr (some (746))), .inl (2), .inr (.inl (y1))]) rfl ?_
              have n61 : 2000 ≤ qz_N h 746 ∧ qz_N h 746 ≤ 2000 := ez_len hB t59 tq_2 rfl
              refine ez_aI hB t59 rfl tq_2 rfl rfl (by omega) (by omega) (fun (b60 : -2147483648 ≤ qz_I h 746 ((at9) + (2)).toNat) (b60' : qz_I h 746 ((at9) + (2)).toNat ≤ 2147483647) => ?_)
              have l2 : 2 < rem.length := by omega
              have e2 : qz_I h 746 ((at9) + (2)).toNat = uX rem 2 := by rw [show ((at9) + (2)).toNat = at9.toNat + 2 by omega]; exact (rs.2.2 2 _ (uX_e (u := rem) (j := 2) (by omega))).1
              have p2 := uX_ptl rs.1.2.2 (j := 2) (show (2 : Int).toNat < rem.length by omega)
              rw [e2]
              refine ez_cs hB.2.1 rfl rfl rfl rfl rfl (rd_cpackAt (row := [uX rem 0, uX rem 1]) (Nat.le_of_ble_eq_true rfl) (ptl2 p0 p1) p2 hy1 (fun y2 hy2 => ez_KL ?_))
              have hy2 : (uv y2 : Int) = pkN [uX rem 0, uX rem 1, uX rem 2] := hy2
              refine ez_go (n := 2) (pc' := 48) (L' := [(2, .inr (.inl (y2))), (5, .inl (2)), (4, .inl (v1)), (6, .inl (v1)), (0, .inr (.inr (some (744)))), (1, .inl (at9))]) (st' := [.inr (.inr (some (744)))]) rfl ?_
              refine ez_gC (p := 202) (tg := 48) hB tc rfl rfl tq_10 rfl rfl (fun (t202 : _ = 48) => ?_)
              refine ez_go (n := 1) (pc' := 52) (L' := [(2, .inr (.inl (y2))), (5, .inl (2)), (4, .inl (v1)), (6, .inl (v1)), (0, .inr (.inr (some (744)))), (1, .inl (at9))]) (st' := [.inr (.inl (y2)), .inr (.inr (some (202)))]) rfl ?_
              refine ez_cv hB t202 rfl rfl rfl tq_48 rfl rfl rfl (rd_entryIndex (row := [uX rem 0, uX rem 1, uX rem 2]) hB hX c (rowk_app (row := [uX rem 0, uX rem 1]) (ptl2 p0 p1) (Nat.le_of_ble_eq_true rfl) p2) hy2 (fun v2 f2 w2 i2 x2 => ez_K1 ?_) (fun x2 => ez_K1 ?_))
              · have vb2 : -1 < v2 ∧ v2 ≤ 256 := by have q1 := (List.getElem?_eq_some_iff.mp i2).1; have q2 := c.1; have q3 : 0 ≤ qz_I h 202 4 ∧ qz_I h 202 4 ≤ 256 := ez_fB (cl := 2) (k := 4) hB t202 tq_48 rfl rfl (by decide); omega
                refine ez_go (n := 3) (pc' := 60) (L' := [(6, .inl (v2)), (2, .inr (.inl (y2))), (5, .inl (2)), (4, .inl (v1)), (0, .inr (.inr (some (744)))), (1, .inl (at9))]) (st' := [.inl (-1), .inl (v2)]) rfl ?_
                refine ez_icmp rfl rfl ⟨by first | omega | exact (sz_i32 _).1, by first | omega | exact (sz_i32 _).2⟩ ⟨by first | omega | exact (sz_i32 _).1, by first | omega | exact (sz_i32 _).2⟩ (fun (c62 : (v2) = (-1)) => ?_) (fun (c62 : ¬((v2) = (-1))) => ?_)
                · exfalso; omega
                · skip
                  refine ez_go (n := 7) (pc' := 11) (L' := [(5, .inl (3)), (4, .inl (v2)), (6, .inl (v2)), (2, .inr (.inl (y2))), (0, .inr (.inr (some (744)))), (1, .inl (at9))]) (st' := [.inl (3), .inl (3)]) rfl ?_
                  refine ez_icmp rfl rfl ⟨by decide, by decide⟩ ⟨by decide, by decide⟩ (fun _ => ?_) (fun (c63 : ¬((3 : Int) ≤ (3))) => absurd c63 (by decide))
                  refine ez_go (n := 1) (pc' := 80) (L' := [(5, .inl (3)), (4, .inl (v2)), (6, .inl (v2)), (2, .inr (.inl (y2))), (0, .inr (.inr (some (744)))), (1, .inl (at9))]) (st' := [.inl (v2)]) rfl ?_
                  have lo : lon LK rem = some (3, f2) := by unfold lon; rw [lon1_y (by omega) (by rw [tk3 (by omega)]; exact x2)]
                  exact ez_retI rfl rfl (k1 v2 3 f2 lo w2 (by rw [tk3 (by omega)]; exact i2))
              · skip
                refine ez_go (n := 3) (pc' := 60) (L' := [(6, .inl (-1)), (2, .inr (.inl (y2))), (5, .inl (2)), (4, .inl (v1)), (0, .inr (.inr (some (744)))), (1, .inl (at9))]) (st' := [.inl (-1), .inl (-1)]) rfl ?_
                refine ez_icmp rfl rfl ⟨by decide, by decide⟩ ⟨by decide, by decide⟩ (fun _ => ?_) (fun (c64 : ¬((-1 : Int) = (-1))) => absurd c64 (by decide))
                refine ez_go (n := 6) (pc' := 11) (L' := [(5, .inl (3)), (4, .inl (v1)), (6, .inl (-1)), (2, .inr (.inl (y2))), (0, .inr (.inr (some (744)))), (1, .inl (at9))]) (st' := [.inl (3), .inl (3)]) rfl ?_
                refine ez_icmp rfl rfl ⟨by decide, by decide⟩ ⟨by decide, by decide⟩ (fun _ => ?_) (fun (c65 : ¬((3 : Int) ≤ (3))) => absurd c65 (by decide))
                refine ez_go (n := 1) (pc' := 80) (L' := [(5, .inl (3)), (4, .inl (v1)), (6, .inl (-1)), (2, .inr (.inl (y2))), (0, .inr (.inr (some (744)))), (1, .inl (at9))]) (st' := [.inl (v1)]) rfl ?_
                have lo : lon LK rem = some (2, f1) := by unfold lon; rw [lon1_n (Or.inr (by rw [tk3 (by omega)]; exact x2)), lon1_y (by omega) (by rw [tk2 (by omega)]; exact x1)]
                exact ez_retI rfl rfl (k1 v1 2 f1 lo w1 (by rw [tk2 (by omega)]; exact i1))
        · skip
          refine ez_go (n := 3) (pc' := 60) (L' := [(6, .inl (-1)), (2, .inr (.inl (y1))), (5, .inl (1)), (4, .inl (-1)), (0, .inr (.inr (some (744)))), (1, .inl (at9))]) (st' := [.inl (-1), .inl (-1)]) rfl ?_
          refine ez_icmp rfl rfl ⟨by decide, by decide⟩ ⟨by decide, by decide⟩ (fun _ => ?_) (fun (c66 : ¬((-1 : Int) = (-1))) => absurd c66 (by decide))
          refine ez_go (n := 6) (pc' := 11) (L' := [(5, .inl (2)), (4, .inl (-1)), (6, .inl (-1)), (2, .inr (.inl (y1))), (0, .inr (.inr (some (744)))), (1, .inl (at9))]) (st' := [.inl (3), .inl (2)]) rfl ?_
          refine ez_icmp rfl rfl ⟨by decide, by decide⟩ ⟨by decide, by decide⟩ (fun (c67 : (3) ≤ (2 : Int)) => absurd c67 (by decide)) (fun _ => ?_)
          refine ez_go (n := 4) (pc' := 19) (L' := [(5, .inl (2)), (4, .inl (-1)), (6, .inl (-1)), (2, .inr (.inl (y1))), (0, .inr (.inr (some (744)))), (1, .inl (at9))]) (st' := [.inr (.inr (some (744))), .inl ((at9) + (2))]) rfl ?_
          refine ez_gR hB tc rfl rfl tq_10 rfl rfl (fun (t68 : _ = 1) (t68' : 1 ≤ qz_I h 744 2) => ?_)
          rw [show qz_P h 744 2 = 745 by unfold qz_P; rw [cl.1]; first | rfl | omega]
          refine ez_gI hB tg1 rfl rfl tq_1 rfl rfl (fun (b69 : 0 ≤ qz_I h 745 1) (b69' : qz_I h 745 1 ≤ 2000) => ?_)
          rw [rs.2.1]
          refine ez_icmp rfl rfl ⟨by first | omega | exact (sz_i32 _).1, by first | omega | exact (sz_i32 _).2⟩ ⟨by first | omega | exact (sz_i32 _).1, by first | omega | exact (sz_i32 _).2⟩ (fun (c70 : (at9 + (rem.length : Int)) ≤ ((at9) + (2))) => ?_) (fun (c70 : ¬((at9 + (rem.length : Int)) ≤ ((at9) + (2)))) => ?_)
          · skip
            refine ez_go (n := 1) (pc' := 80) (L' := [(5, .inl (2)), (4, .inl (-1)), (6, .inl (-1)), (2, .inr (.inl (y1))), (0, .inr (.inr (some (744)))), (1, .inl (at9))]) (st' := [.inl (-1)]) rfl ?_
            have lo : lon LK rem = none := by unfold lon; rw [lon1_n (Or.inl (by omega)), lon1_n (Or.inr (by rw [tk2 (by omega)]; exact x1)), lon1_n (Or.inr (by rw [tk1 (by omega)]; exact x0))]
            exact ez_retI rfl rfl (k0 lo)
          · skip
            refine ez_go (n := 3) (pc' := 32) (L' := [(5, .inl (2)), (4, .inl (-1)), (6, .inl (-1)), (2, .inr (.inl (y1))), (0, .inr (.inr (some (744)))), (1, .inl (at9))]) (st' := [.inr (.inr (some (744))), .inl (2), .inr (.inl (y1))]) rfl ?_
            refine ez_gR hB tc rfl rfl tq_10 rfl rfl (fun (t71 : _ = 1) (t71' : 1 ≤ qz_I h 744 2) => ?_)
            rw [show qz_P h 744 2 = 745 by unfold qz_P; rw [cl.1]; first | rfl | omega]
            refine ez_g3 hB tg1 rfl rfl tq_1 rfl rfl (fun (t72 : _ = 2) => ?_)
            refine ez_go (n := 3) (pc' := 42) (L' := [(5, .inl (2)), (4, .inl (-1)), (6, .inl (-1)), (2, .inr (.inl (y1))), (0, .inr (.inr (some (744)))), (1, .inl (at9))]) (st' := [.inl ((at9) + (2)), .inr (.inr (some (746))), .inl (2), .inr (.inl (y1))]) rfl ?_
            have n74 : 2000 ≤ qz_N h 746 ∧ qz_N h 746 ≤ 2000 := ez_len hB t72 tq_2 rfl
            refine ez_aI hB t72 rfl tq_2 rfl rfl (by omega) (by omega) (fun (b73 : -2147483648 ≤ qz_I h 746 ((at9) + (2)).toNat) (b73' : qz_I h 746 ((at9) + (2)).toNat ≤ 2147483647) => ?_)
            have l2 : 2 < rem.length := by omega
            have e2 : qz_I h 746 ((at9) + (2)).toNat = uX rem 2 := by rw [show ((at9) + (2)).toNat = at9.toNat + 2 by omega]; exact (rs.2.2 2 _ (uX_e (u := rem) (j := 2) (by omega))).1
            have p2 := uX_ptl rs.1.2.2 (j := 2) (show (2 : Int).toNat < rem.length by omega)
            rw [e2]
            refine ez_cs hB.2.1 rfl rfl rfl rfl rfl (rd_cpackAt (row := [uX rem 0, uX rem 1]) (Nat.le_of_ble_eq_true rfl) (ptl2 p0 p1) p2 hy1 (fun y2 hy2 => ez_KL ?_))
            have hy2 : (uv y2 : Int) = pkN [uX rem 0, uX rem 1, uX rem 2] := hy2
            refine ez_go (n := 2) (pc' := 48) (L' := [(2, .inr (.inl (y2))), (5, .inl (2)), (4, .inl (-1)), (6, .inl (-1)), (0, .inr (.inr (some (744)))), (1, .inl (at9))]) (st' := [.inr (.inr (some (744)))]) rfl ?_
            refine ez_gC (p := 202) (tg := 48) hB tc rfl rfl tq_10 rfl rfl (fun (t202 : _ = 48) => ?_)
            refine ez_go (n := 1) (pc' := 52) (L' := [(2, .inr (.inl (y2))), (5, .inl (2)), (4, .inl (-1)), (6, .inl (-1)), (0, .inr (.inr (some (744)))), (1, .inl (at9))]) (st' := [.inr (.inl (y2)), .inr (.inr (some (202)))]) rfl ?_
            refine ez_cv hB t202 rfl rfl rfl tq_48 rfl rfl rfl (rd_entryIndex (row := [uX rem 0, uX rem 1, uX rem 2]) hB hX c (rowk_app (row := [uX rem 0, uX rem 1]) (ptl2 p0 p1) (Nat.le_of_ble_eq_true rfl) p2) hy2 (fun v2 f2 w2 i2 x2 => ez_K1 ?_) (fun x2 => ez_K1 ?_))
            · have vb2 : -1 < v2 ∧ v2 ≤ 256 := by have q1 := (List.getElem?_eq_some_iff.mp i2).1; have q2 := c.1; have q3 : 0 ≤ qz_I h 202 4 ∧ qz_I h 202 4 ≤ 256 := ez_fB (cl := 2) (k := 4) hB t202 tq_48 rfl rfl (by decide); omega
              refine ez_go (n := 3) (pc' := 60) (L' := [(6, .inl (v2)), (2, .inr (.inl (y2))), (5, .inl (2)), (4, .inl (-1)), (0, .inr (.inr (some (744)))), (1, .inl (at9))]) (st' := [.inl (-1), .inl (v2)]) rfl ?_
              refine ez_icmp rfl rfl ⟨by first | omega | exact (sz_i32 _).1, by first | omega | exact (sz_i32 _).2⟩ ⟨by first | omega | exact (sz_i32 _).1, by first | omega | exact (sz_i32 _).2⟩ (fun (c75 : (v2) = (-1)) => ?_) (fun (c75 : ¬((v2) = (-1))) => ?_)
              · exfalso; omega
              · skip
                refine ez_go (n := 7) (pc' := 11) (L' := [(5, .inl (3)), (4, .inl (v2)), (6, .inl (v2)), (2, .inr (.inl (y2))), (0, .inr (.inr (some (744)))), (1, .inl (at9))]) (st' := [.inl (3), .inl (3)]) rfl ?_
                refine ez_icmp rfl rfl ⟨by decide, by decide⟩ ⟨by decide, by decide⟩ (fun _ => ?_) (fun (c76 : ¬((3 : Int) ≤ (3))) => absurd c76 (by decide))
                refine ez_go (n := 1) (pc' := 80) (L' := [(5, .inl (3)), (4, .inl (v2)), (6, .inl (v2)), (2, .inr (.inl (y2))), (0, .inr (.inr (some (744)))), (1, .inl (at9))]) (st' := [.inl (v2)]) rfl ?_
                have lo : lon LK rem = some (3, f2) := by unfold lon; rw [lon1_y (by omega) (by rw [tk3 (by omega)]; exact x2)]
                exact ez_retI rfl rfl (k1 v2 3 f2 lo w2 (by rw [tk3 (by omega)]; exact i2))
            · skip
              refine ez_go (n := 3) (pc' := 60) (L' := [(6, .inl (-1)), (2, .inr (.inl (y2))), (5, .inl (2)), (4, .inl (-1)), (0, .inr (.inr (some (744)))), (1, .inl (at9))]) (st' := [.inl (-1), .inl (-1)]) rfl ?_
              refine ez_icmp rfl rfl ⟨by decide, by decide⟩ ⟨by decide, by decide⟩ (fun _ => ?_) (fun (c77 : ¬((-1 : Int) = (-1))) => absurd c77 (by decide))
              refine ez_go (n := 6) (pc' := 11) (L' := [(5, .inl (3)), (4, .inl (-1)), (6, .inl (-1)), (2, .inr (.inl (y2))), (0, .inr (.inr (some (744)))), (1, .inl (at9))]) (st' := [.inl (3), .inl (3)]) rfl ?_
              refine ez_icmp rfl rfl ⟨by decide, by decide⟩ ⟨by decide, by decide⟩ (fun _ => ?_) (fun (c78 : ¬((3 : Int) ≤ (3))) => absurd c78 (by decide))
              refine ez_go (n := 1) (pc' := 80) (L' := [(5, .inl (3)), (4, .inl (-1)), (6, .inl (-1)), (2, .inr (.inl (y2))), (0, .inr (.inr (some (744)))), (1, .inl (at9))]) (st' := [.inl (-1)]) rfl ?_
              have lo : lon LK rem = none := by unfold lon; rw [lon1_n (Or.inr (by rw [tk3 (by omega)]; exact x2)), lon1_n (Or.inr (by rw [tk2 (by omega)]; exact x1)), lon1_n (Or.inr (by rw [tk1 (by omega)]; exact x0))]
              exact ez_retI rfl rfl (k0 lo)

theorem rd_gap_ll {a z : Int} (hX : jz_X τ) (cl : clr h 744) (a0 : 0 ≤ a) (az : a ≤ z) (z1 : z < 2000) (k : ∀ g, ez_B τ g → ez_fr (nz_P2 746 747) h g → (∀ q (j : Nat), (q = 746 ∨ q = 747) → ((j : Int) ≤ a ∨ z < (j : Int)) → qz_I g q j = qz_I h q j) → (∀ q (j : Nat), (q = 746 ∨ q = 747) → a < (j : Int) → (j : Int) ≤ z → qz_I g q j = qz_I h q (j - 1)) → Q (.inl none, g)) : ∀ (n : Nat) (i : Int) (g : cz_H), n = (i - a).toNat → a ≤ i → i ≤ z → ez_B τ g → ez_fr (nz_P2 746 747) h g → (∀ q (j : Nat), (q = 746 ∨ q = 747) → ((j : Int) ≤ i ∨ z < (j : Int)) → qz_I g q j = qz_I h q j) → (∀ q (j : Nat), (q = 746 ∨ q = 747) → i < (j : Int) → (j : Int) ≤ z → qz_I g q j = qz_I h q (j - 1)) → ez_W d cm_80 2 [(3, .inl (i)), (0, .inr (.inr (some (744)))), (1, .inl (a)), (2, .inl (z))] [] g Q := by
  have tc : τ 744 = 10 := hX 744 (by decide)
  have tg1 : τ 745 = 1 := hX 745 (by decide)
  have tg2 : τ 746 = 2 := hX 746 (by decide)
  have tg3 : τ 747 = 11 := hX 747 (by decide)
  have tg4 : τ 748 = 12 := hX 748 (by decide)
  intro n
  induction n with
  | zero =>
    intro i g hn0 ia iz hBg hf hs hm
    have clg : clr g 744 := ⟨(hf.I rfl _).trans cl.1, (hf.I rfl _).trans cl.2.1, (hf.I rfl _).trans cl.2.2⟩
    refine ez_go (n := 2) (pc' := 4) (L' := [(3, .inl (i)), (0, .inr (.inr (some (744)))), (1, .inl (a)), (2, .inl (z))]) (st' := [.inl (a), .inl (i)]) rfl ?_
    refine ez_icmp rfl rfl ⟨by first | omega | exact (sz_i32 _).1, by first | omega | exact (sz_i32 _).2⟩ ⟨by first | omega | exact (sz_i32 _).1, by first | omega | exact (sz_i32 _).2⟩ (fun (c1 : (i) ≤ (a)) => ?_) (fun (c1 : ¬((i) ≤ (a))) => ?_)
    · skip
      exact ez_ret0 rfl rfl (k g hBg hf (fun q j hq w => hs q j hq (by omega)) (fun q j hq w0 w1 => hm q j hq (by omega) w1))
    · exfalso; omega
  | succ n ih =>
    intro i g hn0 ia iz hBg hf hs hm
    have clg : clr g 744 := ⟨(hf.I rfl _).trans cl.1, (hf.I rfl _).trans cl.2.1, (hf.I rfl _).trans cl.2.2⟩
    refine ez_go (n := 2) (pc' := 4) (L' := [(3, .inl (i)), (0, .inr (.inr (some (744)))), (1, .inl (a)), (2, .inl (z))]) (st' := [.inl (a), .inl (i)]) rfl ?_
    refine ez_icmp rfl rfl ⟨by first | omega | exact (sz_i32 _).1, by first | omega | exact (sz_i32 _).2⟩ ⟨by first | omega | exact (sz_i32 _).1, by first | omega | exact (sz_i32 _).2⟩ (fun (c1 : (i) ≤ (a)) => ?_) (fun (c1 : ¬((i) ≤ (a))) => ?_)
    · skip
      exact ez_ret0 rfl rfl (k g hBg hf (fun q j hq w => hs q j hq (by omega)) (fun q j hq w0 w1 => hm q j hq (by omega) w1))
    · skip
      refine ez_go (n := 1) (pc' := 8) (L' := [(3, .inl (i)), (0, .inr (.inr (some (744)))), (1, .inl (a)), (2, .inl (z))]) (st' := [.inr (.inr (some (744)))]) rfl ?_
      refine ez_gR hBg tc rfl rfl tq_10 rfl rfl (fun (t2 : _ = 1) (t2' : 1 ≤ qz_I g 744 2) => ?_)
      rw [show qz_P g 744 2 = 745 by unfold qz_P; rw [clg.1]; first | rfl | omega]
      refine ez_g3 hBg tg1 rfl rfl tq_1 rfl rfl (fun (t3 : _ = 2) => ?_)
      refine ez_go (n := 2) (pc' := 16) (L' := [(3, .inl (i)), (0, .inr (.inr (some (744)))), (1, .inl (a)), (2, .inl (z))]) (st' := [.inr (.inr (some (744))), .inl (i), .inr (.inr (some (746)))]) rfl ?_
      refine ez_gR hBg tc rfl rfl tq_10 rfl rfl (fun (t4 : _ = 1) (t4' : 1 ≤ qz_I g 744 2) => ?_)
      rw [show qz_P g 744 2 = 745 by unfold qz_P; rw [clg.1]; first | rfl | omega]
      refine ez_g3 hBg tg1 rfl rfl tq_1 rfl rfl (fun (t5 : _ = 2) => ?_)
      refine ez_go (n := 3) (pc' := 25) (L' := [(3, .inl (i)), (0, .inr (.inr (some (744)))), (1, .inl (a)), (2, .inl (z))]) (st' := [.inl ((i) - (1)), .inr (.inr (some (746))), .inl (i), .inr (.inr (some (746)))]) rfl ?_
      have n7 : 2000 ≤ qz_N g 746 ∧ qz_N g 746 ≤ 2000 := ez_len hBg t5 tq_2 rfl
      refine ez_aI hBg t5 rfl tq_2 rfl rfl (by omega) (by omega) (fun (b6 : -2147483648 ≤ qz_I g 746 ((i) - (1)).toNat) (b6' : qz_I g 746 ((i) - (1)).toNat ≤ 2147483647) => ?_)
      have n10 : 2000 ≤ qz_N g 746 ∧ qz_N g 746 ≤ 2000 := ez_len hBg t5 tq_2 rfl
      refine ez_as hBg t5 rfl tq_2 rfl rfl (by omega) (by omega) (ez_vdI rfl rfl (by omega) (by omega)) (fun hB8 w9 => ?_)
      have vA : qz_I (dz_put g 746 (i).toNat (ez_v (.inl (qz_I g 746 ((i) - (1)).toNat)))) 746 (i).toNat = qz_I g 746 ((i) - (1)).toNat := w9.trans (rz_rd ⟨by omega, by omega⟩)
      have oA : ∀ q j, ¬ (q = 746 ∧ j = (i).toNat) → qz_I (dz_put g 746 (i).toNat (ez_v (.inl (qz_I g 746 ((i) - (1)).toNat)))) q j = qz_I g q j := fun q j w => ez_put_I w
      have fA : ez_fr (nz_P2 746 747) h (dz_put g 746 (i).toNat (ez_v (.inl (qz_I g 746 ((i) - (1)).toNat)))) := hf.put (by unfold nz_P2; rfl) _ _
      have BA := hB8
      generalize (dz_put g 746 (i).toNat (ez_v (.inl (qz_I g 746 ((i) - (1)).toNat)))) = gA at *
      have clA : clr gA 744 := ⟨(oA _ _ (fun q => absurd q.1 (by decide))).trans clg.1, (oA _ _ (fun q => absurd q.1 (by decide))).trans clg.2.1, (oA _ _ (fun q => absurd q.1 (by decide))).trans clg.2.2⟩
      refine ez_go (n := 1) (pc' := 28) (L' := [(3, .inl (i)), (0, .inr (.inr (some (744)))), (1, .inl (a)), (2, .inl (z))]) (st' := [.inr (.inr (some (744)))]) rfl ?_
      refine ez_gR BA tc rfl rfl tq_10 rfl rfl (fun (t11 : _ = 11) (t11' : 1 ≤ qz_I gA 744 3) => ?_)
      rw [show qz_P gA 744 3 = 747 by unfold qz_P; rw [clA.2.1]; first | rfl | omega]
      refine ez_go (n := 2) (pc' := 33) (L' := [(3, .inl (i)), (0, .inr (.inr (some (744)))), (1, .inl (a)), (2, .inl (z))]) (st' := [.inr (.inr (some (744))), .inl (i), .inr (.inr (some (747)))]) rfl ?_
      refine ez_gR BA tc rfl rfl tq_10 rfl rfl (fun (t12 : _ = 11) (t12' : 1 ≤ qz_I gA 744 3) => ?_)
      rw [show qz_P gA 744 3 = 747 by unfold qz_P; rw [clA.2.1]; first | rfl | omega]
      refine ez_go (n := 3) (pc' := 39) (L' := [(3, .inl (i)), (0, .inr (.inr (some (744)))), (1, .inl (a)), (2, .inl (z))]) (st' := [.inl ((i) - (1)), .inr (.inr (some (747))), .inl (i), .inr (.inr (some (747)))]) rfl ?_
      have n14 : 2000 ≤ qz_N gA 747 ∧ qz_N gA 747 ≤ 2000 := ez_len BA tg3 tq_11 rfl
      refine ez_aI BA tg3 rfl tq_11 rfl rfl (by omega) (by omega) (fun (b13 : -2147483648 ≤ qz_I gA 747 ((i) - (1)).toNat) (b13' : qz_I gA 747 ((i) - (1)).toNat ≤ 2147483647) => ?_)
      have n17 : 2000 ≤ qz_N gA 747 ∧ qz_N gA 747 ≤ 2000 := ez_len BA tg3 tq_11 rfl
      refine ez_as BA tg3 rfl tq_11 rfl rfl (by omega) (by omega) (ez_vdI rfl rfl (by omega) (by omega)) (fun hB15 w16 => ?_)
      refine ez_go (n := 2) (pc' := 2) (L' := [(3, .inl (i + (-1))), (0, .inr (.inr (some (744)))), (1, .inl (a)), (2, .inl (z))]) (st' := []) rfl ?_
      refine ez_less [(3, .inl (i + (-1))), (0, .inr (.inr (some (744)))), (1, .inl (a)), (2, .inl (z))] rfl ⟨rfl, rfl, rfl, rfl, trivial⟩ ?_
      have vC : qz_I (dz_put gA 747 (i).toNat (ez_v (.inl (qz_I gA 747 ((i) - (1)).toNat)))) 747 (i).toNat = qz_I gA 747 ((i) - (1)).toNat := w16.trans (rz_rd ⟨by omega, by omega⟩)
      have oC : ∀ q j, ¬ (q = 747 ∧ j = (i).toNat) → qz_I (dz_put gA 747 (i).toNat (ez_v (.inl (qz_I gA 747 ((i) - (1)).toNat)))) q j = qz_I gA q j := fun q j w => ez_put_I w
      have fC : ez_fr (nz_P2 746 747) h (dz_put gA 747 (i).toNat (ez_v (.inl (qz_I gA 747 ((i) - (1)).toNat)))) := fA.put (by unfold nz_P2; rfl) _ _
      have BC := hB15
      generalize (dz_put gA 747 (i).toNat (ez_v (.inl (qz_I gA 747 ((i) - (1)).toNat)))) = gC at *
      refine ih (i + (-1)) gC (by omega) (by omega) (by omega) BC fC (fun q j hq w => ?_) (fun q j hq w0 w1 => ?_)
      · rw [oC q j (fun y => by omega), oA q j (fun y => by omega)]; exact hs q j hq (by omega)
      · by_cases e : (j : Int) = i
        · have ej : j = (i).toNat := by omega
          subst ej
          rcases hq with e9 | e9
          · subst e9; rw [oC _ _ (fun y => absurd y.1 (by decide)), vA]; rw [show ((i) - (1)).toNat = (i).toNat - 1 by omega]; exact hs _ _ (Or.inl rfl) (by omega)
          · subst e9; rw [vC, oA _ _ (fun y => absurd y.1 (by decide))]; rw [show ((i) - (1)).toNat = (i).toNat - 1 by omega]; exact hs _ _ (Or.inr rfl) (by omega)
        · rw [oC q j (fun y => by omega), oA q j (fun y => by omega)]; exact hm q j hq (by omega) w1

theorem rd_gap_l {a z : Int} (hB : ez_B τ h) (hX : jz_X τ) (cl : clr h 744) (a0 : 0 ≤ a) (az : a ≤ z) (z1 : z < 2000) (k : ∀ g, ez_B τ g → ez_fr (nz_P2 746 747) h g → (∀ q (j : Nat), (q = 746 ∨ q = 747) → ((j : Int) ≤ a ∨ z < (j : Int)) → qz_I g q j = qz_I h q j) → (∀ q (j : Nat), (q = 746 ∨ q = 747) → a < (j : Int) → (j : Int) ≤ z → qz_I g q j = qz_I h q (j - 1)) → Q (.inl none, g)) : ez_W d cm_80 0 [(0, .inr (.inr (some (744)))), (1, .inl (a)), (2, .inl (z))] [] h Q := by
  have tc : τ 744 = 10 := hX 744 (by decide)
  have tg1 : τ 745 = 1 := hX 745 (by decide)
  have tg2 : τ 746 = 2 := hX 746 (by decide)
  have tg3 : τ 747 = 11 := hX 747 (by decide)
  have tg4 : τ 748 = 12 := hX 748 (by decide)
  refine ez_go (n := 2) (pc' := 2) (L' := [(3, .inl (z)), (0, .inr (.inr (some (744)))), (1, .inl (a)), (2, .inl (z))]) (st' := []) rfl ?_
  refine ez_less [(3, .inl (z)), (0, .inr (.inr (some (744)))), (1, .inl (a)), (2, .inl (z))] rfl ⟨rfl, rfl, rfl, rfl, trivial⟩ ?_
  exact rd_gap_ll hX cl a0 az z1 k _ z h rfl (by omega) (by omega) hB (ez_fr.refl _ h) (fun _ _ _ _ => rfl) (fun q j _ w0 w1 => by omega)

/-- one taken out, what was passed over moves up -/
theorem rst_gap_l {g : cz_H} {a z x : Int} {ps xs : List Int} (rs : rst h 744 K a (ps ++ x :: xs)) (hz : z = a + (ps.length : Int)) (f : ez_fr (nz_P2 746 747) h g) (hs : (∀ q (j : Nat), (q = 746 ∨ q = 747) → ((j : Int) ≤ a ∨ z < (j : Int)) → qz_I g q j = qz_I h q j)) (hm : (∀ q (j : Nat), (q = 746 ∨ q = 747) → a < (j : Int) → (j : Int) ≤ z → qz_I g q j = qz_I h q (j - 1))) : rst g 744 K (a + 1) (ps ++ xs) := by
  obtain ⟨⟨r1, r2, r3⟩, r4, r5⟩ := rs
  rw [List.length_append, List.length_cons] at r2 r4
  refine ⟨⟨by omega, by rw [List.length_append]; omega, fun v hv => r3 v (by rcases List.mem_append.mp hv with w | w; (· exact List.mem_append_left _ w); (· exact List.mem_append_right _ (List.mem_cons_of_mem _ w)))⟩, ?_, fun j v hv => ?_⟩
  · rw [show qz_I g (744 + 1) 1 = qz_I h (744 + 1) 1 from f.I rfl _, r4, List.length_append]; omega
  · have e0 : (a + 1).toNat + j = a.toNat + (j + 1) := by omega
    rw [e0]
    by_cases e : j < ps.length
    · rw [List.getElem?_append_left e] at hv
      have q := r5 j v (by rw [List.getElem?_append_left e]; exact hv)
      rw [hm 746 _ (Or.inl rfl) (by omega) (by omega), hm 747 _ (Or.inr rfl) (by omega) (by omega), show a.toNat + (j + 1) - 1 = a.toNat + j by omega]; exact q
    · rw [List.getElem?_append_right (by omega)] at hv
      have q := r5 (j + 1) v (by rw [List.getElem?_append_right (by omega), show j + 1 - ps.length = (j - ps.length) + 1 by omega, List.getElem?_cons_succ]; exact hv)
      rw [hs 746 _ (Or.inl rfl) (Or.inr (by omega)), hs 747 _ (Or.inr rfl) (Or.inr (by omega))]; exact q
theorem rd_longest_r {at9 : Int} (hB : ez_B τ h) (hX : jz_X τ) (c : cEr τ h LK R) (cl : clr h 749) (rs : rst h 749 K at9 rem) (k1 : ∀ v n e, lon LK rem = some (n, e) → 0 ≤ v → R[v.toNat]? = some (rem.take n, e) → Q (.inl (some (ez_v (.inl v))), h)) (k0 : lon LK rem = none → Q (.inl (some (ez_v (.inl (-1)))), h)) : ez_W (d + 2) cm_84 0 [(0, .inr (.inr (some (749)))), (1, .inl (at9))] [] h Q := by
  have t202 : τ 202 = 48 := hX 202 (by decide)
  have t204 : τ 204 = 50 := hX 204 (by decide)
  have t205 : τ 205 = 51 := hX 205 (by decide)
  have tc : τ 749 = 10 := hX 749 (by decide)
  have tg1 : τ 750 = 1 := hX 750 (by decide)
  have tg2 : τ 751 = 2 := hX 751 (by decide)
  have tg3 : τ 752 = 11 := hX 752 (by decide)
  have tg4 : τ 753 = 12 := hX 753 (by decide)
  obtain ⟨ra, rb, rc⟩ := id rs.1
  refine ez_go (n := 8) (pc' := 11) (L' := [(5, .inl (0)), (4, .inl (-1)), (2, .inr (.inl (Int64.ofInt (0 : Nat)))), (0, .inr (.inr (some (749)))), (1, .inl (at9))]) (st' := [.inl (3), .inl (0)]) rfl ?_
  refine ez_icmp rfl rfl ⟨by decide, by decide⟩ ⟨by decide, by decide⟩ (fun (c1 : (3) ≤ (0 : Int)) => absurd c1 (by decide)) (fun _ => ?_)
  refine ez_go (n := 4) (pc' := 19) (L' := [(5, .inl (0)), (4, .inl (-1)), (2, .inr (.inl (Int64.ofInt (0 : Nat)))), (0, .inr (.inr (some (749)))), (1, .inl (at9))]) (st' := [.inr (.inr (some (749))), .inl ((at9) + (0))]) rfl ?_
  refine ez_gR hB tc rfl rfl tq_10 rfl rfl (fun (t2 : _ = 1) (t2' : 1 ≤ qz_I h 749 2) => ?_)
  rw [show qz_P h 749 2 = 750 by unfold qz_P; rw [cl.1]; first | rfl | omega]
  refine ez_gI hB tg1 rfl rfl tq_1 rfl rfl (fun (b3 : 0 ≤ qz_I h 750 1) (b3' : qz_I h 750 1 ≤ 2000) => ?_)
  rw [rs.2.1]
  refine ez_icmp rfl rfl ⟨by first | omega | exact (sz_i32 _).1, by first | omega | exact (sz_i32 _).2⟩ ⟨by first | omega | exact (sz_i32 _).1, by first | omega | exact (sz_i32 _).2⟩ (fun (c4 : (at9 + (rem.length : Int)) ≤ ((at9) + (0))) => ?_) (fun (c4 : ¬((at9 + (rem.length : Int)) ≤ ((at9) + (0)))) => ?_)
  · skip
    refine ez_go (n := 1) (pc' := 80) (L' := [(5, .inl (0)), (4, .inl (-1)), (2, .inr (.inl (Int64.ofInt (0 : Nat)))), (0, .inr (.inr (some (749)))), (1, .inl (at9))]) (st' := [.inl (-1)]) rfl ?_
    have lo : lon LK rem = none := by unfold lon; rw [lon1_n (Or.inl (by omega)), lon1_n (Or.inl (by omega)), lon1_n (Or.inl (by omega))]
    exact ez_retI rfl rfl (k0 lo)
  · skip
    refine ez_go (n := 3) (pc' := 32) (L' := [(5, .inl (0)), (4, .inl (-1)), (2, .inr (.inl (Int64.ofInt (0 : Nat)))), (0, .inr (.inr (some (749)))), (1, .inl (at9))]) (st' := [.inr (.inr (some (749))), .inl (0), .inr (.inl (Int64.ofInt (0 : Nat)))]) rfl ?_
    refine ez_gR hB tc rfl rfl tq_10 rfl rfl (fun (t5 : _ = 1) (t5' : 1 ≤ qz_I h 749 2) => ?_)
    rw [show qz_P h 749 2 = 750 by unfold qz_P; rw [cl.1]; first | rfl | omega]
    refine ez_g3 hB tg1 rfl rfl tq_1 rfl rfl (fun (t6 : _ = 2) => ?_)
    refine ez_go (n := 3) (pc' := 42) (L' := [(5, .inl (0)), (4, .inl (-1)), (2, .inr (.inl (Int64.ofInt (0 : Nat)))), (0, .inr (.inr (some (749)))), (1, .inl (at9))]) (st' := [.inl ((at9) + (0)), .inr (.inr (some (751))), .inl (0), .inr (.inl (Int64.ofInt (0 : Nat)))]) rfl ?_
    have n8 : 2000 ≤ qz_N h 751 ∧ qz_N h 751 ≤ 2000 := ez_len hB t6 tq_2 rfl
    refine ez_aI hB t6 rfl tq_2 rfl rfl (by omega) (by omega) (fun (b7 : -2147483648 ≤ qz_I h 751 ((at9) + (0)).toNat) (b7' : qz_I h 751 ((at9) + (0)).toNat ≤ 2147483647) => ?_)
    have l0 : 0 < rem.length := by omega
    have e0 : qz_I h 751 ((at9) + (0)).toNat = uX rem 0 := by rw [show ((at9) + (0)).toNat = at9.toNat + 0 by omega]; exact (rs.2.2 0 _ (uX_e (u := rem) (j := 0) (by omega))).1
    have p0 := uX_ptl rs.1.2.2 (j := 0) (show (0 : Int).toNat < rem.length by omega)
    rw [e0]
    refine ez_cs hB.2.1 rfl rfl rfl rfl rfl (rd_cpackAt (row := ([] : List Int)) (Nat.le_of_ble_eq_true rfl) (fun v hv => by cases hv) p0 (by show ((uv (Int64.ofInt ((0 : Nat) : Int)) : Nat) : Int) = 0; decide) (fun y0 hy0 => ez_KL ?_))
    have hy0 : (uv y0 : Int) = pkN [uX rem 0] := hy0
    refine ez_go (n := 2) (pc' := 48) (L' := [(2, .inr (.inl (y0))), (5, .inl (0)), (4, .inl (-1)), (0, .inr (.inr (some (749)))), (1, .inl (at9))]) (st' := [.inr (.inr (some (749)))]) rfl ?_
    refine ez_gC (p := 202) (tg := 48) hB tc rfl rfl tq_10 rfl rfl (fun (t202 : _ = 48) => ?_)
    refine ez_go (n := 1) (pc' := 52) (L' := [(2, .inr (.inl (y0))), (5, .inl (0)), (4, .inl (-1)), (0, .inr (.inr (some (749)))), (1, .inl (at9))]) (st' := [.inr (.inl (y0)), .inr (.inr (some (202)))]) rfl ?_
    refine ez_cv hB t202 rfl rfl rfl tq_48 rfl rfl rfl (rd_entryIndex (row := [uX rem 0]) hB hX c (rowk_app (row := ([] : List Int)) (fun v hv => by cases hv) (Nat.le_of_ble_eq_true rfl) p0) hy0 (fun v0 f0 w0 i0 x0 => ez_K1 ?_) (fun x0 => ez_K1 ?_))
    · have vb0 : -1 < v0 ∧ v0 ≤ 256 := by have q1 := (List.getElem?_eq_some_iff.mp i0).1; have q2 := c.1; have q3 : 0 ≤ qz_I h 202 4 ∧ qz_I h 202 4 ≤ 256 := ez_fB (cl := 2) (k := 4) hB t202 tq_48 rfl rfl (by decide); omega
      refine ez_go (n := 3) (pc' := 60) (L' := [(6, .inl (v0)), (2, .inr (.inl (y0))), (5, .inl (0)), (4, .inl (-1)), (0, .inr (.inr (some (749)))), (1, .inl (at9))]) (st' := [.inl (-1), .inl (v0)]) rfl ?_
      refine ez_icmp rfl rfl ⟨by first | omega | exact (sz_i32 _).1, by first | omega | exact (sz_i32 _).2⟩ ⟨by first | omega | exact (sz_i32 _).1, by first | omega | exact (sz_i32 _).2⟩ (fun (c9 : (v0) = (-1)) => ?_) (fun (c9 : ¬((v0) = (-1))) => ?_)
      · exfalso; omega
      · skip
        refine ez_go (n := 7) (pc' := 11) (L' := [(5, .inl (1)), (4, .inl (v0)), (6, .inl (v0)), (2, .inr (.inl (y0))), (0, .inr (.inr (some (749)))), (1, .inl (at9))]) (st' := [.inl (3), .inl (1)]) rfl ?_
        refine ez_icmp rfl rfl ⟨by decide, by decide⟩ ⟨by decide, by decide⟩ (fun (c10 : (3) ≤ (1 : Int)) => absurd c10 (by decide)) (fun _ => ?_)
        refine ez_go (n := 4) (pc' := 19) (L' := [(5, .inl (1)), (4, .inl (v0)), (6, .inl (v0)), (2, .inr (.inl (y0))), (0, .inr (.inr (some (749)))), (1, .inl (at9))]) (st' := [.inr (.inr (some (749))), .inl ((at9) + (1))]) rfl ?_
        refine ez_gR hB tc rfl rfl tq_10 rfl rfl (fun (t11 : _ = 1) (t11' : 1 ≤ qz_I h 749 2) => ?_)
        rw [show qz_P h 749 2 = 750 by unfold qz_P; rw [cl.1]; first | rfl | omega]
        refine ez_gI hB tg1 rfl rfl tq_1 rfl rfl (fun (b12 : 0 ≤ qz_I h 750 1) (b12' : qz_I h 750 1 ≤ 2000) => ?_)
        rw [rs.2.1]
        refine ez_icmp rfl rfl ⟨by first | omega | exact (sz_i32 _).1, by first | omega | exact (sz_i32 _).2⟩ ⟨by first | omega | exact (sz_i32 _).1, by first | omega | exact (sz_i32 _).2⟩ (fun (c13 : (at9 + (rem.length : Int)) ≤ ((at9) + (1))) => ?_) (fun (c13 : ¬((at9 + (rem.length : Int)) ≤ ((at9) + (1)))) => ?_)
        · skip
          refine ez_go (n := 1) (pc' := 80) (L' := [(5, .inl (1)), (4, .inl (v0)), (6, .inl (v0)), (2, .inr (.inl (y0))), (0, .inr (.inr (some (749)))), (1, .inl (at9))]) (st' := [.inl (v0)]) rfl ?_
          have lo : lon LK rem = some (1, f0) := by unfold lon; rw [lon1_n (Or.inl (by omega)), lon1_n (Or.inl (by omega)), lon1_y (by omega) (by rw [tk1 (by omega)]; exact x0)]
          exact ez_retI rfl rfl (k1 v0 1 f0 lo w0 (by rw [tk1 (by omega)]; exact i0))
        · skip
          refine ez_go (n := 3) (pc' := 32) (L' := [(5, .inl (1)), (4, .inl (v0)), (6, .inl (v0)), (2, .inr (.inl (y0))), (0, .inr (.inr (some (749)))), (1, .inl (at9))]) (st' := [.inr (.inr (some (749))), .inl (1), .inr (.inl (y0))]) rfl ?_
          refine ez_gR hB tc rfl rfl tq_10 rfl rfl (fun (t14 : _ = 1) (t14' : 1 ≤ qz_I h 749 2) => ?_)
          rw [show qz_P h 749 2 = 750 by unfold qz_P; rw [cl.1]; first | rfl | omega]
          refine ez_g3 hB tg1 rfl rfl tq_1 rfl rfl (fun (t15 : _ = 2) => ?_)
          refine ez_go (n := 3) (pc' := 42) (L' := [(5, .inl (1)), (4, .inl (v0)), (6, .inl (v0)), (2, .inr (.inl (y0))), (0, .inr (.inr (some (749)))), (1, .inl (at9))]) (st' := [.inl ((at9) + (1)), .inr (.inr (some (751))), .inl (1), .inr (.inl (y0))]) rfl ?_
          have n17 : 2000 ≤ qz_N h 751 ∧ qz_N h 751 ≤ 2000 := ez_len hB t15 tq_2 rfl
          refine ez_aI hB t15 rfl tq_2 rfl rfl (by omega) (by omega) (fun (b16 : -2147483648 ≤ qz_I h 751 ((at9) + (1)).toNat) (b16' : qz_I h 751 ((at9) + (1)).toNat ≤ 2147483647) => ?_)
          have l1 : 1 < rem.length := by omega
          have e1 : qz_I h 751 ((at9) + (1)).toNat = uX rem 1 := by rw [show ((at9) + (1)).toNat = at9.toNat + 1 by omega]; exact (rs.2.2 1 _ (uX_e (u := rem) (j := 1) (by omega))).1
          have p1 := uX_ptl rs.1.2.2 (j := 1) (show (1 : Int).toNat < rem.length by omega)
          rw [e1]
          refine ez_cs hB.2.1 rfl rfl rfl rfl rfl (rd_cpackAt (row := [uX rem 0]) (Nat.le_of_ble_eq_true rfl) (ptl1 p0) p1 hy0 (fun y1 hy1 => ez_KL ?_))
          have hy1 : (uv y1 : Int) = pkN [uX rem 0, uX rem 1] := hy1
          refine ez_go (n := 2) (pc' := 48) (L' := [(2, .inr (.inl (y1))), (5, .inl (1)), (4, .inl (v0)), (6, .inl (v0)), (0, .inr (.inr (some (749)))), (1, .inl (at9))]) (st' := [.inr (.inr (some (749)))]) rfl ?_
          refine ez_gC (p := 202) (tg := 48) hB tc rfl rfl tq_10 rfl rfl (fun (t202 : _ = 48) => ?_)
          refine ez_go (n := 1) (pc' := 52) (L' := [(2, .inr (.inl (y1))), (5, .inl (1)), (4, .inl (v0)), (6, .inl (v0)), (0, .inr (.inr (some (749)))), (1, .inl (at9))]) (st' := [.inr (.inl (y1)), .inr (.inr (some (202)))]) rfl ?_
          refine ez_cv hB t202 rfl rfl rfl tq_48 rfl rfl rfl (rd_entryIndex (row := [uX rem 0, uX rem 1]) hB hX c (rowk_app (row := [uX rem 0]) (ptl1 p0) (Nat.le_of_ble_eq_true rfl) p1) hy1 (fun v1 f1 w1 i1 x1 => ez_K1 ?_) (fun x1 => ez_K1 ?_))
          · have vb1 : -1 < v1 ∧ v1 ≤ 256 := by have q1 := (List.getElem?_eq_some_iff.mp i1).1; have q2 := c.1; have q3 : 0 ≤ qz_I h 202 4 ∧ qz_I h 202 4 ≤ 256 := ez_fB (cl := 2) (k := 4) hB t202 tq_48 rfl rfl (by decide); omega
            refine ez_go (n := 3) (pc' := 60) (L' := [(6, .inl (v1)), (2, .inr (.inl (y1))), (5, .inl (1)), (4, .inl (v0)), (0, .inr (.inr (some (749)))), (1, .inl (at9))]) (st' := [.inl (-1), .inl (v1)]) rfl ?_
            refine ez_icmp rfl rfl ⟨by first | omega | exact (sz_i32 _).1, by first | omega | exact (sz_i32 _).2⟩ ⟨by first | omega | exact (sz_i32 _).1, by first | omega | exact (sz_i32 _).2⟩ (fun (c18 : (v1) = (-1)) => ?_) (fun (c18 : ¬((v1) = (-1))) => ?_)
            · exfalso; omega
            · skip
              refine ez_go (n := 7) (pc' := 11) (L' := [(5, .inl (2)), (4, .inl (v1)), (6, .inl (v1)), (2, .inr (.inl (y1))), (0, .inr (.inr (some (749)))), (1, .inl (at9))]) (st' := [.inl (3), .inl (2)]) rfl ?_
              refine ez_icmp rfl rfl ⟨by decide, by decide⟩ ⟨by decide, by decide⟩ (fun (c19 : (3) ≤ (2 : Int)) => absurd c19 (by decide)) (fun _ => ?_)
              refine ez_go (n := 4) (pc' := 19) (L' := [(5, .inl (2)), (4, .inl (v1)), (6, .inl (v1)), (2, .inr (.inl (y1))), (0, .inr (.inr (some (749)))), (1, .inl (at9))]) (st' := [.inr (.inr (some (749))), .inl ((at9) + (2))]) rfl ?_
              refine ez_gR hB tc rfl rfl tq_10 rfl rfl (fun (t20 : _ = 1) (t20' : 1 ≤ qz_I h 749 2) => ?_)
              rw [show qz_P h 749 2 = 750 by unfold qz_P; rw [cl.1]; first | rfl | omega]
              refine ez_gI hB tg1 rfl rfl tq_1 rfl rfl (fun (b21 : 0 ≤ qz_I h 750 1) (b21' : qz_I h 750 1 ≤ 2000) => ?_)
              rw [rs.2.1]
              refine ez_icmp rfl rfl ⟨by first | omega | exact (sz_i32 _).1, by first | omega | exact (sz_i32 _).2⟩ ⟨by first | omega | exact (sz_i32 _).1, by first | omega | exact (sz_i32 _).2⟩ (fun (c22 : (at9 + (rem.length : Int)) ≤ ((at9) + (2))) => ?_) (fun (c22 : ¬((at9 + (rem.length : Int)) ≤ ((at9) + (2)))) => ?_)
              · skip
                refine ez_go (n := 1) (pc' := 80) (L' := [(5, .inl (2)), (4, .inl (v1)), (6, .inl (v1)), (2, .inr (.inl (y1))), (0, .inr (.inr (some (749)))), (1, .inl (at9))]) (st' := [.inl (v1)]) rfl ?_
                have lo : lon LK rem = some (2, f1) := by unfold lon; rw [lon1_n (Or.inl (by omega)), lon1_y (by omega) (by rw [tk2 (by omega)]; exact x1)]
                exact ez_retI rfl rfl (k1 v1 2 f1 lo w1 (by rw [tk2 (by omega)]; exact i1))
              · skip
                refine ez_go (n := 3) (pc' := 32) (L' := [(5, .inl (2)), (4, .inl (v1)), (6, .inl (v1)), (2, .inr (.inl (y1))), (0, .inr (.inr (some (749)))), (1, .inl (at9))]) (st' := [.inr (.inr (some (749))), .inl (2), .inr (.inl (y1))]) rfl ?_
                refine ez_gR hB tc rfl rfl tq_10 rfl rfl (fun (t23 : _ = 1) (t23' : 1 ≤ qz_I h 749 2) => ?_)
                rw [show qz_P h 749 2 = 750 by unfold qz_P; rw [cl.1]; first | rfl | omega]
                refine ez_g3 hB tg1 rfl rfl tq_1 rfl rfl (fun (t24 : _ = 2) => ?_)
                refine ez_go (n := 3) (pc' := 42) (L' := [(5, .inl (2)), (4, .inl (v1)), (6, .inl (v1)), (2, .inr (.inl (y1))), (0, .inr (.inr (some (749)))), (1, .inl (at9))]) (st' := [.inl ((at9) + (2)), .inr (.inr (some (751))), .inl (2), .inr (.inl (y1))]) rfl ?_
                have n26 : 2000 ≤ qz_N h 751 ∧ qz_N h 751 ≤ 2000 := ez_len hB t24 tq_2 rfl
                refine ez_aI hB t24 rfl tq_2 rfl rfl (by omega) (by omega) (fun (b25 : -2147483648 ≤ qz_I h 751 ((at9) + (2)).toNat) (b25' : qz_I h 751 ((at9) + (2)).toNat ≤ 2147483647) => ?_)
                have l2 : 2 < rem.length := by omega
                have e2 : qz_I h 751 ((at9) + (2)).toNat = uX rem 2 := by rw [show ((at9) + (2)).toNat = at9.toNat + 2 by omega]; exact (rs.2.2 2 _ (uX_e (u := rem) (j := 2) (by omega))).1
                have p2 := uX_ptl rs.1.2.2 (j := 2) (show (2 : Int).toNat < rem.length by omega)
                rw [e2]
                refine ez_cs hB.2.1 rfl rfl rfl rfl rfl (rd_cpackAt (row := [uX rem 0, uX rem 1]) (Nat.le_of_ble_eq_true rfl) (ptl2 p0 p1) p2 hy1 (fun y2 hy2 => ez_KL ?_))
                have hy2 : (uv y2 : Int) = pkN [uX rem 0, uX rem 1, uX rem 2] := hy2
                refine ez_go (n := 2) (pc' := 48) (L' := [(2, .inr (.inl (y2))), (5, .inl (2)), (4, .inl (v1)), (6, .inl (v1)), (0, .inr (.inr (some (749)))), (1, .inl (at9))]) (st' := [.inr (.inr (some (749)))]) rfl ?_
                refine ez_gC (p := 202) (tg := 48) hB tc rfl rfl tq_10 rfl rfl (fun (t202 : _ = 48) => ?_)
                refine ez_go (n := 1) (pc' := 52) (L' := [(2, .inr (.inl (y2))), (5, .inl (2)), (4, .inl (v1)), (6, .inl (v1)), (0, .inr (.inr (some (749)))), (1, .inl (at9))]) (st' := [.inr (.inl (y2)), .inr (.inr (some (202)))]) rfl ?_
                refine ez_cv hB t202 rfl rfl rfl tq_48 rfl rfl rfl (rd_entryIndex (row := [uX rem 0, uX rem 1, uX rem 2]) hB hX c (rowk_app (row := [uX rem 0, uX rem 1]) (ptl2 p0 p1) (Nat.le_of_ble_eq_true rfl) p2) hy2 (fun v2 f2 w2 i2 x2 => ez_K1 ?_) (fun x2 => ez_K1 ?_))
                · have vb2 : -1 < v2 ∧ v2 ≤ 256 := by have q1 := (List.getElem?_eq_some_iff.mp i2).1; have q2 := c.1; have q3 : 0 ≤ qz_I h 202 4 ∧ qz_I h 202 4 ≤ 256 := ez_fB (cl := 2) (k := 4) hB t202 tq_48 rfl rfl (by decide); omega
                  refine ez_go (n := 3) (pc' := 60) (L' := [(6, .inl (v2)), (2, .inr (.inl (y2))), (5, .inl (2)), (4, .inl (v1)), (0, .inr (.inr (some (749)))), (1, .inl (at9))]) (st' := [.inl (-1), .inl (v2)]) rfl ?_
                  refine ez_icmp rfl rfl ⟨by first | omega | exact (sz_i32 _).1, by first | omega | exact (sz_i32 _).2⟩ ⟨by first | omega | exact (sz_i32 _).1, by first | omega | exact (sz_i32 _).2⟩ (fun (c27 : (v2) = (-1)) => ?_) (fun (c27 : ¬((v2) = (-1))) => ?_)
                  · exfalso; omega
                  · skip
                    refine ez_go (n := 7) (pc' := 11) (L' := [(5, .inl (3)), (4, .inl (v2)), (6, .inl (v2)), (2, .inr (.inl (y2))), (0, .inr (.inr (some (749)))), (1, .inl (at9))]) (st' := [.inl (3), .inl (3)]) rfl ?_
                    refine ez_icmp rfl rfl ⟨by decide, by decide⟩ ⟨by decide, by decide⟩ (fun _ => ?_) (fun (c28 : ¬((3 : Int) ≤ (3))) => absurd c28 (by decide))
                    refine ez_go (n := 1) (pc' := 80) (L' := [(5, .inl (3)), (4, .inl (v2)), (6, .inl (v2)), (2, .inr (.inl (y2))), (0, .inr (.inr (some (749)))), (1, .inl (at9))]) (st' := [.inl (v2)]) rfl ?_
                    have lo : lon LK rem = some (3, f2) := by unfold lon; rw [lon1_y (by omega) (by rw [tk3 (by omega)]; exact x2)]
                    exact ez_retI rfl rfl (k1 v2 3 f2 lo w2 (by rw [tk3 (by omega)]; exact i2))
                · skip
                  refine ez_go (n := 3) (pc' := 60) (L' := [(6, .inl (-1)), (2, .inr (.inl (y2))), (5, .inl (2)), (4, .inl (v1)), (0, .inr (.inr (some (749)))), (1, .inl (at9))]) (st' := [.inl (-1), .inl (-1)]) rfl ?_
                  refine ez_icmp rfl rfl ⟨by decide, by decide⟩ ⟨by decide, by decide⟩ (fun _ => ?_) (fun (c29 : ¬((-1 : Int) = (-1))) => absurd c29 (by decide))
                  refine ez_go (n := 6) (pc' := 11) (L' := [(5, .inl (3)), (4, .inl (v1)), (6, .inl (-1)), (2, .inr (.inl (y2))), (0, .inr (.inr (some (749)))), (1, .inl (at9))]) (st' := [.inl (3), .inl (3)]) rfl ?_
                  refine ez_icmp rfl rfl ⟨by decide, by decide⟩ ⟨by decide, by decide⟩ (fun _ => ?_) (fun (c30 : ¬((3 : Int) ≤ (3))) => absurd c30 (by decide))
                  refine ez_go (n := 1) (pc' := 80) (L' := [(5, .inl (3)), (4, .inl (v1)), (6, .inl (-1)), (2, .inr (.inl (y2))), (0, .inr (.inr (some (749)))), (1, .inl (at9))]) (st' := [.inl (v1)]) rfl ?_
                  have lo : lon LK rem = some (2, f1) := by unfold lon; rw [lon1_n (Or.inr (by rw [tk3 (by omega)]; exact x2)), lon1_y (by omega) (by rw [tk2 (by omega)]; exact x1)]
                  exact ez_retI rfl rfl (k1 v1 2 f1 lo w1 (by rw [tk2 (by omega)]; exact i1))
          · skip
            refine ez_go (n := 3) (pc' := 60) (L' := [(6, .inl (-1)), (2, .inr (.inl (y1))), (5, .inl (1)), (4, .inl (v0)), (0, .inr (.inr (some (749)))), (1, .inl (at9))]) (st' := [.inl (-1), .inl (-1)]) rfl ?_
            refine ez_icmp rfl rfl ⟨by decide, by decide⟩ ⟨by decide, by decide⟩ (fun _ => ?_) (fun (c31 : ¬((-1 : Int) = (-1))) => absurd c31 (by decide))
            refine ez_go (n := 6) (pc' := 11) (L' := [(5, .inl (2)), (4, .inl (v0)), (6, .inl (-1)), (2, .inr (.inl (y1))), (0, .inr (.inr (some (749)))), (1, .inl (at9))]) (st' := [.inl (3), .inl (2)]) rfl ?_
            refine ez_icmp rfl rfl ⟨by decide, by decide⟩ ⟨by decide, by decide⟩ (fun (c32 : (3) ≤ (2 : Int)) => absurd c32 (by decide)) (fun _ => ?_)
            refine ez_go (n := 4) (pc' := 19) (L' := [(5, .inl (2)), (4, .inl (v0)), (6, .inl (-1)), (2, .inr (.inl (y1))), (0, .inr (.inr (some (749)))), (1, .inl (at9))]) (st' := [.inr (.inr (some (749))), .inl ((at9) + (2))]) rfl ?_
            refine ez_gR hB tc rfl rfl tq_10 rfl rfl (fun (t33 : _ = 1) (t33' : 1 ≤ qz_I h 749 2) => ?_)
            rw [show qz_P h 749 2 = 750 by unfold qz_P; rw [cl.1]; first | rfl | omega]
            refine ez_gI hB tg1 rfl rfl tq_1 rfl rfl (fun (b34 : 0 ≤ qz_I h 750 1) (b34' : qz_I h 750 1 ≤ 2000) => ?_)
            rw [rs.2.1]
            refine ez_icmp rfl rfl ⟨by first | omega | exact (sz_i32 _).1, by first | omega | exact (sz_i32 _).2⟩ ⟨by first | omega | exact (sz_i32 _).1, by first | omega | exact (sz_i32 _).2⟩ (fun (c35 : (at9 + (rem.length : Int)) ≤ ((at9) + (2))) => ?_) (fun (c35 : ¬((at9 + (rem.length : Int)) ≤ ((at9) + (2)))) => ?_)
            · skip
              refine ez_go (n := 1) (pc' := 80) (L' := [(5, .inl (2)), (4, .inl (v0)), (6, .inl (-1)), (2, .inr (.inl (y1))), (0, .inr (.inr (some (749)))), (1, .inl (at9))]) (st' := [.inl (v0)]) rfl ?_
              have lo : lon LK rem = some (1, f0) := by unfold lon; rw [lon1_n (Or.inl (by omega)), lon1_n (Or.inr (by rw [tk2 (by omega)]; exact x1)), lon1_y (by omega) (by rw [tk1 (by omega)]; exact x0)]
              exact ez_retI rfl rfl (k1 v0 1 f0 lo w0 (by rw [tk1 (by omega)]; exact i0))
            · skip
              refine ez_go (n := 3) (pc' := 32) (L' := [(5, .inl (2)), (4, .inl (v0)), (6, .inl (-1)), (2, .inr (.inl (y1))), (0, .inr (.inr (some (749)))), (1, .inl (at9))]) (st' := [.inr (.inr (some (749))), .inl (2), .inr (.inl (y1))]) rfl ?_
              refine ez_gR hB tc rfl rfl tq_10 rfl rfl (fun (t36 : _ = 1) (t36' : 1 ≤ qz_I h 749 2) => ?_)
              rw [show qz_P h 749 2 = 750 by unfold qz_P; rw [cl.1]; first | rfl | omega]
              refine ez_g3 hB tg1 rfl rfl tq_1 rfl rfl (fun (t37 : _ = 2) => ?_)
              refine ez_go (n := 3) (pc' := 42) (L' := [(5, .inl (2)), (4, .inl (v0)), (6, .inl (-1)), (2, .inr (.inl (y1))), (0, .inr (.inr (some (749)))), (1, .inl (at9))]) (st' := [.inl ((at9) + (2)), .inr (.inr (some (751))), .inl (2), .inr (.inl (y1))]) rfl ?_
              have n39 : 2000 ≤ qz_N h 751 ∧ qz_N h 751 ≤ 2000 := ez_len hB t37 tq_2 rfl
              refine ez_aI hB t37 rfl tq_2 rfl rfl (by omega) (by omega) (fun (b38 : -2147483648 ≤ qz_I h 751 ((at9) + (2)).toNat) (b38' : qz_I h 751 ((at9) + (2)).toNat ≤ 2147483647) => ?_)
              have l2 : 2 < rem.length := by omega
              have e2 : qz_I h 751 ((at9) + (2)).toNat = uX rem 2 := by rw [show ((at9) + (2)).toNat = at9.toNat + 2 by omega]; exact (rs.2.2 2 _ (uX_e (u := rem) (j := 2) (by omega))).1
              have p2 := uX_ptl rs.1.2.2 (j := 2) (show (2 : Int).toNat < rem.length by omega)
              rw [e2]
              refine ez_cs hB.2.1 rfl rfl rfl rfl rfl (rd_cpackAt (row := [uX rem 0, uX rem 1]) (Nat.le_of_ble_eq_true rfl) (ptl2 p0 p1) p2 hy1 (fun y2 hy2 => ez_KL ?_))
              have hy2 : (uv y2 : Int) = pkN [uX rem 0, uX rem 1, uX rem 2] := hy2
              refine ez_go (n := 2) (pc' := 48) (L' := [(2, .inr (.inl (y2))), (5, .inl (2)), (4, .inl (v0)), (6, .inl (-1)), (0, .inr (.inr (some (749)))), (1, .inl (at9))]) (st' := [.inr (.inr (some (749)))]) rfl ?_
              refine ez_gC (p := 202) (tg := 48) hB tc rfl rfl tq_10 rfl rfl (fun (t202 : _ = 48) => ?_)
              refine ez_go (n := 1) (pc' := 52) (L' := [(2, .inr (.inl (y2))), (5, .inl (2)), (4, .inl (v0)), (6, .inl (-1)), (0, .inr (.inr (some (749)))), (1, .inl (at9))]) (st' := [.inr (.inl (y2)), .inr (.inr (some (202)))]) rfl ?_
              refine ez_cv hB t202 rfl rfl rfl tq_48 rfl rfl rfl (rd_entryIndex (row := [uX rem 0, uX rem 1, uX rem 2]) hB hX c (rowk_app (row := [uX rem 0, uX rem 1]) (ptl2 p0 p1) (Nat.le_of_ble_eq_true rfl) p2) hy2 (fun v2 f2 w2 i2 x2 => ez_K1 ?_) (fun x2 => ez_K1 ?_))
              · have vb2 : -1 < v2 ∧ v2 ≤ 256 := by have q1 := (List.getElem?_eq_some_iff.mp i2).1; have q2 := c.1; have q3 : 0 ≤ qz_I h 202 4 ∧ qz_I h 202 4 ≤ 256 := ez_fB (cl := 2) (k := 4) hB t202 tq_48 rfl rfl (by decide); omega
                refine ez_go (n := 3) (pc' := 60) (L' := [(6, .inl (v2)), (2, .inr (.inl (y2))), (5, .inl (2)), (4, .inl (v0)), (0, .inr (.inr (some (749)))), (1, .inl (at9))]) (st' := [.inl (-1), .inl (v2)]) rfl ?_
                refine ez_icmp rfl rfl ⟨by first | omega | exact (sz_i32 _).1, by first | omega | exact (sz_i32 _).2⟩ ⟨by first | omega | exact (sz_i32 _).1, by first | omega | exact (sz_i32 _).2⟩ (fun (c40 : (v2) = (-1)) => ?_) (fun (c40 : ¬((v2) = (-1))) => ?_)
                · exfalso; omega
                · skip
                  refine ez_go (n := 7) (pc' := 11) (L' := [(5, .inl (3)), (4, .inl (v2)), (6, .inl (v2)), (2, .inr (.inl (y2))), (0, .inr (.inr (some (749)))), (1, .inl (at9))]) (st' := [.inl (3), .inl (3)]) rfl ?_
                  refine ez_icmp rfl rfl ⟨by decide, by decide⟩ ⟨by decide, by decide⟩ (fun _ => ?_) (fun (c41 : ¬((3 : Int) ≤ (3))) => absurd c41 (by decide))
                  refine ez_go (n := 1) (pc' := 80) (L' := [(5, .inl (3)), (4, .inl (v2)), (6, .inl (v2)), (2, .inr (.inl (y2))), (0, .inr (.inr (some (749)))), (1, .inl (at9))]) (st' := [.inl (v2)]) rfl ?_
                  have lo : lon LK rem = some (3, f2) := by unfold lon; rw [lon1_y (by omega) (by rw [tk3 (by omega)]; exact x2)]
                  exact ez_retI rfl rfl (k1 v2 3 f2 lo w2 (by rw [tk3 (by omega)]; exact i2))
              · skip
                refine ez_go (n := 3) (pc' := 60) (L' := [(6, .inl (-1)), (2, .inr (.inl (y2))), (5, .inl (2)), (4, .inl (v0)), (0, .inr (.inr (some (749)))), (1, .inl (at9))]) (st' := [.inl (-1), .inl (-1)]) rfl ?_
                refine ez_icmp rfl rfl ⟨by decide, by decide⟩ ⟨by decide, by decide⟩ (fun _ => ?_) (fun (c42 : ¬((-1 : Int) = (-1))) => absurd c42 (by decide))
                refine ez_go (n := 6) (pc' := 11) (L' := [(5, .inl (3)), (4, .inl (v0)), (6, .inl (-1)), (2, .inr (.inl (y2))), (0, .inr (.inr (some (749)))), (1, .inl (at9))]) (st' := [.inl (3), .inl (3)]) rfl ?_
                refine ez_icmp rfl rfl ⟨by decide, by decide⟩ ⟨by decide, by decide⟩ (fun _ => ?_) (fun (c43 : ¬((3 : Int) ≤ (3))) => absurd c43 (by decide))
                refine ez_go (n := 1) (pc' := 80) (L' := [(5, .inl (3)), (4, .inl (v0)), (6, .inl (-1)), (2, .inr (.inl (y2))), (0, .inr (.inr (some (749)))), (1, .inl (at9))]) (st' := [.inl (v0)]) rfl ?_
                have lo : lon LK rem = some (1, f0) := by unfold lon; rw [lon1_n (Or.inr (by rw [tk3 (by omega)]; exact x2)), lon1_n (Or.inr (by rw [tk2 (by omega)]; exact x1)), lon1_y (by omega) (by rw [tk1 (by omega)]; exact x0)]
                exact ez_retI rfl rfl (k1 v0 1 f0 lo w0 (by rw [tk1 (by omega)]; exact i0))
    · skip
      refine ez_go (n := 3) (pc' := 60) (L' := [(6, .inl (-1)), (2, .inr (.inl (y0))), (5, .inl (0)), (4, .inl (-1)), (0, .inr (.inr (some (749)))), (1, .inl (at9))]) (st' := [.inl (-1), .inl (-1)]) rfl ?_
      refine ez_icmp rfl rfl ⟨by decide, by decide⟩ ⟨by decide, by decide⟩ (fun _ => ?_) (fun (c44 : ¬((-1 : Int) = (-1))) => absurd c44 (by decide))
      refine ez_go (n := 6) (pc' := 11) (L' := [(5, .inl (1)), (4, .inl (-1)), (6, .inl (-1)), (2, .inr (.inl (y0))), (0, .inr (.inr (some (749)))), (1, .inl (at9))]) (st' := [.inl (3), .inl (1)]) rfl ?_
      refine ez_icmp rfl rfl ⟨by decide, by decide⟩ ⟨by decide, by decide⟩ (fun (c45 : (3) ≤ (1 : Int)) => absurd c45 (by decide)) (fun _ => ?_)
      refine ez_go (n := 4) (pc' := 19) (L' := [(5, .inl (1)), (4, .inl (-1)), (6, .inl (-1)), (2, .inr (.inl (y0))), (0, .inr (.inr (some (749)))), (1, .inl (at9))]) (st' := [.inr (.inr (some (749))), .inl ((at9) + (1))]) rfl ?_
      refine ez_gR hB tc rfl rfl tq_10 rfl rfl (fun (t46 : _ = 1) (t46' : 1 ≤ qz_I h 749 2) => ?_)
      rw [show qz_P h 749 2 = 750 by unfold qz_P; rw [cl.1]; first | rfl | omega]
      refine ez_gI hB tg1 rfl rfl tq_1 rfl rfl (fun (b47 : 0 ≤ qz_I h 750 1) (b47' : qz_I h 750 1 ≤ 2000) => ?_)
      rw [rs.2.1]
      refine ez_icmp rfl rfl ⟨by first | omega | exact (sz_i32 _).1, by first | omega | exact (sz_i32 _).2⟩ ⟨by first | omega | exact (sz_i32 _).1, by first | omega | exact (sz_i32 _).2⟩ (fun (c48 : (at9 + (rem.length : Int)) ≤ ((at9) + (1))) => ?_) (fun (c48 : ¬((at9 + (rem.length : Int)) ≤ ((at9) + (1)))) => ?_)
      · skip
        refine ez_go (n := 1) (pc' := 80) (L' := [(5, .inl (1)), (4, .inl (-1)), (6, .inl (-1)), (2, .inr (.inl (y0))), (0, .inr (.inr (some (749)))), (1, .inl (at9))]) (st' := [.inl (-1)]) rfl ?_
        have lo : lon LK rem = none := by unfold lon; rw [lon1_n (Or.inl (by omega)), lon1_n (Or.inl (by omega)), lon1_n (Or.inr (by rw [tk1 (by omega)]; exact x0))]
        exact ez_retI rfl rfl (k0 lo)
      · skip
        refine ez_go (n := 3) (pc' := 32) (L' := [(5, .inl (1)), (4, .inl (-1)), (6, .inl (-1)), (2, .inr (.inl (y0))), (0, .inr (.inr (some (749)))), (1, .inl (at9))]) (st' := [.inr (.inr (some (749))), .inl (1), .inr (.inl (y0))]) rfl ?_
        refine ez_gR hB tc rfl rfl tq_10 rfl rfl (fun (t49 : _ = 1) (t49' : 1 ≤ qz_I h 749 2) => ?_)
        rw [show qz_P h 749 2 = 750 by unfold qz_P; rw [cl.1]; first | rfl | omega]
        refine ez_g3 hB tg1 rfl rfl tq_1 rfl rfl (fun (t50 : _ = 2) => ?_)
        refine ez_go (n := 3) (pc' := 42) (L' := [(5, .inl (1)), (4, .inl (-1)), (6, .inl (-1)), (2, .inr (.inl (y0))), (0, .inr (.inr (some (749)))), (1, .inl (at9))]) (st' := [.inl ((at9) + (1)), .inr (.inr (some (751))), .inl (1), .inr (.inl (y0))]) rfl ?_
        have n52 : 2000 ≤ qz_N h 751 ∧ qz_N h 751 ≤ 2000 := ez_len hB t50 tq_2 rfl
        refine ez_aI hB t50 rfl tq_2 rfl rfl (by omega) (by omega) (fun (b51 : -2147483648 ≤ qz_I h 751 ((at9) + (1)).toNat) (b51' : qz_I h 751 ((at9) + (1)).toNat ≤ 2147483647) => ?_)
        have l1 : 1 < rem.length := by omega
        have e1 : qz_I h 751 ((at9) + (1)).toNat = uX rem 1 := by rw [show ((at9) + (1)).toNat = at9.toNat + 1 by omega]; exact (rs.2.2 1 _ (uX_e (u := rem) (j := 1) (by omega))).1
        have p1 := uX_ptl rs.1.2.2 (j := 1) (show (1 : Int).toNat < rem.length by omega)
        rw [e1]
        refine ez_cs hB.2.1 rfl rfl rfl rfl rfl (rd_cpackAt (row := [uX rem 0]) (Nat.le_of_ble_eq_true rfl) (ptl1 p0) p1 hy0 (fun y1 hy1 => ez_KL ?_))
        have hy1 : (uv y1 : Int) = pkN [uX rem 0, uX rem 1] := hy1
        refine ez_go (n := 2) (pc' := 48) (L' := [(2, .inr (.inl (y1))), (5, .inl (1)), (4, .inl (-1)), (6, .inl (-1)), (0, .inr (.inr (some (749)))), (1, .inl (at9))]) (st' := [.inr (.inr (some (749)))]) rfl ?_
        refine ez_gC (p := 202) (tg := 48) hB tc rfl rfl tq_10 rfl rfl (fun (t202 : _ = 48) => ?_)
        refine ez_go (n := 1) (pc' := 52) (L' := [(2, .inr (.inl (y1))), (5, .inl (1)), (4, .inl (-1)), (6, .inl (-1)), (0, .inr (.inr (some (749)))), (1, .inl (at9))]) (st' := [.inr (.inl (y1)), .inr (.inr (some (202)))]) rfl ?_
        refine ez_cv hB t202 rfl rfl rfl tq_48 rfl rfl rfl (rd_entryIndex (row := [uX rem 0, uX rem 1]) hB hX c (rowk_app (row := [uX rem 0]) (ptl1 p0) (Nat.le_of_ble_eq_true rfl) p1) hy1 (fun v1 f1 w1 i1 x1 => ez_K1 ?_) (fun x1 => ez_K1 ?_))
        · have vb1 : -1 < v1 ∧ v1 ≤ 256 := by have q1 := (List.getElem?_eq_some_iff.mp i1).1; have q2 := c.1; have q3 : 0 ≤ qz_I h 202 4 ∧ qz_I h 202 4 ≤ 256 := ez_fB (cl := 2) (k := 4) hB t202 tq_48 rfl rfl (by decide); omega
          refine ez_go (n := 3) (pc' := 60) (L' := [(6, .inl (v1)), (2, .inr (.inl (y1))), (5, .inl (1)), (4, .inl (-1)), (0, .inr (.inr (some (749)))), (1, .inl (at9))]) (st' := [.inl (-1), .inl (v1)]) rfl ?_
          refine ez_icmp rfl rfl ⟨by first | omega | exact (sz_i32 _).1, by first | omega | exact (sz_i32 _).2⟩ ⟨by first | omega | exact (sz_i32 _).1, by first | omega | exact (sz_i32 _).2⟩ (fun (c53 : (v1) = (-1)) => ?_) (fun (c53 : ¬((v1) = (-1))) => ?_)
          · exfalso; omega
          · skip
            refine ez_go (n := 7) (pc' := 11) (L' := [(5, .inl (2)), (4, .inl (v1)), (6, .inl (v1)), (2, .inr (.inl (y1))), (0, .inr (.inr (some (749)))), (1, .inl (at9))]) (st' := [.inl (3), .inl (2)]) rfl ?_
            refine ez_icmp rfl rfl ⟨by decide, by decide⟩ ⟨by decide, by decide⟩ (fun (c54 : (3) ≤ (2 : Int)) => absurd c54 (by decide)) (fun _ => ?_)
            refine ez_go (n := 4) (pc' := 19) (L' := [(5, .inl (2)), (4, .inl (v1)), (6, .inl (v1)), (2, .inr (.inl (y1))), (0, .inr (.inr (some (749)))), (1, .inl (at9))]) (st' := [.inr (.inr (some (749))), .inl ((at9) + (2))]) rfl ?_
            refine ez_gR hB tc rfl rfl tq_10 rfl rfl (fun (t55 : _ = 1) (t55' : 1 ≤ qz_I h 749 2) => ?_)
            rw [show qz_P h 749 2 = 750 by unfold qz_P; rw [cl.1]; first | rfl | omega]
            refine ez_gI hB tg1 rfl rfl tq_1 rfl rfl (fun (b56 : 0 ≤ qz_I h 750 1) (b56' : qz_I h 750 1 ≤ 2000) => ?_)
            rw [rs.2.1]
            refine ez_icmp rfl rfl ⟨by first | omega | exact (sz_i32 _).1, by first | omega | exact (sz_i32 _).2⟩ ⟨by first | omega | exact (sz_i32 _).1, by first | omega | exact (sz_i32 _).2⟩ (fun (c57 : (at9 + (rem.length : Int)) ≤ ((at9) + (2))) => ?_) (fun (c57 : ¬((at9 + (rem.length : Int)) ≤ ((at9) + (2)))) => ?_)
            · skip
              refine ez_go (n := 1) (pc' := 80) (L' := [(5, .inl (2)), (4, .inl (v1)), (6, .inl (v1)), (2, .inr (.inl (y1))), (0, .inr (.inr (some (749)))), (1, .inl (at9))]) (st' := [.inl (v1)]) rfl ?_
              have lo : lon LK rem = some (2, f1) := by unfold lon; rw [lon1_n (Or.inl (by omega)), lon1_y (by omega) (by rw [tk2 (by omega)]; exact x1)]
              exact ez_retI rfl rfl (k1 v1 2 f1 lo w1 (by rw [tk2 (by omega)]; exact i1))
            · skip
              refine ez_go (n := 3) (pc' := 32) (L' := [(5, .inl (2)), (4, .inl (v1)), (6, .inl (v1)), (2, .inr (.inl (y1))), (0, .inr (.inr (some (749)))), (1, .inl (at9))]) (st' := [.inr (.inr (some (749))), .inl (2), .inr (.inl (y1))]) rfl ?_
              refine ez_gR hB tc rfl rfl tq_10 rfl rfl (fun (t58 : _ = 1) (t58' : 1 ≤ qz_I h 749 2) => ?_)
              rw [show qz_P h 749 2 = 750 by unfold qz_P; rw [cl.1]; first | rfl | omega]
              refine ez_g3 hB tg1 rfl rfl tq_1 rfl rfl (fun (t59 : _ = 2) => ?_)
              refine ez_go (n := 3) (pc' := 42) (L' := [(5, .inl (2)), (4, .inl (v1)), (6, .inl (v1)), (2, .inr (.inl (y1))), (0, .inr (.inr (some (749)))), (1, .inl (at9))]) (st' := [.inl ((at9) + (2)), .inr (.inr (some (751))), .inl (2), .inr (.inl (y1))]) rfl ?_
              have n61 : 2000 ≤ qz_N h 751 ∧ qz_N h 751 ≤ 2000 := ez_len hB t59 tq_2 rfl
              refine ez_aI hB t59 rfl tq_2 rfl rfl (by omega) (by omega) (fun (b60 : -2147483648 ≤ qz_I h 751 ((at9) + (2)).toNat) (b60' : qz_I h 751 ((at9) + (2)).toNat ≤ 2147483647) => ?_)
              have l2 : 2 < rem.length := by omega
              have e2 : qz_I h 751 ((at9) + (2)).toNat = uX rem 2 := by rw [show ((at9) + (2)).toNat = at9.toNat + 2 by omega]; exact (rs.2.2 2 _ (uX_e (u := rem) (j := 2) (by omega))).1
              have p2 := uX_ptl rs.1.2.2 (j := 2) (show (2 : Int).toNat < rem.length by omega)
              rw [e2]
              refine ez_cs hB.2.1 rfl rfl rfl rfl rfl (rd_cpackAt (row := [uX rem 0, uX rem 1]) (Nat.le_of_ble_eq_true rfl) (ptl2 p0 p1) p2 hy1 (fun y2 hy2 => ez_KL ?_))
              have hy2 : (uv y2 : Int) = pkN [uX rem 0, uX rem 1, uX rem 2] := hy2
              refine ez_go (n := 2) (pc' := 48) (L' := [(2, .inr (.inl (y2))), (5, .inl (2)), (4, .inl (v1)), (6, .inl (v1)), (0, .inr (.inr (some (749)))), (1, .inl (at9))]) (st' := [.inr (.inr (some (749)))]) rfl ?_
              refine ez_gC (p := 202) (tg := 48) hB tc rfl rfl tq_10 rfl rfl (fun (t202 : _ = 48) => ?_)
              refine ez_go (n := 1) (pc' := 52) (L' := [(2, .inr (.inl (y2))), (5, .inl (2)), (4, .inl (v1)), (6, .inl (v1)), (0, .inr (.inr (some (749)))), (1, .inl (at9))]) (st' := [.inr (.inl (y2)), .inr (.inr (some (202)))]) rfl ?_
              refine ez_cv hB t202 rfl rfl rfl tq_48 rfl rfl rfl (rd_entryIndex (row := [uX rem 0, uX rem 1, uX rem 2]) hB hX c (rowk_app (row := [uX rem 0, uX rem 1]) (ptl2 p0 p1) (Nat.le_of_ble_eq_true rfl) p2) hy2 (fun v2 f2 w2 i2 x2 => ez_K1 ?_) (fun x2 => ez_K1 ?_))
              · have vb2 : -1 < v2 ∧ v2 ≤ 256 := by have q1 := (List.getElem?_eq_some_iff.mp i2).1; have q2 := c.1; have q3 : 0 ≤ qz_I h 202 4 ∧ qz_I h 202 4 ≤ 256 := ez_fB (cl := 2) (k := 4) hB t202 tq_48 rfl rfl (by decide); omega
                refine ez_go (n := 3) (pc' := 60) (L' := [(6, .inl (v2)), (2, .inr (.inl (y2))), (5, .inl (2)), (4, .inl (v1)), (0, .inr (.inr (some (749)))), (1, .inl (at9))]) (st' := [.inl (-1), .inl (v2)]) rfl ?_
                refine ez_icmp rfl rfl ⟨by first | omega | exact (sz_i32 _).1, by first | omega | exact (sz_i32 _).2⟩ ⟨by first | omega | exact (sz_i32 _).1, by first | omega | exact (sz_i32 _).2⟩ (fun (c62 : (v2) = (-1)) => ?_) (fun (c62 : ¬((v2) = (-1))) => ?_)
                · exfalso; omega
                · skip
                  refine ez_go (n := 7) (pc' := 11) (L' := [(5, .inl (3)), (4, .inl (v2)), (6, .inl (v2)), (2, .inr (.inl (y2))), (0, .inr (.inr (some (749)))), (1, .inl (at9))]) (st' := [.inl (3), .inl (3)]) rfl ?_
                  refine ez_icmp rfl rfl ⟨by decide, by decide⟩ ⟨by decide, by decide⟩ (fun _ => ?_) (fun (c63 : ¬((3 : Int) ≤ (3))) => absurd c63 (by decide))
                  refine ez_go (n := 1) (pc' := 80) (L' := [(5, .inl (3)), (4, .inl (v2)), (6, .inl (v2)), (2, .inr (.inl (y2))), (0, .inr (.inr (some (749)))), (1, .inl (at9))]) (st' := [.inl (v2)]) rfl ?_
                  have lo : lon LK rem = some (3, f2) := by unfold lon; rw [lon1_y (by omega) (by rw [tk3 (by omega)]; exact x2)]
                  exact ez_retI rfl rfl (k1 v2 3 f2 lo w2 (by rw [tk3 (by omega)]; exact i2))
              · skip
                refine ez_go (n := 3) (pc' := 60) (L' := [(6, .inl (-1)), (2, .inr (.inl (y2))), (5, .inl (2)), (4, .inl (v1)), (0, .inr (.inr (some (749)))), (1, .inl (at9))]) (st' := [.inl (-1), .inl (-1)]) rfl ?_
                refine ez_icmp rfl rfl ⟨by decide, by decide⟩ ⟨by decide, by decide⟩ (fun _ => ?_) (fun (c64 : ¬((-1 : Int) = (-1))) => absurd c64 (by decide))
                refine ez_go (n := 6) (pc' := 11) (L' := [(5, .inl (3)), (4, .inl (v1)), (6, .inl (-1)), (2, .inr (.inl (y2))), (0, .inr (.inr (some (749)))), (1, .inl (at9))]) (st' := [.inl (3), .inl (3)]) rfl ?_
                refine ez_icmp rfl rfl ⟨by decide, by decide⟩ ⟨by decide, by decide⟩ (fun _ => ?_) (fun (c65 : ¬((3 : Int) ≤ (3))) => absurd c65 (by decide))
                refine ez_go (n := 1) (pc' := 80) (L' := [(5, .inl (3)), (4, .inl (v1)), (6, .inl (-1)), (2, .inr (.inl (y2))), (0, .inr (.inr (some (749)))), (1, .inl (at9))]) (st' := [.inl (v1)]) rfl ?_
                have lo : lon LK rem = some (2, f1) := by unfold lon; rw [lon1_n (Or.inr (by rw [tk3 (by omega)]; exact x2)), lon1_y (by omega) (by rw [tk2 (by omega)]; exact x1)]
                exact ez_retI rfl rfl (k1 v1 2 f1 lo w1 (by rw [tk2 (by omega)]; exact i1))
        · skip
          refine ez_go (n := 3) (pc' := 60) (L' := [(6, .inl (-1)), (2, .inr (.inl (y1))), (5, .inl (1)), (4, .inl (-1)), (0, .inr (.inr (some (749)))), (1, .inl (at9))]) (st' := [.inl (-1), .inl (-1)]) rfl ?_
          refine ez_icmp rfl rfl ⟨by decide, by decide⟩ ⟨by decide, by decide⟩ (fun _ => ?_) (fun (c66 : ¬((-1 : Int) = (-1))) => absurd c66 (by decide))
          refine ez_go (n := 6) (pc' := 11) (L' := [(5, .inl (2)), (4, .inl (-1)), (6, .inl (-1)), (2, .inr (.inl (y1))), (0, .inr (.inr (some (749)))), (1, .inl (at9))]) (st' := [.inl (3), .inl (2)]) rfl ?_
          refine ez_icmp rfl rfl ⟨by decide, by decide⟩ ⟨by decide, by decide⟩ (fun (c67 : (3) ≤ (2 : Int)) => absurd c67 (by decide)) (fun _ => ?_)
          refine ez_go (n := 4) (pc' := 19) (L' := [(5, .inl (2)), (4, .inl (-1)), (6, .inl (-1)), (2, .inr (.inl (y1))), (0, .inr (.inr (some (749)))), (1, .inl (at9))]) (st' := [.inr (.inr (some (749))), .inl ((at9) + (2))]) rfl ?_
          refine ez_gR hB tc rfl rfl tq_10 rfl rfl (fun (t68 : _ = 1) (t68' : 1 ≤ qz_I h 749 2) => ?_)
          rw [show qz_P h 749 2 = 750 by unfold qz_P; rw [cl.1]; first | rfl | omega]
          refine ez_gI hB tg1 rfl rfl tq_1 rfl rfl (fun (b69 : 0 ≤ qz_I h 750 1) (b69' : qz_I h 750 1 ≤ 2000) => ?_)
          rw [rs.2.1]
          refine ez_icmp rfl rfl ⟨by first | omega | exact (sz_i32 _).1, by first | omega | exact (sz_i32 _).2⟩ ⟨by first | omega | exact (sz_i32 _).1, by first | omega | exact (sz_i32 _).2⟩ (fun (c70 : (at9 + (rem.length : Int)) ≤ ((at9) + (2))) => ?_) (fun (c70 : ¬((at9 + (rem.length : Int)) ≤ ((at9) + (2)))) => ?_)
          · skip
            refine ez_go (n := 1) (pc' := 80) (L' := [(5, .inl (2)), (4, .inl (-1)), (6, .inl (-1)), (2, .inr (.inl (y1))), (0, .inr (.inr (some (749)))), (1, .inl (at9))]) (st' := [.inl (-1)]) rfl ?_
            have lo : lon LK rem = none := by unfold lon; rw [lon1_n (Or.inl (by omega)), lon1_n (Or.inr (by rw [tk2 (by omega)]; exact x1)), lon1_n (Or.inr (by rw [tk1 (by omega)]; exact x0))]
            exact ez_retI rfl rfl (k0 lo)
          · skip
            refine ez_go (n := 3) (pc' := 32) (L' := [(5, .inl (2)), (4, .inl (-1)), (6, .inl (-1)), (2, .inr (.inl (y1))), (0, .inr (.inr (some (749)))), (1, .inl (at9))]) (st' := [.inr (.inr (some (749))), .inl (2), .inr (.inl (y1))]) rfl ?_
            refine ez_gR hB tc rfl rfl tq_10 rfl rfl (fun (t71 : _ = 1) (t71' : 1 ≤ qz_I h 749 2) => ?_)
            rw [show qz_P h 749 2 = 750 by unfold qz_P; rw [cl.1]; first | rfl | omega]
            refine ez_g3 hB tg1 rfl rfl tq_1 rfl rfl (fun (t72 : _ = 2) => ?_)
            refine ez_go (n := 3) (pc' := 42) (L' := [(5, .inl (2)), (4, .inl (-1)), (6, .inl (-1)), (2, .inr (.inl (y1))), (0, .inr (.inr (some (749)))), (1, .inl (at9))]) (st' := [.inl ((at9) + (2)), .inr (.inr (some (751))), .inl (2), .inr (.inl (y1))]) rfl ?_
            have n74 : 2000 ≤ qz_N h 751 ∧ qz_N h 751 ≤ 2000 := ez_len hB t72 tq_2 rfl
            refine ez_aI hB t72 rfl tq_2 rfl rfl (by omega) (by omega) (fun (b73 : -2147483648 ≤ qz_I h 751 ((at9) + (2)).toNat) (b73' : qz_I h 751 ((at9) + (2)).toNat ≤ 2147483647) => ?_)
            have l2 : 2 < rem.length := by omega
            have e2 : qz_I h 751 ((at9) + (2)).toNat = uX rem 2 := by rw [show ((at9) + (2)).toNat = at9.toNat + 2 by omega]; exact (rs.2.2 2 _ (uX_e (u := rem) (j := 2) (by omega))).1
            have p2 := uX_ptl rs.1.2.2 (j := 2) (show (2 : Int).toNat < rem.length by omega)
            rw [e2]
            refine ez_cs hB.2.1 rfl rfl rfl rfl rfl (rd_cpackAt (row := [uX rem 0, uX rem 1]) (Nat.le_of_ble_eq_true rfl) (ptl2 p0 p1) p2 hy1 (fun y2 hy2 => ez_KL ?_))
            have hy2 : (uv y2 : Int) = pkN [uX rem 0, uX rem 1, uX rem 2] := hy2
            refine ez_go (n := 2) (pc' := 48) (L' := [(2, .inr (.inl (y2))), (5, .inl (2)), (4, .inl (-1)), (6, .inl (-1)), (0, .inr (.inr (some (749)))), (1, .inl (at9))]) (st' := [.inr (.inr (some (749)))]) rfl ?_
            refine ez_gC (p := 202) (tg := 48) hB tc rfl rfl tq_10 rfl rfl (fun (t202 : _ = 48) => ?_)
            refine ez_go (n := 1) (pc' := 52) (L' := [(2, .inr (.inl (y2))), (5, .inl (2)), (4, .inl (-1)), (6, .inl (-1)), (0, .inr (.inr (some (749)))), (1, .inl (at9))]) (st' := [.inr (.inl (y2)), .inr (.inr (some (202)))]) rfl ?_
            refine ez_cv hB t202 rfl rfl rfl tq_48 rfl rfl rfl (rd_entryIndex (row := [uX rem 0, uX rem 1, uX rem 2]) hB hX c (rowk_app (row := [uX rem 0, uX rem 1]) (ptl2 p0 p1) (Nat.le_of_ble_eq_true rfl) p2) hy2 (fun v2 f2 w2 i2 x2 => ez_K1 ?_) (fun x2 => ez_K1 ?_))
            · have vb2 : -1 < v2 ∧ v2 ≤ 256 := by have q1 := (List.getElem?_eq_some_iff.mp i2).1; have q2 := c.1; have q3 : 0 ≤ qz_I h 202 4 ∧ qz_I h 202 4 ≤ 256 := ez_fB (cl := 2) (k := 4) hB t202 tq_48 rfl rfl (by decide); omega
              refine ez_go (n := 3) (pc' := 60) (L' := [(6, .inl (v2)), (2, .inr (.inl (y2))), (5, .inl (2)), (4, .inl (-1)), (0, .inr (.inr (some (749)))), (1, .inl (at9))]) (st' := [.inl (-1), .inl (v2)]) rfl ?_
              refine ez_icmp rfl rfl ⟨by first | omega | exact (sz_i32 _).1, by first | omega | exact (sz_i32 _).2⟩ ⟨by first | omega | exact (sz_i32 _).1, by first | omega | exact (sz_i32 _).2⟩ (fun (c75 : (v2) = (-1)) => ?_) (fun (c75 : ¬((v2) = (-1))) => ?_)
              · exfalso; omega
              · skip
                refine ez_go (n := 7) (pc' := 11) (L' := [(5, .inl (3)), (4, .inl (v2)), (6, .inl (v2)), (2, .inr (.inl (y2))), (0, .inr (.inr (some (749)))), (1, .inl (at9))]) (st' := [.inl (3), .inl (3)]) rfl ?_
                refine ez_icmp rfl rfl ⟨by decide, by decide⟩ ⟨by decide, by decide⟩ (fun _ => ?_) (fun (c76 : ¬((3 : Int) ≤ (3))) => absurd c76 (by decide))
                refine ez_go (n := 1) (pc' := 80) (L' := [(5, .inl (3)), (4, .inl (v2)), (6, .inl (v2)), (2, .inr (.inl (y2))), (0, .inr (.inr (some (749)))), (1, .inl (at9))]) (st' := [.inl (v2)]) rfl ?_
                have lo : lon LK rem = some (3, f2) := by unfold lon; rw [lon1_y (by omega) (by rw [tk3 (by omega)]; exact x2)]
                exact ez_retI rfl rfl (k1 v2 3 f2 lo w2 (by rw [tk3 (by omega)]; exact i2))
            · skip
              refine ez_go (n := 3) (pc' := 60) (L' := [(6, .inl (-1)), (2, .inr (.inl (y2))), (5, .inl (2)), (4, .inl (-1)), (0, .inr (.inr (some (749)))), (1, .inl (at9))]) (st' := [.inl (-1), .inl (-1)]) rfl ?_
              refine ez_icmp rfl rfl ⟨by decide, by decide⟩ ⟨by decide, by decide⟩ (fun _ => ?_) (fun (c77 : ¬((-1 : Int) = (-1))) => absurd c77 (by decide))
              refine ez_go (n := 6) (pc' := 11) (L' := [(5, .inl (3)), (4, .inl (-1)), (6, .inl (-1)), (2, .inr (.inl (y2))), (0, .inr (.inr (some (749)))), (1, .inl (at9))]) (st' := [.inl (3), .inl (3)]) rfl ?_
              refine ez_icmp rfl rfl ⟨by decide, by decide⟩ ⟨by decide, by decide⟩ (fun _ => ?_) (fun (c78 : ¬((3 : Int) ≤ (3))) => absurd c78 (by decide))
              refine ez_go (n := 1) (pc' := 80) (L' := [(5, .inl (3)), (4, .inl (-1)), (6, .inl (-1)), (2, .inr (.inl (y2))), (0, .inr (.inr (some (749)))), (1, .inl (at9))]) (st' := [.inl (-1)]) rfl ?_
              have lo : lon LK rem = none := by unfold lon; rw [lon1_n (Or.inr (by rw [tk3 (by omega)]; exact x2)), lon1_n (Or.inr (by rw [tk2 (by omega)]; exact x1)), lon1_n (Or.inr (by rw [tk1 (by omega)]; exact x0))]
              exact ez_retI rfl rfl (k0 lo)

theorem rd_gap_rl {a z : Int} (hX : jz_X τ) (cl : clr h 749) (a0 : 0 ≤ a) (az : a ≤ z) (z1 : z < 2000) (k : ∀ g, ez_B τ g → ez_fr (nz_P2 751 752) h g → (∀ q (j : Nat), (q = 751 ∨ q = 752) → ((j : Int) ≤ a ∨ z < (j : Int)) → qz_I g q j = qz_I h q j) → (∀ q (j : Nat), (q = 751 ∨ q = 752) → a < (j : Int) → (j : Int) ≤ z → qz_I g q j = qz_I h q (j - 1)) → Q (.inl none, g)) : ∀ (n : Nat) (i : Int) (g : cz_H), n = (i - a).toNat → a ≤ i → i ≤ z → ez_B τ g → ez_fr (nz_P2 751 752) h g → (∀ q (j : Nat), (q = 751 ∨ q = 752) → ((j : Int) ≤ i ∨ z < (j : Int)) → qz_I g q j = qz_I h q j) → (∀ q (j : Nat), (q = 751 ∨ q = 752) → i < (j : Int) → (j : Int) ≤ z → qz_I g q j = qz_I h q (j - 1)) → ez_W d cm_80 2 [(3, .inl (i)), (0, .inr (.inr (some (749)))), (1, .inl (a)), (2, .inl (z))] [] g Q := by
  have tc : τ 749 = 10 := hX 749 (by decide)
  have tg1 : τ 750 = 1 := hX 750 (by decide)
  have tg2 : τ 751 = 2 := hX 751 (by decide)
  have tg3 : τ 752 = 11 := hX 752 (by decide)
  have tg4 : τ 753 = 12 := hX 753 (by decide)
  intro n
  induction n with
  | zero =>
    intro i g hn0 ia iz hBg hf hs hm
    have clg : clr g 749 := ⟨(hf.I rfl _).trans cl.1, (hf.I rfl _).trans cl.2.1, (hf.I rfl _).trans cl.2.2⟩
    refine ez_go (n := 2) (pc' := 4) (L' := [(3, .inl (i)), (0, .inr (.inr (some (749)))), (1, .inl (a)), (2, .inl (z))]) (st' := [.inl (a), .inl (i)]) rfl ?_
    refine ez_icmp rfl rfl ⟨by first | omega | exact (sz_i32 _).1, by first | omega | exact (sz_i32 _).2⟩ ⟨by first | omega | exact (sz_i32 _).1, by first | omega | exact (sz_i32 _).2⟩ (fun (c1 : (i) ≤ (a)) => ?_) (fun (c1 : ¬((i) ≤ (a))) => ?_)
    · skip
      exact ez_ret0 rfl rfl (k g hBg hf (fun q j hq w => hs q j hq (by omega)) (fun q j hq w0 w1 => hm q j hq (by omega) w1))
    · exfalso; omega
  | succ n ih =>
    intro i g hn0 ia iz hBg hf hs hm
    have clg : clr g 749 := ⟨(hf.I rfl _).trans cl.1, (hf.I rfl _).trans cl.2.1, (hf.I rfl _).trans cl.2.2⟩
    refine ez_go (n := 2) (pc' := 4) (L' := [(3, .inl (i)), (0, .inr (.inr (some (749)))), (1, .inl (a)), (2, .inl (z))]) (st' := [.inl (a), .inl (i)]) rfl ?_
    refine ez_icmp rfl rfl ⟨by first | omega | exact (sz_i32 _).1, by first | omega | exact (sz_i32 _).2⟩ ⟨by first | omega | exact (sz_i32 _).1, by first | omega | exact (sz_i32 _).2⟩ (fun (c1 : (i) ≤ (a)) => ?_) (fun (c1 : ¬((i) ≤ (a))) => ?_)
    · skip
      exact ez_ret0 rfl rfl (k g hBg hf (fun q j hq w => hs q j hq (by omega)) (fun q j hq w0 w1 => hm q j hq (by omega) w1))
    · skip
      refine ez_go (n := 1) (pc' := 8) (L' := [(3, .inl (i)), (0, .inr (.inr (some (749)))), (1, .inl (a)), (2, .inl (z))]) (st' := [.inr (.inr (some (749)))]) rfl ?_
      refine ez_gR hBg tc rfl rfl tq_10 rfl rfl (fun (t2 : _ = 1) (t2' : 1 ≤ qz_I g 749 2) => ?_)
      rw [show qz_P g 749 2 = 750 by unfold qz_P; rw [clg.1]; first | rfl | omega]
      refine ez_g3 hBg tg1 rfl rfl tq_1 rfl rfl (fun (t3 : _ = 2) => ?_)
      refine ez_go (n := 2) (pc' := 16) (L' := [(3, .inl (i)), (0, .inr (.inr (some (749)))), (1, .inl (a)), (2, .inl (z))]) (st' := [.inr (.inr (some (749))), .inl (i), .inr (.inr (some (751)))]) rfl ?_
      refine ez_gR hBg tc rfl rfl tq_10 rfl rfl (fun (t4 : _ = 1) (t4' : 1 ≤ qz_I g 749 2) => ?_)
      rw [show qz_P g 749 2 = 750 by unfold qz_P; rw [clg.1]; first | rfl | omega]
      refine ez_g3 hBg tg1 rfl rfl tq_1 rfl rfl (fun (t5 : _ = 2) => ?_)
      refine ez_go (n := 3) (pc' := 25) (L' := [(3, .inl (i)), (0, .inr (.inr (some (749)))), (1, .inl (a)), (2, .inl (z))]) (st' := [.inl ((i) - (1)), .inr (.inr (some (751))), .inl (i), .inr (.inr (some (751)))]) rfl ?_
      have n7 : 2000 ≤ qz_N g 751 ∧ qz_N g 751 ≤ 2000 := ez_len hBg t5 tq_2 rfl
      refine ez_aI hBg t5 rfl tq_2 rfl rfl (by omega) (by omega) (fun (b6 : -2147483648 ≤ qz_I g 751 ((i) - (1)).toNat) (b6' : qz_I g 751 ((i) - (1)).toNat ≤ 2147483647) => ?_)
      have n10 : 2000 ≤ qz_N g 751 ∧ qz_N g 751 ≤ 2000 := ez_len hBg t5 tq_2 rfl
      refine ez_as hBg t5 rfl tq_2 rfl rfl (by omega) (by omega) (ez_vdI rfl rfl (by omega) (by omega)) (fun hB8 w9 => ?_)
      have vA : qz_I (dz_put g 751 (i).toNat (ez_v (.inl (qz_I g 751 ((i) - (1)).toNat)))) 751 (i).toNat = qz_I g 751 ((i) - (1)).toNat := w9.trans (rz_rd ⟨by omega, by omega⟩)
      have oA : ∀ q j, ¬ (q = 751 ∧ j = (i).toNat) → qz_I (dz_put g 751 (i).toNat (ez_v (.inl (qz_I g 751 ((i) - (1)).toNat)))) q j = qz_I g q j := fun q j w => ez_put_I w
      have fA : ez_fr (nz_P2 751 752) h (dz_put g 751 (i).toNat (ez_v (.inl (qz_I g 751 ((i) - (1)).toNat)))) := hf.put (by unfold nz_P2; rfl) _ _
      have BA := hB8
      generalize (dz_put g 751 (i).toNat (ez_v (.inl (qz_I g 751 ((i) - (1)).toNat)))) = gA at *
      have clA : clr gA 749 := ⟨(oA _ _ (fun q => absurd q.1 (by decide))).trans clg.1, (oA _ _ (fun q => absurd q.1 (by decide))).trans clg.2.1, (oA _ _ (fun q => absurd q.1 (by decide))).trans clg.2.2⟩
      refine ez_go (n := 1) (pc' := 28) (L' := [(3, .inl (i)), (0, .inr (.inr (some (749)))), (1, .inl (a)), (2, .inl (z))]) (st' := [.inr (.inr (some (749)))]) rfl ?_
      refine ez_gR BA tc rfl rfl tq_10 rfl rfl (fun (t11 : _ = 11) (t11' : 1 ≤ qz_I gA 749 3) => ?_)
      rw [show qz_P gA 749 3 = 752 by unfold qz_P; rw [clA.2.1]; first | rfl | omega]
      refine ez_go (n := 2) (pc' := 33) (L' := [(3, .inl (i)), (0, .inr (.inr (some (749)))), (1, .inl (a)), (2, .inl (z))]) (st' := [.inr (.inr (some (749))), .inl (i), .inr (.inr (some (752)))]) rfl ?_
      refine ez_gR BA tc rfl rfl tq_10 rfl rfl (fun (t12 : _ = 11) (t12' : 1 ≤ qz_I gA 749 3) => ?_)
      rw [show qz_P gA 749 3 = 752 by unfold qz_P; rw [clA.2.1]; first | rfl | omega]
      refine ez_go (n := 3) (pc' := 39) (L' := [(3, .inl (i)), (0, .inr (.inr (some (749)))), (1, .inl (a)), (2, .inl (z))]) (st' := [.inl ((i) - (1)), .inr (.inr (some (752))), .inl (i), .inr (.inr (some (752)))]) rfl ?_
      have n14 : 2000 ≤ qz_N gA 752 ∧ qz_N gA 752 ≤ 2000 := ez_len BA tg3 tq_11 rfl
      refine ez_aI BA tg3 rfl tq_11 rfl rfl (by omega) (by omega) (fun (b13 : -2147483648 ≤ qz_I gA 752 ((i) - (1)).toNat) (b13' : qz_I gA 752 ((i) - (1)).toNat ≤ 2147483647) => ?_)
      have n17 : 2000 ≤ qz_N gA 752 ∧ qz_N gA 752 ≤ 2000 := ez_len BA tg3 tq_11 rfl
      refine ez_as BA tg3 rfl tq_11 rfl rfl (by omega) (by omega) (ez_vdI rfl rfl (by omega) (by omega)) (fun hB15 w16 => ?_)
      refine ez_go (n := 2) (pc' := 2) (L' := [(3, .inl (i + (-1))), (0, .inr (.inr (some (749)))), (1, .inl (a)), (2, .inl (z))]) (st' := []) rfl ?_
      refine ez_less [(3, .inl (i + (-1))), (0, .inr (.inr (some (749)))), (1, .inl (a)), (2, .inl (z))] rfl ⟨rfl, rfl, rfl, rfl, trivial⟩ ?_
      have vC : qz_I (dz_put gA 752 (i).toNat (ez_v (.inl (qz_I gA 752 ((i) - (1)).toNat)))) 752 (i).toNat = qz_I gA 752 ((i) - (1)).toNat := w16.trans (rz_rd ⟨by omega, by omega⟩)
      have oC : ∀ q j, ¬ (q = 752 ∧ j = (i).toNat) → qz_I (dz_put gA 752 (i).toNat (ez_v (.inl (qz_I gA 752 ((i) - (1)).toNat)))) q j = qz_I gA q j := fun q j w => ez_put_I w
      have fC : ez_fr (nz_P2 751 752) h (dz_put gA 752 (i).toNat (ez_v (.inl (qz_I gA 752 ((i) - (1)).toNat)))) := fA.put (by unfold nz_P2; rfl) _ _
      have BC := hB15
      generalize (dz_put gA 752 (i).toNat (ez_v (.inl (qz_I gA 752 ((i) - (1)).toNat)))) = gC at *
      refine ih (i + (-1)) gC (by omega) (by omega) (by omega) BC fC (fun q j hq w => ?_) (fun q j hq w0 w1 => ?_)
      · rw [oC q j (fun y => by omega), oA q j (fun y => by omega)]; exact hs q j hq (by omega)
      · by_cases e : (j : Int) = i
        · have ej : j = (i).toNat := by omega
          subst ej
          rcases hq with e9 | e9
          · subst e9; rw [oC _ _ (fun y => absurd y.1 (by decide)), vA]; rw [show ((i) - (1)).toNat = (i).toNat - 1 by omega]; exact hs _ _ (Or.inl rfl) (by omega)
          · subst e9; rw [vC, oA _ _ (fun y => absurd y.1 (by decide))]; rw [show ((i) - (1)).toNat = (i).toNat - 1 by omega]; exact hs _ _ (Or.inr rfl) (by omega)
        · rw [oC q j (fun y => by omega), oA q j (fun y => by omega)]; exact hm q j hq (by omega) w1

theorem rd_gap_r {a z : Int} (hB : ez_B τ h) (hX : jz_X τ) (cl : clr h 749) (a0 : 0 ≤ a) (az : a ≤ z) (z1 : z < 2000) (k : ∀ g, ez_B τ g → ez_fr (nz_P2 751 752) h g → (∀ q (j : Nat), (q = 751 ∨ q = 752) → ((j : Int) ≤ a ∨ z < (j : Int)) → qz_I g q j = qz_I h q j) → (∀ q (j : Nat), (q = 751 ∨ q = 752) → a < (j : Int) → (j : Int) ≤ z → qz_I g q j = qz_I h q (j - 1)) → Q (.inl none, g)) : ez_W d cm_80 0 [(0, .inr (.inr (some (749)))), (1, .inl (a)), (2, .inl (z))] [] h Q := by
  have tc : τ 749 = 10 := hX 749 (by decide)
  have tg1 : τ 750 = 1 := hX 750 (by decide)
  have tg2 : τ 751 = 2 := hX 751 (by decide)
  have tg3 : τ 752 = 11 := hX 752 (by decide)
  have tg4 : τ 753 = 12 := hX 753 (by decide)
  refine ez_go (n := 2) (pc' := 2) (L' := [(3, .inl (z)), (0, .inr (.inr (some (749)))), (1, .inl (a)), (2, .inl (z))]) (st' := []) rfl ?_
  refine ez_less [(3, .inl (z)), (0, .inr (.inr (some (749)))), (1, .inl (a)), (2, .inl (z))] rfl ⟨rfl, rfl, rfl, rfl, trivial⟩ ?_
  exact rd_gap_rl hX cl a0 az z1 k _ z h rfl (by omega) (by omega) hB (ez_fr.refl _ h) (fun _ _ _ _ => rfl) (fun q j _ w0 w1 => by omega)

/-- one taken out, what was passed over moves up -/
theorem rst_gap_r {g : cz_H} {a z x : Int} {ps xs : List Int} (rs : rst h 749 K a (ps ++ x :: xs)) (hz : z = a + (ps.length : Int)) (f : ez_fr (nz_P2 751 752) h g) (hs : (∀ q (j : Nat), (q = 751 ∨ q = 752) → ((j : Int) ≤ a ∨ z < (j : Int)) → qz_I g q j = qz_I h q j)) (hm : (∀ q (j : Nat), (q = 751 ∨ q = 752) → a < (j : Int) → (j : Int) ≤ z → qz_I g q j = qz_I h q (j - 1))) : rst g 749 K (a + 1) (ps ++ xs) := by
  obtain ⟨⟨r1, r2, r3⟩, r4, r5⟩ := rs
  rw [List.length_append, List.length_cons] at r2 r4
  refine ⟨⟨by omega, by rw [List.length_append]; omega, fun v hv => r3 v (by rcases List.mem_append.mp hv with w | w; (· exact List.mem_append_left _ w); (· exact List.mem_append_right _ (List.mem_cons_of_mem _ w)))⟩, ?_, fun j v hv => ?_⟩
  · rw [show qz_I g (749 + 1) 1 = qz_I h (749 + 1) 1 from f.I rfl _, r4, List.length_append]; omega
  · have e0 : (a + 1).toNat + j = a.toNat + (j + 1) := by omega
    rw [e0]
    by_cases e : j < ps.length
    · rw [List.getElem?_append_left e] at hv
      have q := r5 j v (by rw [List.getElem?_append_left e]; exact hv)
      rw [hm 751 _ (Or.inl rfl) (by omega) (by omega), hm 752 _ (Or.inr rfl) (by omega) (by omega), show a.toNat + (j + 1) - 1 = a.toNat + j by omega]; exact q
    · rw [List.getElem?_append_right (by omega)] at hv
      have q := r5 (j + 1) v (by rw [List.getElem?_append_right (by omega), show j + 1 - ps.length = (j - ps.length) + 1 by omega, List.getElem?_cons_succ]; exact hv)
      rw [hs 751 _ (Or.inl rfl) (Or.inr (by omega)), hs 752 _ (Or.inr rfl) (Or.inr (by omega))]; exact q
end EzKt

/-! COLLATION: the class, build. (Written by wip/p2/py/pvk3.py.) -/
theorem us15 {p : Int} (p0 : 0 ≤ p) (p1 : p ≤ 1114111) : (((Int32.ofInt p).toUInt32 >>> ((Int32.ofInt 15).toUInt32 &&& Int32.toUInt32 31)).toInt32).toInt = p / 32768 := by
  rw [show (Int32.ofInt 15).toUInt32 &&& Int32.toUInt32 31 = 15 by decide]
  show (((Int32.ofInt p).toBitVec >>> (15 : Nat)).toInt) = _
  have e : (Int32.ofInt p).toBitVec.toNat = p.toNat := by
    show (BitVec.ofInt 32 p).toNat = p.toNat
    rw [show p = ((p.toNat : Nat) : Int) by omega, BitVec.ofInt_natCast, BitVec.toNat_ofNat, Int.toNat_natCast]
    exact Nat.mod_eq_of_lt (by omega)
  have e2 : ((Int32.ofInt p).toBitVec >>> (15 : Nat)).toNat = p.toNat / 32768 := by rw [BitVec.toNat_ushiftRight, e, Nat.shiftRight_eq_div_pow]
  rw [BitVec.toInt_eq_toNat_of_lt (by rw [e2]; omega), e2]
  omega
theorem im_o {p : Int} (p0 : 0 ≤ p) (p1 : p ≤ 1114111) : (Int32.ofInt ((Int32.ofInt p &&& Int32.ofInt 32767).toInt) ||| Int32.ofInt 32768).toInt = p % 32768 + 32768 := by
  have cv : ∀ {z : Int}, 0 ≤ z → z ≤ 2147483647 → (Int32.ofInt z).toBitVec.toNat = z.toNat := fun {z} z0 z1 => by
    show (BitVec.ofInt 32 z).toNat = z.toNat
    rw [show z = ((z.toNat : Nat) : Int) by omega, BitVec.ofInt_natCast, BitVec.toNat_ofNat, Int.toNat_natCast]
    exact Nat.mod_eq_of_lt (by omega)
  have e1 : (Int32.ofInt p &&& Int32.ofInt 32767).toInt = p % 32768 := by
    show ((Int32.ofInt p &&& Int32.ofInt 32767).toBitVec).toInt = _
    have q : ((Int32.ofInt p &&& Int32.ofInt 32767).toBitVec).toNat = p.toNat % 32768 := by
      rw [Int32.toBitVec_and, BitVec.toNat_and, cv p0 (by omega), cv (by decide) (by decide)]
      exact Nat.and_two_pow_sub_one_eq_mod p.toNat 15
    rw [BitVec.toInt_eq_toNat_of_lt (by rw [q]; omega), q]; omega
  rw [e1]
  show ((Int32.ofInt (p % 32768) ||| Int32.ofInt 32768).toBitVec).toInt = _
  have q : ((Int32.ofInt (p % 32768) ||| Int32.ofInt 32768).toBitVec).toNat = (p % 32768).toNat + 32768 := by
    rw [Int32.toBitVec_or, BitVec.toNat_or, cv (by omega) (by omega), cv (by decide) (by decide), Nat.or_comm]
    have := Nat.shiftLeft_add_eq_or_of_lt (i := 15) (by omega : (p % 32768).toNat < 2 ^ 15) 1
    rw [Nat.shiftLeft_eq] at this
    rw [show (32768 : Int).toNat = 1 * 2 ^ 15 from rfl, ← this]; omega
  rw [BitVec.toInt_eq_toNat_of_lt (by rw [q]; omega), q]; omega
theorem im_2 {p : Int} (p0 : 0 ≤ p) (p1 : p ≤ 1114111) : (Int32.ofInt (p % 32768 + 32768)).toInt64 <<< ((Int32.ofInt 48).toInt64 &&& 63) = Int64.ofInt (eP (0, p % 32768 + 32768, 0, 0)) := by
  apply uv_inj
  have e2 : eP (0, p % 32768 + 32768, 0, 0) = (p % 32768 + 32768) * 281474976710656 + 0 * 4294967296 + 0 * 65536 + 0 := rfl
  rw [uv_shl48, uv_i2l (by omega) (by omega), uv_of (by omega) (by omega), e2]
  omega
noncomputable def UBd (D : Int → xD) (x : Int) : Int := if (Int32.ofInt (D x).2.1.1 &&& Int32.ofInt 32).toInt ≠ 0 then 64320 else 64448
theorem UBd_bd (D : Int → xD) (x : Int) : UBd D x = 64320 ∨ UBd D x = 64448 := by unfold UBd; split; (· exact Or.inl rfl); (· exact Or.inr rfl)
theorem impE_ok {UB : Int → Int} {p : Int} (hu : UB p = 64320 ∨ UB p = 64448) (p0 : 0 ≤ p) (p1 : p ≤ 1114111) : ∀ e ∈ impE UB p, eok e := fun e he => by
  unfold impE at he
  rcases List.mem_cons.mp he with w | w
  · subst w; exact ⟨⟨by show (0 : Int) ≤ 0; decide, by show (0 : Int) ≤ 1; decide⟩, ⟨by show 0 ≤ UB p + p / 32768; omega, by show UB p + p / 32768 ≤ 65535; omega⟩, ⟨by show (0 : Int) ≤ 32; decide, by show (32 : Int) ≤ 65535; decide⟩, by show (0 : Int) ≤ 2; decide, by show (2 : Int) ≤ 65535; decide⟩
  · rw [List.mem_singleton.mp w]; exact ⟨⟨by show (0 : Int) ≤ 0; decide, by show (0 : Int) ≤ 1; decide⟩, ⟨by show 0 ≤ p % 32768 + 32768; omega, by show p % 32768 + 32768 ≤ 65535; omega⟩, ⟨by show (0 : Int) ≤ 0; decide, by show (0 : Int) ≤ 65535; decide⟩, by show (0 : Int) ≤ 0; decide, by show (0 : Int) ≤ 65535; decide⟩
theorem clr.k {h g : cz_H} {r : Nat} (x : clr h r) (e : ∀ j, j ≠ 5 → j ≠ 6 → j ≠ 7 → qz_I g r j = qz_I h r j) : clr g r := ⟨(e 2 (by decide) (by decide) (by decide)).trans x.1, (e 3 (by decide) (by decide) (by decide)).trans x.2.1, (e 4 (by decide) (by decide) (by decide)).trans x.2.2⟩
/-- a Collation's frame: its own cells alone -/
def kl_P (r z : Nat) : Bool := Nat.ble r z && Nat.ble z (r + 4)
theorem kl_y {r z : Nat} (h1 : r ≤ z) (h2 : z ≤ r + 4) : kl_P r z = true := by unfold kl_P; rw [Nat.ble_eq_true_of_le h1, Nat.ble_eq_true_of_le h2]; rfl
theorem kl_n {r z : Nat} (h : z < r ∨ r + 4 < z) : kl_P r z = false := by
  cases e : kl_P r z with
  | false => rfl
  | true =>
    exfalso
    obtain ⟨a, c⟩ := Bool.and_eq_true_iff.mp e
    have := Nat.le_of_ble_eq_true a; have := Nat.le_of_ble_eq_true c; omega
theorem kl_2 {r a c z : Nat} (ha : r ≤ a ∧ a ≤ r + 4) (hc : r ≤ c ∧ c ≤ r + 4) (h : nz_P2 a c z = true) : kl_P r z = true := by
  unfold nz_P2 at h
  rcases Bool.or_eq_true_iff.mp h with w | w
  · rw [Nat.eq_of_beq_eq_true w]; exact kl_y ha.1 ha.2
  · rw [Nat.eq_of_beq_eq_true w]; exact kl_y hc.1 hc.2
section EzKb
variable {d : Nat} {h : cz_H} {τ : Nat → Nat} {P Q : cz_F → Prop} {LK : List Int → Option (List eL)} {R : List (List Int × List eL)} {row rem : List Int} {el : eL} {W : List eL} {sh b : Bool} {K : Int → Int} {F : rz_W} {E : Int → Prop} {T : Int → Nat} {D : Int → xD} {O : Nat → Int}
theorem rd_putI_l {p : Int} (hC : pz_C τ h T F E) (hx : sz_X τ h O D) (cl : clr h 744) (cs : cts h 744 sh b W) (wl : W.length + 2 ≤ 36000) (p0 : 0 ≤ p) (p1 : p ≤ 1114111) (k : ∀ g, ez_B τ g → ez_fr (nz_P2 744 748) h g → (∀ j, j ≠ 5 → j ≠ 7 → qz_I g 744 j = qz_I h 744 j) → cts g 744 sh (wtz sh b (impE (UBd D) p)) (W ++ wts sh b (impE (UBd D) p)) → Q (.inl none, g)) : ez_W (d + 2) cm_87 0 [(0, .inr (.inr (some (744)))), (1, .inl (p))] [] h Q := by
  have hB := hC.1
  have hX := hC.2.1
  have t202 : τ 202 = 48 := hX 202 (by decide)
  have t204 : τ 204 = 50 := hX 204 (by decide)
  have t205 : τ 205 = 51 := hX 205 (by decide)
  have tc : τ 744 = 10 := hX 744 (by decide)
  have tg1 : τ 745 = 1 := hX 745 (by decide)
  have tg2 : τ 746 = 2 := hX 746 (by decide)
  have tg3 : τ 747 = 11 := hX 747 (by decide)
  have tg4 : τ 748 = 12 := hX 748 (by decide)
  refine ez_go (n := 1) (pc' := 1) (L' := [(0, .inr (.inr (some (744)))), (1, .inl (p))]) (st' := [.inr (.inr (some (744)))]) rfl ?_
  refine ez_gC (p := 202) (tg := 48) hB tc rfl rfl tq_10 rfl rfl (fun (t202 : _ = 48) => ?_)
  refine ez_go (n := 1) (pc' := 5) (L' := [(0, .inr (.inr (some (744)))), (1, .inl (p))]) (st' := [.inl (p), .inr (.inr (some (202)))]) rfl ?_
  refine ez_cv hB t202 rfl rfl rfl tq_48 rfl rfl rfl (rd_spanAt hC p0 p1 (fun m atg tz => ez_KA ?_))
  have xq := hx _ _ p0 p1 atg
  refine ez_go (n := 1) (pc' := 10) (L' := [(0, .inr (.inr (some (744)))), (1, .inl (p))]) (st' := [.inl (32), .inr (.inr (some (sz_p h m)))]) rfl ?_
  refine ez_cv hB tz rfl rfl rfl tq_4 rfl rfl rfl (rd_hasT hB tz ⟨by decide, by decide⟩ (fun tr4 => ez_K1 ?_) (fun tr4 => ez_K1 ?_))
  · rw [xq.2.1.1] at tr4
    have hu : UBd D p = 64320 := by unfold UBd; exact if_pos tr4
    refine ez_if rfl rfl ⟨by decide, by decide⟩ (fun (c1 : (1 : Int) = (0)) => absurd c1 (by decide)) (fun _ => ?_)
    refine ez_ldc (64320) rfl rfl rfl ?_
    refine ez_go (n := 11) (pc' := 35) (L' := [(2, .inl (64320)), (0, .inr (.inr (some (744)))), (1, .inl (p))]) (st' := [.inr (.inl (((Int32.ofInt ((64320) + ((((Int32.ofInt (p)).toUInt32 >>> ((Int32.ofInt (15)).toUInt32 &&& Int32.toUInt32 31)).toInt32).toInt))).toInt64) <<< ((Int32.ofInt (48)).toInt64 &&& 63))), .inr (.inr (some (744)))]) rfl ?_
    refine ez_ldc2 (137438953472) rfl rfl rfl ?_
    refine ez_go (n := 1) (pc' := 39) (L' := [(2, .inl (64320)), (0, .inr (.inr (some (744)))), (1, .inl (p))]) (st' := [.inr (.inl ((((Int32.ofInt ((64320) + ((((Int32.ofInt (p)).toUInt32 >>> ((Int32.ofInt (15)).toUInt32 &&& Int32.toUInt32 31)).toInt32).toInt))).toInt64) <<< ((Int32.ofInt (48)).toInt64 &&& 63)) ||| (Int64.ofInt (137438953472)))), .inr (.inr (some (744)))]) rfl ?_
    refine ez_ldc2 (131072) rfl rfl rfl ?_
    refine ez_go (n := 1) (pc' := 43) (L' := [(2, .inl (64320)), (0, .inr (.inr (some (744)))), (1, .inl (p))]) (st' := [.inr (.inl (((((Int32.ofInt ((64320) + ((((Int32.ofInt (p)).toUInt32 >>> ((Int32.ofInt (15)).toUInt32 &&& Int32.toUInt32 31)).toInt32).toInt))).toInt64) <<< ((Int32.ofInt (48)).toInt64 &&& 63)) ||| (Int64.ofInt (137438953472))) ||| (Int64.ofInt (131072)))), .inr (.inr (some (744)))]) rfl ?_
    have eo1 := impE_ok (UB := UBd D) (p := p) (UBd_bd D p) p0 p1 _ List.mem_cons_self
    rw [show ((((Int32.ofInt ((64320) + ((((Int32.ofInt (p)).toUInt32 >>> ((Int32.ofInt (15)).toUInt32 &&& Int32.toUInt32 31)).toInt32).toInt))).toInt64) <<< ((Int32.ofInt (48)).toInt64 &&& 63)) ||| (Int64.ofInt (137438953472))) ||| (Int64.ofInt (131072)) = Int64.ofInt (eP (0, UBd D p + p / 32768, 32, 2)) by rw [us15 p0 p1, hu]; exact im_1 (by decide) (by decide) p0 p1]
    refine ez_cv hB tc rfl rfl rfl tq_10 rfl rfl rfl (rd_put_l hB hX cl cs (by omega) eo1 (fun g1 B1 f1 o1 c1 => ez_K0 ?_))
    have cl1 := cl.k (fun j a _ c => o1 j a c)
    refine ez_go (n := 4) (pc' := 52) (L' := [(2, .inl (64320)), (0, .inr (.inr (some (744)))), (1, .inl (p))]) (st' := [.inl ((Int32.ofInt (p) &&& Int32.ofInt (32767)).toInt), .inr (.inr (some (744)))]) rfl ?_
    refine ez_ldc (32768) rfl rfl rfl ?_
    refine ez_go (n := 4) (pc' := 59) (L' := [(2, .inl (64320)), (0, .inr (.inr (some (744)))), (1, .inl (p))]) (st' := [.inr (.inl (((Int32.ofInt ((Int32.ofInt ((Int32.ofInt (p) &&& Int32.ofInt (32767)).toInt) ||| Int32.ofInt (32768)).toInt)).toInt64) <<< ((Int32.ofInt (48)).toInt64 &&& 63))), .inr (.inr (some (744)))]) rfl ?_
    have eo2 := impE_ok (UB := UBd D) (p := p) (UBd_bd D p) p0 p1 _ (List.mem_cons_of_mem _ List.mem_cons_self)
    rw [show ((Int32.ofInt ((Int32.ofInt ((Int32.ofInt (p) &&& Int32.ofInt (32767)).toInt) ||| Int32.ofInt (32768)).toInt)).toInt64) <<< ((Int32.ofInt (48)).toInt64 &&& 63) = Int64.ofInt (eP (0, p % 32768 + 32768, 0, 0)) by rw [im_o p0 p1]; exact im_2 p0 p1]
    refine ez_cv B1 tc rfl rfl rfl tq_10 rfl rfl rfl (rd_put_l B1 hX cl1 c1 (by rw [List.length_append]; show W.length + 1 < _; omega) eo2 (fun g2 B2 f2 o2 c2 => ez_K0 ?_))
    exact ez_ret0 rfl rfl (k g2 B2 (f1.trans f2) (fun j a c => (o2 j a c).trans (o1 j a c)) (by rw [List.append_assoc] at c2; exact c2))
  · rw [xq.2.1.1] at tr4
    have hu : UBd D p = 64448 := by unfold UBd; exact if_neg tr4
    refine ez_if rfl rfl ⟨by decide, by decide⟩ (fun _ => ?_) (fun (c2 : ¬((0 : Int) = (0))) => absurd c2 (by decide))
    refine ez_ldc (64448) rfl rfl rfl ?_
    refine ez_go (n := 10) (pc' := 35) (L' := [(2, .inl (64448)), (0, .inr (.inr (some (744)))), (1, .inl (p))]) (st' := [.inr (.inl (((Int32.ofInt ((64448) + ((((Int32.ofInt (p)).toUInt32 >>> ((Int32.ofInt (15)).toUInt32 &&& Int32.toUInt32 31)).toInt32).toInt))).toInt64) <<< ((Int32.ofInt (48)).toInt64 &&& 63))), .inr (.inr (some (744)))]) rfl ?_
    refine ez_ldc2 (137438953472) rfl rfl rfl ?_
    refine ez_go (n := 1) (pc' := 39) (L' := [(2, .inl (64448)), (0, .inr (.inr (some (744)))), (1, .inl (p))]) (st' := [.inr (.inl ((((Int32.ofInt ((64448) + ((((Int32.ofInt (p)).toUInt32 >>> ((Int32.ofInt (15)).toUInt32 &&& Int32.toUInt32 31)).toInt32).toInt))).toInt64) <<< ((Int32.ofInt (48)).toInt64 &&& 63)) ||| (Int64.ofInt (137438953472)))), .inr (.inr (some (744)))]) rfl ?_
    refine ez_ldc2 (131072) rfl rfl rfl ?_
    refine ez_go (n := 1) (pc' := 43) (L' := [(2, .inl (64448)), (0, .inr (.inr (some (744)))), (1, .inl (p))]) (st' := [.inr (.inl (((((Int32.ofInt ((64448) + ((((Int32.ofInt (p)).toUInt32 >>> ((Int32.ofInt (15)).toUInt32 &&& Int32.toUInt32 31)).toInt32).toInt))).toInt64) <<< ((Int32.ofInt (48)).toInt64 &&& 63)) ||| (Int64.ofInt (137438953472))) ||| (Int64.ofInt (131072)))), .inr (.inr (some (744)))]) rfl ?_
    have eo1 := impE_ok (UB := UBd D) (p := p) (UBd_bd D p) p0 p1 _ List.mem_cons_self
    rw [show ((((Int32.ofInt ((64448) + ((((Int32.ofInt (p)).toUInt32 >>> ((Int32.ofInt (15)).toUInt32 &&& Int32.toUInt32 31)).toInt32).toInt))).toInt64) <<< ((Int32.ofInt (48)).toInt64 &&& 63)) ||| (Int64.ofInt (137438953472))) ||| (Int64.ofInt (131072)) = Int64.ofInt (eP (0, UBd D p + p / 32768, 32, 2)) by rw [us15 p0 p1, hu]; exact im_1 (by decide) (by decide) p0 p1]
    refine ez_cv hB tc rfl rfl rfl tq_10 rfl rfl rfl (rd_put_l hB hX cl cs (by omega) eo1 (fun g1 B1 f1 o1 c1 => ez_K0 ?_))
    have cl1 := cl.k (fun j a _ c => o1 j a c)
    refine ez_go (n := 4) (pc' := 52) (L' := [(2, .inl (64448)), (0, .inr (.inr (some (744)))), (1, .inl (p))]) (st' := [.inl ((Int32.ofInt (p) &&& Int32.ofInt (32767)).toInt), .inr (.inr (some (744)))]) rfl ?_
    refine ez_ldc (32768) rfl rfl rfl ?_
    refine ez_go (n := 4) (pc' := 59) (L' := [(2, .inl (64448)), (0, .inr (.inr (some (744)))), (1, .inl (p))]) (st' := [.inr (.inl (((Int32.ofInt ((Int32.ofInt ((Int32.ofInt (p) &&& Int32.ofInt (32767)).toInt) ||| Int32.ofInt (32768)).toInt)).toInt64) <<< ((Int32.ofInt (48)).toInt64 &&& 63))), .inr (.inr (some (744)))]) rfl ?_
    have eo2 := impE_ok (UB := UBd D) (p := p) (UBd_bd D p) p0 p1 _ (List.mem_cons_of_mem _ List.mem_cons_self)
    rw [show ((Int32.ofInt ((Int32.ofInt ((Int32.ofInt (p) &&& Int32.ofInt (32767)).toInt) ||| Int32.ofInt (32768)).toInt)).toInt64) <<< ((Int32.ofInt (48)).toInt64 &&& 63) = Int64.ofInt (eP (0, p % 32768 + 32768, 0, 0)) by rw [im_o p0 p1]; exact im_2 p0 p1]
    refine ez_cv B1 tc rfl rfl rfl tq_10 rfl rfl rfl (rd_put_l B1 hX cl1 c1 (by rw [List.length_append]; show W.length + 1 < _; omega) eo2 (fun g2 B2 f2 o2 c2 => ez_K0 ?_))
    exact ez_ret0 rfl rfl (k g2 B2 (f1.trans f2) (fun j a c => (o2 j a c).trans (o1 j a c)) (by rw [List.append_assoc] at c2; exact c2))

theorem rd_tkE_l {a0 ix bg : Int} {w : Nat} {e : List eL} (hX : jz_X τ) (cl : clr h 744) (tw : τ w = 9) (wn0 : qz_N h w = (e.length : Int)) (wv0 : ∀ (j : Nat) x, e[j]? = some x → qz_I h w j = (Int64.ofInt (eP x)).toInt) (eo : ∀ x ∈ e, eok x) (wl : W.length + e.length ≤ 36000) (k : ∀ g, ez_B τ g → ez_fr (nz_P2 744 748) h g → (∀ j, j ≠ 5 → j ≠ 7 → qz_I g 744 j = qz_I h 744 j) → cts g 744 sh (wtz sh b e) (W ++ wts sh b e) → Q (.inl (some (ez_v (.inl bg))), g)) : ∀ (n : Nat) (i : Int) (g : cz_H), n = ((e.length : Int) - i).toNat → 0 ≤ i → i ≤ (e.length : Int) → ez_B τ g → ez_fr (nz_P2 744 748) h g → (∀ j, j ≠ 5 → j ≠ 7 → qz_I g 744 j = qz_I h 744 j) → cts g 744 sh (wtz sh b (e.take i.toNat)) (W ++ wts sh b (e.take i.toNat)) → ez_W (d + 2) cm_90 174 [(6, .inl (i)), (5, .inr (.inr (some (w)))), (0, .inr (.inr (some (744)))), (1, .inl (a0)), (2, .inl (ix)), (3, .inl (bg))] [] g Q := by
  have tc : τ 744 = 10 := hX 744 (by decide)
  have tg1 : τ 745 = 1 := hX 745 (by decide)
  have tg2 : τ 746 = 2 := hX 746 (by decide)
  have tg3 : τ 747 = 11 := hX 747 (by decide)
  have tg4 : τ 748 = 12 := hX 748 (by decide)
  have nw : nz_P2 744 748 w = false := nz_P2_f (fun q => by rw [q, tc] at tw; cases tw) (fun q => by rw [q, tg4] at tw; cases tw)
  intro n
  induction n with
  | zero =>
    intro i g hn0 i0 i1 hBg hf ho cs
    have clg := cl.k (fun j a _ c => ho j a c)
    have wn : qz_N g w = (e.length : Int) := (hf.N nw).trans wn0
    have wv : ∀ (j : Nat) x, e[j]? = some x → qz_I g w j = (Int64.ofInt (eP x)).toInt := fun j x hj => (hf.I nw j).trans (wv0 j x hj)
    refine ez_go (n := 2) (pc' := 178) (L' := [(6, .inl (i)), (5, .inr (.inr (some (w)))), (0, .inr (.inr (some (744)))), (1, .inl (a0)), (2, .inl (ix)), (3, .inl (bg))]) (st' := [.inr (.inr (some (w))), .inl (i)]) rfl ?_
    refine ez_al hBg tw rfl tq_9 rfl (fun (b1 : 1 ≤ qz_N g w) (b1' : qz_N g w ≤ 18) => ?_)
    rw [wn]
    refine ez_icmp rfl rfl ⟨by first | omega | exact (sz_i32 _).1, by first | omega | exact (sz_i32 _).2⟩ ⟨by first | omega | exact (sz_i32 _).1, by first | omega | exact (sz_i32 _).2⟩ (fun (c2 : ((e.length : Int)) ≤ (i)) => ?_) (fun (c2 : ¬(((e.length : Int)) ≤ (i))) => ?_)
    · skip
      refine ez_go (n := 1) (pc' := 198) (L' := [(6, .inl (i)), (5, .inr (.inr (some (w)))), (0, .inr (.inr (some (744)))), (1, .inl (a0)), (2, .inl (ix)), (3, .inl (bg))]) (st' := [.inl (bg)]) rfl ?_
      rw [List.take_of_length_le (by omega)] at cs
      exact ez_retI rfl rfl (k g hBg hf ho cs)
    · exfalso; omega
  | succ n ih =>
    intro i g hn0 i0 i1 hBg hf ho cs
    have clg := cl.k (fun j a _ c => ho j a c)
    have wn : qz_N g w = (e.length : Int) := (hf.N nw).trans wn0
    have wv : ∀ (j : Nat) x, e[j]? = some x → qz_I g w j = (Int64.ofInt (eP x)).toInt := fun j x hj => (hf.I nw j).trans (wv0 j x hj)
    refine ez_go (n := 2) (pc' := 178) (L' := [(6, .inl (i)), (5, .inr (.inr (some (w)))), (0, .inr (.inr (some (744)))), (1, .inl (a0)), (2, .inl (ix)), (3, .inl (bg))]) (st' := [.inr (.inr (some (w))), .inl (i)]) rfl ?_
    refine ez_al hBg tw rfl tq_9 rfl (fun (b1 : 1 ≤ qz_N g w) (b1' : qz_N g w ≤ 18) => ?_)
    rw [wn]
    refine ez_icmp rfl rfl ⟨by first | omega | exact (sz_i32 _).1, by first | omega | exact (sz_i32 _).2⟩ ⟨by first | omega | exact (sz_i32 _).1, by first | omega | exact (sz_i32 _).2⟩ (fun (c2 : ((e.length : Int)) ≤ (i)) => ?_) (fun (c2 : ¬(((e.length : Int)) ≤ (i))) => ?_)
    · skip
      refine ez_go (n := 1) (pc' := 198) (L' := [(6, .inl (i)), (5, .inr (.inr (some (w)))), (0, .inr (.inr (some (744)))), (1, .inl (a0)), (2, .inl (ix)), (3, .inl (bg))]) (st' := [.inl (bg)]) rfl ?_
      rw [List.take_of_length_le (by omega)] at cs
      exact ez_retI rfl rfl (k g hBg hf ho cs)
    · skip
      refine ez_go (n := 3) (pc' := 187) (L' := [(6, .inl (i)), (5, .inr (.inr (some (w)))), (0, .inr (.inr (some (744)))), (1, .inl (a0)), (2, .inl (ix)), (3, .inl (bg))]) (st' := [.inl (i), .inr (.inr (some (w))), .inr (.inr (some (744)))]) rfl ?_
      have n3 : 1 ≤ qz_N g w ∧ qz_N g w ≤ 18 := ez_len hBg tw tq_9 rfl
      refine ez_aL hBg tw rfl tq_9 rfl rfl (by omega) (by omega) ?_
      have l9 : i.toNat < e.length := by omega
      have hv := List.getElem?_eq_getElem l9
      rw [show Int64.ofInt (qz_I g w (i).toNat) = Int64.ofInt (eP e[i.toNat]) by rw [wv i.toNat _ hv, Int64.ofInt_toInt]]
      have wlen : (wts sh b (e.take i.toNat)).length = i.toNat := by rw [wts_len, List.length_take]; omega
      refine ez_cv hBg tc rfl rfl rfl tq_10 rfl rfl rfl (rd_put_l hBg hX clg cs (by rw [List.length_append, wlen]; omega) (eo _ (List.getElem_mem l9)) (fun g2 B2 f2 o2 c2 => ez_K0 ?_))
      refine ez_go (n := 2) (pc' := 174) (L' := [(6, .inl (i + 1)), (5, .inr (.inr (some (w)))), (0, .inr (.inr (some (744)))), (1, .inl (a0)), (2, .inl (ix)), (3, .inl (bg))]) (st' := []) rfl ?_
      refine ez_less [(6, .inl (i + 1)), (5, .inr (.inr (some (w)))), (0, .inr (.inr (some (744)))), (1, .inl (a0)), (2, .inl (ix)), (3, .inl (bg))] rfl ⟨rfl, rfl, rfl, rfl, rfl, rfl, trivial⟩ ?_
      refine ih (i + 1) g2 (by omega) (by omega) (by omega) B2 (hf.trans f2) (fun j a c => (o2 j a c).trans (ho j a c)) ?_
      rw [show (i + 1).toNat = i.toNat + 1 by omega, List.take_add_one, hv, Option.toList_some, wts_app, wtz_app, ← List.append_assoc]; exact c2

theorem rd_tkM_l {a0 : Int} {FF : List eL × List Int} (hX : jz_X τ) (hK : ∀ x, (0 ≤ x ∧ x ≤ 1114111) → 0 ≤ K x ∧ K x ≤ 254) (kx : ∀ g row e ix bg, ez_B τ g → ez_fr (kl_P 744) h g → clr g 744 → cEr τ g LK R → 0 ≤ ix → R[ix.toNat]? = some (row, e) → (∀ j, qz_I g 744 j = qz_I h 744 j) → (∀ j, qz_I g 748 j = qz_I h 748 j) → ∀ {l9 : List Int}, (e, l9) = FF → rst g 744 K bg l9 → ez_W (d + 3) cm_90 157 [(0, .inr (.inr (some (744)))), (1, .inl (a0)), (2, .inl (ix)), (3, .inl (bg))] [] g Q) : ∀ (xs row : List Int) (e : List eL) (most : Int) (ps : List Int) (ix bg kz : Int) (g : cz_H), kz = bg + (ps.length : Int) → ez_B τ g → ez_fr (kl_P 744) h g → clr g 744 → cEr τ g LK R → 0 ≤ ix → R[ix.toNat]? = some (row, e) → rst g 744 K bg (ps ++ xs) → 0 ≤ bg → (∀ j, qz_I g 744 j = qz_I h 744 j) → (∀ j, qz_I g 748 j = qz_I h 748 j) → (0 ≤ most ∧ most ≤ 254) → sca LK K xs row e most ps = FF → ez_W (d + 3) cm_90 49 [(5, .inl (kz)), (4, .inl (most)), (0, .inr (.inr (some (744)))), (1, .inl (a0)), (2, .inl (ix)), (3, .inl (bg))] [] g Q := by
  have t202 : τ 202 = 48 := hX 202 (by decide)
  have t204 : τ 204 = 50 := hX 204 (by decide)
  have t205 : τ 205 = 51 := hX 205 (by decide)
  have tc : τ 744 = 10 := hX 744 (by decide)
  have tg1 : τ 745 = 1 := hX 745 (by decide)
  have tg2 : τ 746 = 2 := hX 746 (by decide)
  have tg3 : τ 747 = 11 := hX 747 (by decide)
  have tg4 : τ 748 = 12 := hX 748 (by decide)
  intro xs
  induction xs with
  | nil =>
    intro row e most ps ix bg kz g hz hBg hf clg cg ix0 hi rs b0 ho h4 m0 hF
    have il := (List.getElem?_eq_some_iff.mp hi).1
    have cn := cg.1
    obtain ⟨rk, q4, en, lk⟩ := cg.2.1 _ _ hi
    obtain ⟨z, w, x1, x2, x3, x4, x5, x6, x7, x8⟩ := id en
    have bn : 0 ≤ qz_I g 202 4 ∧ qz_I g 202 4 ≤ 256 := ez_fB (cl := 2) (k := 4) hBg t202 tq_48 rfl rfl (by decide)
    obtain ⟨⟨ra, rb, rc⟩, rd9, re⟩ := id rs
    have lx : (ps ++ ([] : List Int)).length = ps.length + 0 := by rw [List.length_append]; rfl
    rw [List.length_append, List.length_nil] at rb rd9
    refine ez_go (n := 2) (pc' := 52) (L' := [(5, .inl (kz)), (4, .inl (most)), (0, .inr (.inr (some (744)))), (1, .inl (a0)), (2, .inl (ix)), (3, .inl (bg))]) (st' := [.inr (.inr (some (744))), .inl (kz)]) rfl ?_
    refine ez_gR hBg tc rfl rfl tq_10 rfl rfl (fun (t1 : _ = 1) (t1' : 1 ≤ qz_I g 744 2) => ?_)
    rw [show qz_P g 744 2 = 745 by unfold qz_P; rw [clg.1]; first | rfl | omega]
    refine ez_gI hBg tg1 rfl rfl tq_1 rfl rfl (fun (b2 : 0 ≤ qz_I g 745 1) (b2' : qz_I g 745 1 ≤ 2000) => ?_)
    rw [rs.2.1]
    refine ez_icmp rfl rfl ⟨by first | omega | exact (sz_i32 _).1, by first | omega | exact (sz_i32 _).2⟩ ⟨by first | omega | exact (sz_i32 _).1, by first | omega | exact (sz_i32 _).2⟩ (fun (c3 : (bg + ((ps ++ ([] : List Int)).length : Int)) ≤ (kz)) => ?_) (fun (c3 : ¬((bg + ((ps ++ ([] : List Int)).length : Int)) ≤ (kz))) => ?_)
    · skip
      refine ez_less [(0, .inr (.inr (some (744)))), (1, .inl (a0)), (2, .inl (ix)), (3, .inl (bg))] rfl ⟨rfl, rfl, rfl, rfl, trivial⟩ ?_
      have hR : (e, ps ++ ([] : List Int)) = FF := by rw [List.append_nil]; exact hF
      exact kx g row e ix bg hBg hf clg cg ix0 hi ho h4 hR (by first | exact rs | (rw [List.append_nil] at rs ⊢; exact rs))
    · exfalso; omega
  | cons x xs ih =>
    intro row e most ps ix bg kz g hz hBg hf clg cg ix0 hi rs b0 ho h4 m0 hF
    have il := (List.getElem?_eq_some_iff.mp hi).1
    have cn := cg.1
    obtain ⟨rk, q4, en, lk⟩ := cg.2.1 _ _ hi
    obtain ⟨z, w, x1, x2, x3, x4, x5, x6, x7, x8⟩ := id en
    have bn : 0 ≤ qz_I g 202 4 ∧ qz_I g 202 4 ≤ 256 := ez_fB (cl := 2) (k := 4) hBg t202 tq_48 rfl rfl (by decide)
    obtain ⟨⟨ra, rb, rc⟩, rd9, re⟩ := id rs
    have lx : (ps ++ x :: xs).length = ps.length + (xs.length + 1) := by rw [List.length_append]; rfl
    have ex : (ps ++ x :: xs)[ps.length]? = some x := by rw [List.getElem?_append_right (Nat.le_refl _), Nat.sub_self]; rfl
    have px := rc x (List.mem_append_right _ List.mem_cons_self)
    have kb := hK x px
    have ep : qz_I g 746 (kz).toNat = x := by rw [show kz.toNat = bg.toNat + ps.length by omega]; exact (re _ _ ex).1
    have ec : qz_I g 747 (kz).toNat = K x := by rw [show kz.toNat = bg.toNat + ps.length by omega]; exact (re _ _ ex).2
    rw [List.length_append, List.length_cons] at rb rd9
    refine ez_go (n := 2) (pc' := 52) (L' := [(5, .inl (kz)), (4, .inl (most)), (0, .inr (.inr (some (744)))), (1, .inl (a0)), (2, .inl (ix)), (3, .inl (bg))]) (st' := [.inr (.inr (some (744))), .inl (kz)]) rfl ?_
    refine ez_gR hBg tc rfl rfl tq_10 rfl rfl (fun (t1 : _ = 1) (t1' : 1 ≤ qz_I g 744 2) => ?_)
    rw [show qz_P g 744 2 = 745 by unfold qz_P; rw [clg.1]; first | rfl | omega]
    refine ez_gI hBg tg1 rfl rfl tq_1 rfl rfl (fun (b2 : 0 ≤ qz_I g 745 1) (b2' : qz_I g 745 1 ≤ 2000) => ?_)
    rw [rs.2.1]
    refine ez_icmp rfl rfl ⟨by first | omega | exact (sz_i32 _).1, by first | omega | exact (sz_i32 _).2⟩ ⟨by first | omega | exact (sz_i32 _).1, by first | omega | exact (sz_i32 _).2⟩ (fun (c3 : (bg + ((ps ++ x :: xs).length : Int)) ≤ (kz)) => ?_) (fun (c3 : ¬((bg + ((ps ++ x :: xs).length : Int)) ≤ (kz))) => ?_)
    · exfalso; omega
    · skip
      refine ez_go (n := 1) (pc' := 62) (L' := [(5, .inl (kz)), (4, .inl (most)), (0, .inr (.inr (some (744)))), (1, .inl (a0)), (2, .inl (ix)), (3, .inl (bg))]) (st' := [.inr (.inr (some (744)))]) rfl ?_
      refine ez_gR hBg tc rfl rfl tq_10 rfl rfl (fun (t4 : _ = 11) (t4' : 1 ≤ qz_I g 744 3) => ?_)
      rw [show qz_P g 744 3 = 747 by unfold qz_P; rw [clg.2.1]; first | rfl | omega]
      refine ez_go (n := 1) (pc' := 67) (L' := [(5, .inl (kz)), (4, .inl (most)), (0, .inr (.inr (some (744)))), (1, .inl (a0)), (2, .inl (ix)), (3, .inl (bg))]) (st' := [.inl (kz), .inr (.inr (some (747)))]) rfl ?_
      have n6 : 2000 ≤ qz_N g 747 ∧ qz_N g 747 ≤ 2000 := ez_len hBg tg3 tq_11 rfl
      refine ez_aI hBg tg3 rfl tq_11 rfl rfl (by omega) (by omega) (fun (b5 : -2147483648 ≤ qz_I g 747 (kz).toNat) (b5' : qz_I g 747 (kz).toNat ≤ 2147483647) => ?_)
      rw [ec]
      refine ez_if rfl rfl ⟨by first | omega | exact (sz_i32 _).1, by first | omega | exact (sz_i32 _).2⟩ (fun (c7 : (K x) ≤ (0)) => ?_) (fun (c7 : ¬((K x) ≤ (0))) => ?_)
      · skip
        refine ez_less [(0, .inr (.inr (some (744)))), (1, .inl (a0)), (2, .inl (ix)), (3, .inl (bg))] rfl ⟨rfl, rfl, rfl, rfl, trivial⟩ ?_
        have hR : (e, ps ++ x :: xs) = FF := by first | (rw [← hF]; exact (sca_stop st _ _ _).symm) | (rw [← hF]; exact (sca_z (by omega)).symm) | (exfalso; omega)
        exact kx g row e ix bg hBg hf clg cg ix0 hi ho h4 hR (by first | exact rs | (rw [List.append_nil] at rs ⊢; exact rs))
      · skip
        refine ez_go (n := 1) (pc' := 72) (L' := [(5, .inl (kz)), (4, .inl (most)), (0, .inr (.inr (some (744)))), (1, .inl (a0)), (2, .inl (ix)), (3, .inl (bg))]) (st' := [.inr (.inr (some (744)))]) rfl ?_
        refine ez_gC (p := 202) (tg := 48) hBg tc rfl rfl tq_10 rfl rfl (fun (t202 : _ = 48) => ?_)
        refine ez_go (n := 1) (pc' := 76) (L' := [(5, .inl (kz)), (4, .inl (most)), (0, .inr (.inr (some (744)))), (1, .inl (a0)), (2, .inl (ix)), (3, .inl (bg))]) (st' := [.inl (ix), .inr (.inr (some (202)))]) rfl ?_
        refine ez_cv hBg t202 rfl rfl rfl tq_48 rfl rfl rfl (rd_hasLonger hBg hX cg ix0 hi (ez_K1 ?_) (fun st => ez_K1 ?_))
        · skip
          refine ez_if rfl rfl ⟨by decide, by decide⟩ (fun (c8 : (1 : Int) = (0)) => absurd c8 (by decide)) (fun _ => ?_)
          refine ez_go (n := 1) (pc' := 83) (L' := [(5, .inl (kz)), (4, .inl (most)), (0, .inr (.inr (some (744)))), (1, .inl (a0)), (2, .inl (ix)), (3, .inl (bg))]) (st' := [.inr (.inr (some (744)))]) rfl ?_
          refine ez_gR hBg tc rfl rfl tq_10 rfl rfl (fun (t9 : _ = 11) (t9' : 1 ≤ qz_I g 744 3) => ?_)
          rw [show qz_P g 744 3 = 747 by unfold qz_P; rw [clg.2.1]; first | rfl | omega]
          refine ez_go (n := 1) (pc' := 88) (L' := [(5, .inl (kz)), (4, .inl (most)), (0, .inr (.inr (some (744)))), (1, .inl (a0)), (2, .inl (ix)), (3, .inl (bg))]) (st' := [.inl (kz), .inr (.inr (some (747)))]) rfl ?_
          have n11 : 2000 ≤ qz_N g 747 ∧ qz_N g 747 ≤ 2000 := ez_len hBg tg3 tq_11 rfl
          refine ez_aI hBg tg3 rfl tq_11 rfl rfl (by omega) (by omega) (fun (b10 : -2147483648 ≤ qz_I g 747 (kz).toNat) (b10' : qz_I g 747 (kz).toNat ≤ 2147483647) => ?_)
          rw [ec]
          refine ez_go (n := 1) (pc' := 91) (L' := [(5, .inl (kz)), (4, .inl (most)), (0, .inr (.inr (some (744)))), (1, .inl (a0)), (2, .inl (ix)), (3, .inl (bg))]) (st' := [.inl (most), .inl (K x)]) rfl ?_
          refine ez_icmp rfl rfl ⟨by first | omega | exact (sz_i32 _).1, by first | omega | exact (sz_i32 _).2⟩ ⟨by first | omega | exact (sz_i32 _).1, by first | omega | exact (sz_i32 _).2⟩ (fun (c12 : (K x) ≤ (most)) => ?_) (fun (c12 : ¬((K x) ≤ (most))) => ?_)
          · skip
            refine ez_go (n := 4) (pc' := 118) (L' := [(6, .inl (-1)), (5, .inl (kz)), (4, .inl (most)), (0, .inr (.inr (some (744)))), (1, .inl (a0)), (2, .inl (ix)), (3, .inl (bg))]) (st' := [.inl (-1), .inl (-1)]) rfl ?_
            refine ez_icmp rfl rfl ⟨by decide, by decide⟩ ⟨by decide, by decide⟩ (fun (c13 : (-1 : Int) ≠ (-1)) => absurd c13 (by decide)) (fun _ => ?_)
            refine ez_go (n := 2) (pc' := 124) (L' := [(6, .inl (-1)), (5, .inl (kz)), (4, .inl (most)), (0, .inr (.inr (some (744)))), (1, .inl (a0)), (2, .inl (ix)), (3, .inl (bg))]) (st' := [.inr (.inr (some (744))), .inl (most)]) rfl ?_
            refine ez_gR hBg tc rfl rfl tq_10 rfl rfl (fun (t14 : _ = 11) (t14' : 1 ≤ qz_I g 744 3) => ?_)
            rw [show qz_P g 744 3 = 747 by unfold qz_P; rw [clg.2.1]; first | rfl | omega]
            refine ez_go (n := 1) (pc' := 129) (L' := [(6, .inl (-1)), (5, .inl (kz)), (4, .inl (most)), (0, .inr (.inr (some (744)))), (1, .inl (a0)), (2, .inl (ix)), (3, .inl (bg))]) (st' := [.inl (kz), .inr (.inr (some (747))), .inl (most)]) rfl ?_
            have n16 : 2000 ≤ qz_N g 747 ∧ qz_N g 747 ≤ 2000 := ez_len hBg tg3 tq_11 rfl
            refine ez_aI hBg tg3 rfl tq_11 rfl rfl (by omega) (by omega) (fun (b15 : -2147483648 ≤ qz_I g 747 (kz).toNat) (b15' : qz_I g 747 (kz).toNat ≤ 2147483647) => ?_)
            rw [ec]
            refine ez_cs hBg.2.1 rfl rfl rfl rfl rfl (rd_maxE ⟨by omega, by omega⟩ ⟨by omega, by omega⟩ (ez_K1 ?_))
            refine ez_go (n := 4) (pc' := 49) (L' := [(5, .inl (kz + 1)), (4, .inl (max most (K x))), (6, .inl (-1)), (0, .inr (.inr (some (744)))), (1, .inl (a0)), (2, .inl (ix)), (3, .inl (bg))]) (st' := []) rfl ?_
            refine ez_less [(5, .inl (kz + 1)), (4, .inl (max most (K x))), (0, .inr (.inr (some (744)))), (1, .inl (a0)), (2, .inl (ix)), (3, .inl (bg))] rfl ⟨rfl, rfl, rfl, rfl, rfl, rfl, trivial⟩ ?_
            refine ih row e (max most (K x)) (ps ++ [x]) ix bg _ g (by rw [List.length_append, List.length_singleton]; omega) hBg hf clg cg ix0 hi (by rw [List.append_assoc]; exact rs) (by omega) ho h4 (by omega) ?_
            rw [← hF]; exact (sca_n (by omega) (by first | exact Or.inl (fun w => by omega) | exact (lk0.elim (fun w => Or.inl (fun q => w q.2)) Or.inr))).symm
          · skip
            refine ez_go (n := 3) (pc' := 97) (L' := [(5, .inl (kz)), (4, .inl (most)), (0, .inr (.inr (some (744)))), (1, .inl (a0)), (2, .inl (ix)), (3, .inl (bg))]) (st' := [.inr (.inr (some (744))), .inl (ix), .inr (.inr (some (744)))]) rfl ?_
            refine ez_gR hBg tc rfl rfl tq_10 rfl rfl (fun (t17 : _ = 1) (t17' : 1 ≤ qz_I g 744 2) => ?_)
            rw [show qz_P g 744 2 = 745 by unfold qz_P; rw [clg.1]; first | rfl | omega]
            refine ez_g3 hBg tg1 rfl rfl tq_1 rfl rfl (fun (t18 : _ = 2) => ?_)
            refine ez_go (n := 1) (pc' := 105) (L' := [(5, .inl (kz)), (4, .inl (most)), (0, .inr (.inr (some (744)))), (1, .inl (a0)), (2, .inl (ix)), (3, .inl (bg))]) (st' := [.inl (kz), .inr (.inr (some (746))), .inl (ix), .inr (.inr (some (744)))]) rfl ?_
            have n20 : 2000 ≤ qz_N g 746 ∧ qz_N g 746 ≤ 2000 := ez_len hBg t18 tq_2 rfl
            refine ez_aI hBg t18 rfl tq_2 rfl rfl (by omega) (by omega) (fun (b19 : -2147483648 ≤ qz_I g 746 (kz).toNat) (b19' : qz_I g 746 (kz).toNat ≤ 2147483647) => ?_)
            rw [ep]
            refine ez_cv hBg tc rfl rfl rfl tq_10 rfl rfl rfl (rd_longer_l hBg hX cg ix0 hi px (fun v f v0 r3 f1 lk2 => ez_K1 ?_) (fun lk0 => ez_K1 ?_))
            · have vb : v ≤ 256 := by have q := (List.getElem?_eq_some_iff.mp f1).1; omega
              refine ez_go (n := 4) (pc' := 118) (L' := [(6, .inl (v)), (5, .inl (kz)), (4, .inl (most)), (0, .inr (.inr (some (744)))), (1, .inl (a0)), (2, .inl (ix)), (3, .inl (bg))]) (st' := [.inl (-1), .inl (v)]) rfl ?_
              refine ez_icmp rfl rfl ⟨by first | omega | exact (sz_i32 _).1, by first | omega | exact (sz_i32 _).2⟩ ⟨by first | omega | exact (sz_i32 _).1, by first | omega | exact (sz_i32 _).2⟩ (fun (c21 : (v) ≠ (-1)) => ?_) (fun (c21 : ¬((v) ≠ (-1))) => ?_)
              · skip
                refine ez_go (n := 3) (pc' := 142) (L' := [(6, .inl (v)), (5, .inl (kz)), (4, .inl (most)), (0, .inr (.inr (some (744)))), (1, .inl (a0)), (2, .inl (ix)), (3, .inl (bg))]) (st' := [.inl (kz), .inl (bg), .inr (.inr (some (744)))]) rfl ?_
                refine ez_cv hBg tc rfl rfl rfl tq_10 rfl rfl rfl (rd_gap_l hBg hX clg (by omega) (by omega) (by omega) (fun g2 B2 f2 hs hm => ez_K0 ?_))
                refine ez_go (n := 5) (pc' := 49) (L' := [(5, .inl (kz + 1)), (2, .inl (v)), (3, .inl (bg + 1)), (6, .inl (v)), (4, .inl (most)), (0, .inr (.inr (some (744)))), (1, .inl (a0))]) (st' := []) rfl ?_
                refine ez_less [(5, .inl (kz + 1)), (4, .inl (most)), (0, .inr (.inr (some (744)))), (1, .inl (a0)), (2, .inl (v)), (3, .inl (bg + 1))] rfl ⟨rfl, rfl, rfl, rfl, rfl, rfl, trivial⟩ ?_
                refine ih (row ++ [x]) f most ps v (bg + 1) _ g2 (by omega) B2 (hf.trans (ez_fr_mono f2 (fun q hq => kl_2 (by omega) (by omega) hq))) (clg.k (fun j _ _ _ => f2.I rfl j)) (cg.tr (f2.I rfl _) (f2.2.2 _ rfl) (f2.2.2 _ rfl) (fun q hq => ⟨rfl, f2.2.2 q (nz_P2_f (fun e => by rw [e] at hq; omega) (fun e => by rw [e] at hq; omega))⟩)) v0 f1 (rst_gap_l rs (by omega) f2 hs hm) (by omega) (fun j => (f2.I rfl j).trans (ho j)) (fun j => (f2.I rfl j).trans (h4 j)) m0 ?_
                rw [← hF]; exact (sca_y (by omega) (by omega) r3 lk2).symm
              · skip
                refine ez_go (n := 2) (pc' := 124) (L' := [(6, .inl (v)), (5, .inl (kz)), (4, .inl (most)), (0, .inr (.inr (some (744)))), (1, .inl (a0)), (2, .inl (ix)), (3, .inl (bg))]) (st' := [.inr (.inr (some (744))), .inl (most)]) rfl ?_
                refine ez_gR hBg tc rfl rfl tq_10 rfl rfl (fun (t22 : _ = 11) (t22' : 1 ≤ qz_I g 744 3) => ?_)
                rw [show qz_P g 744 3 = 747 by unfold qz_P; rw [clg.2.1]; first | rfl | omega]
                refine ez_go (n := 1) (pc' := 129) (L' := [(6, .inl (v)), (5, .inl (kz)), (4, .inl (most)), (0, .inr (.inr (some (744)))), (1, .inl (a0)), (2, .inl (ix)), (3, .inl (bg))]) (st' := [.inl (kz), .inr (.inr (some (747))), .inl (most)]) rfl ?_
                have n24 : 2000 ≤ qz_N g 747 ∧ qz_N g 747 ≤ 2000 := ez_len hBg tg3 tq_11 rfl
                refine ez_aI hBg tg3 rfl tq_11 rfl rfl (by omega) (by omega) (fun (b23 : -2147483648 ≤ qz_I g 747 (kz).toNat) (b23' : qz_I g 747 (kz).toNat ≤ 2147483647) => ?_)
                rw [ec]
                refine ez_cs hBg.2.1 rfl rfl rfl rfl rfl (rd_maxE ⟨by omega, by omega⟩ ⟨by omega, by omega⟩ (ez_K1 ?_))
                refine ez_go (n := 4) (pc' := 49) (L' := [(5, .inl (kz + 1)), (4, .inl (max most (K x))), (6, .inl (v)), (0, .inr (.inr (some (744)))), (1, .inl (a0)), (2, .inl (ix)), (3, .inl (bg))]) (st' := []) rfl ?_
                refine ez_less [(5, .inl (kz + 1)), (4, .inl (max most (K x))), (0, .inr (.inr (some (744)))), (1, .inl (a0)), (2, .inl (ix)), (3, .inl (bg))] rfl ⟨rfl, rfl, rfl, rfl, rfl, rfl, trivial⟩ ?_
                refine ih row e (max most (K x)) (ps ++ [x]) ix bg _ g (by rw [List.length_append, List.length_singleton]; omega) hBg hf clg cg ix0 hi (by rw [List.append_assoc]; exact rs) (by omega) ho h4 (by omega) ?_
                rw [← hF]; exact (sca_n (by omega) (by first | exact Or.inl (fun w => by omega) | exact (lk0.elim (fun w => Or.inl (fun q => w q.2)) Or.inr))).symm
            · skip
              refine ez_go (n := 4) (pc' := 118) (L' := [(6, .inl (-1)), (5, .inl (kz)), (4, .inl (most)), (0, .inr (.inr (some (744)))), (1, .inl (a0)), (2, .inl (ix)), (3, .inl (bg))]) (st' := [.inl (-1), .inl (-1)]) rfl ?_
              refine ez_icmp rfl rfl ⟨by decide, by decide⟩ ⟨by decide, by decide⟩ (fun (c25 : (-1 : Int) ≠ (-1)) => absurd c25 (by decide)) (fun _ => ?_)
              refine ez_go (n := 2) (pc' := 124) (L' := [(6, .inl (-1)), (5, .inl (kz)), (4, .inl (most)), (0, .inr (.inr (some (744)))), (1, .inl (a0)), (2, .inl (ix)), (3, .inl (bg))]) (st' := [.inr (.inr (some (744))), .inl (most)]) rfl ?_
              refine ez_gR hBg tc rfl rfl tq_10 rfl rfl (fun (t26 : _ = 11) (t26' : 1 ≤ qz_I g 744 3) => ?_)
              rw [show qz_P g 744 3 = 747 by unfold qz_P; rw [clg.2.1]; first | rfl | omega]
              refine ez_go (n := 1) (pc' := 129) (L' := [(6, .inl (-1)), (5, .inl (kz)), (4, .inl (most)), (0, .inr (.inr (some (744)))), (1, .inl (a0)), (2, .inl (ix)), (3, .inl (bg))]) (st' := [.inl (kz), .inr (.inr (some (747))), .inl (most)]) rfl ?_
              have n28 : 2000 ≤ qz_N g 747 ∧ qz_N g 747 ≤ 2000 := ez_len hBg tg3 tq_11 rfl
              refine ez_aI hBg tg3 rfl tq_11 rfl rfl (by omega) (by omega) (fun (b27 : -2147483648 ≤ qz_I g 747 (kz).toNat) (b27' : qz_I g 747 (kz).toNat ≤ 2147483647) => ?_)
              rw [ec]
              refine ez_cs hBg.2.1 rfl rfl rfl rfl rfl (rd_maxE ⟨by omega, by omega⟩ ⟨by omega, by omega⟩ (ez_K1 ?_))
              refine ez_go (n := 4) (pc' := 49) (L' := [(5, .inl (kz + 1)), (4, .inl (max most (K x))), (6, .inl (-1)), (0, .inr (.inr (some (744)))), (1, .inl (a0)), (2, .inl (ix)), (3, .inl (bg))]) (st' := []) rfl ?_
              refine ez_less [(5, .inl (kz + 1)), (4, .inl (max most (K x))), (0, .inr (.inr (some (744)))), (1, .inl (a0)), (2, .inl (ix)), (3, .inl (bg))] rfl ⟨rfl, rfl, rfl, rfl, rfl, rfl, trivial⟩ ?_
              refine ih row e (max most (K x)) (ps ++ [x]) ix bg _ g (by rw [List.length_append, List.length_singleton]; omega) hBg hf clg cg ix0 hi (by rw [List.append_assoc]; exact rs) (by omega) ho h4 (by omega) ?_
              rw [← hF]; exact (sca_n (by omega) (by first | exact Or.inl (fun w => by omega) | exact (lk0.elim (fun w => Or.inl (fun q => w q.2)) Or.inr))).symm
        · skip
          refine ez_if rfl rfl ⟨by decide, by decide⟩ (fun _ => ?_) (fun (c29 : ¬((0 : Int) = (0))) => absurd c29 (by decide))
          refine ez_less [(0, .inr (.inr (some (744)))), (1, .inl (a0)), (2, .inl (ix)), (3, .inl (bg))] rfl ⟨rfl, rfl, rfl, rfl, trivial⟩ ?_
          have hR : (e, ps ++ x :: xs) = FF := by first | (rw [← hF]; exact (sca_stop st _ _ _).symm) | (rw [← hF]; exact (sca_z (by omega)).symm) | (exfalso; omega)
          exact kx g row e ix bg hBg hf clg cg ix0 hi ho h4 hR (by first | exact rs | (rw [List.append_nil] at rs ⊢; exact rs))

theorem rd_putI_r {p : Int} (hC : pz_C τ h T F E) (hx : sz_X τ h O D) (cl : clr h 749) (cs : cts h 749 sh b W) (wl : W.length + 2 ≤ 36000) (p0 : 0 ≤ p) (p1 : p ≤ 1114111) (k : ∀ g, ez_B τ g → ez_fr (nz_P2 749 753) h g → (∀ j, j ≠ 5 → j ≠ 7 → qz_I g 749 j = qz_I h 749 j) → cts g 749 sh (wtz sh b (impE (UBd D) p)) (W ++ wts sh b (impE (UBd D) p)) → Q (.inl none, g)) : ez_W (d + 2) cm_87 0 [(0, .inr (.inr (some (749)))), (1, .inl (p))] [] h Q := by
  have hB := hC.1
  have hX := hC.2.1
  have t202 : τ 202 = 48 := hX 202 (by decide)
  have t204 : τ 204 = 50 := hX 204 (by decide)
  have t205 : τ 205 = 51 := hX 205 (by decide)
  have tc : τ 749 = 10 := hX 749 (by decide)
  have tg1 : τ 750 = 1 := hX 750 (by decide)
  have tg2 : τ 751 = 2 := hX 751 (by decide)
  have tg3 : τ 752 = 11 := hX 752 (by decide)
  have tg4 : τ 753 = 12 := hX 753 (by decide)
  refine ez_go (n := 1) (pc' := 1) (L' := [(0, .inr (.inr (some (749)))), (1, .inl (p))]) (st' := [.inr (.inr (some (749)))]) rfl ?_
  refine ez_gC (p := 202) (tg := 48) hB tc rfl rfl tq_10 rfl rfl (fun (t202 : _ = 48) => ?_)
  refine ez_go (n := 1) (pc' := 5) (L' := [(0, .inr (.inr (some (749)))), (1, .inl (p))]) (st' := [.inl (p), .inr (.inr (some (202)))]) rfl ?_
  refine ez_cv hB t202 rfl rfl rfl tq_48 rfl rfl rfl (rd_spanAt hC p0 p1 (fun m atg tz => ez_KA ?_))
  have xq := hx _ _ p0 p1 atg
  refine ez_go (n := 1) (pc' := 10) (L' := [(0, .inr (.inr (some (749)))), (1, .inl (p))]) (st' := [.inl (32), .inr (.inr (some (sz_p h m)))]) rfl ?_
  refine ez_cv hB tz rfl rfl rfl tq_4 rfl rfl rfl (rd_hasT hB tz ⟨by decide, by decide⟩ (fun tr4 => ez_K1 ?_) (fun tr4 => ez_K1 ?_))
  · rw [xq.2.1.1] at tr4
    have hu : UBd D p = 64320 := by unfold UBd; exact if_pos tr4
    refine ez_if rfl rfl ⟨by decide, by decide⟩ (fun (c1 : (1 : Int) = (0)) => absurd c1 (by decide)) (fun _ => ?_)
    refine ez_ldc (64320) rfl rfl rfl ?_
    refine ez_go (n := 11) (pc' := 35) (L' := [(2, .inl (64320)), (0, .inr (.inr (some (749)))), (1, .inl (p))]) (st' := [.inr (.inl (((Int32.ofInt ((64320) + ((((Int32.ofInt (p)).toUInt32 >>> ((Int32.ofInt (15)).toUInt32 &&& Int32.toUInt32 31)).toInt32).toInt))).toInt64) <<< ((Int32.ofInt (48)).toInt64 &&& 63))), .inr (.inr (some (749)))]) rfl ?_
    refine ez_ldc2 (137438953472) rfl rfl rfl ?_
    refine ez_go (n := 1) (pc' := 39) (L' := [(2, .inl (64320)), (0, .inr (.inr (some (749)))), (1, .inl (p))]) (st' := [.inr (.inl ((((Int32.ofInt ((64320) + ((((Int32.ofInt (p)).toUInt32 >>> ((Int32.ofInt (15)).toUInt32 &&& Int32.toUInt32 31)).toInt32).toInt))).toInt64) <<< ((Int32.ofInt (48)).toInt64 &&& 63)) ||| (Int64.ofInt (137438953472)))), .inr (.inr (some (749)))]) rfl ?_
    refine ez_ldc2 (131072) rfl rfl rfl ?_
    refine ez_go (n := 1) (pc' := 43) (L' := [(2, .inl (64320)), (0, .inr (.inr (some (749)))), (1, .inl (p))]) (st' := [.inr (.inl (((((Int32.ofInt ((64320) + ((((Int32.ofInt (p)).toUInt32 >>> ((Int32.ofInt (15)).toUInt32 &&& Int32.toUInt32 31)).toInt32).toInt))).toInt64) <<< ((Int32.ofInt (48)).toInt64 &&& 63)) ||| (Int64.ofInt (137438953472))) ||| (Int64.ofInt (131072)))), .inr (.inr (some (749)))]) rfl ?_
    have eo1 := impE_ok (UB := UBd D) (p := p) (UBd_bd D p) p0 p1 _ List.mem_cons_self
    rw [show ((((Int32.ofInt ((64320) + ((((Int32.ofInt (p)).toUInt32 >>> ((Int32.ofInt (15)).toUInt32 &&& Int32.toUInt32 31)).toInt32).toInt))).toInt64) <<< ((Int32.ofInt (48)).toInt64 &&& 63)) ||| (Int64.ofInt (137438953472))) ||| (Int64.ofInt (131072)) = Int64.ofInt (eP (0, UBd D p + p / 32768, 32, 2)) by rw [us15 p0 p1, hu]; exact im_1 (by decide) (by decide) p0 p1]
    refine ez_cv hB tc rfl rfl rfl tq_10 rfl rfl rfl (rd_put_r hB hX cl cs (by omega) eo1 (fun g1 B1 f1 o1 c1 => ez_K0 ?_))
    have cl1 := cl.k (fun j a _ c => o1 j a c)
    refine ez_go (n := 4) (pc' := 52) (L' := [(2, .inl (64320)), (0, .inr (.inr (some (749)))), (1, .inl (p))]) (st' := [.inl ((Int32.ofInt (p) &&& Int32.ofInt (32767)).toInt), .inr (.inr (some (749)))]) rfl ?_
    refine ez_ldc (32768) rfl rfl rfl ?_
    refine ez_go (n := 4) (pc' := 59) (L' := [(2, .inl (64320)), (0, .inr (.inr (some (749)))), (1, .inl (p))]) (st' := [.inr (.inl (((Int32.ofInt ((Int32.ofInt ((Int32.ofInt (p) &&& Int32.ofInt (32767)).toInt) ||| Int32.ofInt (32768)).toInt)).toInt64) <<< ((Int32.ofInt (48)).toInt64 &&& 63))), .inr (.inr (some (749)))]) rfl ?_
    have eo2 := impE_ok (UB := UBd D) (p := p) (UBd_bd D p) p0 p1 _ (List.mem_cons_of_mem _ List.mem_cons_self)
    rw [show ((Int32.ofInt ((Int32.ofInt ((Int32.ofInt (p) &&& Int32.ofInt (32767)).toInt) ||| Int32.ofInt (32768)).toInt)).toInt64) <<< ((Int32.ofInt (48)).toInt64 &&& 63) = Int64.ofInt (eP (0, p % 32768 + 32768, 0, 0)) by rw [im_o p0 p1]; exact im_2 p0 p1]
    refine ez_cv B1 tc rfl rfl rfl tq_10 rfl rfl rfl (rd_put_r B1 hX cl1 c1 (by rw [List.length_append]; show W.length + 1 < _; omega) eo2 (fun g2 B2 f2 o2 c2 => ez_K0 ?_))
    exact ez_ret0 rfl rfl (k g2 B2 (f1.trans f2) (fun j a c => (o2 j a c).trans (o1 j a c)) (by rw [List.append_assoc] at c2; exact c2))
  · rw [xq.2.1.1] at tr4
    have hu : UBd D p = 64448 := by unfold UBd; exact if_neg tr4
    refine ez_if rfl rfl ⟨by decide, by decide⟩ (fun _ => ?_) (fun (c2 : ¬((0 : Int) = (0))) => absurd c2 (by decide))
    refine ez_ldc (64448) rfl rfl rfl ?_
    refine ez_go (n := 10) (pc' := 35) (L' := [(2, .inl (64448)), (0, .inr (.inr (some (749)))), (1, .inl (p))]) (st' := [.inr (.inl (((Int32.ofInt ((64448) + ((((Int32.ofInt (p)).toUInt32 >>> ((Int32.ofInt (15)).toUInt32 &&& Int32.toUInt32 31)).toInt32).toInt))).toInt64) <<< ((Int32.ofInt (48)).toInt64 &&& 63))), .inr (.inr (some (749)))]) rfl ?_
    refine ez_ldc2 (137438953472) rfl rfl rfl ?_
    refine ez_go (n := 1) (pc' := 39) (L' := [(2, .inl (64448)), (0, .inr (.inr (some (749)))), (1, .inl (p))]) (st' := [.inr (.inl ((((Int32.ofInt ((64448) + ((((Int32.ofInt (p)).toUInt32 >>> ((Int32.ofInt (15)).toUInt32 &&& Int32.toUInt32 31)).toInt32).toInt))).toInt64) <<< ((Int32.ofInt (48)).toInt64 &&& 63)) ||| (Int64.ofInt (137438953472)))), .inr (.inr (some (749)))]) rfl ?_
    refine ez_ldc2 (131072) rfl rfl rfl ?_
    refine ez_go (n := 1) (pc' := 43) (L' := [(2, .inl (64448)), (0, .inr (.inr (some (749)))), (1, .inl (p))]) (st' := [.inr (.inl (((((Int32.ofInt ((64448) + ((((Int32.ofInt (p)).toUInt32 >>> ((Int32.ofInt (15)).toUInt32 &&& Int32.toUInt32 31)).toInt32).toInt))).toInt64) <<< ((Int32.ofInt (48)).toInt64 &&& 63)) ||| (Int64.ofInt (137438953472))) ||| (Int64.ofInt (131072)))), .inr (.inr (some (749)))]) rfl ?_
    have eo1 := impE_ok (UB := UBd D) (p := p) (UBd_bd D p) p0 p1 _ List.mem_cons_self
    rw [show ((((Int32.ofInt ((64448) + ((((Int32.ofInt (p)).toUInt32 >>> ((Int32.ofInt (15)).toUInt32 &&& Int32.toUInt32 31)).toInt32).toInt))).toInt64) <<< ((Int32.ofInt (48)).toInt64 &&& 63)) ||| (Int64.ofInt (137438953472))) ||| (Int64.ofInt (131072)) = Int64.ofInt (eP (0, UBd D p + p / 32768, 32, 2)) by rw [us15 p0 p1, hu]; exact im_1 (by decide) (by decide) p0 p1]
    refine ez_cv hB tc rfl rfl rfl tq_10 rfl rfl rfl (rd_put_r hB hX cl cs (by omega) eo1 (fun g1 B1 f1 o1 c1 => ez_K0 ?_))
    have cl1 := cl.k (fun j a _ c => o1 j a c)
    refine ez_go (n := 4) (pc' := 52) (L' := [(2, .inl (64448)), (0, .inr (.inr (some (749)))), (1, .inl (p))]) (st' := [.inl ((Int32.ofInt (p) &&& Int32.ofInt (32767)).toInt), .inr (.inr (some (749)))]) rfl ?_
    refine ez_ldc (32768) rfl rfl rfl ?_
    refine ez_go (n := 4) (pc' := 59) (L' := [(2, .inl (64448)), (0, .inr (.inr (some (749)))), (1, .inl (p))]) (st' := [.inr (.inl (((Int32.ofInt ((Int32.ofInt ((Int32.ofInt (p) &&& Int32.ofInt (32767)).toInt) ||| Int32.ofInt (32768)).toInt)).toInt64) <<< ((Int32.ofInt (48)).toInt64 &&& 63))), .inr (.inr (some (749)))]) rfl ?_
    have eo2 := impE_ok (UB := UBd D) (p := p) (UBd_bd D p) p0 p1 _ (List.mem_cons_of_mem _ List.mem_cons_self)
    rw [show ((Int32.ofInt ((Int32.ofInt ((Int32.ofInt (p) &&& Int32.ofInt (32767)).toInt) ||| Int32.ofInt (32768)).toInt)).toInt64) <<< ((Int32.ofInt (48)).toInt64 &&& 63) = Int64.ofInt (eP (0, p % 32768 + 32768, 0, 0)) by rw [im_o p0 p1]; exact im_2 p0 p1]
    refine ez_cv B1 tc rfl rfl rfl tq_10 rfl rfl rfl (rd_put_r B1 hX cl1 c1 (by rw [List.length_append]; show W.length + 1 < _; omega) eo2 (fun g2 B2 f2 o2 c2 => ez_K0 ?_))
    exact ez_ret0 rfl rfl (k g2 B2 (f1.trans f2) (fun j a c => (o2 j a c).trans (o1 j a c)) (by rw [List.append_assoc] at c2; exact c2))

theorem rd_tkE_r {a0 ix bg : Int} {w : Nat} {e : List eL} (hX : jz_X τ) (cl : clr h 749) (tw : τ w = 9) (wn0 : qz_N h w = (e.length : Int)) (wv0 : ∀ (j : Nat) x, e[j]? = some x → qz_I h w j = (Int64.ofInt (eP x)).toInt) (eo : ∀ x ∈ e, eok x) (wl : W.length + e.length ≤ 36000) (k : ∀ g, ez_B τ g → ez_fr (nz_P2 749 753) h g → (∀ j, j ≠ 5 → j ≠ 7 → qz_I g 749 j = qz_I h 749 j) → cts g 749 sh (wtz sh b e) (W ++ wts sh b e) → Q (.inl (some (ez_v (.inl bg))), g)) : ∀ (n : Nat) (i : Int) (g : cz_H), n = ((e.length : Int) - i).toNat → 0 ≤ i → i ≤ (e.length : Int) → ez_B τ g → ez_fr (nz_P2 749 753) h g → (∀ j, j ≠ 5 → j ≠ 7 → qz_I g 749 j = qz_I h 749 j) → cts g 749 sh (wtz sh b (e.take i.toNat)) (W ++ wts sh b (e.take i.toNat)) → ez_W (d + 2) cm_90 174 [(6, .inl (i)), (5, .inr (.inr (some (w)))), (0, .inr (.inr (some (749)))), (1, .inl (a0)), (2, .inl (ix)), (3, .inl (bg))] [] g Q := by
  have tc : τ 749 = 10 := hX 749 (by decide)
  have tg1 : τ 750 = 1 := hX 750 (by decide)
  have tg2 : τ 751 = 2 := hX 751 (by decide)
  have tg3 : τ 752 = 11 := hX 752 (by decide)
  have tg4 : τ 753 = 12 := hX 753 (by decide)
  have nw : nz_P2 749 753 w = false := nz_P2_f (fun q => by rw [q, tc] at tw; cases tw) (fun q => by rw [q, tg4] at tw; cases tw)
  intro n
  induction n with
  | zero =>
    intro i g hn0 i0 i1 hBg hf ho cs
    have clg := cl.k (fun j a _ c => ho j a c)
    have wn : qz_N g w = (e.length : Int) := (hf.N nw).trans wn0
    have wv : ∀ (j : Nat) x, e[j]? = some x → qz_I g w j = (Int64.ofInt (eP x)).toInt := fun j x hj => (hf.I nw j).trans (wv0 j x hj)
    refine ez_go (n := 2) (pc' := 178) (L' := [(6, .inl (i)), (5, .inr (.inr (some (w)))), (0, .inr (.inr (some (749)))), (1, .inl (a0)), (2, .inl (ix)), (3, .inl (bg))]) (st' := [.inr (.inr (some (w))), .inl (i)]) rfl ?_
    refine ez_al hBg tw rfl tq_9 rfl (fun (b1 : 1 ≤ qz_N g w) (b1' : qz_N g w ≤ 18) => ?_)
    rw [wn]
    refine ez_icmp rfl rfl ⟨by first | omega | exact (sz_i32 _).1, by first | omega | exact (sz_i32 _).2⟩ ⟨by first | omega | exact (sz_i32 _).1, by first | omega | exact (sz_i32 _).2⟩ (fun (c2 : ((e.length : Int)) ≤ (i)) => ?_) (fun (c2 : ¬(((e.length : Int)) ≤ (i))) => ?_)
    · skip
      refine ez_go (n := 1) (pc' := 198) (L' := [(6, .inl (i)), (5, .inr (.inr (some (w)))), (0, .inr (.inr (some (749)))), (1, .inl (a0)), (2, .inl (ix)), (3, .inl (bg))]) (st' := [.inl (bg)]) rfl ?_
      rw [List.take_of_length_le (by omega)] at cs
      exact ez_retI rfl rfl (k g hBg hf ho cs)
    · exfalso; omega
  | succ n ih =>
    intro i g hn0 i0 i1 hBg hf ho cs
    have clg := cl.k (fun j a _ c => ho j a c)
    have wn : qz_N g w = (e.length : Int) := (hf.N nw).trans wn0
    have wv : ∀ (j : Nat) x, e[j]? = some x → qz_I g w j = (Int64.ofInt (eP x)).toInt := fun j x hj => (hf.I nw j).trans (wv0 j x hj)
    refine ez_go (n := 2) (pc' := 178) (L' := [(6, .inl (i)), (5, .inr (.inr (some (w)))), (0, .inr (.inr (some (749)))), (1, .inl (a0)), (2, .inl (ix)), (3, .inl (bg))]) (st' := [.inr (.inr (some (w))), .inl (i)]) rfl ?_
    refine ez_al hBg tw rfl tq_9 rfl (fun (b1 : 1 ≤ qz_N g w) (b1' : qz_N g w ≤ 18) => ?_)
    rw [wn]
    refine ez_icmp rfl rfl ⟨by first | omega | exact (sz_i32 _).1, by first | omega | exact (sz_i32 _).2⟩ ⟨by first | omega | exact (sz_i32 _).1, by first | omega | exact (sz_i32 _).2⟩ (fun (c2 : ((e.length : Int)) ≤ (i)) => ?_) (fun (c2 : ¬(((e.length : Int)) ≤ (i))) => ?_)
    · skip
      refine ez_go (n := 1) (pc' := 198) (L' := [(6, .inl (i)), (5, .inr (.inr (some (w)))), (0, .inr (.inr (some (749)))), (1, .inl (a0)), (2, .inl (ix)), (3, .inl (bg))]) (st' := [.inl (bg)]) rfl ?_
      rw [List.take_of_length_le (by omega)] at cs
      exact ez_retI rfl rfl (k g hBg hf ho cs)
    · skip
      refine ez_go (n := 3) (pc' := 187) (L' := [(6, .inl (i)), (5, .inr (.inr (some (w)))), (0, .inr (.inr (some (749)))), (1, .inl (a0)), (2, .inl (ix)), (3, .inl (bg))]) (st' := [.inl (i), .inr (.inr (some (w))), .inr (.inr (some (749)))]) rfl ?_
      have n3 : 1 ≤ qz_N g w ∧ qz_N g w ≤ 18 := ez_len hBg tw tq_9 rfl
      refine ez_aL hBg tw rfl tq_9 rfl rfl (by omega) (by omega) ?_
      have l9 : i.toNat < e.length := by omega
      have hv := List.getElem?_eq_getElem l9
      rw [show Int64.ofInt (qz_I g w (i).toNat) = Int64.ofInt (eP e[i.toNat]) by rw [wv i.toNat _ hv, Int64.ofInt_toInt]]
      have wlen : (wts sh b (e.take i.toNat)).length = i.toNat := by rw [wts_len, List.length_take]; omega
      refine ez_cv hBg tc rfl rfl rfl tq_10 rfl rfl rfl (rd_put_r hBg hX clg cs (by rw [List.length_append, wlen]; omega) (eo _ (List.getElem_mem l9)) (fun g2 B2 f2 o2 c2 => ez_K0 ?_))
      refine ez_go (n := 2) (pc' := 174) (L' := [(6, .inl (i + 1)), (5, .inr (.inr (some (w)))), (0, .inr (.inr (some (749)))), (1, .inl (a0)), (2, .inl (ix)), (3, .inl (bg))]) (st' := []) rfl ?_
      refine ez_less [(6, .inl (i + 1)), (5, .inr (.inr (some (w)))), (0, .inr (.inr (some (749)))), (1, .inl (a0)), (2, .inl (ix)), (3, .inl (bg))] rfl ⟨rfl, rfl, rfl, rfl, rfl, rfl, trivial⟩ ?_
      refine ih (i + 1) g2 (by omega) (by omega) (by omega) B2 (hf.trans f2) (fun j a c => (o2 j a c).trans (ho j a c)) ?_
      rw [show (i + 1).toNat = i.toNat + 1 by omega, List.take_add_one, hv, Option.toList_some, wts_app, wtz_app, ← List.append_assoc]; exact c2

theorem rd_tkM_r {a0 : Int} {FF : List eL × List Int} (hX : jz_X τ) (hK : ∀ x, (0 ≤ x ∧ x ≤ 1114111) → 0 ≤ K x ∧ K x ≤ 254) (kx : ∀ g row e ix bg, ez_B τ g → ez_fr (kl_P 749) h g → clr g 749 → cEr τ g LK R → 0 ≤ ix → R[ix.toNat]? = some (row, e) → (∀ j, qz_I g 749 j = qz_I h 749 j) → (∀ j, qz_I g 753 j = qz_I h 753 j) → ∀ {l9 : List Int}, (e, l9) = FF → rst g 749 K bg l9 → ez_W (d + 3) cm_90 157 [(0, .inr (.inr (some (749)))), (1, .inl (a0)), (2, .inl (ix)), (3, .inl (bg))] [] g Q) : ∀ (xs row : List Int) (e : List eL) (most : Int) (ps : List Int) (ix bg kz : Int) (g : cz_H), kz = bg + (ps.length : Int) → ez_B τ g → ez_fr (kl_P 749) h g → clr g 749 → cEr τ g LK R → 0 ≤ ix → R[ix.toNat]? = some (row, e) → rst g 749 K bg (ps ++ xs) → 0 ≤ bg → (∀ j, qz_I g 749 j = qz_I h 749 j) → (∀ j, qz_I g 753 j = qz_I h 753 j) → (0 ≤ most ∧ most ≤ 254) → sca LK K xs row e most ps = FF → ez_W (d + 3) cm_90 49 [(5, .inl (kz)), (4, .inl (most)), (0, .inr (.inr (some (749)))), (1, .inl (a0)), (2, .inl (ix)), (3, .inl (bg))] [] g Q := by
  have t202 : τ 202 = 48 := hX 202 (by decide)
  have t204 : τ 204 = 50 := hX 204 (by decide)
  have t205 : τ 205 = 51 := hX 205 (by decide)
  have tc : τ 749 = 10 := hX 749 (by decide)
  have tg1 : τ 750 = 1 := hX 750 (by decide)
  have tg2 : τ 751 = 2 := hX 751 (by decide)
  have tg3 : τ 752 = 11 := hX 752 (by decide)
  have tg4 : τ 753 = 12 := hX 753 (by decide)
  intro xs
  induction xs with
  | nil =>
    intro row e most ps ix bg kz g hz hBg hf clg cg ix0 hi rs b0 ho h4 m0 hF
    have il := (List.getElem?_eq_some_iff.mp hi).1
    have cn := cg.1
    obtain ⟨rk, q4, en, lk⟩ := cg.2.1 _ _ hi
    obtain ⟨z, w, x1, x2, x3, x4, x5, x6, x7, x8⟩ := id en
    have bn : 0 ≤ qz_I g 202 4 ∧ qz_I g 202 4 ≤ 256 := ez_fB (cl := 2) (k := 4) hBg t202 tq_48 rfl rfl (by decide)
    obtain ⟨⟨ra, rb, rc⟩, rd9, re⟩ := id rs
    have lx : (ps ++ ([] : List Int)).length = ps.length + 0 := by rw [List.length_append]; rfl
    rw [List.length_append, List.length_nil] at rb rd9
    refine ez_go (n := 2) (pc' := 52) (L' := [(5, .inl (kz)), (4, .inl (most)), (0, .inr (.inr (some (749)))), (1, .inl (a0)), (2, .inl (ix)), (3, .inl (bg))]) (st' := [.inr (.inr (some (749))), .inl (kz)]) rfl ?_
    refine ez_gR hBg tc rfl rfl tq_10 rfl rfl (fun (t1 : _ = 1) (t1' : 1 ≤ qz_I g 749 2) => ?_)
    rw [show qz_P g 749 2 = 750 by unfold qz_P; rw [clg.1]; first | rfl | omega]
    refine ez_gI hBg tg1 rfl rfl tq_1 rfl rfl (fun (b2 : 0 ≤ qz_I g 750 1) (b2' : qz_I g 750 1 ≤ 2000) => ?_)
    rw [rs.2.1]
    refine ez_icmp rfl rfl ⟨by first | omega | exact (sz_i32 _).1, by first | omega | exact (sz_i32 _).2⟩ ⟨by first | omega | exact (sz_i32 _).1, by first | omega | exact (sz_i32 _).2⟩ (fun (c3 : (bg + ((ps ++ ([] : List Int)).length : Int)) ≤ (kz)) => ?_) (fun (c3 : ¬((bg + ((ps ++ ([] : List Int)).length : Int)) ≤ (kz))) => ?_)
    · skip
      refine ez_less [(0, .inr (.inr (some (749)))), (1, .inl (a0)), (2, .inl (ix)), (3, .inl (bg))] rfl ⟨rfl, rfl, rfl, rfl, trivial⟩ ?_
      have hR : (e, ps ++ ([] : List Int)) = FF := by rw [List.append_nil]; exact hF
      exact kx g row e ix bg hBg hf clg cg ix0 hi ho h4 hR (by first | exact rs | (rw [List.append_nil] at rs ⊢; exact rs))
    · exfalso; omega
  | cons x xs ih =>
    intro row e most ps ix bg kz g hz hBg hf clg cg ix0 hi rs b0 ho h4 m0 hF
    have il := (List.getElem?_eq_some_iff.mp hi).1
    have cn := cg.1
    obtain ⟨rk, q4, en, lk⟩ := cg.2.1 _ _ hi
    obtain ⟨z, w, x1, x2, x3, x4, x5, x6, x7, x8⟩ := id en
    have bn : 0 ≤ qz_I g 202 4 ∧ qz_I g 202 4 ≤ 256 := ez_fB (cl := 2) (k := 4) hBg t202 tq_48 rfl rfl (by decide)
    obtain ⟨⟨ra, rb, rc⟩, rd9, re⟩ := id rs
    have lx : (ps ++ x :: xs).length = ps.length + (xs.length + 1) := by rw [List.length_append]; rfl
    have ex : (ps ++ x :: xs)[ps.length]? = some x := by rw [List.getElem?_append_right (Nat.le_refl _), Nat.sub_self]; rfl
    have px := rc x (List.mem_append_right _ List.mem_cons_self)
    have kb := hK x px
    have ep : qz_I g 751 (kz).toNat = x := by rw [show kz.toNat = bg.toNat + ps.length by omega]; exact (re _ _ ex).1
    have ec : qz_I g 752 (kz).toNat = K x := by rw [show kz.toNat = bg.toNat + ps.length by omega]; exact (re _ _ ex).2
    rw [List.length_append, List.length_cons] at rb rd9
    refine ez_go (n := 2) (pc' := 52) (L' := [(5, .inl (kz)), (4, .inl (most)), (0, .inr (.inr (some (749)))), (1, .inl (a0)), (2, .inl (ix)), (3, .inl (bg))]) (st' := [.inr (.inr (some (749))), .inl (kz)]) rfl ?_
    refine ez_gR hBg tc rfl rfl tq_10 rfl rfl (fun (t1 : _ = 1) (t1' : 1 ≤ qz_I g 749 2) => ?_)
    rw [show qz_P g 749 2 = 750 by unfold qz_P; rw [clg.1]; first | rfl | omega]
    refine ez_gI hBg tg1 rfl rfl tq_1 rfl rfl (fun (b2 : 0 ≤ qz_I g 750 1) (b2' : qz_I g 750 1 ≤ 2000) => ?_)
    rw [rs.2.1]
    refine ez_icmp rfl rfl ⟨by first | omega | exact (sz_i32 _).1, by first | omega | exact (sz_i32 _).2⟩ ⟨by first | omega | exact (sz_i32 _).1, by first | omega | exact (sz_i32 _).2⟩ (fun (c3 : (bg + ((ps ++ x :: xs).length : Int)) ≤ (kz)) => ?_) (fun (c3 : ¬((bg + ((ps ++ x :: xs).length : Int)) ≤ (kz))) => ?_)
    · exfalso; omega
    · skip
      refine ez_go (n := 1) (pc' := 62) (L' := [(5, .inl (kz)), (4, .inl (most)), (0, .inr (.inr (some (749)))), (1, .inl (a0)), (2, .inl (ix)), (3, .inl (bg))]) (st' := [.inr (.inr (some (749)))]) rfl ?_
      refine ez_gR hBg tc rfl rfl tq_10 rfl rfl (fun (t4 : _ = 11) (t4' : 1 ≤ qz_I g 749 3) => ?_)
      rw [show qz_P g 749 3 = 752 by unfold qz_P; rw [clg.2.1]; first | rfl | omega]
      refine ez_go (n := 1) (pc' := 67) (L' := [(5, .inl (kz)), (4, .inl (most)), (0, .inr (.inr (some (749)))), (1, .inl (a0)), (2, .inl (ix)), (3, .inl (bg))]) (st' := [.inl (kz), .inr (.inr (some (752)))]) rfl ?_
      have n6 : 2000 ≤ qz_N g 752 ∧ qz_N g 752 ≤ 2000 := ez_len hBg tg3 tq_11 rfl
      refine ez_aI hBg tg3 rfl tq_11 rfl rfl (by omega) (by omega) (fun (b5 : -2147483648 ≤ qz_I g 752 (kz).toNat) (b5' : qz_I g 752 (kz).toNat ≤ 2147483647) => ?_)
      rw [ec]
      refine ez_if rfl rfl ⟨by first | omega | exact (sz_i32 _).1, by first | omega | exact (sz_i32 _).2⟩ (fun (c7 : (K x) ≤ (0)) => ?_) (fun (c7 : ¬((K x) ≤ (0))) => ?_)
      · skip
        refine ez_less [(0, .inr (.inr (some (749)))), (1, .inl (a0)), (2, .inl (ix)), (3, .inl (bg))] rfl ⟨rfl, rfl, rfl, rfl, trivial⟩ ?_
        have hR : (e, ps ++ x :: xs) = FF := by first | (rw [← hF]; exact (sca_stop st _ _ _).symm) | (rw [← hF]; exact (sca_z (by omega)).symm) | (exfalso; omega)
        exact kx g row e ix bg hBg hf clg cg ix0 hi ho h4 hR (by first | exact rs | (rw [List.append_nil] at rs ⊢; exact rs))
      · skip
        refine ez_go (n := 1) (pc' := 72) (L' := [(5, .inl (kz)), (4, .inl (most)), (0, .inr (.inr (some (749)))), (1, .inl (a0)), (2, .inl (ix)), (3, .inl (bg))]) (st' := [.inr (.inr (some (749)))]) rfl ?_
        refine ez_gC (p := 202) (tg := 48) hBg tc rfl rfl tq_10 rfl rfl (fun (t202 : _ = 48) => ?_)
        refine ez_go (n := 1) (pc' := 76) (L' := [(5, .inl (kz)), (4, .inl (most)), (0, .inr (.inr (some (749)))), (1, .inl (a0)), (2, .inl (ix)), (3, .inl (bg))]) (st' := [.inl (ix), .inr (.inr (some (202)))]) rfl ?_
        refine ez_cv hBg t202 rfl rfl rfl tq_48 rfl rfl rfl (rd_hasLonger hBg hX cg ix0 hi (ez_K1 ?_) (fun st => ez_K1 ?_))
        · skip
          refine ez_if rfl rfl ⟨by decide, by decide⟩ (fun (c8 : (1 : Int) = (0)) => absurd c8 (by decide)) (fun _ => ?_)
          refine ez_go (n := 1) (pc' := 83) (L' := [(5, .inl (kz)), (4, .inl (most)), (0, .inr (.inr (some (749)))), (1, .inl (a0)), (2, .inl (ix)), (3, .inl (bg))]) (st' := [.inr (.inr (some (749)))]) rfl ?_
          refine ez_gR hBg tc rfl rfl tq_10 rfl rfl (fun (t9 : _ = 11) (t9' : 1 ≤ qz_I g 749 3) => ?_)
          rw [show qz_P g 749 3 = 752 by unfold qz_P; rw [clg.2.1]; first | rfl | omega]
          refine ez_go (n := 1) (pc' := 88) (L' := [(5, .inl (kz)), (4, .inl (most)), (0, .inr (.inr (some (749)))), (1, .inl (a0)), (2, .inl (ix)), (3, .inl (bg))]) (st' := [.inl (kz), .inr (.inr (some (752)))]) rfl ?_
          have n11 : 2000 ≤ qz_N g 752 ∧ qz_N g 752 ≤ 2000 := ez_len hBg tg3 tq_11 rfl
          refine ez_aI hBg tg3 rfl tq_11 rfl rfl (by omega) (by omega) (fun (b10 : -2147483648 ≤ qz_I g 752 (kz).toNat) (b10' : qz_I g 752 (kz).toNat ≤ 2147483647) => ?_)
          rw [ec]
          refine ez_go (n := 1) (pc' := 91) (L' := [(5, .inl (kz)), (4, .inl (most)), (0, .inr (.inr (some (749)))), (1, .inl (a0)), (2, .inl (ix)), (3, .inl (bg))]) (st' := [.inl (most), .inl (K x)]) rfl ?_
          refine ez_icmp rfl rfl ⟨by first | omega | exact (sz_i32 _).1, by first | omega | exact (sz_i32 _).2⟩ ⟨by first | omega | exact (sz_i32 _).1, by first | omega | exact (sz_i32 _).2⟩ (fun (c12 : (K x) ≤ (most)) => ?_) (fun (c12 : ¬((K x) ≤ (most))) => ?_)
          · skip
            refine ez_go (n := 4) (pc' := 118) (L' := [(6, .inl (-1)), (5, .inl (kz)), (4, .inl (most)), (0, .inr (.inr (some (749)))), (1, .inl (a0)), (2, .inl (ix)), (3, .inl (bg))]) (st' := [.inl (-1), .inl (-1)]) rfl ?_
            refine ez_icmp rfl rfl ⟨by decide, by decide⟩ ⟨by decide, by decide⟩ (fun (c13 : (-1 : Int) ≠ (-1)) => absurd c13 (by decide)) (fun _ => ?_)
            refine ez_go (n := 2) (pc' := 124) (L' := [(6, .inl (-1)), (5, .inl (kz)), (4, .inl (most)), (0, .inr (.inr (some (749)))), (1, .inl (a0)), (2, .inl (ix)), (3, .inl (bg))]) (st' := [.inr (.inr (some (749))), .inl (most)]) rfl ?_
            refine ez_gR hBg tc rfl rfl tq_10 rfl rfl (fun (t14 : _ = 11) (t14' : 1 ≤ qz_I g 749 3) => ?_)
            rw [show qz_P g 749 3 = 752 by unfold qz_P; rw [clg.2.1]; first | rfl | omega]
            refine ez_go (n := 1) (pc' := 129) (L' := [(6, .inl (-1)), (5, .inl (kz)), (4, .inl (most)), (0, .inr (.inr (some (749)))), (1, .inl (a0)), (2, .inl (ix)), (3, .inl (bg))]) (st' := [.inl (kz), .inr (.inr (some (752))), .inl (most)]) rfl ?_
            have n16 : 2000 ≤ qz_N g 752 ∧ qz_N g 752 ≤ 2000 := ez_len hBg tg3 tq_11 rfl
            refine ez_aI hBg tg3 rfl tq_11 rfl rfl (by omega) (by omega) (fun (b15 : -2147483648 ≤ qz_I g 752 (kz).toNat) (b15' : qz_I g 752 (kz).toNat ≤ 2147483647) => ?_)
            rw [ec]
            refine ez_cs hBg.2.1 rfl rfl rfl rfl rfl (rd_maxE ⟨by omega, by omega⟩ ⟨by omega, by omega⟩ (ez_K1 ?_))
            refine ez_go (n := 4) (pc' := 49) (L' := [(5, .inl (kz + 1)), (4, .inl (max most (K x))), (6, .inl (-1)), (0, .inr (.inr (some (749)))), (1, .inl (a0)), (2, .inl (ix)), (3, .inl (bg))]) (st' := []) rfl ?_
            refine ez_less [(5, .inl (kz + 1)), (4, .inl (max most (K x))), (0, .inr (.inr (some (749)))), (1, .inl (a0)), (2, .inl (ix)), (3, .inl (bg))] rfl ⟨rfl, rfl, rfl, rfl, rfl, rfl, trivial⟩ ?_
            refine ih row e (max most (K x)) (ps ++ [x]) ix bg _ g (by rw [List.length_append, List.length_singleton]; omega) hBg hf clg cg ix0 hi (by rw [List.append_assoc]; exact rs) (by omega) ho h4 (by omega) ?_
            rw [← hF]; exact (sca_n (by omega) (by first | exact Or.inl (fun w => by omega) | exact (lk0.elim (fun w => Or.inl (fun q => w q.2)) Or.inr))).symm
          · skip
            refine ez_go (n := 3) (pc' := 97) (L' := [(5, .inl (kz)), (4, .inl (most)), (0, .inr (.inr (some (749)))), (1, .inl (a0)), (2, .inl (ix)), (3, .inl (bg))]) (st' := [.inr (.inr (some (749))), .inl (ix), .inr (.inr (some (749)))]) rfl ?_
            refine ez_gR hBg tc rfl rfl tq_10 rfl rfl (fun (t17 : _ = 1) (t17' : 1 ≤ qz_I g 749 2) => ?_)
            rw [show qz_P g 749 2 = 750 by unfold qz_P; rw [clg.1]; first | rfl | omega]
            refine ez_g3 hBg tg1 rfl rfl tq_1 rfl rfl (fun (t18 : _ = 2) => ?_)
            refine ez_go (n := 1) (pc' := 105) (L' := [(5, .inl (kz)), (4, .inl (most)), (0, .inr (.inr (some (749)))), (1, .inl (a0)), (2, .inl (ix)), (3, .inl (bg))]) (st' := [.inl (kz), .inr (.inr (some (751))), .inl (ix), .inr (.inr (some (749)))]) rfl ?_
            have n20 : 2000 ≤ qz_N g 751 ∧ qz_N g 751 ≤ 2000 := ez_len hBg t18 tq_2 rfl
            refine ez_aI hBg t18 rfl tq_2 rfl rfl (by omega) (by omega) (fun (b19 : -2147483648 ≤ qz_I g 751 (kz).toNat) (b19' : qz_I g 751 (kz).toNat ≤ 2147483647) => ?_)
            rw [ep]
            refine ez_cv hBg tc rfl rfl rfl tq_10 rfl rfl rfl (rd_longer_r hBg hX cg ix0 hi px (fun v f v0 r3 f1 lk2 => ez_K1 ?_) (fun lk0 => ez_K1 ?_))
            · have vb : v ≤ 256 := by have q := (List.getElem?_eq_some_iff.mp f1).1; omega
              refine ez_go (n := 4) (pc' := 118) (L' := [(6, .inl (v)), (5, .inl (kz)), (4, .inl (most)), (0, .inr (.inr (some (749)))), (1, .inl (a0)), (2, .inl (ix)), (3, .inl (bg))]) (st' := [.inl (-1), .inl (v)]) rfl ?_
              refine ez_icmp rfl rfl ⟨by first | omega | exact (sz_i32 _).1, by first | omega | exact (sz_i32 _).2⟩ ⟨by first | omega | exact (sz_i32 _).1, by first | omega | exact (sz_i32 _).2⟩ (fun (c21 : (v) ≠ (-1)) => ?_) (fun (c21 : ¬((v) ≠ (-1))) => ?_)
              · skip
                refine ez_go (n := 3) (pc' := 142) (L' := [(6, .inl (v)), (5, .inl (kz)), (4, .inl (most)), (0, .inr (.inr (some (749)))), (1, .inl (a0)), (2, .inl (ix)), (3, .inl (bg))]) (st' := [.inl (kz), .inl (bg), .inr (.inr (some (749)))]) rfl ?_
                refine ez_cv hBg tc rfl rfl rfl tq_10 rfl rfl rfl (rd_gap_r hBg hX clg (by omega) (by omega) (by omega) (fun g2 B2 f2 hs hm => ez_K0 ?_))
                refine ez_go (n := 5) (pc' := 49) (L' := [(5, .inl (kz + 1)), (2, .inl (v)), (3, .inl (bg + 1)), (6, .inl (v)), (4, .inl (most)), (0, .inr (.inr (some (749)))), (1, .inl (a0))]) (st' := []) rfl ?_
                refine ez_less [(5, .inl (kz + 1)), (4, .inl (most)), (0, .inr (.inr (some (749)))), (1, .inl (a0)), (2, .inl (v)), (3, .inl (bg + 1))] rfl ⟨rfl, rfl, rfl, rfl, rfl, rfl, trivial⟩ ?_
                refine ih (row ++ [x]) f most ps v (bg + 1) _ g2 (by omega) B2 (hf.trans (ez_fr_mono f2 (fun q hq => kl_2 (by omega) (by omega) hq))) (clg.k (fun j _ _ _ => f2.I rfl j)) (cg.tr (f2.I rfl _) (f2.2.2 _ rfl) (f2.2.2 _ rfl) (fun q hq => ⟨rfl, f2.2.2 q (nz_P2_f (fun e => by rw [e] at hq; omega) (fun e => by rw [e] at hq; omega))⟩)) v0 f1 (rst_gap_r rs (by omega) f2 hs hm) (by omega) (fun j => (f2.I rfl j).trans (ho j)) (fun j => (f2.I rfl j).trans (h4 j)) m0 ?_
                rw [← hF]; exact (sca_y (by omega) (by omega) r3 lk2).symm
              · skip
                refine ez_go (n := 2) (pc' := 124) (L' := [(6, .inl (v)), (5, .inl (kz)), (4, .inl (most)), (0, .inr (.inr (some (749)))), (1, .inl (a0)), (2, .inl (ix)), (3, .inl (bg))]) (st' := [.inr (.inr (some (749))), .inl (most)]) rfl ?_
                refine ez_gR hBg tc rfl rfl tq_10 rfl rfl (fun (t22 : _ = 11) (t22' : 1 ≤ qz_I g 749 3) => ?_)
                rw [show qz_P g 749 3 = 752 by unfold qz_P; rw [clg.2.1]; first | rfl | omega]
                refine ez_go (n := 1) (pc' := 129) (L' := [(6, .inl (v)), (5, .inl (kz)), (4, .inl (most)), (0, .inr (.inr (some (749)))), (1, .inl (a0)), (2, .inl (ix)), (3, .inl (bg))]) (st' := [.inl (kz), .inr (.inr (some (752))), .inl (most)]) rfl ?_
                have n24 : 2000 ≤ qz_N g 752 ∧ qz_N g 752 ≤ 2000 := ez_len hBg tg3 tq_11 rfl
                refine ez_aI hBg tg3 rfl tq_11 rfl rfl (by omega) (by omega) (fun (b23 : -2147483648 ≤ qz_I g 752 (kz).toNat) (b23' : qz_I g 752 (kz).toNat ≤ 2147483647) => ?_)
                rw [ec]
                refine ez_cs hBg.2.1 rfl rfl rfl rfl rfl (rd_maxE ⟨by omega, by omega⟩ ⟨by omega, by omega⟩ (ez_K1 ?_))
                refine ez_go (n := 4) (pc' := 49) (L' := [(5, .inl (kz + 1)), (4, .inl (max most (K x))), (6, .inl (v)), (0, .inr (.inr (some (749)))), (1, .inl (a0)), (2, .inl (ix)), (3, .inl (bg))]) (st' := []) rfl ?_
                refine ez_less [(5, .inl (kz + 1)), (4, .inl (max most (K x))), (0, .inr (.inr (some (749)))), (1, .inl (a0)), (2, .inl (ix)), (3, .inl (bg))] rfl ⟨rfl, rfl, rfl, rfl, rfl, rfl, trivial⟩ ?_
                refine ih row e (max most (K x)) (ps ++ [x]) ix bg _ g (by rw [List.length_append, List.length_singleton]; omega) hBg hf clg cg ix0 hi (by rw [List.append_assoc]; exact rs) (by omega) ho h4 (by omega) ?_
                rw [← hF]; exact (sca_n (by omega) (by first | exact Or.inl (fun w => by omega) | exact (lk0.elim (fun w => Or.inl (fun q => w q.2)) Or.inr))).symm
            · skip
              refine ez_go (n := 4) (pc' := 118) (L' := [(6, .inl (-1)), (5, .inl (kz)), (4, .inl (most)), (0, .inr (.inr (some (749)))), (1, .inl (a0)), (2, .inl (ix)), (3, .inl (bg))]) (st' := [.inl (-1), .inl (-1)]) rfl ?_
              refine ez_icmp rfl rfl ⟨by decide, by decide⟩ ⟨by decide, by decide⟩ (fun (c25 : (-1 : Int) ≠ (-1)) => absurd c25 (by decide)) (fun _ => ?_)
              refine ez_go (n := 2) (pc' := 124) (L' := [(6, .inl (-1)), (5, .inl (kz)), (4, .inl (most)), (0, .inr (.inr (some (749)))), (1, .inl (a0)), (2, .inl (ix)), (3, .inl (bg))]) (st' := [.inr (.inr (some (749))), .inl (most)]) rfl ?_
              refine ez_gR hBg tc rfl rfl tq_10 rfl rfl (fun (t26 : _ = 11) (t26' : 1 ≤ qz_I g 749 3) => ?_)
              rw [show qz_P g 749 3 = 752 by unfold qz_P; rw [clg.2.1]; first | rfl | omega]
              refine ez_go (n := 1) (pc' := 129) (L' := [(6, .inl (-1)), (5, .inl (kz)), (4, .inl (most)), (0, .inr (.inr (some (749)))), (1, .inl (a0)), (2, .inl (ix)), (3, .inl (bg))]) (st' := [.inl (kz), .inr (.inr (some (752))), .inl (most)]) rfl ?_
              have n28 : 2000 ≤ qz_N g 752 ∧ qz_N g 752 ≤ 2000 := ez_len hBg tg3 tq_11 rfl
              refine ez_aI hBg tg3 rfl tq_11 rfl rfl (by omega) (by omega) (fun (b27 : -2147483648 ≤ qz_I g 752 (kz).toNat) (b27' : qz_I g 752 (kz).toNat ≤ 2147483647) => ?_)
              rw [ec]
              refine ez_cs hBg.2.1 rfl rfl rfl rfl rfl (rd_maxE ⟨by omega, by omega⟩ ⟨by omega, by omega⟩ (ez_K1 ?_))
              refine ez_go (n := 4) (pc' := 49) (L' := [(5, .inl (kz + 1)), (4, .inl (max most (K x))), (6, .inl (-1)), (0, .inr (.inr (some (749)))), (1, .inl (a0)), (2, .inl (ix)), (3, .inl (bg))]) (st' := []) rfl ?_
              refine ez_less [(5, .inl (kz + 1)), (4, .inl (max most (K x))), (0, .inr (.inr (some (749)))), (1, .inl (a0)), (2, .inl (ix)), (3, .inl (bg))] rfl ⟨rfl, rfl, rfl, rfl, rfl, rfl, trivial⟩ ?_
              refine ih row e (max most (K x)) (ps ++ [x]) ix bg _ g (by rw [List.length_append, List.length_singleton]; omega) hBg hf clg cg ix0 hi (by rw [List.append_assoc]; exact rs) (by omega) ho h4 (by omega) ?_
              rw [← hF]; exact (sca_n (by omega) (by first | exact Or.inl (fun w => by omega) | exact (lk0.elim (fun w => Or.inl (fun q => w q.2)) Or.inr))).symm
        · skip
          refine ez_if rfl rfl ⟨by decide, by decide⟩ (fun _ => ?_) (fun (c29 : ¬((0 : Int) = (0))) => absurd c29 (by decide))
          refine ez_less [(0, .inr (.inr (some (749)))), (1, .inl (a0)), (2, .inl (ix)), (3, .inl (bg))] rfl ⟨rfl, rfl, rfl, rfl, trivial⟩ ?_
          have hR : (e, ps ++ x :: xs) = FF := by first | (rw [← hF]; exact (sca_stop st _ _ _).symm) | (rw [← hF]; exact (sca_z (by omega)).symm) | (exfalso; omega)
          exact kx g row e ix bg hBg hf clg cg ix0 hi ho h4 hR (by first | exact rs | (rw [List.append_nil] at rs ⊢; exact rs))

end EzKb

/-! COLLATION: the class, build. (Written by wip/p2/py/pvk4.py.) -/
theorem rst_drop {h : cz_H} {r : Nat} {K : Int → Int} {a : Int} {rem : List Int} {n : Nat} (x : rst h r K a rem) (hn : n ≤ rem.length) : rst h r K (a + (n : Int)) (rem.drop n) := by
  obtain ⟨⟨x1, x2, x3⟩, x4, x5⟩ := x
  refine ⟨⟨by omega, by rw [List.length_drop]; omega, fun v hv => x3 v (List.mem_of_mem_drop hv)⟩, by rw [List.length_drop, x4]; omega, fun j v hv => ?_⟩
  rw [List.getElem?_drop] at hv
  have := x5 (n + j) v hv
  rw [show (a + (n : Int)).toNat + j = a.toNat + (n + j) by omega]; exact this
/-- one step of the elements -/
def stE (LK : List Int → Option (List eL)) (K UB : Int → Int) (rem : List Int) (es : List eL) (l9 : List Int) : Prop := (lon LK rem = none ∧ ∃ p t, rem = p :: t ∧ es = impE UB p ∧ l9 = t) ∨ ∃ n e0, lon LK rem = some (n, e0) ∧ (es, l9) = sca LK K (rem.drop n) (rem.take n) e0 0 []
theorem stE_els {LK : List Int → Option (List eL)} {K UB : Int → Int} {rem : List Int} {es : List eL} {l9 : List Int} (x : stE LK K UB rem es l9) (f : Nat) : els LK K UB (f + 1) rem = es ++ els LK K UB f l9 ∧ l9.length < rem.length := by
  rcases x with ⟨lo, p, t, e1, e2, e3⟩ | ⟨n, e0, lo, e1⟩
  · subst e1; subst e2; subst e3; exact ⟨els_n lo, by rw [List.length_cons]; omega⟩
  · have ok := lon_ok lo
    have ln := sca_len (LK := LK) (K := K) (rem.drop n) (rem.take n) e0 0 []
    rw [← e1, List.length_nil, List.length_drop] at ln
    have ln : l9.length ≤ 0 + (rem.length - n) := ln
    match rem, ok, lo, e1, ln with
    | [], ok, _, _, _ => exact absurd ok.2.2.1 (by rw [List.length_nil]; omega)
    | p :: t, ok, lo, e1, ln => refine ⟨?_, by omega⟩; rw [els_s lo, ← e1]
/-- the elements of each are few -/
theorem sca_ok {LK : List Int → Option (List eL)} {K : Int → Int} (hL : ∀ row e, LK row = some e → (∀ x ∈ e, eok x) ∧ e.length ≤ 18) : ∀ (xs row : List Int) (best : List eL) (most : Int) (ps : List Int), ((∀ x ∈ best, eok x) ∧ best.length ≤ 18) → ((∀ x ∈ (sca LK K xs row best most ps).1, eok x) ∧ (sca LK K xs row best most ps).1.length ≤ 18)
  | [], row, best, most, ps, hb => by rw [sca_nil]; exact hb
  | x :: xs, row, best, most, ps, hb => by
    by_cases h0 : 0 < K x
    · cases hl : LK (row ++ [x]) with
      | none => rw [sca_n h0 (Or.inr hl)]; exact sca_ok hL xs _ _ _ _ hb
      | some e =>
        by_cases h1 : most < K x ∧ row.length < 3
        · rw [sca_y h0 h1.1 h1.2 hl]; exact sca_ok hL xs _ _ _ _ (hL _ _ hl)
        · rw [sca_n h0 (Or.inl h1)]; exact sca_ok hL xs _ _ _ _ hb
    · rw [sca_z h0]; exact hb
theorem stE_ok {LK : List Int → Option (List eL)} {K UB : Int → Int} (hL : ∀ row e, LK row = some e → (∀ x ∈ e, eok x) ∧ e.length ≤ 18) (hU : ∀ x, UB x = 64320 ∨ UB x = 64448) {rem : List Int} (hr : ptl rem) {es : List eL} {l9 : List Int} (x : stE LK K UB rem es l9) : (∀ x ∈ es, eok x) ∧ es.length ≤ 18 := by
  rcases x with ⟨lo, p, t, e1, e2, e3⟩ | ⟨n, e0, lo, e1⟩
  · subst e1; subst e2
    have hp := hr p List.mem_cons_self
    exact ⟨impE_ok (hU p) hp.1 hp.2, by show 2 ≤ 18; decide⟩
  · have := sca_ok (K := K) hL (rem.drop n) (rem.take n) e0 0 [] (hL _ _ (lon_ok lo).2.2.2)
    rw [← e1] at this; exact this
section EzKc
variable {d : Nat} {h : cz_H} {τ : Nat → Nat} {P Q : cz_F → Prop} {LK : List Int → Option (List eL)} {R : List (List Int × List eL)} {row rem : List Int} {el : eL} {W : List eL} {sh b : Bool} {K : Int → Int} {F : rz_W} {E : Int → Prop} {T : Int → Nat} {D : Int → xD} {O : Nat → Int}
/-- what a Collation writes leaves DATA alone -/
theorem kl_t {r : Nat} (hX : jz_X τ) (hr : r = 744 ∨ r = 749) {q : Nat} (hq : kl_P r q = true) : τ q = 1 ∨ τ q = 2 ∨ (10 ≤ τ q ∧ τ q ≤ 12) := by
  have k : r ≤ q ∧ q ≤ r + 4 := Classical.byContradiction fun w => by rw [kl_n (by omega)] at hq; cases hq
  have : q = 744 ∨ q = 745 ∨ q = 746 ∨ q = 747 ∨ q = 748 ∨ q = 749 ∨ q = 750 ∨ q = 751 ∨ q = 752 ∨ q = 753 := by omega
  rcases this with e | e | e | e | e | e | e | e | e | e <;> (subst e; rw [hX _ (by decide)]; decide)
def kC (τ : Nat → Nat) (h : cz_H) (T : Int → Nat) (F : rz_W) (E : Int → Prop) (O : Nat → Int) (D : Int → xD) (LK : List Int → Option (List eL)) (R : List (List Int × List eL)) : Prop := pz_C τ h T F E ∧ sz_X τ h O D ∧ cEr τ h LK R ∧ fD h T F ∧ cP h F E
theorem kC.k {g : cz_H} {P : Nat → Bool} (c : kC τ h T F E O D LK R) (hB : ez_B τ g) (f : ez_fr P h g) (hP : ∀ q, P q = true → τ q = 1 ∨ τ q = 2 ∨ (10 ≤ τ q ∧ τ q ≤ 12) ∨ (62 ≤ τ q ∧ τ q ≤ 64)) : kC τ g T F E O D LK R := by
  obtain ⟨c1, c2, c3, c4, c5⟩ := c
  have hX := c1.2.1
  have C : ∀ q, τ q ≠ 1 → τ q ≠ 2 → (τ q < 10 ∨ 12 < τ q) → (τ q < 62 ∨ 64 < τ q) → g.2.2 q = h.2.2 q := fun q a b c d => f.2.2 q (by
    cases e : P q with
    | false => rfl
    | true => have := hP q e; omega)
  have K : ∀ q, kD (τ q) = true → g.2.2 q = h.2.2 q := fun q hq => by
    have : ¬ (τ q = 1 ∨ τ q = 2 ∨ τ q = 10 ∨ τ q = 11 ∨ τ q = 12 ∨ τ q = 62 ∨ τ q = 63 ∨ τ q = 64) := fun w => by
      rcases w with e | e | e | e | e | e | e | e <;> (rw [e] at hq; cases hq)
    exact C q (by omega) (by omega) (by omega) (by omega)
  have cX : ∀ q, tz_ex q ≠ 0 → ((tz_ex q ≠ 1 ∧ tz_ex q ≠ 2) ∧ (tz_ex q < 10 ∨ 12 < tz_ex q) ∧ (tz_ex q < 62 ∨ 64 < tz_ex q)) → g.2.2 q = h.2.2 q := fun q a b => C q (by rw [hX q a]; exact b.1.1) (by rw [hX q a]; exact b.1.2) (by rw [hX q a]; exact b.2.1) (by rw [hX q a]; exact b.2.2)
  have t202 : τ 202 = 48 := hX 202 (by decide)
  have t203 : τ 203 = 49 := hX 203 (by decide)
  have t204 : τ 204 = 50 := hX 204 (by decide)
  have t205 : τ 205 = 51 := hX 205 (by decide)
  refine ⟨c1.keep hB K, sz_X_tr c1.1 t202 t203 c2 (by unfold qz_I; rw [K 202 (by rw [t202]; rfl)]) (K 203 (by rw [t203]; rfl)) (fun q hq => ⟨rfl, C q (by omega) (by omega) (by omega) (by omega)⟩) (fun _ _ => rfl), c3.tr (by unfold qz_I; rw [K 202 (by rw [t202]; rfl)]) (C 204 (by rw [t204]; decide) (by rw [t204]; decide) (by rw [t204]; decide) (by rw [t204]; decide)) (C 205 (by rw [t205]; decide) (by rw [t205]; decide) (by rw [t205]; decide) (by rw [t205]; decide)) (fun q hq => ⟨rfl, C q (by omega) (by omega) (by omega) (by omega)⟩), c4.keep c1 K (cX 723 (by decide) (by decide)) (cX 724 (by decide) (by decide)), c5.keep (cX 723 (by decide) (by decide)) (cX 727 (by decide) (by decide)) (cX 728 (by decide) (by decide))⟩
theorem rd_tkW_l {a0 ix bg : Int} {e : List eL} (hB : ez_B τ h) (hX : jz_X τ) (c : cEr τ h LK R) (cl : clr h 744) (cs : cts h 744 sh b W) (ix0 : 0 ≤ ix) (hi : R[ix.toNat]? = some (row, e)) (wl : W.length + 18 ≤ 36000) (k : ∀ g, ez_B τ g → ez_fr (nz_P2 744 748) h g → (∀ j, j ≠ 5 → j ≠ 7 → qz_I g 744 j = qz_I h 744 j) → cts g 744 sh (wtz sh b e) (W ++ wts sh b e) → Q (.inl (some (ez_v (.inl bg))), g)) : ez_W (d + 2) cm_90 157 [(0, .inr (.inr (some (744)))), (1, .inl (a0)), (2, .inl (ix)), (3, .inl (bg))] [] h Q := by
  have t202 : τ 202 = 48 := hX 202 (by decide)
  have t204 : τ 204 = 50 := hX 204 (by decide)
  have t205 : τ 205 = 51 := hX 205 (by decide)
  have tc : τ 744 = 10 := hX 744 (by decide)
  have tg1 : τ 745 = 1 := hX 745 (by decide)
  have tg2 : τ 746 = 2 := hX 746 (by decide)
  have tg3 : τ 747 = 11 := hX 747 (by decide)
  have tg4 : τ 748 = 12 := hX 748 (by decide)
  have il := (List.getElem?_eq_some_iff.mp hi).1
  have cn := c.1
  obtain ⟨rk, q4, en, lk⟩ := c.2.1 _ _ hi
  obtain ⟨z, w, x1, x2, x3, x4, x5, x6, x7, x8, x9, x10⟩ := id en
  have bn : 0 ≤ qz_I h 202 4 ∧ qz_I h 202 4 ≤ 256 := ez_fB (cl := 2) (k := 4) hB t202 tq_48 rfl rfl (by decide)
  refine ez_go (n := 1) (pc' := 158) (L' := [(0, .inr (.inr (some (744)))), (1, .inl (a0)), (2, .inl (ix)), (3, .inl (bg))]) (st' := [.inr (.inr (some (744)))]) rfl ?_
  refine ez_gC (p := 202) (tg := 48) hB tc rfl rfl tq_10 rfl rfl (fun (t202 : _ = 48) => ?_)
  refine ez_gC (p := 205) (tg := 51) hB t202 rfl rfl tq_48 rfl rfl (fun (t205 : _ = 51) => ?_)
  refine ez_go (n := 1) (pc' := 165) (L' := [(0, .inr (.inr (some (744)))), (1, .inl (a0)), (2, .inl (ix)), (3, .inl (bg))]) (st' := [.inl (ix), .inr (.inr (some (205)))]) rfl ?_
  have n2 : 256 ≤ qz_N h 205 ∧ qz_N h 205 ≤ 256 := ez_len hB t205 tq_51 rfl
  have y3 : 1 ≤ qz_I h 205 (ix).toNat := (by rw [x1]; omega)
  have y4 : 0 ≤ qz_I h 205 (ix).toNat ∧ qz_I h 205 (ix).toNat ≤ 1000000 := ez_aB hB t205 tq_51 rfl rfl (by decide) (by omega) (by omega)
  have y4' : ((qz_P h 205 (ix).toNat : Nat) : Int) + 1 = qz_I h 205 (ix).toNat := by unfold qz_P; omega
  refine ez_aR hB t205 rfl tq_51 rfl rfl (by omega) (by omega) (by omega) (fun (t1 : _ = 7) => ?_)
  rw [show qz_P h 205 (ix).toNat = z by unfold qz_P; rw [x1]; omega]
  refine ez_gR hB x2 rfl rfl tq_7 rfl rfl (fun (t5 : _ = 9) (t5' : 1 ≤ qz_I h z 1) => ?_)
  rw [show qz_P h z 1 = w by unfold qz_P; rw [x4]; omega]
  refine ez_go (n := 3) (pc' := 174) (L' := [(6, .inl (0)), (5, .inr (.inr (some (w)))), (0, .inr (.inr (some (744)))), (1, .inl (a0)), (2, .inl (ix)), (3, .inl (bg))]) (st' := []) rfl ?_
  refine ez_less [(6, .inl (0)), (5, .inr (.inr (some (w)))), (0, .inr (.inr (some (744)))), (1, .inl (a0)), (2, .inl (ix)), (3, .inl (bg))] rfl ⟨rfl, rfl, rfl, rfl, rfl, rfl, trivial⟩ ?_
  exact rd_tkE_l (h := h) (W := W) (b := b) hX cl x5 x6 x7 x8 (by have y : e.length ≤ 18 := x10; omega) k _ 0 h rfl (by omega) (by omega) hB (ez_fr.refl _ h) (fun _ _ _ => rfl) (by show cts h 744 sh (wtz sh b []) (W ++ wts sh b []); rw [show wts sh b [] = [] from rfl, List.append_nil]; exact cs)

theorem rd_takeE_l {at9 p : Int} {t : List Int} (hX : jz_X τ) (kc : kC τ h T F E O D LK R) (hK : ∀ x, (0 ≤ x ∧ x ≤ 1114111) → 0 ≤ K x ∧ K x ≤ 254) (cl : clr h 744) (cs : cts h 744 sh b W) (rs : rst h 744 K at9 (p :: t)) (wl : W.length + 18 ≤ 36000) (k : ∀ g v l9 es, ez_B τ g → ez_fr (kl_P 744) h g → clr g 744 → kC τ g T F E O D LK R → rst g 744 K v l9 → stE LK K (UBd D) (p :: t) es l9 → cts g 744 sh (wtz sh b es) (W ++ wts sh b es) → Q (.inl (some (ez_v (.inl v))), g)) : ez_W (d + 3) cm_90 0 [(0, .inr (.inr (some (744)))), (1, .inl (at9))] [] h Q := by
  have t202 : τ 202 = 48 := hX 202 (by decide)
  have t204 : τ 204 = 50 := hX 204 (by decide)
  have t205 : τ 205 = 51 := hX 205 (by decide)
  have tc : τ 744 = 10 := hX 744 (by decide)
  have tg1 : τ 745 = 1 := hX 745 (by decide)
  have tg2 : τ 746 = 2 := hX 746 (by decide)
  have tg3 : τ 747 = 11 := hX 747 (by decide)
  have tg4 : τ 748 = 12 := hX 748 (by decide)
  have hB := kc.1.1
  have pp := rs.1.2.2 p List.mem_cons_self
  have rl := rs.1.2.1
  have lc9 : (p :: t).length = t.length + 1 := List.length_cons
  have ra := rs.1.1
  refine ez_go (n := 2) (pc' := 2) (L' := [(0, .inr (.inr (some (744)))), (1, .inl (at9))]) (st' := [.inl (at9), .inr (.inr (some (744)))]) rfl ?_
  refine ez_cv hB tc rfl rfl rfl tq_10 rfl rfl rfl (rd_longest_l hB hX kc.2.2.1 cl rs (fun v n e lo v0 hi => ez_K1 ?_) (fun lo => ez_K1 ?_))
  · have ok := lon_ok lo
    have il := (List.getElem?_eq_some_iff.mp hi).1
    have cn := kc.2.2.1.1
    obtain ⟨rk, q4, en, lk⟩ := kc.2.2.1.2.1 _ _ hi
    obtain ⟨z, w, x1, x2, x3, x4, x5, x6, x7, x8, x9, x10⟩ := id en
    have bn : 0 ≤ qz_I h 202 4 ∧ qz_I h 202 4 ≤ 256 := ez_fB (cl := 2) (k := 4) hB t202 tq_48 rfl rfl (by decide)
    have tl : ((p :: t).take n).length = n := by rw [List.length_take]; omega
    have x3 : qz_I h z 0 = (n : Int) := by rw [x3]; show (((p :: t).take n).length : Int) = _; rw [tl]
    refine ez_go (n := 3) (pc' := 8) (L' := [(2, .inl (v)), (0, .inr (.inr (some (744)))), (1, .inl (at9))]) (st' := [.inl (-1), .inl (v)]) rfl ?_
    refine ez_icmp rfl rfl ⟨by first | omega | exact (sz_i32 _).1, by first | omega | exact (sz_i32 _).2⟩ ⟨by first | omega | exact (sz_i32 _).1, by first | omega | exact (sz_i32 _).2⟩ (fun (c1 : (v) ≠ (-1)) => ?_) (fun (c1 : ¬((v) ≠ (-1))) => ?_)
    · skip
      refine ez_go (n := 2) (pc' := 30) (L' := [(2, .inl (v)), (0, .inr (.inr (some (744)))), (1, .inl (at9))]) (st' := [.inr (.inr (some (744))), .inl (at9)]) rfl ?_
      refine ez_gC (p := 202) (tg := 48) hB tc rfl rfl tq_10 rfl rfl (fun (t202 : _ = 48) => ?_)
      refine ez_gC (p := 205) (tg := 51) hB t202 rfl rfl tq_48 rfl rfl (fun (t205 : _ = 51) => ?_)
      refine ez_go (n := 1) (pc' := 37) (L' := [(2, .inl (v)), (0, .inr (.inr (some (744)))), (1, .inl (at9))]) (st' := [.inl (v), .inr (.inr (some (205))), .inl (at9)]) rfl ?_
      have n3 : 256 ≤ qz_N h 205 ∧ qz_N h 205 ≤ 256 := ez_len hB t205 tq_51 rfl
      have y4 : 1 ≤ qz_I h 205 (v).toNat := (by rw [x1]; omega)
      have y5 : 0 ≤ qz_I h 205 (v).toNat ∧ qz_I h 205 (v).toNat ≤ 1000000 := ez_aB hB t205 tq_51 rfl rfl (by decide) (by omega) (by omega)
      have y5' : ((qz_P h 205 (v).toNat : Nat) : Int) + 1 = qz_I h 205 (v).toNat := by unfold qz_P; omega
      refine ez_aR hB t205 rfl tq_51 rfl rfl (by omega) (by omega) (by omega) (fun (t2 : _ = 7) => ?_)
      rw [show qz_P h 205 (v).toNat = z by unfold qz_P; rw [x1]; omega]
      refine ez_gI hB x2 rfl rfl tq_7 rfl rfl (fun (b6 : 0 ≤ qz_I h z 0) (b6' : qz_I h z 0 ≤ 3) => ?_)
      rw [x3]
      refine ez_go (n := 6) (pc' := 49) (L' := [(5, .inl ((at9) + ((n : Int)))), (4, .inl (0)), (3, .inl ((at9) + ((n : Int)))), (2, .inl (v)), (0, .inr (.inr (some (744)))), (1, .inl (at9))]) (st' := []) rfl ?_
      refine ez_less [(5, .inl (at9 + (n : Int))), (4, .inl (0)), (0, .inr (.inr (some (744)))), (1, .inl (at9)), (2, .inl (v)), (3, .inl (at9 + (n : Int)))] rfl ⟨rfl, rfl, rfl, rfl, rfl, rfl, trivial⟩ ?_
      refine rd_tkM_l (h := h) (K := K) (LK := LK) (R := R) (FF := sca LK K ((p :: t).drop n) ((p :: t).take n) e 0 []) hX hK (fun g3 row3 e3 ix3 bg3 B3 f3 cl3 c3 i3 hi3 o3 h43 l9 hF rs3 => ?_) ((p :: t).drop n) ((p :: t).take n) e 0 [] v (at9 + (n : Int)) (at9 + (n : Int)) h (by rw [List.length_nil]; omega) hB (ez_fr.refl _ h) cl kc.2.2.1 v0 hi (by rw [List.nil_append]; exact rst_drop rs ok.2.2.1) (by have := rs.1.1; omega) (fun _ => rfl) (fun _ => rfl) (by omega) rfl
      have cs3 : cts g3 744 sh b W := ⟨by rw [o3, o3, o3]; exact cs.1, fun j w hw => (h43 j).trans (cs.2 j w hw)⟩
      refine rd_tkW_l B3 hX c3 cl3 cs3 i3 hi3 wl (fun g4 B4 f4 o4 c4 => ?_)
      have fk := f3.trans (ez_fr_mono f4 (fun q hq => kl_2 (r := 744) (by omega) (by omega) hq))
      exact k g4 _ l9 e3 B4 fk (cl3.k (fun j a _ c => o4 j a c)) (kc.k B4 fk (fun q hq => by have := kl_t hX (Or.inl rfl) hq; omega)) (rs3.tr (f4.I rfl _) (fun j => f4.I rfl j) (fun j => f4.I rfl j)) (Or.inr ⟨n, e, lo, hF⟩) c4
    · exfalso; omega
  · skip
    refine ez_go (n := 3) (pc' := 8) (L' := [(2, .inl (-1)), (0, .inr (.inr (some (744)))), (1, .inl (at9))]) (st' := [.inl (-1), .inl (-1)]) rfl ?_
    refine ez_icmp rfl rfl ⟨by decide, by decide⟩ ⟨by decide, by decide⟩ (fun (c7 : (-1 : Int) ≠ (-1)) => absurd c7 (by decide)) (fun _ => ?_)
    refine ez_go (n := 2) (pc' := 13) (L' := [(2, .inl (-1)), (0, .inr (.inr (some (744)))), (1, .inl (at9))]) (st' := [.inr (.inr (some (744))), .inr (.inr (some (744)))]) rfl ?_
    refine ez_gR hB tc rfl rfl tq_10 rfl rfl (fun (t8 : _ = 1) (t8' : 1 ≤ qz_I h 744 2) => ?_)
    rw [show qz_P h 744 2 = 745 by unfold qz_P; rw [cl.1]; first | rfl | omega]
    refine ez_g3 hB tg1 rfl rfl tq_1 rfl rfl (fun (t9 : _ = 2) => ?_)
    refine ez_go (n := 1) (pc' := 20) (L' := [(2, .inl (-1)), (0, .inr (.inr (some (744)))), (1, .inl (at9))]) (st' := [.inl (at9), .inr (.inr (some (746))), .inr (.inr (some (744)))]) rfl ?_
    have n11 : 2000 ≤ qz_N h 746 ∧ qz_N h 746 ≤ 2000 := ez_len hB t9 tq_2 rfl
    refine ez_aI hB t9 rfl tq_2 rfl rfl (by omega) (by omega) (fun (b10 : -2147483648 ≤ qz_I h 746 (at9).toNat) (b10' : qz_I h 746 (at9).toNat ≤ 2147483647) => ?_)
    have e0 := (rs.2.2 0 p rfl).1
    rw [show qz_I h 746 (at9).toNat = p from e0]
    refine ez_cv hB tc rfl rfl rfl tq_10 rfl rfl rfl (rd_putI_l kc.1 kc.2.1 cl cs (by omega) pp.1 pp.2 (fun g2 B2 f2 o2 c2 => ez_K0 ?_))
    refine ez_go (n := 3) (pc' := 27) (L' := [(2, .inl (-1)), (0, .inr (.inr (some (744)))), (1, .inl (at9))]) (st' := [.inl ((at9) + (1))]) rfl ?_
    have fk := ez_fr_mono f2 (fun q hq => kl_2 (r := 744) (by omega) (by omega) hq)
    exact ez_retI rfl rfl (k g2 _ t (impE (UBd D) p) B2 fk (cl.k (fun j a _ c => o2 j a c)) (kc.k B2 fk (fun q hq => by have := kl_t hX (Or.inl rfl) hq; omega)) ((show rst h 744 K (at9 + 1) t from rst_drop (n := 1) rs (by rw [List.length_cons]; omega)).tr (f2.I rfl _) (fun j => f2.I rfl j) (fun j => f2.I rfl j)) (Or.inl ⟨lo, p, t, rfl, rfl, rfl⟩) c2)

theorem rd_tkW_r {a0 ix bg : Int} {e : List eL} (hB : ez_B τ h) (hX : jz_X τ) (c : cEr τ h LK R) (cl : clr h 749) (cs : cts h 749 sh b W) (ix0 : 0 ≤ ix) (hi : R[ix.toNat]? = some (row, e)) (wl : W.length + 18 ≤ 36000) (k : ∀ g, ez_B τ g → ez_fr (nz_P2 749 753) h g → (∀ j, j ≠ 5 → j ≠ 7 → qz_I g 749 j = qz_I h 749 j) → cts g 749 sh (wtz sh b e) (W ++ wts sh b e) → Q (.inl (some (ez_v (.inl bg))), g)) : ez_W (d + 2) cm_90 157 [(0, .inr (.inr (some (749)))), (1, .inl (a0)), (2, .inl (ix)), (3, .inl (bg))] [] h Q := by
  have t202 : τ 202 = 48 := hX 202 (by decide)
  have t204 : τ 204 = 50 := hX 204 (by decide)
  have t205 : τ 205 = 51 := hX 205 (by decide)
  have tc : τ 749 = 10 := hX 749 (by decide)
  have tg1 : τ 750 = 1 := hX 750 (by decide)
  have tg2 : τ 751 = 2 := hX 751 (by decide)
  have tg3 : τ 752 = 11 := hX 752 (by decide)
  have tg4 : τ 753 = 12 := hX 753 (by decide)
  have il := (List.getElem?_eq_some_iff.mp hi).1
  have cn := c.1
  obtain ⟨rk, q4, en, lk⟩ := c.2.1 _ _ hi
  obtain ⟨z, w, x1, x2, x3, x4, x5, x6, x7, x8, x9, x10⟩ := id en
  have bn : 0 ≤ qz_I h 202 4 ∧ qz_I h 202 4 ≤ 256 := ez_fB (cl := 2) (k := 4) hB t202 tq_48 rfl rfl (by decide)
  refine ez_go (n := 1) (pc' := 158) (L' := [(0, .inr (.inr (some (749)))), (1, .inl (a0)), (2, .inl (ix)), (3, .inl (bg))]) (st' := [.inr (.inr (some (749)))]) rfl ?_
  refine ez_gC (p := 202) (tg := 48) hB tc rfl rfl tq_10 rfl rfl (fun (t202 : _ = 48) => ?_)
  refine ez_gC (p := 205) (tg := 51) hB t202 rfl rfl tq_48 rfl rfl (fun (t205 : _ = 51) => ?_)
  refine ez_go (n := 1) (pc' := 165) (L' := [(0, .inr (.inr (some (749)))), (1, .inl (a0)), (2, .inl (ix)), (3, .inl (bg))]) (st' := [.inl (ix), .inr (.inr (some (205)))]) rfl ?_
  have n2 : 256 ≤ qz_N h 205 ∧ qz_N h 205 ≤ 256 := ez_len hB t205 tq_51 rfl
  have y3 : 1 ≤ qz_I h 205 (ix).toNat := (by rw [x1]; omega)
  have y4 : 0 ≤ qz_I h 205 (ix).toNat ∧ qz_I h 205 (ix).toNat ≤ 1000000 := ez_aB hB t205 tq_51 rfl rfl (by decide) (by omega) (by omega)
  have y4' : ((qz_P h 205 (ix).toNat : Nat) : Int) + 1 = qz_I h 205 (ix).toNat := by unfold qz_P; omega
  refine ez_aR hB t205 rfl tq_51 rfl rfl (by omega) (by omega) (by omega) (fun (t1 : _ = 7) => ?_)
  rw [show qz_P h 205 (ix).toNat = z by unfold qz_P; rw [x1]; omega]
  refine ez_gR hB x2 rfl rfl tq_7 rfl rfl (fun (t5 : _ = 9) (t5' : 1 ≤ qz_I h z 1) => ?_)
  rw [show qz_P h z 1 = w by unfold qz_P; rw [x4]; omega]
  refine ez_go (n := 3) (pc' := 174) (L' := [(6, .inl (0)), (5, .inr (.inr (some (w)))), (0, .inr (.inr (some (749)))), (1, .inl (a0)), (2, .inl (ix)), (3, .inl (bg))]) (st' := []) rfl ?_
  refine ez_less [(6, .inl (0)), (5, .inr (.inr (some (w)))), (0, .inr (.inr (some (749)))), (1, .inl (a0)), (2, .inl (ix)), (3, .inl (bg))] rfl ⟨rfl, rfl, rfl, rfl, rfl, rfl, trivial⟩ ?_
  exact rd_tkE_r (h := h) (W := W) (b := b) hX cl x5 x6 x7 x8 (by have y : e.length ≤ 18 := x10; omega) k _ 0 h rfl (by omega) (by omega) hB (ez_fr.refl _ h) (fun _ _ _ => rfl) (by show cts h 749 sh (wtz sh b []) (W ++ wts sh b []); rw [show wts sh b [] = [] from rfl, List.append_nil]; exact cs)

theorem rd_takeE_r {at9 p : Int} {t : List Int} (hX : jz_X τ) (kc : kC τ h T F E O D LK R) (hK : ∀ x, (0 ≤ x ∧ x ≤ 1114111) → 0 ≤ K x ∧ K x ≤ 254) (cl : clr h 749) (cs : cts h 749 sh b W) (rs : rst h 749 K at9 (p :: t)) (wl : W.length + 18 ≤ 36000) (k : ∀ g v l9 es, ez_B τ g → ez_fr (kl_P 749) h g → clr g 749 → kC τ g T F E O D LK R → rst g 749 K v l9 → stE LK K (UBd D) (p :: t) es l9 → cts g 749 sh (wtz sh b es) (W ++ wts sh b es) → Q (.inl (some (ez_v (.inl v))), g)) : ez_W (d + 3) cm_90 0 [(0, .inr (.inr (some (749)))), (1, .inl (at9))] [] h Q := by
  have t202 : τ 202 = 48 := hX 202 (by decide)
  have t204 : τ 204 = 50 := hX 204 (by decide)
  have t205 : τ 205 = 51 := hX 205 (by decide)
  have tc : τ 749 = 10 := hX 749 (by decide)
  have tg1 : τ 750 = 1 := hX 750 (by decide)
  have tg2 : τ 751 = 2 := hX 751 (by decide)
  have tg3 : τ 752 = 11 := hX 752 (by decide)
  have tg4 : τ 753 = 12 := hX 753 (by decide)
  have hB := kc.1.1
  have pp := rs.1.2.2 p List.mem_cons_self
  have rl := rs.1.2.1
  have lc9 : (p :: t).length = t.length + 1 := List.length_cons
  have ra := rs.1.1
  refine ez_go (n := 2) (pc' := 2) (L' := [(0, .inr (.inr (some (749)))), (1, .inl (at9))]) (st' := [.inl (at9), .inr (.inr (some (749)))]) rfl ?_
  refine ez_cv hB tc rfl rfl rfl tq_10 rfl rfl rfl (rd_longest_r hB hX kc.2.2.1 cl rs (fun v n e lo v0 hi => ez_K1 ?_) (fun lo => ez_K1 ?_))
  · have ok := lon_ok lo
    have il := (List.getElem?_eq_some_iff.mp hi).1
    have cn := kc.2.2.1.1
    obtain ⟨rk, q4, en, lk⟩ := kc.2.2.1.2.1 _ _ hi
    obtain ⟨z, w, x1, x2, x3, x4, x5, x6, x7, x8, x9, x10⟩ := id en
    have bn : 0 ≤ qz_I h 202 4 ∧ qz_I h 202 4 ≤ 256 := ez_fB (cl := 2) (k := 4) hB t202 tq_48 rfl rfl (by decide)
    have tl : ((p :: t).take n).length = n := by rw [List.length_take]; omega
    have x3 : qz_I h z 0 = (n : Int) := by rw [x3]; show (((p :: t).take n).length : Int) = _; rw [tl]
    refine ez_go (n := 3) (pc' := 8) (L' := [(2, .inl (v)), (0, .inr (.inr (some (749)))), (1, .inl (at9))]) (st' := [.inl (-1), .inl (v)]) rfl ?_
    refine ez_icmp rfl rfl ⟨by first | omega | exact (sz_i32 _).1, by first | omega | exact (sz_i32 _).2⟩ ⟨by first | omega | exact (sz_i32 _).1, by first | omega | exact (sz_i32 _).2⟩ (fun (c1 : (v) ≠ (-1)) => ?_) (fun (c1 : ¬((v) ≠ (-1))) => ?_)
    · skip
      refine ez_go (n := 2) (pc' := 30) (L' := [(2, .inl (v)), (0, .inr (.inr (some (749)))), (1, .inl (at9))]) (st' := [.inr (.inr (some (749))), .inl (at9)]) rfl ?_
      refine ez_gC (p := 202) (tg := 48) hB tc rfl rfl tq_10 rfl rfl (fun (t202 : _ = 48) => ?_)
      refine ez_gC (p := 205) (tg := 51) hB t202 rfl rfl tq_48 rfl rfl (fun (t205 : _ = 51) => ?_)
      refine ez_go (n := 1) (pc' := 37) (L' := [(2, .inl (v)), (0, .inr (.inr (some (749)))), (1, .inl (at9))]) (st' := [.inl (v), .inr (.inr (some (205))), .inl (at9)]) rfl ?_
      have n3 : 256 ≤ qz_N h 205 ∧ qz_N h 205 ≤ 256 := ez_len hB t205 tq_51 rfl
      have y4 : 1 ≤ qz_I h 205 (v).toNat := (by rw [x1]; omega)
      have y5 : 0 ≤ qz_I h 205 (v).toNat ∧ qz_I h 205 (v).toNat ≤ 1000000 := ez_aB hB t205 tq_51 rfl rfl (by decide) (by omega) (by omega)
      have y5' : ((qz_P h 205 (v).toNat : Nat) : Int) + 1 = qz_I h 205 (v).toNat := by unfold qz_P; omega
      refine ez_aR hB t205 rfl tq_51 rfl rfl (by omega) (by omega) (by omega) (fun (t2 : _ = 7) => ?_)
      rw [show qz_P h 205 (v).toNat = z by unfold qz_P; rw [x1]; omega]
      refine ez_gI hB x2 rfl rfl tq_7 rfl rfl (fun (b6 : 0 ≤ qz_I h z 0) (b6' : qz_I h z 0 ≤ 3) => ?_)
      rw [x3]
      refine ez_go (n := 6) (pc' := 49) (L' := [(5, .inl ((at9) + ((n : Int)))), (4, .inl (0)), (3, .inl ((at9) + ((n : Int)))), (2, .inl (v)), (0, .inr (.inr (some (749)))), (1, .inl (at9))]) (st' := []) rfl ?_
      refine ez_less [(5, .inl (at9 + (n : Int))), (4, .inl (0)), (0, .inr (.inr (some (749)))), (1, .inl (at9)), (2, .inl (v)), (3, .inl (at9 + (n : Int)))] rfl ⟨rfl, rfl, rfl, rfl, rfl, rfl, trivial⟩ ?_
      refine rd_tkM_r (h := h) (K := K) (LK := LK) (R := R) (FF := sca LK K ((p :: t).drop n) ((p :: t).take n) e 0 []) hX hK (fun g3 row3 e3 ix3 bg3 B3 f3 cl3 c3 i3 hi3 o3 h43 l9 hF rs3 => ?_) ((p :: t).drop n) ((p :: t).take n) e 0 [] v (at9 + (n : Int)) (at9 + (n : Int)) h (by rw [List.length_nil]; omega) hB (ez_fr.refl _ h) cl kc.2.2.1 v0 hi (by rw [List.nil_append]; exact rst_drop rs ok.2.2.1) (by have := rs.1.1; omega) (fun _ => rfl) (fun _ => rfl) (by omega) rfl
      have cs3 : cts g3 749 sh b W := ⟨by rw [o3, o3, o3]; exact cs.1, fun j w hw => (h43 j).trans (cs.2 j w hw)⟩
      refine rd_tkW_r B3 hX c3 cl3 cs3 i3 hi3 wl (fun g4 B4 f4 o4 c4 => ?_)
      have fk := f3.trans (ez_fr_mono f4 (fun q hq => kl_2 (r := 749) (by omega) (by omega) hq))
      exact k g4 _ l9 e3 B4 fk (cl3.k (fun j a _ c => o4 j a c)) (kc.k B4 fk (fun q hq => by have := kl_t hX (Or.inr rfl) hq; omega)) (rs3.tr (f4.I rfl _) (fun j => f4.I rfl j) (fun j => f4.I rfl j)) (Or.inr ⟨n, e, lo, hF⟩) c4
    · exfalso; omega
  · skip
    refine ez_go (n := 3) (pc' := 8) (L' := [(2, .inl (-1)), (0, .inr (.inr (some (749)))), (1, .inl (at9))]) (st' := [.inl (-1), .inl (-1)]) rfl ?_
    refine ez_icmp rfl rfl ⟨by decide, by decide⟩ ⟨by decide, by decide⟩ (fun (c7 : (-1 : Int) ≠ (-1)) => absurd c7 (by decide)) (fun _ => ?_)
    refine ez_go (n := 2) (pc' := 13) (L' := [(2, .inl (-1)), (0, .inr (.inr (some (749)))), (1, .inl (at9))]) (st' := [.inr (.inr (some (749))), .inr (.inr (some (749)))]) rfl ?_
    refine ez_gR hB tc rfl rfl tq_10 rfl rfl (fun (t8 : _ = 1) (t8' : 1 ≤ qz_I h 749 2) => ?_)
    rw [show qz_P h 749 2 = 750 by unfold qz_P; rw [cl.1]; first | rfl | omega]
    refine ez_g3 hB tg1 rfl rfl tq_1 rfl rfl (fun (t9 : _ = 2) => ?_)
    refine ez_go (n := 1) (pc' := 20) (L' := [(2, .inl (-1)), (0, .inr (.inr (some (749)))), (1, .inl (at9))]) (st' := [.inl (at9), .inr (.inr (some (751))), .inr (.inr (some (749)))]) rfl ?_
    have n11 : 2000 ≤ qz_N h 751 ∧ qz_N h 751 ≤ 2000 := ez_len hB t9 tq_2 rfl
    refine ez_aI hB t9 rfl tq_2 rfl rfl (by omega) (by omega) (fun (b10 : -2147483648 ≤ qz_I h 751 (at9).toNat) (b10' : qz_I h 751 (at9).toNat ≤ 2147483647) => ?_)
    have e0 := (rs.2.2 0 p rfl).1
    rw [show qz_I h 751 (at9).toNat = p from e0]
    refine ez_cv hB tc rfl rfl rfl tq_10 rfl rfl rfl (rd_putI_r kc.1 kc.2.1 cl cs (by omega) pp.1 pp.2 (fun g2 B2 f2 o2 c2 => ez_K0 ?_))
    refine ez_go (n := 3) (pc' := 27) (L' := [(2, .inl (-1)), (0, .inr (.inr (some (749)))), (1, .inl (at9))]) (st' := [.inl ((at9) + (1))]) rfl ?_
    have fk := ez_fr_mono f2 (fun q hq => kl_2 (r := 749) (by omega) (by omega) hq)
    exact ez_retI rfl rfl (k g2 _ t (impE (UBd D) p) B2 fk (cl.k (fun j a _ c => o2 j a c)) (kc.k B2 fk (fun q hq => by have := kl_t hX (Or.inr rfl) hq; omega)) ((show rst h 749 K (at9 + 1) t from rst_drop (n := 1) rs (by rw [List.length_cons]; omega)).tr (f2.I rfl _) (fun j => f2.I rfl j) (fun j => f2.I rfl j)) (Or.inl ⟨lo, p, t, rfl, rfl, rfl⟩) c2)

end EzKc

/-! COLLATION: the class, build. (Written by wip/p2/py/pvk5.py.) -/
/-- what build writes -/
def kb_P (r z : Nat) : Bool := kl_P r z || (Nat.ble 730 z && Nat.ble z 732)
theorem kb_l {r z : Nat} (h : kl_P r z = true) : kb_P r z = true := by unfold kb_P; rw [h]; rfl
theorem kb_y {r z : Nat} (h1 : 730 ≤ z) (h2 : z ≤ 732) : kb_P r z = true := by unfold kb_P; rw [Nat.ble_eq_true_of_le h1, Nat.ble_eq_true_of_le h2]; exact Bool.or_true _
theorem kb_n {r z : Nat} (h : z < r ∨ r + 4 < z) (h2 : z < 730 ∨ 732 < z) : kb_P r z = false := by
  cases e : kb_P r z with
  | false => rfl
  | true =>
    exfalso
    rcases Bool.or_eq_true_iff.mp e with w | w
    · rw [kl_n h] at w; cases w
    · obtain ⟨a, c⟩ := Bool.and_eq_true_iff.mp w
      have := Nat.le_of_ble_eq_true a; have := Nat.le_of_ble_eq_true c; omega
theorem kb_co {r z : Nat} (h : co_P (r + 1) z = true) : kb_P r z = true := by
  by_cases e1 : z = r + 1
  · exact kb_l (kl_y (by omega) (by omega))
  · by_cases e2 : z = r + 1 + 1
    · exact kb_l (kl_y (by omega) (by omega))
    · have : 730 ≤ z ∧ z ≤ 732 := Classical.byContradiction fun w => by rw [co_Pn e1 e2 (by omega)] at h; cases h
      exact kb_y this.1 this.2
section EzKd
variable {d : Nat} {h : cz_H} {τ : Nat → Nat} {P Q : cz_F → Prop} {LK : List Int → Option (List eL)} {R : List (List Int × List eL)} {row rem u : List Int} {el : eL} {W : List eL} {sh b : Bool} {F : rz_W} {E : Int → Prop} {T : Int → Nat} {D : Int → xD} {O : Nat → Int} {q : Nat}
theorem kb_t {r : Nat} (hX : jz_X τ) (hr : r = 744 ∨ r = 749) {q : Nat} (hq : kb_P r q = true) : τ q = 1 ∨ τ q = 2 ∨ (10 ≤ τ q ∧ τ q ≤ 12) ∨ (62 ≤ τ q ∧ τ q ≤ 64) := by
  rcases Bool.or_eq_true_iff.mp hq with w | w
  · have := kl_t hX hr w; omega
  · obtain ⟨a, c⟩ := Bool.and_eq_true_iff.mp w
    have a := Nat.le_of_ble_eq_true a
    have c := Nat.le_of_ble_eq_true c
    have : q = 730 ∨ q = 731 ∨ q = 732 := by omega
    rcases this with e | e | e <;> (subst e; rw [hX _ (by decide)]; decide)
theorem rd_bld_l {s9 : Int} {tot : List eL} (hX : jz_X τ) (tq : τ q = 88) (hK : ∀ x, (0 ≤ x ∧ x ≤ 1114111) → 0 ≤ (F x).1 ∧ (F x).1 ≤ 254) (hL : ∀ row e, LK row = some e → (∀ x ∈ e, eok x) ∧ e.length ≤ 18) (k : ∀ g, ez_B τ g → ez_fr (kl_P 744) h g → clr g 744 → (∃ b, cts g 744 sh b tot) → Q (.inl (some (ez_v (.inl 1))), g)) : ∀ (m : Nat) (tn at9 : Int) (g : cz_H) (rem : List Int) (W : List eL) (b : Bool), rem.length ≤ m ∧ (0 ≤ tn ∧ tn + (m : Int) = 2000) → ez_B τ g → ez_fr (kl_P 744) h g → clr g 744 → kC τ g T F E O D LK R → rst g 744 (fun x => (F x).1) at9 rem → cts g 744 sh b W → W.length + 18 * rem.length ≤ 36000 → tot = W ++ wts sh b (els LK (fun x => (F x).1) (UBd D) m rem) → ez_W (d + 4) cm_79 79 [(4, .inl (tn)), (3, .inl (at9)), (0, .inr (.inr (some (744)))), (1, .inr (.inr (some (q)))), (2, .inl (s9))] [] g Q := by
  have t202 : τ 202 = 48 := hX 202 (by decide)
  have t204 : τ 204 = 50 := hX 204 (by decide)
  have t205 : τ 205 = 51 := hX 205 (by decide)
  have tc : τ 744 = 10 := hX 744 (by decide)
  have tg1 : τ 745 = 1 := hX 745 (by decide)
  have tg2 : τ 746 = 2 := hX 746 (by decide)
  have tg3 : τ 747 = 11 := hX 747 (by decide)
  have tg4 : τ 748 = 12 := hX 748 (by decide)
  intro m
  induction m with
  | zero =>
    intro tn at9 g rem W b hm hBg hf clg kcg rs cs wl hF
    have ra := rs.1.1; have rb := rs.1.2.1
    refine ez_go (n := 2) (pc' := 84) (L' := [(4, .inl (tn)), (3, .inl (at9)), (0, .inr (.inr (some (744)))), (1, .inr (.inr (some (q)))), (2, .inl (s9))]) (st' := [.inl (2000), .inl (tn)]) rfl ?_
    refine ez_icmp rfl rfl ⟨by first | omega | exact (sz_i32 _).1, by first | omega | exact (sz_i32 _).2⟩ ⟨by first | omega | exact (sz_i32 _).1, by first | omega | exact (sz_i32 _).2⟩ (fun (c1 : (2000) ≤ (tn)) => ?_) (fun (c1 : ¬((2000) ≤ (tn))) => ?_)
    · skip
      refine ez_go (n := 1) (pc' := 111) (L' := [(4, .inl (tn)), (3, .inl (at9)), (0, .inr (.inr (some (744)))), (1, .inr (.inr (some (q)))), (2, .inl (s9))]) (st' := [.inl (1)]) rfl ?_
      have e0 : rem = [] := List.length_eq_zero_iff.mp (by omega)
      subst e0
      rw [els_0, show wts sh b [] = [] from rfl, List.append_nil] at hF
      rw [← hF] at cs
      exact ez_retZ rfl rfl (Or.inr rfl) (k g hBg hf clg ⟨_, cs⟩)
    · skip
      refine ez_go (n := 2) (pc' := 89) (L' := [(4, .inl (tn)), (3, .inl (at9)), (0, .inr (.inr (some (744)))), (1, .inr (.inr (some (q)))), (2, .inl (s9))]) (st' := [.inr (.inr (some (744))), .inl (at9)]) rfl ?_
      refine ez_gR hBg tc rfl rfl tq_10 rfl rfl (fun (t2 : _ = 1) (t2' : 1 ≤ qz_I g 744 2) => ?_)
      rw [show qz_P g 744 2 = 745 by unfold qz_P; rw [clg.1]; first | rfl | omega]
      refine ez_gI hBg tg1 rfl rfl tq_1 rfl rfl (fun (b3 : 0 ≤ qz_I g 745 1) (b3' : qz_I g 745 1 ≤ 2000) => ?_)
      rw [rs.2.1]
      refine ez_icmp rfl rfl ⟨by first | omega | exact (sz_i32 _).1, by first | omega | exact (sz_i32 _).2⟩ ⟨by first | omega | exact (sz_i32 _).1, by first | omega | exact (sz_i32 _).2⟩ (fun (c4 : (at9 + (rem.length : Int)) ≤ (at9)) => ?_) (fun (c4 : ¬((at9 + (rem.length : Int)) ≤ (at9))) => ?_)
      · skip
        refine ez_go (n := 1) (pc' := 111) (L' := [(4, .inl (tn)), (3, .inl (at9)), (0, .inr (.inr (some (744)))), (1, .inr (.inr (some (q)))), (2, .inl (s9))]) (st' := [.inl (1)]) rfl ?_
        have e0 : rem = [] := List.length_eq_zero_iff.mp (by omega)
        subst e0
        rw [els_0, show wts sh b [] = [] from rfl, List.append_nil] at hF
        rw [← hF] at cs
        exact ez_retZ rfl rfl (Or.inr rfl) (k g hBg hf clg ⟨_, cs⟩)
      · skip
        refine ez_go (n := 2) (pc' := 100) (L' := [(4, .inl (tn)), (3, .inl (at9)), (0, .inr (.inr (some (744)))), (1, .inr (.inr (some (q)))), (2, .inl (s9))]) (st' := [.inl (at9), .inr (.inr (some (744)))]) rfl ?_
        obtain ⟨p, t, er⟩ : ∃ p t, rem = p :: t := by match rem, (show 0 < rem.length by omega) with | p :: t, _ => exact ⟨p, t, rfl⟩
        subst er
        refine ez_cv hBg tc rfl rfl rfl tq_10 rfl rfl rfl (rd_takeE_l hX kcg hK clg cs rs (by rw [List.length_cons] at wl; omega) (fun g2 v l9 es B2 f2 cl2 kc2 rs2 st2 c2 => ez_K1 ?_))
        refine ez_go (n := 3) (pc' := 79) (L' := [(4, .inl (tn + 1)), (3, .inl (v)), (0, .inr (.inr (some (744)))), (1, .inr (.inr (some (q)))), (2, .inl (s9))]) (st' := []) rfl ?_
        exfalso; omega
  | succ m ih =>
    intro tn at9 g rem W b hm hBg hf clg kcg rs cs wl hF
    have ra := rs.1.1; have rb := rs.1.2.1
    refine ez_go (n := 2) (pc' := 84) (L' := [(4, .inl (tn)), (3, .inl (at9)), (0, .inr (.inr (some (744)))), (1, .inr (.inr (some (q)))), (2, .inl (s9))]) (st' := [.inl (2000), .inl (tn)]) rfl ?_
    refine ez_icmp rfl rfl ⟨by first | omega | exact (sz_i32 _).1, by first | omega | exact (sz_i32 _).2⟩ ⟨by first | omega | exact (sz_i32 _).1, by first | omega | exact (sz_i32 _).2⟩ (fun (c1 : (2000) ≤ (tn)) => ?_) (fun (c1 : ¬((2000) ≤ (tn))) => ?_)
    · skip
      refine ez_go (n := 1) (pc' := 111) (L' := [(4, .inl (tn)), (3, .inl (at9)), (0, .inr (.inr (some (744)))), (1, .inr (.inr (some (q)))), (2, .inl (s9))]) (st' := [.inl (1)]) rfl ?_
      have e0 : rem = [] := List.length_eq_zero_iff.mp (by omega)
      subst e0
      rw [els_0, show wts sh b [] = [] from rfl, List.append_nil] at hF
      rw [← hF] at cs
      exact ez_retZ rfl rfl (Or.inr rfl) (k g hBg hf clg ⟨_, cs⟩)
    · skip
      refine ez_go (n := 2) (pc' := 89) (L' := [(4, .inl (tn)), (3, .inl (at9)), (0, .inr (.inr (some (744)))), (1, .inr (.inr (some (q)))), (2, .inl (s9))]) (st' := [.inr (.inr (some (744))), .inl (at9)]) rfl ?_
      refine ez_gR hBg tc rfl rfl tq_10 rfl rfl (fun (t2 : _ = 1) (t2' : 1 ≤ qz_I g 744 2) => ?_)
      rw [show qz_P g 744 2 = 745 by unfold qz_P; rw [clg.1]; first | rfl | omega]
      refine ez_gI hBg tg1 rfl rfl tq_1 rfl rfl (fun (b3 : 0 ≤ qz_I g 745 1) (b3' : qz_I g 745 1 ≤ 2000) => ?_)
      rw [rs.2.1]
      refine ez_icmp rfl rfl ⟨by first | omega | exact (sz_i32 _).1, by first | omega | exact (sz_i32 _).2⟩ ⟨by first | omega | exact (sz_i32 _).1, by first | omega | exact (sz_i32 _).2⟩ (fun (c4 : (at9 + (rem.length : Int)) ≤ (at9)) => ?_) (fun (c4 : ¬((at9 + (rem.length : Int)) ≤ (at9))) => ?_)
      · skip
        refine ez_go (n := 1) (pc' := 111) (L' := [(4, .inl (tn)), (3, .inl (at9)), (0, .inr (.inr (some (744)))), (1, .inr (.inr (some (q)))), (2, .inl (s9))]) (st' := [.inl (1)]) rfl ?_
        have e0 : rem = [] := List.length_eq_zero_iff.mp (by omega)
        subst e0
        rw [els_0, show wts sh b [] = [] from rfl, List.append_nil] at hF
        rw [← hF] at cs
        exact ez_retZ rfl rfl (Or.inr rfl) (k g hBg hf clg ⟨_, cs⟩)
      · skip
        refine ez_go (n := 2) (pc' := 100) (L' := [(4, .inl (tn)), (3, .inl (at9)), (0, .inr (.inr (some (744)))), (1, .inr (.inr (some (q)))), (2, .inl (s9))]) (st' := [.inl (at9), .inr (.inr (some (744)))]) rfl ?_
        obtain ⟨p, t, er⟩ : ∃ p t, rem = p :: t := by match rem, (show 0 < rem.length by omega) with | p :: t, _ => exact ⟨p, t, rfl⟩
        subst er
        refine ez_cv hBg tc rfl rfl rfl tq_10 rfl rfl rfl (rd_takeE_l hX kcg hK clg cs rs (by rw [List.length_cons] at wl; omega) (fun g2 v l9 es B2 f2 cl2 kc2 rs2 st2 c2 => ez_K1 ?_))
        refine ez_go (n := 3) (pc' := 79) (L' := [(4, .inl (tn + 1)), (3, .inl (v)), (0, .inr (.inr (some (744)))), (1, .inr (.inr (some (q)))), (2, .inl (s9))]) (st' := []) rfl ?_
        refine ez_less [(4, .inl (tn + 1)), (3, .inl (v)), (0, .inr (.inr (some (744)))), (1, .inr (.inr (some (q)))), (2, .inl (s9))] rfl ⟨rfl, rfl, rfl, rfl, rfl, trivial⟩ ?_
        have se := stE_els st2 m
        have so := stE_ok hL (UBd_bd D) rs.1.2.2 st2
        rw [List.length_cons] at wl
        refine ih (tn + 1) v g2 l9 (W ++ wts sh b es) _ (by have := se.2; rw [List.length_cons] at this; omega) B2 (hf.trans f2) cl2 kc2 rs2 c2 (by rw [List.length_append, wts_len]; have := se.2; rw [List.length_cons] at this; omega) ?_
        rw [hF, se.1, wts_app, List.append_assoc]

theorem rd_bcl_l {s9 : Int} (hX : jz_X τ) (tq : τ q = 88) (kc : kC τ h T F E O D LK R) (hK : ∀ x, (0 ≤ x ∧ x ≤ 1114111) → 0 ≤ (F x).1 ∧ (F x).1 ≤ 254) (cl : clr h 744) (a : tx h 745 rem) (pl : ptl rem) (l2 : rem.length ≤ 2000) (kx : ∀ g, ez_B τ g → ez_fr (ez_one 747) h g → (∀ (j : Nat) v, rem[j]? = some v → qz_I g 747 j = (F v).1) → ez_W (d + 4) cm_79 74 [(0, .inr (.inr (some (744)))), (1, .inr (.inr (some (q)))), (2, .inl (s9))] [] g Q) : ∀ (n : Nat) (i : Int) (g : cz_H), n = ((rem.length : Int) - i).toNat → 0 ≤ i → i ≤ (rem.length : Int) → ez_B τ g → ez_fr (ez_one 747) h g → (∀ (j : Nat) v, j < i.toNat → rem[j]? = some v → qz_I g 747 j = (F v).1) → ez_W (d + 4) cm_79 35 [(3, .inl (i)), (0, .inr (.inr (some (744)))), (1, .inr (.inr (some (q)))), (2, .inl (s9))] [] g Q := by
  have t202 : τ 202 = 48 := hX 202 (by decide)
  have t204 : τ 204 = 50 := hX 204 (by decide)
  have t205 : τ 205 = 51 := hX 205 (by decide)
  have tc : τ 744 = 10 := hX 744 (by decide)
  have tg1 : τ 745 = 1 := hX 745 (by decide)
  have tg2 : τ 746 = 2 := hX 746 (by decide)
  have tg3 : τ 747 = 11 := hX 747 (by decide)
  have tg4 : τ 748 = 12 := hX 748 (by decide)
  intro n
  induction n with
  | zero =>
    intro i g hn0 i0 i1 hBg hf hv9
    have clg : clr g 744 := ⟨(hf.I rfl _).trans cl.1, (hf.I rfl _).trans cl.2.1, (hf.I rfl _).trans cl.2.2⟩
    refine ez_go (n := 2) (pc' := 37) (L' := [(3, .inl (i)), (0, .inr (.inr (some (744)))), (1, .inr (.inr (some (q)))), (2, .inl (s9))]) (st' := [.inr (.inr (some (744))), .inl (i)]) rfl ?_
    refine ez_gR hBg tc rfl rfl tq_10 rfl rfl (fun (t1 : _ = 1) (t1' : 1 ≤ qz_I g 744 2) => ?_)
    rw [show qz_P g 744 2 = 745 by unfold qz_P; rw [clg.1]; first | rfl | omega]
    refine ez_gI hBg tg1 rfl rfl tq_1 rfl rfl (fun (b2 : 0 ≤ qz_I g 745 1) (b2' : qz_I g 745 1 ≤ 2000) => ?_)
    rw [show qz_I g 745 1 = (rem.length : Int) from (hf.I rfl _).trans a.1]
    refine ez_icmp rfl rfl ⟨by first | omega | exact (sz_i32 _).1, by first | omega | exact (sz_i32 _).2⟩ ⟨by first | omega | exact (sz_i32 _).1, by first | omega | exact (sz_i32 _).2⟩ (fun (c3 : ((rem.length : Int)) ≤ (i)) => ?_) (fun (c3 : ¬(((rem.length : Int)) ≤ (i))) => ?_)
    · skip
      refine ez_less [(0, .inr (.inr (some (744)))), (1, .inr (.inr (some (q)))), (2, .inl (s9))] rfl ⟨rfl, rfl, rfl, trivial⟩ ?_
      exact kx g hBg hf (fun j v hv => hv9 j v (by have := (List.getElem?_eq_some_iff.mp hv).1; omega) hv)
    · exfalso; omega
  | succ n ih =>
    intro i g hn0 i0 i1 hBg hf hv9
    have clg : clr g 744 := ⟨(hf.I rfl _).trans cl.1, (hf.I rfl _).trans cl.2.1, (hf.I rfl _).trans cl.2.2⟩
    refine ez_go (n := 2) (pc' := 37) (L' := [(3, .inl (i)), (0, .inr (.inr (some (744)))), (1, .inr (.inr (some (q)))), (2, .inl (s9))]) (st' := [.inr (.inr (some (744))), .inl (i)]) rfl ?_
    refine ez_gR hBg tc rfl rfl tq_10 rfl rfl (fun (t1 : _ = 1) (t1' : 1 ≤ qz_I g 744 2) => ?_)
    rw [show qz_P g 744 2 = 745 by unfold qz_P; rw [clg.1]; first | rfl | omega]
    refine ez_gI hBg tg1 rfl rfl tq_1 rfl rfl (fun (b2 : 0 ≤ qz_I g 745 1) (b2' : qz_I g 745 1 ≤ 2000) => ?_)
    rw [show qz_I g 745 1 = (rem.length : Int) from (hf.I rfl _).trans a.1]
    refine ez_icmp rfl rfl ⟨by first | omega | exact (sz_i32 _).1, by first | omega | exact (sz_i32 _).2⟩ ⟨by first | omega | exact (sz_i32 _).1, by first | omega | exact (sz_i32 _).2⟩ (fun (c3 : ((rem.length : Int)) ≤ (i)) => ?_) (fun (c3 : ¬(((rem.length : Int)) ≤ (i))) => ?_)
    · skip
      refine ez_less [(0, .inr (.inr (some (744)))), (1, .inr (.inr (some (q)))), (2, .inl (s9))] rfl ⟨rfl, rfl, rfl, trivial⟩ ?_
      exact kx g hBg hf (fun j v hv => hv9 j v (by have := (List.getElem?_eq_some_iff.mp hv).1; omega) hv)
    · skip
      refine ez_go (n := 1) (pc' := 47) (L' := [(3, .inl (i)), (0, .inr (.inr (some (744)))), (1, .inr (.inr (some (q)))), (2, .inl (s9))]) (st' := [.inr (.inr (some (744)))]) rfl ?_
      refine ez_gR hBg tc rfl rfl tq_10 rfl rfl (fun (t4 : _ = 11) (t4' : 1 ≤ qz_I g 744 3) => ?_)
      rw [show qz_P g 744 3 = 747 by unfold qz_P; rw [clg.2.1]; first | rfl | omega]
      refine ez_go (n := 2) (pc' := 52) (L' := [(3, .inl (i)), (0, .inr (.inr (some (744)))), (1, .inr (.inr (some (q)))), (2, .inl (s9))]) (st' := [.inr (.inr (some (744))), .inl (i), .inr (.inr (some (747)))]) rfl ?_
      refine ez_gC (p := 202) (tg := 48) hBg tc rfl rfl tq_10 rfl rfl (fun (t202 : _ = 48) => ?_)
      refine ez_go (n := 1) (pc' := 56) (L' := [(3, .inl (i)), (0, .inr (.inr (some (744)))), (1, .inr (.inr (some (q)))), (2, .inl (s9))]) (st' := [.inr (.inr (some (744))), .inr (.inr (some (202))), .inl (i), .inr (.inr (some (747)))]) rfl ?_
      refine ez_gR hBg tc rfl rfl tq_10 rfl rfl (fun (t5 : _ = 1) (t5' : 1 ≤ qz_I g 744 2) => ?_)
      rw [show qz_P g 744 2 = 745 by unfold qz_P; rw [clg.1]; first | rfl | omega]
      refine ez_g3 hBg tg1 rfl rfl tq_1 rfl rfl (fun (t6 : _ = 2) => ?_)
      refine ez_go (n := 1) (pc' := 63) (L' := [(3, .inl (i)), (0, .inr (.inr (some (744)))), (1, .inr (.inr (some (q)))), (2, .inl (s9))]) (st' := [.inl (i), .inr (.inr (some (746))), .inr (.inr (some (202))), .inl (i), .inr (.inr (some (747)))]) rfl ?_
      have n8 : 2000 ≤ qz_N g 746 ∧ qz_N g 746 ≤ 2000 := ez_len hBg t6 tq_2 rfl
      refine ez_aI hBg t6 rfl tq_2 rfl rfl (by omega) (by omega) (fun (b7 : -2147483648 ≤ qz_I g 746 (i).toNat) (b7' : qz_I g 746 (i).toNat ≤ 2147483647) => ?_)
      have l9 : (i).toNat < rem.length := by omega
      have pb := uX_ptl pl l9
      have kb := hK _ pb
      rw [show qz_I g 746 (i).toNat = uX rem i from (hf.I rfl _).trans (uX_tx a l9)]
      have kcg := kc.k hBg hf (fun z hz => by have := kl_t hX (Or.inl rfl) (show kl_P 744 z = true by unfold ez_one at hz; rw [Nat.eq_of_beq_eq_true hz]; exact kl_y (by decide) (by decide)); omega)
      refine ez_cv hBg t202 rfl rfl rfl tq_48 rfl rfl rfl (rd_classOf kcg.1 pb.1 pb.2 (ez_K1 ?_))
      have n11 : 2000 ≤ qz_N g 747 ∧ qz_N g 747 ≤ 2000 := ez_len hBg tg3 tq_11 rfl
      refine ez_as hBg tg3 rfl tq_11 rfl rfl (by omega) (by omega) (ez_vdI rfl rfl (by omega) (by omega)) (fun hB9 w10 => ?_)
      refine ez_go (n := 2) (pc' := 35) (L' := [(3, .inl (i + 1)), (0, .inr (.inr (some (744)))), (1, .inr (.inr (some (q)))), (2, .inl (s9))]) (st' := []) rfl ?_
      refine ez_less [(3, .inl (i + 1)), (0, .inr (.inr (some (744)))), (1, .inr (.inr (some (q)))), (2, .inl (s9))] rfl ⟨rfl, rfl, rfl, rfl, trivial⟩ ?_
      refine ih (i + 1) _ (by omega) (by omega) (by omega) hB9 (hf.put rfl _ _) (fun j v hj hv => ?_)
      by_cases e : j = (i).toNat
      · subst e; rw [uX_e l9] at hv; cases hv; rw [w10]; exact rz_rd ⟨by omega, by omega⟩
      · rw [ez_put_I (fun w => e w.2)]; exact hv9 j v (by omega) hv

theorem rd_build_l {s9 : Int} (hX : jz_X τ) (kc : kC τ h T F E O D LK R) (hw : uz_wf F) (hK : ∀ x, (0 ≤ x ∧ x ≤ 1114111) → 0 ≤ (F x).1 ∧ (F x).1 ≤ 254) (hL : ∀ row e, LK row = some e → (∀ x ∈ e, eok x) ∧ e.length ≤ 18) (cl : clr h 744) (tq : τ q = 88) (uq : tx h q u) (up : ptl u) (hs : bz sh s9) (k1 : ∀ m res, uz_FL F (decide ((0 : Int) = 1 ∨ (0 : Int) = 3)) u m → m.length ≤ 2000 → nfR F E 0 m res → ptl res → res.length ≤ 2000 → ∀ g, ez_B τ g → ez_fr (kb_P 744) h g → clr g 744 → (∃ b, cts g 744 sh b (wts sh false (els LK (fun x => (F x).1) (UBd D) 2000 res))) → Q (.inl (some (ez_v (.inl 1))), g)) (k0 : ∀ m, uz_FL F (decide ((0 : Int) = 1 ∨ (0 : Int) = 3)) u m → 2000 < m.length → ∀ g, ez_B τ g → ez_fr (kb_P 744) h g → clr g 744 → Q (.inl (some (ez_v (.inl 0))), g)) : ez_W (d + 6) cm_79 0 [(0, .inr (.inr (some (744)))), (1, .inr (.inr (some (q)))), (2, .inl (s9))] [] h Q := by
  have t202 : τ 202 = 48 := hX 202 (by decide)
  have t204 : τ 204 = 50 := hX 204 (by decide)
  have t205 : τ 205 = 51 := hX 205 (by decide)
  have tc : τ 744 = 10 := hX 744 (by decide)
  have tg1 : τ 745 = 1 := hX 745 (by decide)
  have tg2 : τ 746 = 2 := hX 746 (by decide)
  have tg3 : τ 747 = 11 := hX 747 (by decide)
  have tg4 : τ 748 = 12 := hX 748 (by decide)
  have hB := kc.1.1
  have s01 : s9 = 0 ∨ s9 = 1 := by rcases hs with y | y; (· exact Or.inr y.2); (· exact Or.inl y.2)
  refine ez_go (n := 2) (pc' := 2) (L' := [(0, .inr (.inr (some (744)))), (1, .inr (.inr (some (q)))), (2, .inl (s9))]) (st' := [.inl (s9), .inr (.inr (some (744)))]) rfl ?_
  refine ez_pf hB tc rfl rfl tq_10 rfl rfl rfl rfl (ez_vdI rfl rfl (by omega) (by omega)) (fun hB1 w2 => ?_)
  have v1 : qz_I (dz_put h 744 6 (ez_v (.inl (s9)))) 744 6 = s9 := w2.trans (rz_rd ⟨by omega, by omega⟩)
  have o1 : ∀ j, j ≠ 6 → qz_I (dz_put h 744 6 (ez_v (.inl (s9)))) 744 j = qz_I h 744 j := fun j hj => ez_put_I (fun y => hj y.2)
  have f1 : ez_fr (ez_one 744) h (dz_put h 744 6 (ez_v (.inl (s9)))) := (ez_fr.refl (ez_one 744) h).put rfl _ _
  have B1 := hB1
  generalize (dz_put h 744 6 (ez_v (.inl (s9)))) = g1 at *
  refine ez_go (n := 2) (pc' := 7) (L' := [(0, .inr (.inr (some (744)))), (1, .inr (.inr (some (q)))), (2, .inl (s9))]) (st' := [.inl (0), .inr (.inr (some (744)))]) rfl ?_
  refine ez_pf B1 tc rfl rfl tq_10 rfl rfl rfl rfl (ez_vdI rfl rfl (by omega) (by omega)) (fun hB3 w4 => ?_)
  have v2 : qz_I (dz_put g1 744 7 (ez_v (.inl (0)))) 744 7 = 0 := w4.trans (rz_rd ⟨by omega, by omega⟩)
  have o2 : ∀ j, j ≠ 7 → qz_I (dz_put g1 744 7 (ez_v (.inl (0)))) 744 j = qz_I g1 744 j := fun j hj => ez_put_I (fun y => hj y.2)
  have f2 : ez_fr (ez_one 744) h (dz_put g1 744 7 (ez_v (.inl (0)))) := f1.put rfl _ _
  have B2 := hB3
  generalize (dz_put g1 744 7 (ez_v (.inl (0)))) = g2 at *
  refine ez_go (n := 2) (pc' := 12) (L' := [(0, .inr (.inr (some (744)))), (1, .inr (.inr (some (q)))), (2, .inl (s9))]) (st' := [.inl (0), .inr (.inr (some (744)))]) rfl ?_
  refine ez_pf B2 tc rfl rfl tq_10 rfl rfl rfl rfl (ez_vdI rfl rfl (by omega) (by omega)) (fun hB5 w6 => ?_)
  have v3 : qz_I (dz_put g2 744 5 (ez_v (.inl (0)))) 744 5 = 0 := w6.trans (rz_rd ⟨by omega, by omega⟩)
  have o3 : ∀ j, j ≠ 5 → qz_I (dz_put g2 744 5 (ez_v (.inl (0)))) 744 j = qz_I g2 744 j := fun j hj => ez_put_I (fun y => hj y.2)
  have f3 : ez_fr (ez_one 744) h (dz_put g2 744 5 (ez_v (.inl (0)))) := f2.put rfl _ _
  have B3 := hB5
  generalize (dz_put g2 744 5 (ez_v (.inl (0)))) = g3 at *
  have cl3 : clr g3 744 := cl.k (fun j a b c => (o3 j a).trans ((o2 j c).trans (o1 j b)))
  have fk3 := ez_fr_mono f3 (fun z hz => by unfold ez_one at hz; rw [Nat.eq_of_beq_eq_true hz]; exact kb_l (kl_y (r := 744) (by decide) (by decide)))
  have kc3 := kc.k B3 fk3 (fun z hz => kb_t hX (Or.inl rfl) hz)
  have nq9 : q ≠ 744 := fun e => by rw [e, tc] at tq; cases tq
  have tq1 := tx_p88 hB tq
  have nq1 : q + 1 ≠ 744 := fun e => by rw [e, tc] at tq1; cases tq1
  have uq3 : tx g3 q u := tx_c uq (f3.2.2 q (dz_beq_ne nq9)) (f3.2.2 (q + 1) (dz_beq_ne nq1))
  refine ez_go (n := 1) (pc' := 16) (L' := [(0, .inr (.inr (some (744)))), (1, .inr (.inr (some (q)))), (2, .inl (s9))]) (st' := [.inr (.inr (some (744)))]) rfl ?_
  refine ez_gC (p := 729) (tg := 61) B3 tc rfl rfl tq_10 rfl rfl (fun (t729 : _ = 61) => ?_)
  refine ez_go (n := 2) (pc' := 21) (L' := [(0, .inr (.inr (some (744)))), (1, .inr (.inr (some (q)))), (2, .inl (s9))]) (st' := [.inr (.inr (some (744))), .inr (.inr (some (q))), .inr (.inr (some (729)))]) rfl ?_
  refine ez_gR B3 tc rfl rfl tq_10 rfl rfl (fun (t7 : _ = 1) (t7' : 1 ≤ qz_I g3 744 2) => ?_)
  rw [show qz_P g3 744 2 = 745 by unfold qz_P; rw [cl3.1]; first | rfl | omega]
  refine ez_go (n := 1) (pc' := 25) (L' := [(0, .inr (.inr (some (744)))), (1, .inr (.inr (some (q)))), (2, .inl (s9))]) (st' := [.inl (0), .inr (.inr (some (745))), .inr (.inr (some (q))), .inr (.inr (some (729)))]) rfl ?_
  refine ez_cv B3 t729 rfl rfl rfl tq_61 rfl rfl rfl (rd_convs (fm := 0) (r := 745) kc3.1 kc3.2.2.2.1 hw kc3.2.2.2.2 tg1 (Or.inr (by decide)) tq (fun e => by rw [e, tg1] at tq; cases tq) uq3 up ⟨by decide, by decide⟩ (fun m res um lt nf pr g4 B4 f4 x4 => ez_K1 ?_) (fun m um lt g4 B4 f4 => ez_K1 ?_))
  · have fk4 := fk3.trans (ez_fr_mono f4 (fun z hz => kb_co (r := 744) hz))
    have kc4 := kc.k B4 fk4 (fun z hz => kb_t hX (Or.inl rfl) hz)
    have cl4 : clr g4 744 := cl3.k (fun j _ _ _ => f4.I (co_Pn (by decide) (by decide) (by decide)) j)
    have rl : res.length ≤ 2000 := by have q1 := x4.1; have q2 := tx_l1 B4 tg1; omega
    refine ez_if rfl rfl ⟨by decide, by decide⟩ (fun _ => ?_) (fun (c8 : ¬((1 : Int) ≠ (0))) => absurd c8 (by decide))
    refine ez_go (n := 2) (pc' := 35) (L' := [(3, .inl (0)), (0, .inr (.inr (some (744)))), (1, .inr (.inr (some (q)))), (2, .inl (s9))]) (st' := []) rfl ?_
    refine ez_less [(3, .inl (0)), (0, .inr (.inr (some (744)))), (1, .inr (.inr (some (q)))), (2, .inl (s9))] rfl ⟨rfl, rfl, rfl, rfl, trivial⟩ ?_
    refine rd_bcl_l (h := g4) (rem := res) hX tq kc4 hK cl4 x4 pr rl (fun g5 B5 f5 e5 => ?_) _ 0 g4 rfl (by omega) (by omega) B4 (ez_fr.refl _ g4) (fun j v hj => by omega)
    have fk5 := fk4.trans (ez_fr_mono f5 (fun z hz => by unfold ez_one at hz; rw [Nat.eq_of_beq_eq_true hz]; exact kb_l (kl_y (r := 744) (by decide) (by decide))))
    have kc5 := kc.k B5 fk5 (fun z hz => kb_t hX (Or.inl rfl) hz)
    have cl5 : clr g5 744 := cl4.k (fun j _ _ _ => f5.I rfl j)
    have i5 : ∀ j, qz_I g5 744 j = qz_I g3 744 j := fun j => (f5.I rfl j).trans (f4.I (co_Pn (by decide) (by decide) (by decide)) j)
    have cs5 : cts g5 744 sh false [] := ⟨⟨by rw [i5]; exact v3, by rw [i5, o3 6 (by decide), o2 6 (by decide), v1]; exact hs, Or.inr ⟨rfl, by rw [i5, o3 7 (by decide)]; exact v2⟩⟩, fun j w hw => by cases hw⟩
    have rs5 : rst g5 744 (fun x => (F x).1) 0 res := ⟨⟨by omega, by omega, pr⟩, ((f5.I rfl _).trans x4.1).trans (by omega), fun j v hv => ⟨by rw [show (0 : Int).toNat + j = j by omega]; exact (f5.I rfl j).trans (x4.2 j v hv), by rw [show (0 : Int).toNat + j = j by omega]; exact e5 j v hv⟩⟩
    refine ez_go (n := 4) (pc' := 79) (L' := [(4, .inl (0)), (3, .inl (0)), (0, .inr (.inr (some (744)))), (1, .inr (.inr (some (q)))), (2, .inl (s9))]) (st' := []) rfl ?_
    refine ez_less [(4, .inl (0)), (3, .inl (0)), (0, .inr (.inr (some (744)))), (1, .inr (.inr (some (q)))), (2, .inl (s9))] rfl ⟨rfl, rfl, rfl, rfl, rfl, trivial⟩ ?_
    exact rd_bld_l (h := g5) (sh := sh) (tot := wts sh false (els LK (fun x => (F x).1) (UBd D) 2000 res)) hX tq hK hL (fun g6 B6 f6 cl6 cs6 => k1 m res um lt nf pr rl g6 B6 (fk5.trans (ez_fr_mono f6 (fun z hz => kb_l hz))) cl6 cs6) 2000 0 0 g5 res [] false ⟨rl, by decide, by decide⟩ B5 (ez_fr.refl _ g5) cl5 kc5 rs5 cs5 (by rw [List.length_nil]; omega) (by rw [List.nil_append])
  · have fk4 := fk3.trans (ez_fr_mono f4 (fun z hz => kb_co (r := 744) hz))
    refine ez_if rfl rfl ⟨by decide, by decide⟩ (fun (c9 : (0 : Int) ≠ (0)) => absurd c9 (by decide)) (fun _ => ?_)
    refine ez_go (n := 1) (pc' := 32) (L' := [(0, .inr (.inr (some (744)))), (1, .inr (.inr (some (q)))), (2, .inl (s9))]) (st' := [.inl (0)]) rfl ?_
    exact ez_retZ rfl rfl (Or.inl rfl) (k0 m um lt g4 B4 fk4 (cl3.k (fun j _ _ _ => f4.I (co_Pn (by decide) (by decide) (by decide)) j)))

theorem rd_bld_r {s9 : Int} {tot : List eL} (hX : jz_X τ) (tq : τ q = 88) (hK : ∀ x, (0 ≤ x ∧ x ≤ 1114111) → 0 ≤ (F x).1 ∧ (F x).1 ≤ 254) (hL : ∀ row e, LK row = some e → (∀ x ∈ e, eok x) ∧ e.length ≤ 18) (k : ∀ g, ez_B τ g → ez_fr (kl_P 749) h g → clr g 749 → (∃ b, cts g 749 sh b tot) → Q (.inl (some (ez_v (.inl 1))), g)) : ∀ (m : Nat) (tn at9 : Int) (g : cz_H) (rem : List Int) (W : List eL) (b : Bool), rem.length ≤ m ∧ (0 ≤ tn ∧ tn + (m : Int) = 2000) → ez_B τ g → ez_fr (kl_P 749) h g → clr g 749 → kC τ g T F E O D LK R → rst g 749 (fun x => (F x).1) at9 rem → cts g 749 sh b W → W.length + 18 * rem.length ≤ 36000 → tot = W ++ wts sh b (els LK (fun x => (F x).1) (UBd D) m rem) → ez_W (d + 4) cm_79 79 [(4, .inl (tn)), (3, .inl (at9)), (0, .inr (.inr (some (749)))), (1, .inr (.inr (some (q)))), (2, .inl (s9))] [] g Q := by
  have t202 : τ 202 = 48 := hX 202 (by decide)
  have t204 : τ 204 = 50 := hX 204 (by decide)
  have t205 : τ 205 = 51 := hX 205 (by decide)
  have tc : τ 749 = 10 := hX 749 (by decide)
  have tg1 : τ 750 = 1 := hX 750 (by decide)
  have tg2 : τ 751 = 2 := hX 751 (by decide)
  have tg3 : τ 752 = 11 := hX 752 (by decide)
  have tg4 : τ 753 = 12 := hX 753 (by decide)
  intro m
  induction m with
  | zero =>
    intro tn at9 g rem W b hm hBg hf clg kcg rs cs wl hF
    have ra := rs.1.1; have rb := rs.1.2.1
    refine ez_go (n := 2) (pc' := 84) (L' := [(4, .inl (tn)), (3, .inl (at9)), (0, .inr (.inr (some (749)))), (1, .inr (.inr (some (q)))), (2, .inl (s9))]) (st' := [.inl (2000), .inl (tn)]) rfl ?_
    refine ez_icmp rfl rfl ⟨by first | omega | exact (sz_i32 _).1, by first | omega | exact (sz_i32 _).2⟩ ⟨by first | omega | exact (sz_i32 _).1, by first | omega | exact (sz_i32 _).2⟩ (fun (c1 : (2000) ≤ (tn)) => ?_) (fun (c1 : ¬((2000) ≤ (tn))) => ?_)
    · skip
      refine ez_go (n := 1) (pc' := 111) (L' := [(4, .inl (tn)), (3, .inl (at9)), (0, .inr (.inr (some (749)))), (1, .inr (.inr (some (q)))), (2, .inl (s9))]) (st' := [.inl (1)]) rfl ?_
      have e0 : rem = [] := List.length_eq_zero_iff.mp (by omega)
      subst e0
      rw [els_0, show wts sh b [] = [] from rfl, List.append_nil] at hF
      rw [← hF] at cs
      exact ez_retZ rfl rfl (Or.inr rfl) (k g hBg hf clg ⟨_, cs⟩)
    · skip
      refine ez_go (n := 2) (pc' := 89) (L' := [(4, .inl (tn)), (3, .inl (at9)), (0, .inr (.inr (some (749)))), (1, .inr (.inr (some (q)))), (2, .inl (s9))]) (st' := [.inr (.inr (some (749))), .inl (at9)]) rfl ?_
      refine ez_gR hBg tc rfl rfl tq_10 rfl rfl (fun (t2 : _ = 1) (t2' : 1 ≤ qz_I g 749 2) => ?_)
      rw [show qz_P g 749 2 = 750 by unfold qz_P; rw [clg.1]; first | rfl | omega]
      refine ez_gI hBg tg1 rfl rfl tq_1 rfl rfl (fun (b3 : 0 ≤ qz_I g 750 1) (b3' : qz_I g 750 1 ≤ 2000) => ?_)
      rw [rs.2.1]
      refine ez_icmp rfl rfl ⟨by first | omega | exact (sz_i32 _).1, by first | omega | exact (sz_i32 _).2⟩ ⟨by first | omega | exact (sz_i32 _).1, by first | omega | exact (sz_i32 _).2⟩ (fun (c4 : (at9 + (rem.length : Int)) ≤ (at9)) => ?_) (fun (c4 : ¬((at9 + (rem.length : Int)) ≤ (at9))) => ?_)
      · skip
        refine ez_go (n := 1) (pc' := 111) (L' := [(4, .inl (tn)), (3, .inl (at9)), (0, .inr (.inr (some (749)))), (1, .inr (.inr (some (q)))), (2, .inl (s9))]) (st' := [.inl (1)]) rfl ?_
        have e0 : rem = [] := List.length_eq_zero_iff.mp (by omega)
        subst e0
        rw [els_0, show wts sh b [] = [] from rfl, List.append_nil] at hF
        rw [← hF] at cs
        exact ez_retZ rfl rfl (Or.inr rfl) (k g hBg hf clg ⟨_, cs⟩)
      · skip
        refine ez_go (n := 2) (pc' := 100) (L' := [(4, .inl (tn)), (3, .inl (at9)), (0, .inr (.inr (some (749)))), (1, .inr (.inr (some (q)))), (2, .inl (s9))]) (st' := [.inl (at9), .inr (.inr (some (749)))]) rfl ?_
        obtain ⟨p, t, er⟩ : ∃ p t, rem = p :: t := by match rem, (show 0 < rem.length by omega) with | p :: t, _ => exact ⟨p, t, rfl⟩
        subst er
        refine ez_cv hBg tc rfl rfl rfl tq_10 rfl rfl rfl (rd_takeE_r hX kcg hK clg cs rs (by rw [List.length_cons] at wl; omega) (fun g2 v l9 es B2 f2 cl2 kc2 rs2 st2 c2 => ez_K1 ?_))
        refine ez_go (n := 3) (pc' := 79) (L' := [(4, .inl (tn + 1)), (3, .inl (v)), (0, .inr (.inr (some (749)))), (1, .inr (.inr (some (q)))), (2, .inl (s9))]) (st' := []) rfl ?_
        exfalso; omega
  | succ m ih =>
    intro tn at9 g rem W b hm hBg hf clg kcg rs cs wl hF
    have ra := rs.1.1; have rb := rs.1.2.1
    refine ez_go (n := 2) (pc' := 84) (L' := [(4, .inl (tn)), (3, .inl (at9)), (0, .inr (.inr (some (749)))), (1, .inr (.inr (some (q)))), (2, .inl (s9))]) (st' := [.inl (2000), .inl (tn)]) rfl ?_
    refine ez_icmp rfl rfl ⟨by first | omega | exact (sz_i32 _).1, by first | omega | exact (sz_i32 _).2⟩ ⟨by first | omega | exact (sz_i32 _).1, by first | omega | exact (sz_i32 _).2⟩ (fun (c1 : (2000) ≤ (tn)) => ?_) (fun (c1 : ¬((2000) ≤ (tn))) => ?_)
    · skip
      refine ez_go (n := 1) (pc' := 111) (L' := [(4, .inl (tn)), (3, .inl (at9)), (0, .inr (.inr (some (749)))), (1, .inr (.inr (some (q)))), (2, .inl (s9))]) (st' := [.inl (1)]) rfl ?_
      have e0 : rem = [] := List.length_eq_zero_iff.mp (by omega)
      subst e0
      rw [els_0, show wts sh b [] = [] from rfl, List.append_nil] at hF
      rw [← hF] at cs
      exact ez_retZ rfl rfl (Or.inr rfl) (k g hBg hf clg ⟨_, cs⟩)
    · skip
      refine ez_go (n := 2) (pc' := 89) (L' := [(4, .inl (tn)), (3, .inl (at9)), (0, .inr (.inr (some (749)))), (1, .inr (.inr (some (q)))), (2, .inl (s9))]) (st' := [.inr (.inr (some (749))), .inl (at9)]) rfl ?_
      refine ez_gR hBg tc rfl rfl tq_10 rfl rfl (fun (t2 : _ = 1) (t2' : 1 ≤ qz_I g 749 2) => ?_)
      rw [show qz_P g 749 2 = 750 by unfold qz_P; rw [clg.1]; first | rfl | omega]
      refine ez_gI hBg tg1 rfl rfl tq_1 rfl rfl (fun (b3 : 0 ≤ qz_I g 750 1) (b3' : qz_I g 750 1 ≤ 2000) => ?_)
      rw [rs.2.1]
      refine ez_icmp rfl rfl ⟨by first | omega | exact (sz_i32 _).1, by first | omega | exact (sz_i32 _).2⟩ ⟨by first | omega | exact (sz_i32 _).1, by first | omega | exact (sz_i32 _).2⟩ (fun (c4 : (at9 + (rem.length : Int)) ≤ (at9)) => ?_) (fun (c4 : ¬((at9 + (rem.length : Int)) ≤ (at9))) => ?_)
      · skip
        refine ez_go (n := 1) (pc' := 111) (L' := [(4, .inl (tn)), (3, .inl (at9)), (0, .inr (.inr (some (749)))), (1, .inr (.inr (some (q)))), (2, .inl (s9))]) (st' := [.inl (1)]) rfl ?_
        have e0 : rem = [] := List.length_eq_zero_iff.mp (by omega)
        subst e0
        rw [els_0, show wts sh b [] = [] from rfl, List.append_nil] at hF
        rw [← hF] at cs
        exact ez_retZ rfl rfl (Or.inr rfl) (k g hBg hf clg ⟨_, cs⟩)
      · skip
        refine ez_go (n := 2) (pc' := 100) (L' := [(4, .inl (tn)), (3, .inl (at9)), (0, .inr (.inr (some (749)))), (1, .inr (.inr (some (q)))), (2, .inl (s9))]) (st' := [.inl (at9), .inr (.inr (some (749)))]) rfl ?_
        obtain ⟨p, t, er⟩ : ∃ p t, rem = p :: t := by match rem, (show 0 < rem.length by omega) with | p :: t, _ => exact ⟨p, t, rfl⟩
        subst er
        refine ez_cv hBg tc rfl rfl rfl tq_10 rfl rfl rfl (rd_takeE_r hX kcg hK clg cs rs (by rw [List.length_cons] at wl; omega) (fun g2 v l9 es B2 f2 cl2 kc2 rs2 st2 c2 => ez_K1 ?_))
        refine ez_go (n := 3) (pc' := 79) (L' := [(4, .inl (tn + 1)), (3, .inl (v)), (0, .inr (.inr (some (749)))), (1, .inr (.inr (some (q)))), (2, .inl (s9))]) (st' := []) rfl ?_
        refine ez_less [(4, .inl (tn + 1)), (3, .inl (v)), (0, .inr (.inr (some (749)))), (1, .inr (.inr (some (q)))), (2, .inl (s9))] rfl ⟨rfl, rfl, rfl, rfl, rfl, trivial⟩ ?_
        have se := stE_els st2 m
        have so := stE_ok hL (UBd_bd D) rs.1.2.2 st2
        rw [List.length_cons] at wl
        refine ih (tn + 1) v g2 l9 (W ++ wts sh b es) _ (by have := se.2; rw [List.length_cons] at this; omega) B2 (hf.trans f2) cl2 kc2 rs2 c2 (by rw [List.length_append, wts_len]; have := se.2; rw [List.length_cons] at this; omega) ?_
        rw [hF, se.1, wts_app, List.append_assoc]

theorem rd_bcl_r {s9 : Int} (hX : jz_X τ) (tq : τ q = 88) (kc : kC τ h T F E O D LK R) (hK : ∀ x, (0 ≤ x ∧ x ≤ 1114111) → 0 ≤ (F x).1 ∧ (F x).1 ≤ 254) (cl : clr h 749) (a : tx h 750 rem) (pl : ptl rem) (l2 : rem.length ≤ 2000) (kx : ∀ g, ez_B τ g → ez_fr (ez_one 752) h g → (∀ (j : Nat) v, rem[j]? = some v → qz_I g 752 j = (F v).1) → ez_W (d + 4) cm_79 74 [(0, .inr (.inr (some (749)))), (1, .inr (.inr (some (q)))), (2, .inl (s9))] [] g Q) : ∀ (n : Nat) (i : Int) (g : cz_H), n = ((rem.length : Int) - i).toNat → 0 ≤ i → i ≤ (rem.length : Int) → ez_B τ g → ez_fr (ez_one 752) h g → (∀ (j : Nat) v, j < i.toNat → rem[j]? = some v → qz_I g 752 j = (F v).1) → ez_W (d + 4) cm_79 35 [(3, .inl (i)), (0, .inr (.inr (some (749)))), (1, .inr (.inr (some (q)))), (2, .inl (s9))] [] g Q := by
  have t202 : τ 202 = 48 := hX 202 (by decide)
  have t204 : τ 204 = 50 := hX 204 (by decide)
  have t205 : τ 205 = 51 := hX 205 (by decide)
  have tc : τ 749 = 10 := hX 749 (by decide)
  have tg1 : τ 750 = 1 := hX 750 (by decide)
  have tg2 : τ 751 = 2 := hX 751 (by decide)
  have tg3 : τ 752 = 11 := hX 752 (by decide)
  have tg4 : τ 753 = 12 := hX 753 (by decide)
  intro n
  induction n with
  | zero =>
    intro i g hn0 i0 i1 hBg hf hv9
    have clg : clr g 749 := ⟨(hf.I rfl _).trans cl.1, (hf.I rfl _).trans cl.2.1, (hf.I rfl _).trans cl.2.2⟩
    refine ez_go (n := 2) (pc' := 37) (L' := [(3, .inl (i)), (0, .inr (.inr (some (749)))), (1, .inr (.inr (some (q)))), (2, .inl (s9))]) (st' := [.inr (.inr (some (749))), .inl (i)]) rfl ?_
    refine ez_gR hBg tc rfl rfl tq_10 rfl rfl (fun (t1 : _ = 1) (t1' : 1 ≤ qz_I g 749 2) => ?_)
    rw [show qz_P g 749 2 = 750 by unfold qz_P; rw [clg.1]; first | rfl | omega]
    refine ez_gI hBg tg1 rfl rfl tq_1 rfl rfl (fun (b2 : 0 ≤ qz_I g 750 1) (b2' : qz_I g 750 1 ≤ 2000) => ?_)
    rw [show qz_I g 750 1 = (rem.length : Int) from (hf.I rfl _).trans a.1]
    refine ez_icmp rfl rfl ⟨by first | omega | exact (sz_i32 _).1, by first | omega | exact (sz_i32 _).2⟩ ⟨by first | omega | exact (sz_i32 _).1, by first | omega | exact (sz_i32 _).2⟩ (fun (c3 : ((rem.length : Int)) ≤ (i)) => ?_) (fun (c3 : ¬(((rem.length : Int)) ≤ (i))) => ?_)
    · skip
      refine ez_less [(0, .inr (.inr (some (749)))), (1, .inr (.inr (some (q)))), (2, .inl (s9))] rfl ⟨rfl, rfl, rfl, trivial⟩ ?_
      exact kx g hBg hf (fun j v hv => hv9 j v (by have := (List.getElem?_eq_some_iff.mp hv).1; omega) hv)
    · exfalso; omega
  | succ n ih =>
    intro i g hn0 i0 i1 hBg hf hv9
    have clg : clr g 749 := ⟨(hf.I rfl _).trans cl.1, (hf.I rfl _).trans cl.2.1, (hf.I rfl _).trans cl.2.2⟩
    refine ez_go (n := 2) (pc' := 37) (L' := [(3, .inl (i)), (0, .inr (.inr (some (749)))), (1, .inr (.inr (some (q)))), (2, .inl (s9))]) (st' := [.inr (.inr (some (749))), .inl (i)]) rfl ?_
    refine ez_gR hBg tc rfl rfl tq_10 rfl rfl (fun (t1 : _ = 1) (t1' : 1 ≤ qz_I g 749 2) => ?_)
    rw [show qz_P g 749 2 = 750 by unfold qz_P; rw [clg.1]; first | rfl | omega]
    refine ez_gI hBg tg1 rfl rfl tq_1 rfl rfl (fun (b2 : 0 ≤ qz_I g 750 1) (b2' : qz_I g 750 1 ≤ 2000) => ?_)
    rw [show qz_I g 750 1 = (rem.length : Int) from (hf.I rfl _).trans a.1]
    refine ez_icmp rfl rfl ⟨by first | omega | exact (sz_i32 _).1, by first | omega | exact (sz_i32 _).2⟩ ⟨by first | omega | exact (sz_i32 _).1, by first | omega | exact (sz_i32 _).2⟩ (fun (c3 : ((rem.length : Int)) ≤ (i)) => ?_) (fun (c3 : ¬(((rem.length : Int)) ≤ (i))) => ?_)
    · skip
      refine ez_less [(0, .inr (.inr (some (749)))), (1, .inr (.inr (some (q)))), (2, .inl (s9))] rfl ⟨rfl, rfl, rfl, trivial⟩ ?_
      exact kx g hBg hf (fun j v hv => hv9 j v (by have := (List.getElem?_eq_some_iff.mp hv).1; omega) hv)
    · skip
      refine ez_go (n := 1) (pc' := 47) (L' := [(3, .inl (i)), (0, .inr (.inr (some (749)))), (1, .inr (.inr (some (q)))), (2, .inl (s9))]) (st' := [.inr (.inr (some (749)))]) rfl ?_
      refine ez_gR hBg tc rfl rfl tq_10 rfl rfl (fun (t4 : _ = 11) (t4' : 1 ≤ qz_I g 749 3) => ?_)
      rw [show qz_P g 749 3 = 752 by unfold qz_P; rw [clg.2.1]; first | rfl | omega]
      refine ez_go (n := 2) (pc' := 52) (L' := [(3, .inl (i)), (0, .inr (.inr (some (749)))), (1, .inr (.inr (some (q)))), (2, .inl (s9))]) (st' := [.inr (.inr (some (749))), .inl (i), .inr (.inr (some (752)))]) rfl ?_
      refine ez_gC (p := 202) (tg := 48) hBg tc rfl rfl tq_10 rfl rfl (fun (t202 : _ = 48) => ?_)
      refine ez_go (n := 1) (pc' := 56) (L' := [(3, .inl (i)), (0, .inr (.inr (some (749)))), (1, .inr (.inr (some (q)))), (2, .inl (s9))]) (st' := [.inr (.inr (some (749))), .inr (.inr (some (202))), .inl (i), .inr (.inr (some (752)))]) rfl ?_
      refine ez_gR hBg tc rfl rfl tq_10 rfl rfl (fun (t5 : _ = 1) (t5' : 1 ≤ qz_I g 749 2) => ?_)
      rw [show qz_P g 749 2 = 750 by unfold qz_P; rw [clg.1]; first | rfl | omega]
      refine ez_g3 hBg tg1 rfl rfl tq_1 rfl rfl (fun (t6 : _ = 2) => ?_)
      refine ez_go (n := 1) (pc' := 63) (L' := [(3, .inl (i)), (0, .inr (.inr (some (749)))), (1, .inr (.inr (some (q)))), (2, .inl (s9))]) (st' := [.inl (i), .inr (.inr (some (751))), .inr (.inr (some (202))), .inl (i), .inr (.inr (some (752)))]) rfl ?_
      have n8 : 2000 ≤ qz_N g 751 ∧ qz_N g 751 ≤ 2000 := ez_len hBg t6 tq_2 rfl
      refine ez_aI hBg t6 rfl tq_2 rfl rfl (by omega) (by omega) (fun (b7 : -2147483648 ≤ qz_I g 751 (i).toNat) (b7' : qz_I g 751 (i).toNat ≤ 2147483647) => ?_)
      have l9 : (i).toNat < rem.length := by omega
      have pb := uX_ptl pl l9
      have kb := hK _ pb
      rw [show qz_I g 751 (i).toNat = uX rem i from (hf.I rfl _).trans (uX_tx a l9)]
      have kcg := kc.k hBg hf (fun z hz => by have := kl_t hX (Or.inr rfl) (show kl_P 749 z = true by unfold ez_one at hz; rw [Nat.eq_of_beq_eq_true hz]; exact kl_y (by decide) (by decide)); omega)
      refine ez_cv hBg t202 rfl rfl rfl tq_48 rfl rfl rfl (rd_classOf kcg.1 pb.1 pb.2 (ez_K1 ?_))
      have n11 : 2000 ≤ qz_N g 752 ∧ qz_N g 752 ≤ 2000 := ez_len hBg tg3 tq_11 rfl
      refine ez_as hBg tg3 rfl tq_11 rfl rfl (by omega) (by omega) (ez_vdI rfl rfl (by omega) (by omega)) (fun hB9 w10 => ?_)
      refine ez_go (n := 2) (pc' := 35) (L' := [(3, .inl (i + 1)), (0, .inr (.inr (some (749)))), (1, .inr (.inr (some (q)))), (2, .inl (s9))]) (st' := []) rfl ?_
      refine ez_less [(3, .inl (i + 1)), (0, .inr (.inr (some (749)))), (1, .inr (.inr (some (q)))), (2, .inl (s9))] rfl ⟨rfl, rfl, rfl, rfl, trivial⟩ ?_
      refine ih (i + 1) _ (by omega) (by omega) (by omega) hB9 (hf.put rfl _ _) (fun j v hj hv => ?_)
      by_cases e : j = (i).toNat
      · subst e; rw [uX_e l9] at hv; cases hv; rw [w10]; exact rz_rd ⟨by omega, by omega⟩
      · rw [ez_put_I (fun w => e w.2)]; exact hv9 j v (by omega) hv

theorem rd_build_r {s9 : Int} (hX : jz_X τ) (kc : kC τ h T F E O D LK R) (hw : uz_wf F) (hK : ∀ x, (0 ≤ x ∧ x ≤ 1114111) → 0 ≤ (F x).1 ∧ (F x).1 ≤ 254) (hL : ∀ row e, LK row = some e → (∀ x ∈ e, eok x) ∧ e.length ≤ 18) (cl : clr h 749) (tq : τ q = 88) (uq : tx h q u) (up : ptl u) (hs : bz sh s9) (k1 : ∀ m res, uz_FL F (decide ((0 : Int) = 1 ∨ (0 : Int) = 3)) u m → m.length ≤ 2000 → nfR F E 0 m res → ptl res → res.length ≤ 2000 → ∀ g, ez_B τ g → ez_fr (kb_P 749) h g → clr g 749 → (∃ b, cts g 749 sh b (wts sh false (els LK (fun x => (F x).1) (UBd D) 2000 res))) → Q (.inl (some (ez_v (.inl 1))), g)) (k0 : ∀ m, uz_FL F (decide ((0 : Int) = 1 ∨ (0 : Int) = 3)) u m → 2000 < m.length → ∀ g, ez_B τ g → ez_fr (kb_P 749) h g → clr g 749 → Q (.inl (some (ez_v (.inl 0))), g)) : ez_W (d + 6) cm_79 0 [(0, .inr (.inr (some (749)))), (1, .inr (.inr (some (q)))), (2, .inl (s9))] [] h Q := by
  have t202 : τ 202 = 48 := hX 202 (by decide)
  have t204 : τ 204 = 50 := hX 204 (by decide)
  have t205 : τ 205 = 51 := hX 205 (by decide)
  have tc : τ 749 = 10 := hX 749 (by decide)
  have tg1 : τ 750 = 1 := hX 750 (by decide)
  have tg2 : τ 751 = 2 := hX 751 (by decide)
  have tg3 : τ 752 = 11 := hX 752 (by decide)
  have tg4 : τ 753 = 12 := hX 753 (by decide)
  have hB := kc.1.1
  have s01 : s9 = 0 ∨ s9 = 1 := by rcases hs with y | y; (· exact Or.inr y.2); (· exact Or.inl y.2)
  refine ez_go (n := 2) (pc' := 2) (L' := [(0, .inr (.inr (some (749)))), (1, .inr (.inr (some (q)))), (2, .inl (s9))]) (st' := [.inl (s9), .inr (.inr (some (749)))]) rfl ?_
  refine ez_pf hB tc rfl rfl tq_10 rfl rfl rfl rfl (ez_vdI rfl rfl (by omega) (by omega)) (fun hB1 w2 => ?_)
  have v1 : qz_I (dz_put h 749 6 (ez_v (.inl (s9)))) 749 6 = s9 := w2.trans (rz_rd ⟨by omega, by omega⟩)
  have o1 : ∀ j, j ≠ 6 → qz_I (dz_put h 749 6 (ez_v (.inl (s9)))) 749 j = qz_I h 749 j := fun j hj => ez_put_I (fun y => hj y.2)
  have f1 : ez_fr (ez_one 749) h (dz_put h 749 6 (ez_v (.inl (s9)))) := (ez_fr.refl (ez_one 749) h).put rfl _ _
  have B1 := hB1
  generalize (dz_put h 749 6 (ez_v (.inl (s9)))) = g1 at *
  refine ez_go (n := 2) (pc' := 7) (L' := [(0, .inr (.inr (some (749)))), (1, .inr (.inr (some (q)))), (2, .inl (s9))]) (st' := [.inl (0), .inr (.inr (some (749)))]) rfl ?_
  refine ez_pf B1 tc rfl rfl tq_10 rfl rfl rfl rfl (ez_vdI rfl rfl (by omega) (by omega)) (fun hB3 w4 => ?_)
  have v2 : qz_I (dz_put g1 749 7 (ez_v (.inl (0)))) 749 7 = 0 := w4.trans (rz_rd ⟨by omega, by omega⟩)
  have o2 : ∀ j, j ≠ 7 → qz_I (dz_put g1 749 7 (ez_v (.inl (0)))) 749 j = qz_I g1 749 j := fun j hj => ez_put_I (fun y => hj y.2)
  have f2 : ez_fr (ez_one 749) h (dz_put g1 749 7 (ez_v (.inl (0)))) := f1.put rfl _ _
  have B2 := hB3
  generalize (dz_put g1 749 7 (ez_v (.inl (0)))) = g2 at *
  refine ez_go (n := 2) (pc' := 12) (L' := [(0, .inr (.inr (some (749)))), (1, .inr (.inr (some (q)))), (2, .inl (s9))]) (st' := [.inl (0), .inr (.inr (some (749)))]) rfl ?_
  refine ez_pf B2 tc rfl rfl tq_10 rfl rfl rfl rfl (ez_vdI rfl rfl (by omega) (by omega)) (fun hB5 w6 => ?_)
  have v3 : qz_I (dz_put g2 749 5 (ez_v (.inl (0)))) 749 5 = 0 := w6.trans (rz_rd ⟨by omega, by omega⟩)
  have o3 : ∀ j, j ≠ 5 → qz_I (dz_put g2 749 5 (ez_v (.inl (0)))) 749 j = qz_I g2 749 j := fun j hj => ez_put_I (fun y => hj y.2)
  have f3 : ez_fr (ez_one 749) h (dz_put g2 749 5 (ez_v (.inl (0)))) := f2.put rfl _ _
  have B3 := hB5
  generalize (dz_put g2 749 5 (ez_v (.inl (0)))) = g3 at *
  have cl3 : clr g3 749 := cl.k (fun j a b c => (o3 j a).trans ((o2 j c).trans (o1 j b)))
  have fk3 := ez_fr_mono f3 (fun z hz => by unfold ez_one at hz; rw [Nat.eq_of_beq_eq_true hz]; exact kb_l (kl_y (r := 749) (by decide) (by decide)))
  have kc3 := kc.k B3 fk3 (fun z hz => kb_t hX (Or.inr rfl) hz)
  have nq9 : q ≠ 749 := fun e => by rw [e, tc] at tq; cases tq
  have tq1 := tx_p88 hB tq
  have nq1 : q + 1 ≠ 749 := fun e => by rw [e, tc] at tq1; cases tq1
  have uq3 : tx g3 q u := tx_c uq (f3.2.2 q (dz_beq_ne nq9)) (f3.2.2 (q + 1) (dz_beq_ne nq1))
  refine ez_go (n := 1) (pc' := 16) (L' := [(0, .inr (.inr (some (749)))), (1, .inr (.inr (some (q)))), (2, .inl (s9))]) (st' := [.inr (.inr (some (749)))]) rfl ?_
  refine ez_gC (p := 729) (tg := 61) B3 tc rfl rfl tq_10 rfl rfl (fun (t729 : _ = 61) => ?_)
  refine ez_go (n := 2) (pc' := 21) (L' := [(0, .inr (.inr (some (749)))), (1, .inr (.inr (some (q)))), (2, .inl (s9))]) (st' := [.inr (.inr (some (749))), .inr (.inr (some (q))), .inr (.inr (some (729)))]) rfl ?_
  refine ez_gR B3 tc rfl rfl tq_10 rfl rfl (fun (t7 : _ = 1) (t7' : 1 ≤ qz_I g3 749 2) => ?_)
  rw [show qz_P g3 749 2 = 750 by unfold qz_P; rw [cl3.1]; first | rfl | omega]
  refine ez_go (n := 1) (pc' := 25) (L' := [(0, .inr (.inr (some (749)))), (1, .inr (.inr (some (q)))), (2, .inl (s9))]) (st' := [.inl (0), .inr (.inr (some (750))), .inr (.inr (some (q))), .inr (.inr (some (729)))]) rfl ?_
  refine ez_cv B3 t729 rfl rfl rfl tq_61 rfl rfl rfl (rd_convs (fm := 0) (r := 750) kc3.1 kc3.2.2.2.1 hw kc3.2.2.2.2 tg1 (Or.inr (by decide)) tq (fun e => by rw [e, tg1] at tq; cases tq) uq3 up ⟨by decide, by decide⟩ (fun m res um lt nf pr g4 B4 f4 x4 => ez_K1 ?_) (fun m um lt g4 B4 f4 => ez_K1 ?_))
  · have fk4 := fk3.trans (ez_fr_mono f4 (fun z hz => kb_co (r := 749) hz))
    have kc4 := kc.k B4 fk4 (fun z hz => kb_t hX (Or.inr rfl) hz)
    have cl4 : clr g4 749 := cl3.k (fun j _ _ _ => f4.I (co_Pn (by decide) (by decide) (by decide)) j)
    have rl : res.length ≤ 2000 := by have q1 := x4.1; have q2 := tx_l1 B4 tg1; omega
    refine ez_if rfl rfl ⟨by decide, by decide⟩ (fun _ => ?_) (fun (c8 : ¬((1 : Int) ≠ (0))) => absurd c8 (by decide))
    refine ez_go (n := 2) (pc' := 35) (L' := [(3, .inl (0)), (0, .inr (.inr (some (749)))), (1, .inr (.inr (some (q)))), (2, .inl (s9))]) (st' := []) rfl ?_
    refine ez_less [(3, .inl (0)), (0, .inr (.inr (some (749)))), (1, .inr (.inr (some (q)))), (2, .inl (s9))] rfl ⟨rfl, rfl, rfl, rfl, trivial⟩ ?_
    refine rd_bcl_r (h := g4) (rem := res) hX tq kc4 hK cl4 x4 pr rl (fun g5 B5 f5 e5 => ?_) _ 0 g4 rfl (by omega) (by omega) B4 (ez_fr.refl _ g4) (fun j v hj => by omega)
    have fk5 := fk4.trans (ez_fr_mono f5 (fun z hz => by unfold ez_one at hz; rw [Nat.eq_of_beq_eq_true hz]; exact kb_l (kl_y (r := 749) (by decide) (by decide))))
    have kc5 := kc.k B5 fk5 (fun z hz => kb_t hX (Or.inr rfl) hz)
    have cl5 : clr g5 749 := cl4.k (fun j _ _ _ => f5.I rfl j)
    have i5 : ∀ j, qz_I g5 749 j = qz_I g3 749 j := fun j => (f5.I rfl j).trans (f4.I (co_Pn (by decide) (by decide) (by decide)) j)
    have cs5 : cts g5 749 sh false [] := ⟨⟨by rw [i5]; exact v3, by rw [i5, o3 6 (by decide), o2 6 (by decide), v1]; exact hs, Or.inr ⟨rfl, by rw [i5, o3 7 (by decide)]; exact v2⟩⟩, fun j w hw => by cases hw⟩
    have rs5 : rst g5 749 (fun x => (F x).1) 0 res := ⟨⟨by omega, by omega, pr⟩, ((f5.I rfl _).trans x4.1).trans (by omega), fun j v hv => ⟨by rw [show (0 : Int).toNat + j = j by omega]; exact (f5.I rfl j).trans (x4.2 j v hv), by rw [show (0 : Int).toNat + j = j by omega]; exact e5 j v hv⟩⟩
    refine ez_go (n := 4) (pc' := 79) (L' := [(4, .inl (0)), (3, .inl (0)), (0, .inr (.inr (some (749)))), (1, .inr (.inr (some (q)))), (2, .inl (s9))]) (st' := []) rfl ?_
    refine ez_less [(4, .inl (0)), (3, .inl (0)), (0, .inr (.inr (some (749)))), (1, .inr (.inr (some (q)))), (2, .inl (s9))] rfl ⟨rfl, rfl, rfl, rfl, rfl, trivial⟩ ?_
    exact rd_bld_r (h := g5) (sh := sh) (tot := wts sh false (els LK (fun x => (F x).1) (UBd D) 2000 res)) hX tq hK hL (fun g6 B6 f6 cl6 cs6 => k1 m res um lt nf pr rl g6 B6 (fk5.trans (ez_fr_mono f6 (fun z hz => kb_l hz))) cl6 cs6) 2000 0 0 g5 res [] false ⟨rl, by decide, by decide⟩ B5 (ez_fr.refl _ g5) cl5 kc5 rs5 cs5 (by rw [List.length_nil]; omega) (by rw [List.nil_append])
  · have fk4 := fk3.trans (ez_fr_mono f4 (fun z hz => kb_co (r := 749) hz))
    refine ez_if rfl rfl ⟨by decide, by decide⟩ (fun (c9 : (0 : Int) ≠ (0)) => absurd c9 (by decide)) (fun _ => ?_)
    refine ez_go (n := 1) (pc' := 32) (L' := [(0, .inr (.inr (some (749)))), (1, .inr (.inr (some (q)))), (2, .inl (s9))]) (st' := [.inl (0)]) rfl ?_
    exact ez_retZ rfl rfl (Or.inl rfl) (k0 m um lt g4 B4 fk4 (cl3.k (fun j _ _ _ => f4.I (co_Pn (by decide) (by decide) (by decide)) j)))

end EzKd
