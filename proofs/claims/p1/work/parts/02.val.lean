/-! Symbolic runs, part 1: the values. A number is known, or a variable of the script, or any function of the script. -/
abbrev px_X : Type := Nat → Int32
abbrev px_I : Type := Int ⊕ (Nat ⊕ (px_X → Int32))
abbrev px_L : Type := Int ⊕ (Nat ⊕ (px_X → Int64))
abbrev px_V : Type := px_I ⊕ (px_L ⊕ Option Nat)
abbrev px_G : Type := List (Int × Int)
/-- the script's ints (and two numbers beside them), the addresses of what was there before, the first address of what was made since -/
abbrev px_E : Type := px_X × (Nat → Nat) × Nat
def px_i (x : px_X) (a : px_I) : Int32 := match a with
  | .inl n => Int32.ofInt n
  | .inr (.inl i) => x i
  | .inr (.inr f) => f x
def px_l (x : px_X) (a : px_L) : Int64 := match a with
  | .inl n => Int64.ofInt n
  | .inr (.inl i) => (x i).toInt64
  | .inr (.inr f) => f x
def px_ad (E : px_E) (r : Nat) : Nat := if r < 64 then E.2.1 r else E.2.2 + (r - 64)
def px_v (E : px_E) (v : px_V) : Value := match v with
  | .inl a => .int (px_i E.1 a)
  | .inr (.inl a) => .long (px_l E.1 a)
  | .inr (.inr none) => .null
  | .inr (.inr (some r)) => .ref (px_ad E r)
/-- an operation of two ints: known where both are known -/
def px_b2 (op : Int32 → Int32 → Int32) (a b : px_I) : px_I := match a, b with
  | .inl m, .inl n => .inl (op (Int32.ofInt m) (Int32.ofInt n)).toInt
  | a, b => .inr (.inr (fun x => op (px_i x a) (px_i x b)))
def px_b1 (op : Int32 → Int32) (a : px_I) : px_I := match a with
  | .inl m => .inl (op (Int32.ofInt m)).toInt
  | a => .inr (.inr (fun x => op (px_i x a)))
def px_add (a b : px_I) : px_I := match a, b with
  | .inl m, .inl n => .inl (m + n)
  | a, b => .inr (.inr (fun x => px_i x a + px_i x b))
def px_sub (a b : px_I) : px_I := match a, b with
  | .inl m, .inl n => .inl (m - n)
  | a, b => .inr (.inr (fun x => px_i x a - px_i x b))
/-- the script's first int under the mask 31 is the variable 6 -/
def px_and (a b : px_I) : px_I := match a, b with
  | .inl m, .inl n => .inl (Int32.ofInt m &&& Int32.ofInt n).toInt
  | .inr (.inl 0), .inl 31 => .inr (.inl 6)
  | a, b => .inr (.inr (fun x => px_i x a &&& px_i x b))
theorem px_b2_ok (op : Int32 → Int32 → Int32) (x : px_X) (a b : px_I) : px_i x (px_b2 op a b) = op (px_i x a) (px_i x b) := by
  unfold px_b2
  split
  · simp [px_i]
  · rfl
theorem px_b1_ok (op : Int32 → Int32) (x : px_X) (a : px_I) : px_i x (px_b1 op a) = op (px_i x a) := by
  unfold px_b1
  split
  · simp [px_i]
  · rfl
theorem px_add_ok (x : px_X) (a b : px_I) : px_i x (px_add a b) = px_i x a + px_i x b := by
  unfold px_add
  split
  · simp [px_i]
  · rfl
theorem px_sub_ok (x : px_X) (a b : px_I) : px_i x (px_sub a b) = px_i x a - px_i x b := by
  unfold px_sub
  split
  · simp [px_i]
  · rfl
theorem px_and_ok (x : px_X) (h6 : x 6 = x 0 &&& 31) (a b : px_I) : px_i x (px_and a b) = px_i x a &&& px_i x b := by
  unfold px_and
  split
  · simp [px_i]
  · simp [px_i, h6]
  · rfl
/-- tests of numbers, cheap where Lean's kernel runs them -/
def px_ilt (a b : Int) : Bool := match a, b with
  | .ofNat m, .ofNat n => Nat.blt m n
  | .ofNat _, .negSucc _ => false
  | .negSucc _, .ofNat _ => true
  | .negSucc m, .negSucc n => Nat.blt n m
theorem px_ilt_eq (a b : Int) : px_ilt a b = decide (a < b) := by
  cases a with
  | ofNat m => cases b with
    | ofNat n => rw [Bool.eq_iff_iff]; simp only [px_ilt, Int.ofNat_eq_natCast, Nat.blt_eq, decide_eq_true_eq]; omega
    | negSucc n => exact (decide_eq_false (by rw [Int.ofNat_eq_natCast]; omega)).symm
  | negSucc m => cases b with
    | ofNat n => exact (decide_eq_true (by rw [Int.ofNat_eq_natCast]; omega)).symm
    | negSucc n => rw [Bool.eq_iff_iff]; simp only [px_ilt, Int.ofNat_eq_natCast, Nat.blt_eq, decide_eq_true_eq]; omega
def px_ile (a b : Int) : Bool := match px_ilt b a with
  | true => false
  | false => true
theorem px_ile_eq (a b : Int) : px_ile a b = decide (a ≤ b) := by
  unfold px_ile
  rw [px_ilt_eq]
  by_cases h : b < a
  · rw [decide_eq_true h, decide_eq_false (by omega)]
  · rw [decide_eq_false h, decide_eq_true (by omega)]
def px_ieq (a b : Int) : Bool := match a, b with
  | .ofNat m, .ofNat n => Nat.beq m n
  | .negSucc m, .negSucc n => Nat.beq m n
  | _, _ => false
theorem px_ieq_eq (a b : Int) : px_ieq a b = decide (a = b) := by
  cases a with
  | ofNat m => cases b with
    | ofNat n => rw [Bool.eq_iff_iff]; simp only [px_ieq, Int.ofNat_eq_natCast, Nat.beq_eq, decide_eq_true_eq]; omega
    | negSucc n => exact (decide_eq_false (by rw [Int.ofNat_eq_natCast]; omega)).symm
  | negSucc m => cases b with
    | ofNat n => exact (decide_eq_false (by rw [Int.ofNat_eq_natCast]; omega)).symm
    | negSucc n => rw [Bool.eq_iff_iff]; simp only [px_ieq, Int.ofNat_eq_natCast, Nat.beq_eq, decide_eq_true_eq]; omega
/-- the bounds of an int -/
def px_low : Int := -2147483648
def px_hig : Int := 2147483647
def px_inr (n : Int) : Bool := match n with
  | .ofNat m => Nat.ble m 2147483647
  | .negSucc m => Nat.ble m 2147483647
theorem px_inr_eq (n : Int) : px_inr n = (decide (px_low ≤ n) && decide (n ≤ px_hig)) := by
  cases n with
  | ofNat m =>
    have h : px_low ≤ Int.ofNat m := by rw [Int.ofNat_eq_natCast]; unfold px_low; omega
    show Nat.ble m 2147483647 = (decide (px_low ≤ Int.ofNat m) && decide (Int.ofNat m ≤ px_hig))
    rw [decide_eq_true h, Bool.true_and]
    by_cases h2 : Int.ofNat m ≤ px_hig
    · rw [decide_eq_true h2]
      rw [Int.ofNat_eq_natCast] at h2
      unfold px_hig at h2
      exact Nat.ble_eq.mpr (by omega)
    · rw [decide_eq_false h2]
      rw [Int.ofNat_eq_natCast] at h2
      unfold px_hig at h2
      exact Bool.eq_false_iff.mpr (fun q => h2 (by have := Nat.ble_eq.mp q; omega))
  | negSucc m =>
    have h : Int.negSucc m ≤ px_hig := by unfold px_hig; omega
    show Nat.ble m 2147483647 = (decide (px_low ≤ Int.negSucc m) && decide (Int.negSucc m ≤ px_hig))
    rw [decide_eq_true h, Bool.and_true]
    by_cases h2 : px_low ≤ Int.negSucc m
    · rw [decide_eq_true h2]
      unfold px_low at h2
      exact Nat.ble_eq.mpr (by omega)
    · rw [decide_eq_false h2]
      unfold px_low at h2
      exact Bool.eq_false_iff.mpr (fun q => h2 (by have := Nat.ble_eq.mp q; omega))
def px_rg (g : px_G) (a : px_I) : Int × Int := match a with
  | .inl n => bif px_inr n then (n, n) else (px_low, px_hig)
  | .inr (.inl i) => (g[i]?).getD (px_low, px_hig)
  | .inr (.inr _) => (px_low, px_hig)
def px_Gok (x : px_X) (g : px_G) : Prop := ∀ (i : Nat) (q : Int × Int), g[i]? = some q → q.1 ≤ (x i).toInt ∧ (x i).toInt ≤ q.2
theorem px_any (v : Int32) : px_low ≤ v.toInt ∧ v.toInt ≤ px_hig := by
  have h1 := Int32.le_toInt v
  have h2 := Int32.toInt_lt v
  unfold px_low px_hig
  omega
theorem px_ofInt {n : Int} (h1 : px_low ≤ n) (h2 : n ≤ px_hig) : (Int32.ofInt n).toInt = n := by
  unfold px_low px_hig at *
  rw [Int32.toInt_ofInt_of_le] <;> omega
theorem px_rg_ok {x : px_X} {g : px_G} (h : px_Gok x g) (a : px_I) : (px_rg g a).1 ≤ (px_i x a).toInt ∧ (px_i x a).toInt ≤ (px_rg g a).2 := by
  unfold px_rg
  split
  · rename_i n
    rw [px_inr_eq]
    by_cases hn : (decide (px_low ≤ n) && decide (n ≤ px_hig)) = true
    · rw [hn]
      simp only [Bool.and_eq_true, decide_eq_true_eq] at hn
      simp only [cond_true, px_i, px_ofInt hn.1 hn.2]
      exact ⟨Int.le_refl _, Int.le_refl _⟩
    · rw [Bool.eq_false_iff.mpr hn]
      exact px_any _
  · rename_i i
    cases hq : g[i]? with
    | none => simpa using px_any _
    | some q => simpa [px_i] using h i q hq
  · exact px_any _
/-- a variable gets tighter bounds -/
def px_tight (g : px_G) (a : px_I) (lo hi : Int) : px_G := match a with
  | .inr (.inl i) => match g[i]? with
    | some q => g.set i (max q.1 lo, min q.2 hi)
    | none => g
  | _ => g
theorem px_tight_ok {x : px_X} {g : px_G} (h : px_Gok x g) (a : px_I) {lo hi : Int} (h1 : lo ≤ (px_i x a).toInt) (h2 : (px_i x a).toInt ≤ hi) : px_Gok x (px_tight g a lo hi) := by
  unfold px_tight
  split
  · rename_i i
    split
    · rename_i q hq
      intro j r hr
      rw [List.getElem?_set] at hr
      split at hr
      · rename_i hj
        subst hj
        split at hr
        · cases hr
          have h3 := h i q hq
          simp only [px_i] at h1 h2
          exact ⟨by show max q.1 lo ≤ _; omega, by show _ ≤ min q.2 hi; omega⟩
        · cases hr
      · exact h j r hr
    · exact h
  · exact h
/-- a number where the bounds leave but one -/
def px_nrm (g : px_G) (a : px_I) : px_I := match a with
  | .inr (.inl i) => bif px_ieq (px_rg g a).1 (px_rg g a).2 then .inl (px_rg g a).1 else .inr (.inl i)
  | a => a
theorem px_one {x : px_X} {g : px_G} (h : px_Gok x g) (a : px_I) (e : (px_rg g a).1 = (px_rg g a).2) : px_i x a = Int32.ofInt (px_rg g a).1 := by
  have h1 := px_rg_ok h a
  have h2 : (px_i x a).toInt = (px_rg g a).1 := by omega
  rw [← h2, Int32.ofInt_toInt]
theorem px_nrm_ok {x : px_X} {g : px_G} (h : px_Gok x g) (a : px_I) : px_i x (px_nrm g a) = px_i x a := by
  unfold px_nrm
  split
  · rename_i i
    rw [px_ieq_eq]
    by_cases e : (px_rg g (.inr (.inl i))).1 = (px_rg g (.inr (.inl i))).2
    · rw [decide_eq_true e]
      exact (px_one h _ e).symm
    · rw [decide_eq_false e]
      rfl
  · rfl
def px_i2l (g : px_G) (a : px_I) : px_L := match px_nrm g a with
  | .inl n => bif px_inr n then .inl n else .inr (.inr (fun _ => (Int32.ofInt n).toInt64))
  | .inr (.inl i) => .inr (.inl i)
  | .inr (.inr f) => .inr (.inr (fun x => (f x).toInt64))
theorem px_i2l_ok {x : px_X} {g : px_G} (h : px_Gok x g) (a : px_I) : px_l x (px_i2l g a) = (px_i x a).toInt64 := by
  rw [← px_nrm_ok h a]
  unfold px_i2l
  split
  · rename_i n hn
    rw [hn, px_inr_eq]
    by_cases hq : (decide (px_low ≤ n) && decide (n ≤ px_hig)) = true
    · rw [hq]
      simp only [Bool.and_eq_true, decide_eq_true_eq] at hq
      show Int64.ofInt n = (Int32.ofInt n).toInt64
      apply Int64.toInt_inj.mp
      rw [Int32.toInt_toInt64, px_ofInt hq.1 hq.2, Int64.toInt_ofInt_of_le] <;> (unfold px_low px_hig at hq; omega)
    · rw [Bool.eq_false_iff.mpr hq]
      rfl
  · rename_i i hi
    rw [hi]
    rfl
  · rename_i f hf
    rw [hf]
    rfl
