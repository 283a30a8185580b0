/-! ORDERED: marks by rank, those of one rank as they stood. -/
def os_ins (x : Int × Int) : List (Int × Int) → List (Int × Int)
  | [] => [x]
  | y :: L => if y.2 < x.2 ∧ 0 < y.2 then y :: os_ins x L else x :: y :: L
def os_srt : List (Int × Int) → List (Int × Int)
  | [] => []
  | x :: L => os_ins x (os_srt L)
theorem os_comm {x y : Int × Int} (h1 : y.2 < x.2) (h2 : 0 < y.2) : ∀ M, os_ins x (os_ins y M) = os_ins y (os_ins x M)
  | [] => by
    show (if y.2 < x.2 ∧ 0 < y.2 then y :: os_ins x [] else x :: [y]) = (if x.2 < y.2 ∧ 0 < x.2 then x :: os_ins y [] else y :: [x])
    rw [if_pos ⟨h1, h2⟩, if_neg (fun w => by omega)]; rfl
  | m :: M => by
    by_cases e1 : m.2 < y.2 ∧ 0 < m.2
    · have a1 : os_ins y (m :: M) = m :: os_ins y M := if_pos e1
      have a2 : os_ins x (m :: M) = m :: os_ins x M := if_pos ⟨by omega, e1.2⟩
      have a3 : os_ins x (m :: os_ins y M) = m :: os_ins x (os_ins y M) := if_pos ⟨by omega, e1.2⟩
      have a4 : os_ins y (m :: os_ins x M) = m :: os_ins y (os_ins x M) := if_pos e1
      rw [a1, a2, a3, a4, os_comm h1 h2 M]
    · have a1 : os_ins y (m :: M) = y :: m :: M := if_neg e1
      have a3 : os_ins x (y :: m :: M) = y :: os_ins x (m :: M) := if_pos ⟨h1, h2⟩
      rw [a1, a3]
      by_cases e2 : m.2 < x.2 ∧ 0 < m.2
      · have a2 : os_ins x (m :: M) = m :: os_ins x M := if_pos e2
        have a4 : os_ins y (m :: os_ins x M) = y :: m :: os_ins x M := if_neg e1
        rw [a2, a4]
      · have a2 : os_ins x (m :: M) = x :: m :: M := if_neg e2
        have a4 : os_ins y (x :: m :: M) = y :: x :: m :: M := if_neg (fun w => by omega)
        rw [a2, a4]
theorem os_swap {x y : Int × Int} (h1 : y.2 < x.2) (h2 : 0 < y.2) : ∀ A B, os_srt (A ++ x :: y :: B) = os_srt (A ++ y :: x :: B)
  | [], B => os_comm h1 h2 (os_srt B)
  | a :: A, B => by
    show os_ins a (os_srt (A ++ x :: y :: B)) = os_ins a (os_srt (A ++ y :: x :: B))
    rw [os_swap h1 h2 A B]
/-- nothing is left to change places -/
def os_nf : List (Int × Int) → Prop
  | [] => True
  | [_] => True
  | x :: y :: L => ¬ (y.2 < x.2 ∧ 0 < y.2) ∧ os_nf (y :: L)
theorem os_done : ∀ L, os_nf L → os_srt L = L
  | [], _ => rfl
  | [_], _ => rfl
  | x :: y :: L, h => by
    show os_ins x (os_srt (y :: L)) = x :: y :: L
    rw [os_done (y :: L) h.2]
    exact if_neg h.1
theorem os_nf_i : ∀ L : List (Int × Int), (∀ i x y, L[i]? = some x → L[i + 1]? = some y → ¬ (y.2 < x.2 ∧ 0 < y.2)) → os_nf L
  | [], _ => trivial
  | [_], _ => trivial
  | x :: y :: L, h => ⟨h 0 x y rfl rfl, os_nf_i (y :: L) (fun i a b ha hb => h (i + 1) a b ha hb)⟩
theorem os_pass {b : Int × Int} (h2 : 0 < b.2) : ∀ P A B, (∀ a ∈ A, b.2 < a.2) → os_srt (P ++ (A ++ b :: B)) = os_srt (P ++ (b :: (A ++ B)))
  | P, [], B, _ => rfl
  | P, a :: A, B, h => by
    have e1 := os_pass h2 (P ++ [a]) A B (fun z hz => h z (List.mem_cons_of_mem _ hz))
    have e2 := os_swap (h a List.mem_cons_self) h2 P (A ++ B)
    simp only [List.append_assoc, List.cons_append, List.nil_append] at e1
    rw [List.cons_append, e1, e2]; rfl
/-- two rows in order become one -/
def os_mrg : Nat → List (Int × Int) → List (Int × Int) → List (Int × Int)
  | 0, A, B => A ++ B
  | _ + 1, [], B => B
  | _ + 1, A, [] => A
  | n + 1, a :: A, b :: B => if a.2 ≤ b.2 then a :: os_mrg n A (b :: B) else b :: os_mrg n (a :: A) B
def os_up : List (Int × Int) → Prop
  | [] => True
  | x :: L => (∀ y ∈ L, x.2 ≤ y.2) ∧ os_up L
theorem os_mrg_srt : ∀ n P A B S, A.length + B.length ≤ n → os_up A → (∀ b ∈ B, 0 < b.2) → os_srt (P ++ (os_mrg n A B ++ S)) = os_srt (P ++ (A ++ (B ++ S)))
  | 0, P, A, B, S, hn, _, _ => by show os_srt (P ++ ((A ++ B) ++ S)) = _; rw [List.append_assoc]
  | n + 1, P, [], B, S, _, _, _ => by unfold os_mrg; rfl
  | n + 1, P, a :: A, [], S, _, _, _ => by unfold os_mrg; rfl
  | n + 1, P, a :: A, b :: B, S, hn, hu, hb => by
    simp only [List.length_cons] at hn
    by_cases e : a.2 ≤ b.2
    · have e1 : os_mrg (n + 1) (a :: A) (b :: B) = a :: os_mrg n A (b :: B) := if_pos e
      have e2 := os_mrg_srt n (P ++ [a]) A (b :: B) S (by simp only [List.length_cons]; omega) hu.2 hb
      simp only [List.append_assoc, List.cons_append, List.nil_append] at e2
      rw [e1, List.cons_append, e2]; rfl
    · have e1 : os_mrg (n + 1) (a :: A) (b :: B) = b :: os_mrg n (a :: A) B := if_neg e
      have e2 := os_mrg_srt n (P ++ [b]) (a :: A) B S (by simp only [List.length_cons]; omega) hu (fun z hz => hb z (List.mem_cons_of_mem _ hz))
      have e3 := os_pass (b := b) (hb b List.mem_cons_self) P (a :: A) (B ++ S) (fun z hz => by
        rcases List.mem_cons.mp hz with w | w
        · rw [w]; omega
        · have := hu.1 z w; omega)
      simp only [List.append_assoc, List.cons_append, List.nil_append] at e2 e3
      rw [e1]
      simp only [List.cons_append]
      rw [e2, e3]
theorem os_mrg_mem : ∀ n A B (z : Int × Int), z ∈ os_mrg n A B → z ∈ A ∨ z ∈ B
  | 0, A, B, z, h => List.mem_append.mp h
  | n + 1, [], B, z, h => by unfold os_mrg at h; exact Or.inr h
  | n + 1, a :: A, [], z, h => by unfold os_mrg at h; exact Or.inl h
  | n + 1, a :: A, b :: B, z, h => by
    by_cases e : a.2 ≤ b.2
    · rw [show os_mrg (n + 1) (a :: A) (b :: B) = a :: os_mrg n A (b :: B) from if_pos e] at h
      rcases List.mem_cons.mp h with w | w
      · exact Or.inl (by rw [w]; exact List.mem_cons_self)
      · rcases os_mrg_mem n A (b :: B) z w with v | v
        · exact Or.inl (List.mem_cons_of_mem _ v)
        · exact Or.inr v
    · rw [show os_mrg (n + 1) (a :: A) (b :: B) = b :: os_mrg n (a :: A) B from if_neg e] at h
      rcases List.mem_cons.mp h with w | w
      · exact Or.inr (by rw [w]; exact List.mem_cons_self)
      · rcases os_mrg_mem n (a :: A) B z w with v | v
        · exact Or.inl v
        · exact Or.inr (List.mem_cons_of_mem _ v)
theorem os_mrg_up : ∀ n A B, A.length + B.length ≤ n → os_up A → os_up B → os_up (os_mrg n A B)
  | 0, [], [], _, _, _ => trivial
  | 0, _ :: _, _, hn, _, _ => by simp only [List.length_cons] at hn; omega
  | 0, [], _ :: _, hn, _, _ => by simp only [List.length_cons] at hn; omega
  | n + 1, [], B, _, _, hB => by unfold os_mrg; exact hB
  | n + 1, a :: A, [], _, hA, _ => by unfold os_mrg; exact hA
  | n + 1, a :: A, b :: B, hn, hA, hB => by
    simp only [List.length_cons] at hn
    by_cases e : a.2 ≤ b.2
    · rw [show os_mrg (n + 1) (a :: A) (b :: B) = a :: os_mrg n A (b :: B) from if_pos e]
      refine ⟨fun z hz => ?_, os_mrg_up n A (b :: B) (by simp only [List.length_cons]; omega) hA.2 hB⟩
      rcases os_mrg_mem n A (b :: B) z hz with v | v
      · exact hA.1 z v
      · rcases List.mem_cons.mp v with w | w
        · rw [w]; exact e
        · have := hB.1 z w; omega
    · rw [show os_mrg (n + 1) (a :: A) (b :: B) = b :: os_mrg n (a :: A) B from if_neg e]
      refine ⟨fun z hz => ?_, os_mrg_up n (a :: A) B (by simp only [List.length_cons]; omega) hA hB.2⟩
      rcases os_mrg_mem n (a :: A) B z hz with v | v
      · rcases List.mem_cons.mp v with w | w
        · rw [w]; omega
        · have := hA.1 z w; omega
      · exact hB.1 z v
theorem os_mrg_len : ∀ n A B, (os_mrg n A B).length = A.length + B.length
  | 0, A, B => List.length_append
  | n + 1, [], B => by unfold os_mrg; simp only [List.length_nil, Nat.zero_add]
  | n + 1, a :: A, [] => by unfold os_mrg; rfl
  | n + 1, a :: A, b :: B => by
    by_cases e : a.2 ≤ b.2
    · rw [show os_mrg (n + 1) (a :: A) (b :: B) = a :: os_mrg n A (b :: B) from if_pos e]
      have := os_mrg_len n A (b :: B)
      simp only [List.length_cons] at this ⊢; omega
    · rw [show os_mrg (n + 1) (a :: A) (b :: B) = b :: os_mrg n (a :: A) B from if_neg e]
      have := os_mrg_len n (a :: A) B
      simp only [List.length_cons] at this ⊢; omega
theorem os_mrg_more : ∀ n A B, A.length + B.length ≤ n → os_mrg (n + 1) A B = os_mrg n A B
  | 0, [], [], _ => rfl
  | 0, _ :: _, _, hn => by simp only [List.length_cons] at hn; omega
  | 0, [], _ :: _, hn => by simp only [List.length_cons] at hn; omega
  | n + 1, [], B, _ => rfl
  | n + 1, a :: A, [], _ => rfl
  | n + 1, a :: A, b :: B, hn => by
    simp only [List.length_cons] at hn
    by_cases e : a.2 ≤ b.2
    · rw [show os_mrg (n + 1) (a :: A) (b :: B) = a :: os_mrg n A (b :: B) from if_pos e, show os_mrg (n + 1 + 1) (a :: A) (b :: B) = a :: os_mrg (n + 1) A (b :: B) from if_pos e, os_mrg_more n A (b :: B) (by simp only [List.length_cons]; omega)]
    · rw [show os_mrg (n + 1) (a :: A) (b :: B) = b :: os_mrg n (a :: A) B from if_neg e, show os_mrg (n + 1 + 1) (a :: A) (b :: B) = b :: os_mrg (n + 1) (a :: A) B from if_neg e, os_mrg_more n (a :: A) B (by simp only [List.length_cons]; omega)]
/-! L3: a piece of an array of ints into another (or the same) one. -/
section EzAc
variable {d : Nat} {M : cz_M} {pc : Nat} {L : List (Nat × ez_V)} {st : List ez_V} {h : cz_H} {τ : Nat → Nat} {Q : cz_F → Prop}
theorem ac_B {r n : Nat} {f f' : Nat → cz_V} {ti : dz_I} {D : dz_D} (hB : ez_B τ h) (hti : tz_T (τ r) = some ti) (hk : Nat.beq ti.1 1 = true) (hD : dz_nth ti.2.2.2.2 0 = some D) (ho : h.2.2 r = .inl (1, n, f)) (hv : ∀ i, i < n → dz_vd τ r D (f' i)) : ez_B τ (cz_setc h r (.inl (1, n, f'))) := by
  have hcell : ∀ r', (cz_setc h r (.inl (1, n, f'))).2.2 r' = if r' = r then .inl (1, n, f') else h.2.2 r' := fun _ => rfl
  have hal : ∀ r', dz_al ((cz_setc h r (.inl (1, n, f'))).2.2 r') = dz_al (h.2.2 r') := by
    intro r'
    rw [hcell]
    by_cases e : r' = r
    · rw [if_pos e, e, ho]; rfl
    · rw [if_neg e]
  refine ⟨fun r' hr' => ?_, hB.2.1, hB.2.2⟩
  obtain ⟨i1, ti', i2, i3, i4, i5⟩ := hB.1 r' hr'
  refine ⟨i1, ti', i2, dz_sh_al (hal r') i3, i4, ?_⟩
  by_cases e : r' = r
  · subst e
    intro i v hi
    rw [hcell, if_pos rfl] at hi
    rw [hti] at i2
    cases i2
    have hi : (if i < n then some (f' i) else none) = some v := hi
    by_cases ei : i < n
    · rw [if_pos ei] at hi
      cases hi
      refine ⟨D, ?_, hv i ei⟩
      unfold dz_ds
      rw [Nat.eq_of_beq_eq_true hk]
      exact hD
    · rw [if_neg ei] at hi; cases hi
  · rw [hcell, if_neg e]; exact i5
theorem ez_ac {r1 r2 t1 t2 x y1 y2 y3 : Nat} {ti1 ti2 : dz_I} {sp dp n : Int} (hB : ez_B τ h) (h1 : τ r1 = t1) (h2 : τ r2 = t2) (hti1 : tz_T t1 = some ti1) (hti2 : tz_T t2 = some ti2) (hb : (((Nat.beq ti1.1 1 && Nat.beq ti1.2.1 1) && (Nat.beq ti2.1 1 && Nat.beq ti2.2.1 1)) && (Nat.beq ti2.2.2.1 1 && (dz_ile ti1.2.2.2.1.2 2147483647 && dz_ile ti2.2.2.2.1.2 2147483647))) = true) (hD1 : dz_nth ti1.2.2.2.2 0 = some (0, -2147483648, 2147483647, 0, 0)) (hD2 : dz_nth ti2.2.2.2.2 0 = some (0, -2147483648, 2147483647, 0, 0)) (hc : cz_code M pc = some (.invokestatic x, 3)) (hth : cz_throw M pc (.invokestatic x) = none) (hq : cz_lk M x = some (13, y1, y2, y3)) (hst : Nat.ble st.length 20 = true) (n0 : 0 ≤ n) (s0 : 0 ≤ sp) (d0 : 0 ≤ dp) (s1 : sp + n ≤ qz_N h r1) (d1 : dp + n ≤ qz_N h r2) (kk : ∀ g, ez_B τ g → ez_fr (ez_one r2) h g → qz_N g r2 = qz_N h r2 → (∀ j : Nat, qz_I g r2 j = if dp ≤ (j : Int) ∧ (j : Int) < dp + n then qz_I h r1 (sp + ((j : Int) - dp)).toNat else qz_I h r2 j) → ez_W (d + 1) M (pc + 3) L st g Q) : ez_W (d + 1) M pc L (.inl n :: .inl dp :: .inr (.inr (some r2)) :: .inl sp :: .inr (.inr (some r1)) :: st) h Q := by
  simp only [Bool.and_eq_true] at hb
  obtain ⟨⟨⟨b1, b2⟩, b3, b4⟩, b5, b6, b7⟩ := hb
  have b6 := dz_ile_ok b6
  have b7 := dz_ile_ok b7
  have e2 := Nat.eq_of_beq_eq_true b2
  have e4 := Nat.eq_of_beq_eq_true b4
  obtain ⟨n1, f1, a1, a2, a3, a4, a5, a6⟩ := ez_arr hB h1 hti1 (by rw [b1, e2]; rfl) hD1
  obtain ⟨n2, f2, c1, c2, c3, c4, c5, c6⟩ := ez_arr hB h2 hti2 (by rw [b3, e4]; rfl) hD2
  rw [e2] at a1 a2
  rw [e4] at c1 c2
  have hr : 192 ≤ r2 := by
    rcases c5 with w | w
    · rw [w] at b5; cases b5
    · exact w
  rw [a3] at s1 a4
  rw [c3] at d1 c4
  have en : (Int32.ofInt n).toInt = n := dz_toInt_i (by omega) (by omega)
  have es : (Int32.ofInt sp).toInt = sp := dz_toInt_i (by omega) (by omega)
  have ed : (Int32.ofInt dp).toInt = dp := dz_toInt_i (by omega) (by omega)
  have en2 : (Int32.ofInt n).toNatClampNeg = n.toNat := by unfold Int32.toNatClampNeg; rw [en]
  have es2 : (Int32.ofInt sp).toNatClampNeg = sp.toNat := by unfold Int32.toNatClampNeg; rw [es]
  have ed2 : (Int32.ofInt dp).toNatClampNeg = dp.toNat := by unfold Int32.toNatClampNeg; rw [ed]
  have vI : ∀ r r' (v : cz_V), dz_vd τ r (0, -2147483648, 2147483647, 0, 0) v → dz_vd τ r' (0, -2147483648, 2147483647, 0, 0) v := fun r r' v w => ⟨w.1, w.2.1, w.2.2.1, Or.inl (by decide), Or.inl (by decide), Or.inl (by decide)⟩
  have b := ac_B (f' := va_cpy f1 f2 sp.toNat dp.toNat n.toNat) hB (by rw [h2]; exact hti2) b3 hD2 c2 (fun i hi => by
    unfold va_cpy
    by_cases ec : dp.toNat ≤ i ∧ i < dp.toNat + n.toNat
    · rw [if_pos ec]; exact vI _ _ _ (a6 _ (by omega)).2
    · rw [if_neg ec]; exact (c6 i hi).2)
  have hI : ∀ (g : cz_H) (r m : Nat) (f : Nat → cz_V) (j : Nat), g.2.2 r = .inl (1, m, f) → qz_I g r j = if j < m then dz_n (f j) else 0 := fun g r m f j e => by
    unfold qz_I
    rw [e]
    unfold dz_get
    by_cases e : j < m
    · simp only [if_pos e]
    · simp only [if_neg e]
  have e0 : (cz_setc h r2 (.inl (1, n2, va_cpy f1 f2 sp.toNat dp.toNat n.toNat))).2.2 r2 = .inl (1, n2, va_cpy f1 f2 sp.toNat dp.toNat n.toNat) := if_pos rfl
  have kk := kk _ b ⟨rfl, rfl, fun q hq => by show (if q = r2 then _ else _) = _; rw [if_neg (fun e => by rw [e] at hq; unfold ez_one at hq; rw [Nat.beq_refl] at hq; cases hq)]⟩ (by rw [c3]; unfold qz_N; rw [e0]) (fun j => by
    rw [hI _ r2 n2 _ j e0, hI h r2 n2 f2 j c2]
    by_cases ec : dp ≤ (j : Int) ∧ (j : Int) < dp + n
    · rw [if_pos ec, hI h r1 n1 f1 _ a2, if_pos (by omega), if_pos (by omega)]
      unfold va_cpy
      rw [if_pos (by omega)]
      congr 2
      omega
    · rw [if_neg ec]
      have e9 : va_cpy f1 f2 sp.toNat dp.toNat n.toNat j = f2 j := by unfold va_cpy; exact if_neg (by omega)
      rw [e9])
  have hall : (List.range n.toNat).all (fun i => cz_fitc (bif Nat.beq 1 0 then 4 else 0) (f1 (sp.toNat + i))) = true := by
    rw [List.all_eq_true]
    intro i hi
    rw [List.mem_range] at hi
    exact (a6 _ (by omega)).2.1
  refine dz_wp_hp (q := (pc + 3, st.map ez_v, cz_setc h r2 (.inl (1, n2, va_cpy f1 f2 sp.toNat dp.toNat n.toNat)))) hc rfl rfl rfl rfl hth ?_ kk
  have key : cz_hcpy M (d + 1) x pc (.inl (Int32.ofInt n) :: .inl (Int32.ofInt dp) :: .inr (.inr (some r2)) :: .inl (Int32.ofInt sp) :: .inr (.inr (some r1)) :: st.map ez_v) h = some (pc + 3, st.map ez_v, cz_setc h r2 (.inl (1, n2, va_cpy f1 f2 sp.toNat dp.toNat n.toNat))) := by
    unfold cz_hcpy
    simp only [hq, a1, c1]
    rw [en2, es2, ed2, en, es, ed]
    have hcond : ((Nat.beq 13 13 && (Nat.blt 0 (d + 1) && Nat.ble (st.map ez_v).length 20))) = true := by
      rw [List.length_map, hst]; rfl
    rw [hcond]
    show (bif ((Nat.beq 1 1 && Nat.ble 1 1 && Nat.ble 192 r2) && (decide (0 ≤ n) && decide (0 ≤ dp) && decide (0 ≤ sp)) && (Nat.ble (sp.toNat + n.toNat) n1 && Nat.ble (dp.toNat + n.toNat) n2) && (List.range n.toNat).all (fun i => cz_fitc (bif Nat.beq 1 0 then 4 else 0) (f1 (sp.toNat + i)))) then _ else none) = _
    rw [hall, Nat.ble_eq.mpr hr, decide_eq_true n0, decide_eq_true d0, decide_eq_true s0, Nat.ble_eq.mpr (show sp.toNat + n.toNat ≤ n1 by omega), Nat.ble_eq.mpr (show dp.toNat + n.toNat ≤ n2 by omega)]
    rfl
  show (match cz_hcpy M (d + 1) x pc (.inl (Int32.ofInt n) :: .inl (Int32.ofInt dp) :: .inr (.inr (some r2)) :: .inl (Int32.ofInt sp) :: .inr (.inr (some r1)) :: st.map ez_v) h with
      | some q => some q
      | none => cz_hci M (d + 1) x pc (.inl (Int32.ofInt n) :: .inl (Int32.ofInt dp) :: .inr (.inr (some r2)) :: .inl (Int32.ofInt sp) :: .inr (.inr (some r1)) :: st.map ez_v) h) = _
  rw [key]
end EzAc
/-! Texts. -/
section EzG3
variable {d : Nat} {M : cz_M} {pc : Nat} {L : List (Nat × ez_V)} {st : List ez_V} {h : cz_H} {τ : Nat → Nat} {Q : cz_F → Prop}
/-- a reference to the place right behind -/
theorem ez_g3 {x q0 cl k w r t tg : Nat} {ti : dz_I} {lo hi : Int} (hB : ez_B τ h) (hτ : τ r = t) (hc : cz_code M pc = some (.getfield x, 3)) (hq : cz_lk M x = some (q0, cl, k, w)) (hti : tz_T t = some ti) (hD : dz_nth ti.2.2.2.2 k = some (3, lo, hi, tg, 3)) (hb : (Nat.ble q0 1 && ((Nat.beq ti.1 0 && Nat.beq ti.2.1 cl) && dz_ile 1 lo)) = true) (kk : τ (r + 1) = tg → ez_W d M (pc + 3) L (.inr (.inr (some (r + 1))) :: st) h Q) : ez_W d M pc L (.inr (.inr (some r)) :: st) h Q := by
  simp only [Bool.and_eq_true] at hb
  obtain ⟨b1, b2, b3⟩ := hb
  obtain ⟨vs, v, o1, o2, o3, o4, -⟩ := ez_fld hB hτ hti (by rw [Bool.and_eq_true]; exact b2) hD
  have hbd := ez_slB o3 o4 (by show (3 : Nat) ≠ 2; decide)
  have b3 := dz_ile_ok b3
  have h1 : 1 ≤ qz_I h r k := by have h2 : lo ≤ qz_I h r k := hbd.1; omega
  obtain ⟨e1, e2, e3⟩ := ez_slR o3 o4 rfl (by show (3 : Nat) ≠ 2; decide) h1
  have hm : qz_I h r k = (r : Int) + 2 := by
    rw [qz_I_of o3]
    exact o4.2.2.2.2.1.resolve_left (fun w => w rfl)
  have ep : qz_P h r k = r + 1 := by unfold qz_P; omega
  rw [ep] at e1 e2
  exact ez_getf hc hq b1 o1 o2 e1 (kk e2)
end EzG3
theorem ez_fr_mono {P P' : Nat → Bool} {h g : cz_H} (hf : ez_fr P h g) (hp : ∀ z, P z = true → P' z = true) : ez_fr P' h g := ⟨hf.1, hf.2.1, fun z hz => hf.2.2 z (by
  cases e : P z with
  | false => rfl
  | true => rw [hp z e] at hz; cases hz)⟩
/-- a Text at r holds l -/
def tx (h : cz_H) (r : Nat) (l : List Int) : Prop := qz_I h r 1 = (l.length : Int) ∧ ∀ (j : Nat) v, l[j]? = some v → qz_I h (r + 1) j = v
/-- POINTS -/
def ptl (l : List Int) : Prop := ∀ v ∈ l, 0 ≤ v ∧ v ≤ 1114111
theorem tx_u {h : cz_H} {r : Nat} {l l2 : List Int} (a : tx h r l) (b : tx h r l2) : l = l2 := by
  have hl : l.length = l2.length := by have := a.1; have := b.1; omega
  refine List.ext_getElem? (fun i => ?_)
  by_cases e : i < l.length
  · have h1 := List.getElem?_eq_getElem e
    have h2 := List.getElem?_eq_getElem (show i < l2.length by omega)
    have := a.2 i _ h1
    rw [h1, h2, ← b.2 i _ h2, this]
  · rw [List.getElem?_eq_none (by omega), List.getElem?_eq_none (by omega)]
theorem tx_c {h g : cz_H} {r : Nat} {l : List Int} (a : tx h r l) (e1 : g.2.2 r = h.2.2 r) (e2 : g.2.2 (r + 1) = h.2.2 (r + 1)) : tx g r l := by
  unfold tx qz_I at a ⊢
  rw [e1, e2]; exact a
theorem tx_ex (h : cz_H) (r : Nat) (n0 : 0 ≤ qz_I h r 1) : ∃ l, tx h r l := by
  refine ⟨(List.range (qz_I h r 1).toNat).map (fun j => qz_I h (r + 1) j), ?_, fun j v hv => ?_⟩
  · rw [List.length_map, List.length_range]; omega
  · rw [List.getElem?_map] at hv
    obtain ⟨a, h1, h2⟩ := Option.map_eq_some_iff.mp hv
    have := List.getElem?_eq_some_iff.mp h1
    obtain ⟨w, e⟩ := this
    rw [List.getElem_range] at e
    rw [← h2, ← e]
/-! Texts: pieces, what is kept. -/
def pt (l : List Int) (i j : Int) : List Int := (l.drop i.toNat).take (j - i).toNat
theorem pt_len {l : List Int} {i j : Int} (i0 : 0 ≤ i) (ij : i ≤ j) (jl : j ≤ (l.length : Int)) : ((pt l i j).length : Int) = j - i := by
  unfold pt
  rw [List.length_take, List.length_drop]; omega
theorem pt_at {l : List Int} {i j : Int} {k : Nat} {v : Int} (h : (pt l i j)[k]? = some v) : (k : Int) < j - i ∧ l[i.toNat + k]? = some v := by
  unfold pt at h
  rw [List.getElem?_take] at h
  split at h
  · rename_i e
    rw [List.getElem?_drop] at h
    exact ⟨by omega, h⟩
  · cases h
theorem pt_all (l : List Int) : pt l 0 (l.length : Int) = l := by
  unfold pt
  rw [show ((l.length : Int) - 0).toNat = l.length by omega, show (0 : Int).toNat = 0 from rfl, List.drop_zero, List.take_length]
theorem pt_ptl {l : List Int} {i j : Int} (h : ptl l) : ptl (pt l i j) := fun v hv => h v (List.mem_of_mem_drop (List.mem_of_mem_take hv))
theorem ptl_app {l m : List Int} (h1 : ptl l) (h2 : ptl m) : ptl (l ++ m) := fun v hv => (List.mem_append.mp hv).elim (h1 v) (h2 v)
theorem ptl_at {l : List Int} {j : Nat} {v : Int} (h : ptl l) (hv : l[j]? = some v) : 0 ≤ v ∧ v ≤ 1114111 := h v (List.mem_of_getElem? hv)
theorem tx_part {h g : cz_H} {q r : Nat} {l : List Int} {i j : Int} (a : tx h q l) (i0 : 0 ≤ i) (ij : i ≤ j) (jl : j ≤ (l.length : Int)) (e1 : qz_I g r 1 = j - i) (e2 : ∀ k : Nat, (k : Int) < j - i → qz_I g (r + 1) k = qz_I h (q + 1) (i + (k : Int)).toNat) : tx g r (pt l i j) := by
  refine ⟨by rw [e1, pt_len i0 ij jl], fun k v hv => ?_⟩
  obtain ⟨h1, h2⟩ := pt_at hv
  rw [e2 k h1]
  have := a.2 _ _ h2
  rw [show (i + (k : Int)).toNat = i.toNat + k by omega]; exact this
section TxPt
variable {h : cz_H} {τ : Nat → Nat}
theorem tx_pt {r t cl tg : Nat} {ti : dz_I} {lo hi : Int} (hB : ez_B τ h) (hτ : τ r = t) (hti : tz_T t = some ti) (hD : dz_nth ti.2.2.2.2 0 = some (3, lo, hi, tg, 3)) (hb : ((Nat.beq ti.1 0 && Nat.beq ti.2.1 cl) && dz_ile 1 lo) = true) : τ (r + 1) = tg := by
  simp only [Bool.and_eq_true] at hb
  obtain ⟨b2, b3⟩ := hb
  obtain ⟨vs, v, o1, o2, o3, o4, -⟩ := ez_fld hB hτ hti (by rw [Bool.and_eq_true]; exact b2) hD
  have hbd := ez_slB o3 o4 (by show (3 : Nat) ≠ 2; decide)
  have b3 := dz_ile_ok b3
  have h1 : 1 ≤ qz_I h r 0 := by have h2 : lo ≤ qz_I h r 0 := hbd.1; omega
  obtain ⟨e1, e2, e3⟩ := ez_slR o3 o4 rfl (by show (3 : Nat) ≠ 2; decide) h1
  have hm : qz_I h r 0 = (r : Int) + 2 := by
    rw [qz_I_of o3]
    exact o4.2.2.2.2.1.resolve_left (fun w => w rfl)
  have ep : qz_P h r 0 = r + 1 := by unfold qz_P; omega
  rw [ep] at e2
  exact e2
theorem tx_p1 {r : Nat} (hB : ez_B τ h) (tr : τ r = 1) : τ (r + 1) = 2 := tx_pt (cl := 1) hB tr tq_1 rfl rfl
theorem tx_p88 {r : Nat} (hB : ez_B τ h) (tr : τ r = 88) : τ (r + 1) = 89 := tx_pt (cl := 1) hB tr tq_88 rfl rfl
theorem tx_l1 {r : Nat} (hB : ez_B τ h) (tr : τ r = 1) : 0 ≤ qz_I h r 1 ∧ qz_I h r 1 ≤ 2000 := ez_fB (cl := 1) (k := 1) hB tr tq_1 rfl rfl (by decide)
theorem tx_l88 {r : Nat} (hB : ez_B τ h) (tr : τ r = 88) : 0 ≤ qz_I h r 1 ∧ qz_I h r 1 ≤ 2000 := ez_fB (cl := 1) (k := 1) hB tr tq_88 rfl rfl (by decide)
end TxPt
/-- DATA's cells -/
def kD (t : Nat) : Bool := Nat.beq t 3 || (Nat.beq t 4 || (Nat.beq t 5 || (Nat.beq t 48 || Nat.beq t 49)))
theorem pz_C.keep {τ : Nat → Nat} {h g : cz_H} {T : Int → Nat} {F : rz_W} {E : Int → Prop} (hC : pz_C τ h T F E) (hB : ez_B τ g) (x : ∀ q, kD (τ q) = true → g.2.2 q = h.2.2 q) : pz_C τ g T F E := by
  obtain ⟨c1, c2, c3, c4, c5⟩ := hC
  have t202 : τ 202 = 48 := c2 202 (by decide)
  have t203 : τ 203 = 49 := c2 203 (by decide)
  have e202 := x 202 (by rw [t202]; rfl)
  have e203 := x 203 (by rw [t203]; rfl)
  have e4 : ∀ q, τ q = 4 → g.2.2 q = h.2.2 q := fun q hq => x q (by rw [hq]; rfl)
  have e5 : ∀ q, τ q = 5 → g.2.2 q = h.2.2 q := fun q hq => x q (by rw [hq]; rfl)
  obtain ⟨a1, a2, a3⟩ := sz_same c1 t203 t202 e202 e203 e4
  have bn := sz_R_n1 c1 t202
  refine ⟨hB, c2, (sz_ok_tr c1 t203 t202 (a3 1) e203 e4 c3), fun y k y0 y1 hk => ?_, fun y y0 y1 => ?_⟩
  · have k0 := hk.1
    have k1 := hk.2.1
    rw [a3] at k1
    have hk' : sz_at h y k := by
      obtain ⟨d0, d1, d2, d3⟩ := hk
      rw [a3] at d1 d3
      unfold sz_f at d2 d3
      refine ⟨d0, d1, ?_, fun w => ?_⟩
      · unfold sz_f; rw [← a2 k d0 (by omega)]; exact d2
      · unfold sz_f; rw [← a2 (k + 1) (by omega) (by omega)]; exact d3 w
    rw [a2 k k0 (by omega), a2 k k0 (by omega)]
    exact c4 y k y0 y1 hk'
  · obtain ⟨f1, f2, f3, f4⟩ := c5 y y0 y1
    have c3 := x (T y) (by rw [f1]; rfl)
    have e3 : ∀ j, qz_I g (T y) j = qz_I h (T y) j := fun j => by unfold qz_I; rw [c3]
    have ep : qz_P g (T y) 3 = qz_P h (T y) 3 := by unfold qz_P; rw [e3 3]
    refine ⟨f1, by rw [e3 2]; exact f2, fun w => by rw [e3 3]; exact f3 w, fun cp vs w => ?_⟩
    obtain ⟨g0, g1, g2, g3, g4, g5⟩ := f4 cp vs w
    rw [e3 0, e3 4, e3 3, ep]
    refine ⟨g0, g1, g2, g3, ?_, fun j v hj => ?_⟩
    · unfold qz_N; rw [e5 _ g3]; exact g4
    · unfold qz_I; rw [e5 _ g3]; exact g5 j v hj
/-- what lies in the pool, where DATA are sealed -/
def fD (h : cz_H) (T : Int → Nat) (F : rz_W) : Prop := ∀ x, 0 ≤ x → x ≤ 1114111 → (F x).2 ≠ none → ∀ c, ∃ l, uz_F F c x l ∧ sg h (T x) c l ∧ l.length ≤ 40
theorem fD.keep {τ : Nat → Nat} {h g : cz_H} {T : Int → Nat} {F : rz_W} {E : Int → Prop} (a : fD h T F) (hC : pz_C τ h T F E) (x : ∀ q, kD (τ q) = true → g.2.2 q = h.2.2 q) (e1 : g.2.2 723 = h.2.2 723) (e2 : g.2.2 724 = h.2.2 724) : fD g T F := fun y y0 y1 hy c => by
  obtain ⟨l, l1, l2, l3⟩ := a y y0 y1 hy c
  have e3 := x (T y) (by rw [(hC.2.2.2.2 y y0 y1).1]; rfl)
  refine ⟨l, l1, ?_, l3⟩
  unfold sg qz_I at l2 ⊢
  rw [e1, e2, e3]; exact l2
/-- every point has its full decomposition, a row of points -/
theorem fD.all {h : cz_H} {T : Int → Nat} {F : rz_W} (a : fD h T F) {x : Int} (x0 : 0 ≤ x) (x1 : x ≤ 1114111) (c : Bool) : ∃ l, uz_F F c x l := by
  by_cases e : hz x
  · exact ⟨_, uz_syl e⟩
  · by_cases e2 : (F x).2 = none
    · exact ⟨_, uz_leaf e e2⟩
    · obtain ⟨l, l1, -⟩ := a x x0 x1 e2 c
      exact ⟨l, l1⟩
theorem uz_f_ptl {F : rz_W} {c : Bool} (hw : uz_wf F) : ∀ (n : Nat) (x : Int) (l : List Int), 0 ≤ x → x ≤ 1114111 → uz_f F c n x = some l → ptl l
  | 0, x, l, _, _, h => by cases h
  | n + 1, x, l, x0, x1, h => by
    have hL : ∀ (vs m : List Int), (∀ v ∈ vs, 0 ≤ v ∧ v ≤ 1114111) → uz_L (uz_f F c n) vs = some m → ptl m := by
      intro vs
      induction vs with
      | nil => intro m _ hm; cases hm; exact fun v hv => by cases hv
      | cons v vs ih =>
        intro m hv hm
        unfold uz_L at hm
        cases h1 : uz_f F c n v with
        | none => rw [h1] at hm; cases hm
        | some a =>
          cases h2 : uz_L (uz_f F c n) vs with
          | none => rw [h1, h2] at hm; cases hm
          | some b =>
            rw [h1, h2] at hm
            cases hm
            exact ptl_app (uz_f_ptl hw n v a (hv v List.mem_cons_self).1 (hv v List.mem_cons_self).2 h1) (ih b (fun w hw => hv w (List.mem_cons_of_mem _ hw)) h2)
    unfold uz_f at h
    split at h
    · rename_i e
      cases h
      intro v hv
      obtain ⟨j, hj⟩ := List.mem_iff_getElem?.mp hv
      exact hz_sy_bd e _ _ hj
    · split at h
      · cases h
        intro v hv
        rw [List.mem_singleton] at hv
        rw [hv]; exact ⟨x0, x1⟩
      · rename_i q hq
        split at h
        · exact hL q.2 l ((hw x).2 q.1 q.2 hq).2.2.1 h
        · cases h
          intro v hv
          rw [List.mem_singleton] at hv
          rw [hv]; exact ⟨x0, x1⟩
theorem uz_F_ptl {F : rz_W} {c : Bool} {x : Int} {l : List Int} (hw : uz_wf F) (x0 : 0 ≤ x) (x1 : x ≤ 1114111) (h : uz_F F c x l) : ptl l := by
  obtain ⟨n, hn⟩ := h
  exact uz_f_ptl hw n x l x0 x1 hn
theorem uz_FL_ptl {F : rz_W} {c : Bool} (hw : uz_wf F) : ∀ {u l : List Int}, ptl u → uz_FL F c u l → ptl l
  | [], l, _, h => by
    have e : l = [] := uz_L_uniq h (uz_nil F c)
    subst e
    exact fun v hv => by cases hv
  | x :: u, l, hu, h => by
    obtain ⟨p, q, p1, p2, rfl⟩ := uz_cons_inv h
    have hx := hu x List.mem_cons_self
    exact ptl_app (uz_F_ptl hw hx.1 hx.2 p1) (uz_FL_ptl hw (fun v hv => hu v (List.mem_cons_of_mem _ hv)) p2)
theorem uz_FL_app {F : rz_W} {c : Bool} : ∀ {u v a b : List Int}, uz_FL F c u a → uz_FL F c v b → uz_FL F c (u ++ v) (a ++ b)
  | [], v, a, b, h1, h2 => by
    have e : a = [] := uz_L_uniq h1 (uz_nil F c)
    subst e
    exact h2
  | x :: u, v, a, b, h1, h2 => by
    obtain ⟨p, q, p1, p2, rfl⟩ := uz_cons_inv h1
    rw [List.append_assoc]
    exact uz_cons p1 (uz_FL_app p2 h2)
theorem fD.allL {h : cz_H} {T : Int → Nat} {F : rz_W} (a : fD h T F) (c : Bool) : ∀ {u : List Int}, ptl u → ∃ l, uz_FL F c u l
  | [], _ => ⟨[], uz_nil F c⟩
  | x :: u, hu => by
    have hx := hu x List.mem_cons_self
    obtain ⟨p, p1⟩ := a.all hx.1 hx.2 c
    obtain ⟨q, q1⟩ := fD.allL a c (u := u) (fun v hv => hu v (List.mem_cons_of_mem _ hv))
    exact ⟨p ++ q, uz_cons p1 q1⟩
/-- a piece more: what comes of it is longer -/
theorem uz_FL_take {F : rz_W} {c : Bool} {u l : List Int} {i : Nat} {x : Int} (hx : u[i]? = some x) {a b : List Int} (h1 : uz_FL F c (u.take i) a) (h2 : uz_F F c x b) : uz_FL F c (u.take (i + 1)) (a ++ b) := by
  have e : u.take (i + 1) = u.take i ++ [x] := by
    obtain ⟨hi, e1⟩ := List.getElem?_eq_some_iff.mp hx
    rw [List.take_add_one, hx]; rfl
  rw [e]; exact uz_snoc h2 h1
theorem uz_FL_le {F : rz_W} {c : Bool} : ∀ {i : Nat} {u a l : List Int}, uz_FL F c (u.take i) a → uz_FL F c u l → a.length ≤ l.length
  | 0, u, a, l, h1, _ => by
    have e : a = [] := uz_L_uniq h1 (by rw [List.take_zero]; exact uz_nil F c)
    subst e
    exact Nat.zero_le _
  | i + 1, [], a, l, h1, h2 => by
    rw [List.take_nil] at h1
    rw [uz_L_uniq h1 h2]; exact Nat.le_refl _
  | i + 1, x :: u, a, l, h1, h2 => by
    rw [List.take_succ_cons] at h1
    obtain ⟨p, q, p1, p2, rfl⟩ := uz_cons_inv h1
    obtain ⟨p', q', p1', p2', rfl⟩ := uz_cons_inv h2
    rw [uz_uniq p1 p1', List.length_append, List.length_append]
    exact Nat.add_le_add_left (uz_FL_le p2 p2') _
/-! The class: Texts. (Written by wip/p2/py/pvt1.py.) -/
def tx_P (r z : Nat) : Bool := Nat.beq z r || Nat.beq z (r + 1)
theorem tx_Pa (r : Nat) : tx_P r r = true := by unfold tx_P; rw [Nat.beq_refl]; rfl
theorem tx_Pb (r : Nat) : tx_P r (r + 1) = true := by unfold tx_P; rw [Nat.beq_refl, Bool.or_true]
theorem tx_Pn {r z : Nat} (h1 : z ≠ r) (h2 : z ≠ r + 1) : tx_P r z = false := by unfold tx_P; rw [dz_beq_ne h1, dz_beq_ne h2]; rfl
section EzTx
variable {d : Nat} {h : cz_H} {τ : Nat → Nat} {Q : cz_F → Prop} {r : Nat} {l : List Int}
theorem tx_add {g : cz_H} {p : Int} (a : tx h r l) (e1 : qz_I g r 1 = qz_I h r 1 + 1) (e2 : qz_I g (r + 1) (qz_I h r 1).toNat = p) (e3 : ∀ j, j ≠ (qz_I h r 1).toNat → qz_I g (r + 1) j = qz_I h (r + 1) j) : tx g r (l ++ [p]) := by
  have hl := a.1
  refine ⟨by rw [e1, hl, List.length_append]; rfl, fun j v hv => ?_⟩
  by_cases e : j < l.length
  · rw [List.getElem?_append_left e] at hv
    rw [e3 j (by omega)]; exact a.2 j v hv
  · rw [List.getElem?_append_right (by omega)] at hv
    have e0 : j - l.length = 0 := by
      by_cases w : j - l.length = 0
      · exact w
      · rw [List.getElem?_eq_none (by rw [List.length_singleton]; omega)] at hv; cases hv
    rw [e0] at hv
    cases hv
    rw [show j = (qz_I h r 1).toNat by omega]; exact e2
theorem rd_txa {p : Int} (hB : ez_B τ h) (tr : τ r = 1) (a : tx h r l) (pr : ez_rg p) (k1 : l.length < 2000 → ∀ g, ez_B τ g → ez_fr (tx_P r) h g → tx g r (l ++ [p]) → Q (.inl (some (ez_v (.inl 1))), g)) (k0 : 2000 ≤ l.length → Q (.inl (some (ez_v (.inl 0))), h)) : ez_W d cm_189 0 [(0, .inr (.inr (some (r)))), (1, .inl (p))] [] h Q := by
  obtain ⟨pr1, pr2⟩ := id pr
  refine ez_go (n := 1) (pc' := 1) (L' := [(0, .inr (.inr (some (r)))), (1, .inl (p))]) (st' := [.inr (.inr (some (r)))]) rfl ?_
  refine ez_gI hB tr rfl rfl tq_1 rfl rfl (fun (b1 : 0 ≤ qz_I h r 1) (b1' : qz_I h r 1 ≤ 2000) => ?_)
  refine ez_go (n := 1) (pc' := 7) (L' := [(0, .inr (.inr (some (r)))), (1, .inl (p))]) (st' := [.inl (2000), .inl (qz_I h r 1)]) rfl ?_
  refine ez_icmp rfl rfl ⟨by first | omega | exact (sz_i32 _).1, by first | omega | exact (sz_i32 _).2⟩ ⟨by first | omega | exact (sz_i32 _).1, by first | omega | exact (sz_i32 _).2⟩ (fun (c2 : (qz_I h r 1) < (2000)) => ?_) (fun (c2 : ¬((qz_I h r 1) < (2000))) => ?_)
  · skip
    refine ez_go (n := 1) (pc' := 13) (L' := [(0, .inr (.inr (some (r)))), (1, .inl (p))]) (st' := [.inr (.inr (some (r)))]) rfl ?_
    refine ez_g3 hB tr rfl rfl tq_1 rfl rfl (fun (t3 : _ = 2) => ?_)
    refine ez_go (n := 1) (pc' := 17) (L' := [(0, .inr (.inr (some (r)))), (1, .inl (p))]) (st' := [.inr (.inr (some (r))), .inr (.inr (some (r + 1)))]) rfl ?_
    refine ez_gI hB tr rfl rfl tq_1 rfl rfl (fun (b4 : 0 ≤ qz_I h r 1) (b4' : qz_I h r 1 ≤ 2000) => ?_)
    refine ez_go (n := 1) (pc' := 21) (L' := [(0, .inr (.inr (some (r)))), (1, .inl (p))]) (st' := [.inl (p), .inl (qz_I h r 1), .inr (.inr (some (r + 1)))]) rfl ?_
    have n7 : 2000 ≤ qz_N h (r + 1) ∧ qz_N h (r + 1) ≤ 2000 := ez_len hB t3 tq_2 rfl
    refine ez_as hB t3 rfl tq_2 rfl rfl (by omega) (by omega) (ez_vdI rfl rfl (by omega) (by omega)) (fun hB5 w6 => ?_)
    have ex : qz_I (dz_put h (r + 1) (qz_I h r 1).toNat (ez_v (.inl (p)))) r 1 = qz_I h r 1 := ez_put_I (fun w => by omega)
    refine ez_go (n := 2) (pc' := 24) (L' := [(0, .inr (.inr (some (r)))), (1, .inl (p))]) (st' := [.inr (.inr (some (r))), .inr (.inr (some (r)))]) rfl ?_
    refine ez_gI hB5 tr rfl rfl tq_1 rfl rfl (fun (b8 : 0 ≤ qz_I (dz_put h (r + 1) (qz_I h r 1).toNat (ez_v (.inl (p)))) r 1) (b8' : qz_I (dz_put h (r + 1) (qz_I h r 1).toNat (ez_v (.inl (p)))) r 1 ≤ 2000) => ?_)
    refine ez_go (n := 2) (pc' := 29) (L' := [(0, .inr (.inr (some (r)))), (1, .inl (p))]) (st' := [.inl ((qz_I (dz_put h (r + 1) (qz_I h r 1).toNat (ez_v (.inl (p)))) r 1) + (1)), .inr (.inr (some (r)))]) rfl ?_
    refine ez_pf hB5 tr rfl rfl tq_1 rfl rfl rfl rfl (ez_vdI rfl rfl (by omega) (by omega)) (fun hB9 w10 => ?_)
    refine ez_go (n := 1) (pc' := 33) (L' := [(0, .inr (.inr (some (r)))), (1, .inl (p))]) (st' := [.inl (1)]) rfl ?_
    have hn : r ≠ r + 1 := by omega
    refine ez_retZ rfl rfl (Or.inr rfl) (k1 (by have := a.1; omega) _ hB9 (((ez_fr.refl (tx_P r) h).put (tx_Pb r) _ _).put (tx_Pa r) _ _) (tx_add a ?_ ?_ (fun j hj => ?_)))
    · rw [w10, ez_put_I (fun w => by omega)]; exact ez_rg.v ⟨by omega, by omega⟩
    · rw [ez_put_I (fun w => by omega), w6]; exact ez_rg.v pr
    · rw [ez_put_I (fun w => by omega), ez_put_I (fun w => hj w.2)]
  · skip
    refine ez_go (n := 1) (pc' := 11) (L' := [(0, .inr (.inr (some (r)))), (1, .inl (p))]) (st' := [.inl (0)]) rfl ?_
    exact ez_retZ rfl rfl (Or.inl rfl) (k0 (by have := a.1; omega))

theorem rd_txa_s {p : Int} (hB : ez_B τ h) (tr : τ r = 88) (a : tx h r l) (pr : ez_rg p) (k1 : l.length < 2000 → ∀ g, ez_B τ g → ez_fr (tx_P r) h g → tx g r (l ++ [p]) → Q (.inl (some (ez_v (.inl 1))), g)) (k0 : 2000 ≤ l.length → Q (.inl (some (ez_v (.inl 0))), h)) : ez_W d cm_189 0 [(0, .inr (.inr (some (r)))), (1, .inl (p))] [] h Q := by
  obtain ⟨pr1, pr2⟩ := id pr
  refine ez_go (n := 1) (pc' := 1) (L' := [(0, .inr (.inr (some (r)))), (1, .inl (p))]) (st' := [.inr (.inr (some (r)))]) rfl ?_
  refine ez_gI hB tr rfl rfl tq_88 rfl rfl (fun (b1 : 0 ≤ qz_I h r 1) (b1' : qz_I h r 1 ≤ 2000) => ?_)
  refine ez_go (n := 1) (pc' := 7) (L' := [(0, .inr (.inr (some (r)))), (1, .inl (p))]) (st' := [.inl (2000), .inl (qz_I h r 1)]) rfl ?_
  refine ez_icmp rfl rfl ⟨by first | omega | exact (sz_i32 _).1, by first | omega | exact (sz_i32 _).2⟩ ⟨by first | omega | exact (sz_i32 _).1, by first | omega | exact (sz_i32 _).2⟩ (fun (c2 : (qz_I h r 1) < (2000)) => ?_) (fun (c2 : ¬((qz_I h r 1) < (2000))) => ?_)
  · skip
    refine ez_go (n := 1) (pc' := 13) (L' := [(0, .inr (.inr (some (r)))), (1, .inl (p))]) (st' := [.inr (.inr (some (r)))]) rfl ?_
    refine ez_g3 hB tr rfl rfl tq_88 rfl rfl (fun (t3 : _ = 89) => ?_)
    refine ez_go (n := 1) (pc' := 17) (L' := [(0, .inr (.inr (some (r)))), (1, .inl (p))]) (st' := [.inr (.inr (some (r))), .inr (.inr (some (r + 1)))]) rfl ?_
    refine ez_gI hB tr rfl rfl tq_88 rfl rfl (fun (b4 : 0 ≤ qz_I h r 1) (b4' : qz_I h r 1 ≤ 2000) => ?_)
    refine ez_go (n := 1) (pc' := 21) (L' := [(0, .inr (.inr (some (r)))), (1, .inl (p))]) (st' := [.inl (p), .inl (qz_I h r 1), .inr (.inr (some (r + 1)))]) rfl ?_
    have n7 : 2000 ≤ qz_N h (r + 1) ∧ qz_N h (r + 1) ≤ 2000 := ez_len hB t3 tq_89 rfl
    refine ez_as hB t3 rfl tq_89 rfl rfl (by omega) (by omega) (ez_vdI rfl rfl (by omega) (by omega)) (fun hB5 w6 => ?_)
    have ex : qz_I (dz_put h (r + 1) (qz_I h r 1).toNat (ez_v (.inl (p)))) r 1 = qz_I h r 1 := ez_put_I (fun w => by omega)
    refine ez_go (n := 2) (pc' := 24) (L' := [(0, .inr (.inr (some (r)))), (1, .inl (p))]) (st' := [.inr (.inr (some (r))), .inr (.inr (some (r)))]) rfl ?_
    refine ez_gI hB5 tr rfl rfl tq_88 rfl rfl (fun (b8 : 0 ≤ qz_I (dz_put h (r + 1) (qz_I h r 1).toNat (ez_v (.inl (p)))) r 1) (b8' : qz_I (dz_put h (r + 1) (qz_I h r 1).toNat (ez_v (.inl (p)))) r 1 ≤ 2000) => ?_)
    refine ez_go (n := 2) (pc' := 29) (L' := [(0, .inr (.inr (some (r)))), (1, .inl (p))]) (st' := [.inl ((qz_I (dz_put h (r + 1) (qz_I h r 1).toNat (ez_v (.inl (p)))) r 1) + (1)), .inr (.inr (some (r)))]) rfl ?_
    refine ez_pf hB5 tr rfl rfl tq_88 rfl rfl rfl rfl (ez_vdI rfl rfl (by omega) (by omega)) (fun hB9 w10 => ?_)
    refine ez_go (n := 1) (pc' := 33) (L' := [(0, .inr (.inr (some (r)))), (1, .inl (p))]) (st' := [.inl (1)]) rfl ?_
    have hn : r ≠ r + 1 := by omega
    refine ez_retZ rfl rfl (Or.inr rfl) (k1 (by have := a.1; omega) _ hB9 (((ez_fr.refl (tx_P r) h).put (tx_Pb r) _ _).put (tx_Pa r) _ _) (tx_add a ?_ ?_ (fun j hj => ?_)))
    · rw [w10, ez_put_I (fun w => by omega)]; exact ez_rg.v ⟨by omega, by omega⟩
    · rw [ez_put_I (fun w => by omega), w6]; exact ez_rg.v pr
    · rw [ez_put_I (fun w => by omega), ez_put_I (fun w => hj w.2)]
  · skip
    refine ez_go (n := 1) (pc' := 11) (L' := [(0, .inr (.inr (some (r)))), (1, .inl (p))]) (st' := [.inl (0)]) rfl ?_
    exact ez_retZ rfl rfl (Or.inl rfl) (k0 (by have := a.1; omega))

theorem tx_app {g : cz_H} {m : List Int} (a : tx h r l) (e1 : qz_I g r 1 = qz_I h r 1 + (m.length : Int)) (e2 : ∀ (j : Nat) v, m[j]? = some v → qz_I g (r + 1) (l.length + j) = v) (e3 : ∀ j, j < l.length → qz_I g (r + 1) j = qz_I h (r + 1) j) : tx g r (l ++ m) := by
  have hl := a.1
  refine ⟨by rw [e1, hl, List.length_append]; omega, fun j v hv => ?_⟩
  by_cases e : j < l.length
  · rw [List.getElem?_append_left e] at hv
    rw [e3 j e]; exact a.2 j v hv
  · rw [List.getElem?_append_right (by omega)] at hv
    have := e2 _ v hv
    rw [show l.length + (j - l.length) = j by omega] at this; exact this
theorem rd_appRow_l {w : Nat} {f n : Int} {m : List Int} (tr : τ r = 1) (tw : τ w = 5) (a : tx h r l) (hw : w ≠ r + 1) (hm : (m.length : Int) = n) (f0 : 0 ≤ f) (f1 : f + n ≤ qz_N h w) (f2 : f + n ≤ 100000) (hv2 : ∀ (j : Nat) v, m[j]? = some v → qz_I h w (f + (j : Int)).toNat = v) (hr : ∀ (j : Nat) v, m[j]? = some v → ez_rg v) (hroom : l.length + m.length ≤ 2000) (k1 : l.length + m.length ≤ 2000 → ∀ g, ez_B τ g → ez_fr (tx_P r) h g → tx g r (l ++ m) → Q (.inl (some (ez_v (.inl 1))), g)) : ∀ (c : Nat) (i : Int) (g : cz_H), c = (n - i).toNat → 0 ≤ i → i ≤ n → ez_B τ g → ez_fr (ez_one (r + 1)) h g → (∀ (j : Nat) v, (j : Int) < i → m[j]? = some v → qz_I g (r + 1) (l.length + j) = v) → (∀ j, j < l.length → qz_I g (r + 1) j = qz_I h (r + 1) j) → ez_W d cm_190 17 [(4, .inl (i)), (0, .inr (.inr (some (r)))), (1, .inr (.inr (some (w)))), (2, .inl (f)), (3, .inl (n))] [] g Q := by
  intro c
  induction c with
  | zero =>
    intro i g hc i0 i1 hBg hf e2 e3
    have hl := a.1
    have x1 : qz_I g r 1 = qz_I h r 1 := hf.I (dz_beq_ne (by omega)) 1
    have xw : ∀ j, qz_I g w j = qz_I h w j := fun j => hf.I (dz_beq_ne hw) j
    have xn : qz_N g w = qz_N h w := hf.N (dz_beq_ne hw)
    refine ez_go (n := 2) (pc' := 20) (L' := [(4, .inl (i)), (0, .inr (.inr (some (r)))), (1, .inr (.inr (some (w)))), (2, .inl (f)), (3, .inl (n))]) (st' := [.inl (n), .inl (i)]) rfl ?_
    refine ez_icmp rfl rfl ⟨by first | omega | exact (sz_i32 _).1, by first | omega | exact (sz_i32 _).2⟩ ⟨by first | omega | exact (sz_i32 _).1, by first | omega | exact (sz_i32 _).2⟩ (fun (c1 : (n) ≤ (i)) => ?_) (fun (c1 : ¬((n) ≤ (i))) => ?_)
    · skip
      refine ez_go (n := 2) (pc' := 49) (L' := [(4, .inl (i)), (0, .inr (.inr (some (r)))), (1, .inr (.inr (some (w)))), (2, .inl (f)), (3, .inl (n))]) (st' := [.inr (.inr (some (r))), .inr (.inr (some (r)))]) rfl ?_
      refine ez_gI hBg tr rfl rfl tq_1 rfl rfl (fun (b2 : 0 ≤ qz_I g r 1) (b2' : qz_I g r 1 ≤ 2000) => ?_)
      refine ez_go (n := 2) (pc' := 54) (L' := [(4, .inl (i)), (0, .inr (.inr (some (r)))), (1, .inr (.inr (some (w)))), (2, .inl (f)), (3, .inl (n))]) (st' := [.inl ((qz_I g r 1) + (n)), .inr (.inr (some (r)))]) rfl ?_
      refine ez_pf hBg tr rfl rfl tq_1 rfl rfl rfl rfl (ez_vdI rfl rfl (by omega) (by omega)) (fun hB3 w4 => ?_)
      refine ez_go (n := 1) (pc' := 58) (L' := [(4, .inl (i)), (0, .inr (.inr (some (r)))), (1, .inr (.inr (some (w)))), (2, .inl (f)), (3, .inl (n))]) (st' := [.inl (1)]) rfl ?_
      have ei : i = (m.length : Int) := by omega
      subst ei
      refine ez_retZ rfl rfl (Or.inr rfl) (k1 (by omega) _ hB3 ((ez_fr_mono hf (fun z hz => by unfold ez_one at hz; rw [Nat.eq_of_beq_eq_true hz]; exact tx_Pb r)).put (tx_Pa r) _ _) (tx_app a ?_ (fun j v hj => ?_) (fun j hj => ?_)))
      · rw [w4, x1, hm]; exact ez_rg.v ⟨by omega, by omega⟩
      · rw [ez_put_I (fun w => by omega)]; exact e2 j v (by have := (List.getElem?_eq_some_iff.mp hj).1; omega) hj
      · rw [ez_put_I (fun w => by omega)]; exact e3 j hj
    · exfalso; omega
  | succ c ih =>
    intro i g hc i0 i1 hBg hf e2 e3
    have hl := a.1
    have x1 : qz_I g r 1 = qz_I h r 1 := hf.I (dz_beq_ne (by omega)) 1
    have xw : ∀ j, qz_I g w j = qz_I h w j := fun j => hf.I (dz_beq_ne hw) j
    have xn : qz_N g w = qz_N h w := hf.N (dz_beq_ne hw)
    refine ez_go (n := 2) (pc' := 20) (L' := [(4, .inl (i)), (0, .inr (.inr (some (r)))), (1, .inr (.inr (some (w)))), (2, .inl (f)), (3, .inl (n))]) (st' := [.inl (n), .inl (i)]) rfl ?_
    refine ez_icmp rfl rfl ⟨by first | omega | exact (sz_i32 _).1, by first | omega | exact (sz_i32 _).2⟩ ⟨by first | omega | exact (sz_i32 _).1, by first | omega | exact (sz_i32 _).2⟩ (fun (c1 : (n) ≤ (i)) => ?_) (fun (c1 : ¬((n) ≤ (i))) => ?_)
    · exfalso; omega
    · skip
      refine ez_go (n := 1) (pc' := 24) (L' := [(4, .inl (i)), (0, .inr (.inr (some (r)))), (1, .inr (.inr (some (w)))), (2, .inl (f)), (3, .inl (n))]) (st' := [.inr (.inr (some (r)))]) rfl ?_
      refine ez_g3 hBg tr rfl rfl tq_1 rfl rfl (fun (t2 : _ = 2) => ?_)
      refine ez_go (n := 1) (pc' := 28) (L' := [(4, .inl (i)), (0, .inr (.inr (some (r)))), (1, .inr (.inr (some (w)))), (2, .inl (f)), (3, .inl (n))]) (st' := [.inr (.inr (some (r))), .inr (.inr (some (r + 1)))]) rfl ?_
      refine ez_gI hBg tr rfl rfl tq_1 rfl rfl (fun (b3 : 0 ≤ qz_I g r 1) (b3' : qz_I g r 1 ≤ 2000) => ?_)
      refine ez_go (n := 6) (pc' := 39) (L' := [(4, .inl (i)), (0, .inr (.inr (some (r)))), (1, .inr (.inr (some (w)))), (2, .inl (f)), (3, .inl (n))]) (st' := [.inl ((f) + (i)), .inr (.inr (some (w))), .inl ((qz_I g r 1) + (i)), .inr (.inr (some (r + 1)))]) rfl ?_
      have n5 : 0 ≤ qz_N g w ∧ qz_N g w ≤ 18 := ez_len hBg tw tq_5 rfl
      refine ez_aI hBg tw rfl tq_5 rfl rfl (by omega) (by omega) (fun (b4 : -2147483648 ≤ qz_I g w ((f) + (i)).toNat) (b4' : qz_I g w ((f) + (i)).toNat ≤ 2147483647) => ?_)
      have n8 : 2000 ≤ qz_N g (r + 1) ∧ qz_N g (r + 1) ≤ 2000 := ez_len hBg t2 tq_2 rfl
      refine ez_as hBg t2 rfl tq_2 rfl rfl (by omega) (by omega) (ez_vdI rfl rfl (by omega) (by omega)) (fun hB6 w7 => ?_)
      refine ez_go (n := 2) (pc' := 17) (L' := [(4, .inl (i + 1)), (0, .inr (.inr (some (r)))), (1, .inr (.inr (some (w)))), (2, .inl (f)), (3, .inl (n))]) (st' := []) rfl ?_
      refine ez_less [(4, .inl (i + 1)), (0, .inr (.inr (some (r)))), (1, .inr (.inr (some (w)))), (2, .inl (f)), (3, .inl (n))] rfl ⟨rfl, rfl, rfl, rfl, rfl, trivial⟩ ?_
      refine ih _ _ (by omega) (by omega) (by omega) hB6 (hf.put (show Nat.beq (r + 1) (r + 1) = true from Nat.beq_refl _) _ _) (fun j v hj hv => ?_) (fun j hj => ?_)
      · by_cases ej : (j : Int) = i
        · have q1 : (qz_I g r 1 + i).toNat = l.length + j := by omega
          rw [q1] at w7 ⊢
          rw [w7]
          have q2 := hv2 j v hv
          rw [show qz_I g w (f + i).toNat = v by rw [xw, ← ej]; exact hv2 j v hv]; exact ez_rg.v (hr j v hv)
        · rw [ez_put_I (fun w => by omega)]; exact e2 j v (by omega) hv
      · rw [ez_put_I (fun w => by omega)]; exact e3 j hj
theorem rd_appRow {w : Nat} {f n : Int} {m : List Int} (tr : τ r = 1) (tw : τ w = 5) (a : tx h r l) (hw : w ≠ r + 1) (hm : (m.length : Int) = n) (f0 : 0 ≤ f) (f1 : f + n ≤ qz_N h w) (f2 : f + n ≤ 100000) (hv2 : ∀ (j : Nat) v, m[j]? = some v → qz_I h w (f + (j : Int)).toNat = v) (hr : ∀ (j : Nat) v, m[j]? = some v → ez_rg v) (hB : ez_B τ h) (k1 : l.length + m.length ≤ 2000 → ∀ g, ez_B τ g → ez_fr (tx_P r) h g → tx g r (l ++ m) → Q (.inl (some (ez_v (.inl 1))), g)) (k0 : 2000 < l.length + m.length → Q (.inl (some (ez_v (.inl 0))), h)) : ez_W d cm_190 0 [(0, .inr (.inr (some (r)))), (1, .inr (.inr (some (w)))), (2, .inl (f)), (3, .inl (n))] [] h Q := by
  have al := a.1
  refine ez_go (n := 1) (pc' := 1) (L' := [(0, .inr (.inr (some (r)))), (1, .inr (.inr (some (w)))), (2, .inl (f)), (3, .inl (n))]) (st' := [.inr (.inr (some (r)))]) rfl ?_
  refine ez_gI hB tr rfl rfl tq_1 rfl rfl (fun (b1 : 0 ≤ qz_I h r 1) (b1' : qz_I h r 1 ≤ 2000) => ?_)
  refine ez_go (n := 3) (pc' := 9) (L' := [(0, .inr (.inr (some (r)))), (1, .inr (.inr (some (w)))), (2, .inl (f)), (3, .inl (n))]) (st' := [.inl (2000), .inl ((qz_I h r 1) + (n))]) rfl ?_
  refine ez_icmp rfl rfl ⟨by first | omega | exact (sz_i32 _).1, by first | omega | exact (sz_i32 _).2⟩ ⟨by first | omega | exact (sz_i32 _).1, by first | omega | exact (sz_i32 _).2⟩ (fun (c2 : ((qz_I h r 1) + (n)) ≤ (2000)) => ?_) (fun (c2 : ¬(((qz_I h r 1) + (n)) ≤ (2000))) => ?_)
  · skip
    refine ez_go (n := 2) (pc' := 17) (L' := [(4, .inl (0)), (0, .inr (.inr (some (r)))), (1, .inr (.inr (some (w)))), (2, .inl (f)), (3, .inl (n))]) (st' := []) rfl ?_
    refine ez_less [(4, .inl (0)), (0, .inr (.inr (some (r)))), (1, .inr (.inr (some (w)))), (2, .inl (f)), (3, .inl (n))] rfl ⟨rfl, rfl, rfl, rfl, rfl, trivial⟩ ?_
    exact rd_appRow_l (h := h) tr tw a hw hm f0 f1 f2 hv2 hr (by have := a.1; omega) k1 _ 0 h rfl (by omega) (by omega) hB (ez_fr.refl _ _) (fun j v hj => absurd hj (by omega)) (fun j hj => rfl)
  · skip
    refine ez_go (n := 1) (pc' := 13) (L' := [(0, .inr (.inr (some (r)))), (1, .inr (.inr (some (w)))), (2, .inl (f)), (3, .inl (n))]) (st' := [.inl (0)]) rfl ?_
    exact ez_retZ rfl rfl (Or.inl rfl) (k0 (by have := a.1; omega))

theorem rd_appRow_l_p {f n : Int} {m : List Int} (tr : τ r = 1) (tw : τ 724 = 56) (a : tx h r l) (hw : 724 ≠ r + 1) (hm : (m.length : Int) = n) (f0 : 0 ≤ f) (f1 : f + n ≤ qz_N h 724) (f2 : f + n ≤ 100000) (hv2 : ∀ (j : Nat) v, m[j]? = some v → qz_I h 724 (f + (j : Int)).toNat = v) (hr : ∀ (j : Nat) v, m[j]? = some v → ez_rg v) (hroom : l.length + m.length ≤ 2000) (k1 : l.length + m.length ≤ 2000 → ∀ g, ez_B τ g → ez_fr (tx_P r) h g → tx g r (l ++ m) → Q (.inl (some (ez_v (.inl 1))), g)) : ∀ (c : Nat) (i : Int) (g : cz_H), c = (n - i).toNat → 0 ≤ i → i ≤ n → ez_B τ g → ez_fr (ez_one (r + 1)) h g → (∀ (j : Nat) v, (j : Int) < i → m[j]? = some v → qz_I g (r + 1) (l.length + j) = v) → (∀ j, j < l.length → qz_I g (r + 1) j = qz_I h (r + 1) j) → ez_W d cm_190 17 [(4, .inl (i)), (0, .inr (.inr (some (r)))), (1, .inr (.inr (some (724)))), (2, .inl (f)), (3, .inl (n))] [] g Q := by
  intro c
  induction c with
  | zero =>
    intro i g hc i0 i1 hBg hf e2 e3
    have hl := a.1
    have x1 : qz_I g r 1 = qz_I h r 1 := hf.I (dz_beq_ne (by omega)) 1
    have xw : ∀ j, qz_I g 724 j = qz_I h 724 j := fun j => hf.I (dz_beq_ne hw) j
    have xn : qz_N g 724 = qz_N h 724 := hf.N (dz_beq_ne hw)
    refine ez_go (n := 2) (pc' := 20) (L' := [(4, .inl (i)), (0, .inr (.inr (some (r)))), (1, .inr (.inr (some (724)))), (2, .inl (f)), (3, .inl (n))]) (st' := [.inl (n), .inl (i)]) rfl ?_
    refine ez_icmp rfl rfl ⟨by first | omega | exact (sz_i32 _).1, by first | omega | exact (sz_i32 _).2⟩ ⟨by first | omega | exact (sz_i32 _).1, by first | omega | exact (sz_i32 _).2⟩ (fun (c1 : (n) ≤ (i)) => ?_) (fun (c1 : ¬((n) ≤ (i))) => ?_)
    · skip
      refine ez_go (n := 2) (pc' := 49) (L' := [(4, .inl (i)), (0, .inr (.inr (some (r)))), (1, .inr (.inr (some (724)))), (2, .inl (f)), (3, .inl (n))]) (st' := [.inr (.inr (some (r))), .inr (.inr (some (r)))]) rfl ?_
      refine ez_gI hBg tr rfl rfl tq_1 rfl rfl (fun (b2 : 0 ≤ qz_I g r 1) (b2' : qz_I g r 1 ≤ 2000) => ?_)
      refine ez_go (n := 2) (pc' := 54) (L' := [(4, .inl (i)), (0, .inr (.inr (some (r)))), (1, .inr (.inr (some (724)))), (2, .inl (f)), (3, .inl (n))]) (st' := [.inl ((qz_I g r 1) + (n)), .inr (.inr (some (r)))]) rfl ?_
      refine ez_pf hBg tr rfl rfl tq_1 rfl rfl rfl rfl (ez_vdI rfl rfl (by omega) (by omega)) (fun hB3 w4 => ?_)
      refine ez_go (n := 1) (pc' := 58) (L' := [(4, .inl (i)), (0, .inr (.inr (some (r)))), (1, .inr (.inr (some (724)))), (2, .inl (f)), (3, .inl (n))]) (st' := [.inl (1)]) rfl ?_
      have ei : i = (m.length : Int) := by omega
      subst ei
      refine ez_retZ rfl rfl (Or.inr rfl) (k1 (by omega) _ hB3 ((ez_fr_mono hf (fun z hz => by unfold ez_one at hz; rw [Nat.eq_of_beq_eq_true hz]; exact tx_Pb r)).put (tx_Pa r) _ _) (tx_app a ?_ (fun j v hj => ?_) (fun j hj => ?_)))
      · rw [w4, x1, hm]; exact ez_rg.v ⟨by omega, by omega⟩
      · rw [ez_put_I (fun w => by omega)]; exact e2 j v (by have := (List.getElem?_eq_some_iff.mp hj).1; omega) hj
      · rw [ez_put_I (fun w => by omega)]; exact e3 j hj
    · exfalso; omega
  | succ c ih =>
    intro i g hc i0 i1 hBg hf e2 e3
    have hl := a.1
    have x1 : qz_I g r 1 = qz_I h r 1 := hf.I (dz_beq_ne (by omega)) 1
    have xw : ∀ j, qz_I g 724 j = qz_I h 724 j := fun j => hf.I (dz_beq_ne hw) j
    have xn : qz_N g 724 = qz_N h 724 := hf.N (dz_beq_ne hw)
    refine ez_go (n := 2) (pc' := 20) (L' := [(4, .inl (i)), (0, .inr (.inr (some (r)))), (1, .inr (.inr (some (724)))), (2, .inl (f)), (3, .inl (n))]) (st' := [.inl (n), .inl (i)]) rfl ?_
    refine ez_icmp rfl rfl ⟨by first | omega | exact (sz_i32 _).1, by first | omega | exact (sz_i32 _).2⟩ ⟨by first | omega | exact (sz_i32 _).1, by first | omega | exact (sz_i32 _).2⟩ (fun (c1 : (n) ≤ (i)) => ?_) (fun (c1 : ¬((n) ≤ (i))) => ?_)
    · exfalso; omega
    · skip
      refine ez_go (n := 1) (pc' := 24) (L' := [(4, .inl (i)), (0, .inr (.inr (some (r)))), (1, .inr (.inr (some (724)))), (2, .inl (f)), (3, .inl (n))]) (st' := [.inr (.inr (some (r)))]) rfl ?_
      refine ez_g3 hBg tr rfl rfl tq_1 rfl rfl (fun (t2 : _ = 2) => ?_)
      refine ez_go (n := 1) (pc' := 28) (L' := [(4, .inl (i)), (0, .inr (.inr (some (r)))), (1, .inr (.inr (some (724)))), (2, .inl (f)), (3, .inl (n))]) (st' := [.inr (.inr (some (r))), .inr (.inr (some (r + 1)))]) rfl ?_
      refine ez_gI hBg tr rfl rfl tq_1 rfl rfl (fun (b3 : 0 ≤ qz_I g r 1) (b3' : qz_I g r 1 ≤ 2000) => ?_)
      refine ez_go (n := 6) (pc' := 39) (L' := [(4, .inl (i)), (0, .inr (.inr (some (r)))), (1, .inr (.inr (some (724)))), (2, .inl (f)), (3, .inl (n))]) (st' := [.inl ((f) + (i)), .inr (.inr (some (724))), .inl ((qz_I g r 1) + (i)), .inr (.inr (some (r + 1)))]) rfl ?_
      have n5 : 20480 ≤ qz_N g 724 ∧ qz_N g 724 ≤ 20480 := ez_len hBg tw tq_56 rfl
      refine ez_aI hBg tw rfl tq_56 rfl rfl (by omega) (by omega) (fun (b4 : -2147483648 ≤ qz_I g 724 ((f) + (i)).toNat) (b4' : qz_I g 724 ((f) + (i)).toNat ≤ 2147483647) => ?_)
      have n8 : 2000 ≤ qz_N g (r + 1) ∧ qz_N g (r + 1) ≤ 2000 := ez_len hBg t2 tq_2 rfl
      refine ez_as hBg t2 rfl tq_2 rfl rfl (by omega) (by omega) (ez_vdI rfl rfl (by omega) (by omega)) (fun hB6 w7 => ?_)
      refine ez_go (n := 2) (pc' := 17) (L' := [(4, .inl (i + 1)), (0, .inr (.inr (some (r)))), (1, .inr (.inr (some (724)))), (2, .inl (f)), (3, .inl (n))]) (st' := []) rfl ?_
      refine ez_less [(4, .inl (i + 1)), (0, .inr (.inr (some (r)))), (1, .inr (.inr (some (724)))), (2, .inl (f)), (3, .inl (n))] rfl ⟨rfl, rfl, rfl, rfl, rfl, trivial⟩ ?_
      refine ih _ _ (by omega) (by omega) (by omega) hB6 (hf.put (show Nat.beq (r + 1) (r + 1) = true from Nat.beq_refl _) _ _) (fun j v hj hv => ?_) (fun j hj => ?_)
      · by_cases ej : (j : Int) = i
        · have q1 : (qz_I g r 1 + i).toNat = l.length + j := by omega
          rw [q1] at w7 ⊢
          rw [w7]
          have q2 := hv2 j v hv
          rw [show qz_I g 724 (f + i).toNat = v by rw [xw, ← ej]; exact hv2 j v hv]; exact ez_rg.v (hr j v hv)
        · rw [ez_put_I (fun w => by omega)]; exact e2 j v (by omega) hv
      · rw [ez_put_I (fun w => by omega)]; exact e3 j hj
theorem rd_appRow_p {f n : Int} {m : List Int} (tr : τ r = 1) (tw : τ 724 = 56) (a : tx h r l) (hw : 724 ≠ r + 1) (hm : (m.length : Int) = n) (f0 : 0 ≤ f) (f1 : f + n ≤ qz_N h 724) (f2 : f + n ≤ 100000) (hv2 : ∀ (j : Nat) v, m[j]? = some v → qz_I h 724 (f + (j : Int)).toNat = v) (hr : ∀ (j : Nat) v, m[j]? = some v → ez_rg v) (hB : ez_B τ h) (k1 : l.length + m.length ≤ 2000 → ∀ g, ez_B τ g → ez_fr (tx_P r) h g → tx g r (l ++ m) → Q (.inl (some (ez_v (.inl 1))), g)) (k0 : 2000 < l.length + m.length → Q (.inl (some (ez_v (.inl 0))), h)) : ez_W d cm_190 0 [(0, .inr (.inr (some (r)))), (1, .inr (.inr (some (724)))), (2, .inl (f)), (3, .inl (n))] [] h Q := by
  have al := a.1
  refine ez_go (n := 1) (pc' := 1) (L' := [(0, .inr (.inr (some (r)))), (1, .inr (.inr (some (724)))), (2, .inl (f)), (3, .inl (n))]) (st' := [.inr (.inr (some (r)))]) rfl ?_
  refine ez_gI hB tr rfl rfl tq_1 rfl rfl (fun (b1 : 0 ≤ qz_I h r 1) (b1' : qz_I h r 1 ≤ 2000) => ?_)
  refine ez_go (n := 3) (pc' := 9) (L' := [(0, .inr (.inr (some (r)))), (1, .inr (.inr (some (724)))), (2, .inl (f)), (3, .inl (n))]) (st' := [.inl (2000), .inl ((qz_I h r 1) + (n))]) rfl ?_
  refine ez_icmp rfl rfl ⟨by first | omega | exact (sz_i32 _).1, by first | omega | exact (sz_i32 _).2⟩ ⟨by first | omega | exact (sz_i32 _).1, by first | omega | exact (sz_i32 _).2⟩ (fun (c2 : ((qz_I h r 1) + (n)) ≤ (2000)) => ?_) (fun (c2 : ¬(((qz_I h r 1) + (n)) ≤ (2000))) => ?_)
  · skip
    refine ez_go (n := 2) (pc' := 17) (L' := [(4, .inl (0)), (0, .inr (.inr (some (r)))), (1, .inr (.inr (some (724)))), (2, .inl (f)), (3, .inl (n))]) (st' := []) rfl ?_
    refine ez_less [(4, .inl (0)), (0, .inr (.inr (some (r)))), (1, .inr (.inr (some (724)))), (2, .inl (f)), (3, .inl (n))] rfl ⟨rfl, rfl, rfl, rfl, rfl, trivial⟩ ?_
    exact rd_appRow_l_p (h := h) tr tw a hw hm f0 f1 f2 hv2 hr (by have := a.1; omega) k1 _ 0 h rfl (by omega) (by omega) hB (ez_fr.refl _ _) (fun j v hj => absurd hj (by omega)) (fun j hj => rfl)
  · skip
    refine ez_go (n := 1) (pc' := 13) (L' := [(0, .inr (.inr (some (r)))), (1, .inr (.inr (some (724)))), (2, .inl (f)), (3, .inl (n))]) (st' := [.inl (0)]) rfl ?_
    exact ez_retZ rfl rfl (Or.inl rfl) (k0 (by have := a.1; omega))

theorem rd_takePart {q : Nat} {i j : Int} (hB : ez_B τ h) (tr : τ r = 88) (tq : τ q = 1) (a : tx h q l) (i0 : 0 ≤ i) (ij : i ≤ j) (jl : j ≤ (l.length : Int)) (k : ∀ g, ez_B τ g → ez_fr (tx_P r) h g → tx g r (pt l i j) → Q (.inl none, g)) : ez_W (d + 1) cm_192 0 [(0, .inr (.inr (some (r)))), (1, .inr (.inr (some (q)))), (2, .inl (i)), (3, .inl (j))] [] h Q := by
  have ll : (l.length : Int) ≤ 2000 := by have := a.1; have := tx_l1 hB tq; omega
  refine ez_go (n := 1) (pc' := 1) (L' := [(0, .inr (.inr (some (r)))), (1, .inr (.inr (some (q)))), (2, .inl (i)), (3, .inl (j))]) (st' := [.inr (.inr (some (q)))]) rfl ?_
  refine ez_g3 hB tq rfl rfl tq_1 rfl rfl (fun (t1 : _ = 2) => ?_)
  refine ez_go (n := 2) (pc' := 6) (L' := [(0, .inr (.inr (some (r)))), (1, .inr (.inr (some (q)))), (2, .inl (i)), (3, .inl (j))]) (st' := [.inr (.inr (some (r))), .inl (i), .inr (.inr (some (q + 1)))]) rfl ?_
  refine ez_g3 hB tr rfl rfl tq_88 rfl rfl (fun (t2 : _ = 89) => ?_)
  refine ez_go (n := 4) (pc' := 13) (L' := [(0, .inr (.inr (some (r)))), (1, .inr (.inr (some (q)))), (2, .inl (i)), (3, .inl (j))]) (st' := [.inl ((j) - (i)), .inl (0), .inr (.inr (some (r + 1))), .inl (i), .inr (.inr (some (q + 1)))]) rfl ?_
  have n3 : 2000 ≤ qz_N h (q + 1) ∧ qz_N h (q + 1) ≤ 2000 := ez_len hB t1 tq_2 rfl
  have n4 : 2000 ≤ qz_N h (r + 1) ∧ qz_N h (r + 1) ≤ 2000 := ez_len hB t2 tq_89 rfl
  refine ez_ac hB t1 t2 tq_2 tq_89 rfl rfl rfl rfl rfl rfl rfl (by omega) (by omega) (by omega) (by omega) (by omega) (fun g hBg fg ng ig => ?_)
  refine ez_go (n := 4) (pc' := 20) (L' := [(0, .inr (.inr (some (r)))), (1, .inr (.inr (some (q)))), (2, .inl (i)), (3, .inl (j))]) (st' := [.inl ((j) - (i)), .inr (.inr (some (r)))]) rfl ?_
  refine ez_pf hBg tr rfl rfl tq_88 rfl rfl rfl rfl (ez_vdI rfl rfl (by omega) (by omega)) (fun hB5 w6 => ?_)
  refine ez_ret0 rfl rfl (k _ hB5 ((ez_fr_mono fg (fun z hz => by unfold ez_one at hz; rw [Nat.eq_of_beq_eq_true hz]; exact tx_Pb r)).put (tx_Pa r) _ _) (tx_part a i0 ij jl ?_ (fun k hk => ?_)))
  · rw [w6]; exact ez_rg.v ⟨by omega, by omega⟩
  · rw [ez_put_I (fun w => by omega), ig, if_pos (by omega)]; try (congr 2 <;> omega)

theorem rd_takePart_s {q : Nat} {i j : Int} (hB : ez_B τ h) (tr : τ r = 88) (tq : τ q = 88) (a : tx h q l) (i0 : 0 ≤ i) (ij : i ≤ j) (jl : j ≤ (l.length : Int)) (k : ∀ g, ez_B τ g → ez_fr (tx_P r) h g → tx g r (pt l i j) → Q (.inl none, g)) : ez_W (d + 1) cm_192 0 [(0, .inr (.inr (some (r)))), (1, .inr (.inr (some (q)))), (2, .inl (i)), (3, .inl (j))] [] h Q := by
  have ll : (l.length : Int) ≤ 2000 := by have := a.1; have := tx_l88 hB tq; omega
  refine ez_go (n := 1) (pc' := 1) (L' := [(0, .inr (.inr (some (r)))), (1, .inr (.inr (some (q)))), (2, .inl (i)), (3, .inl (j))]) (st' := [.inr (.inr (some (q)))]) rfl ?_
  refine ez_g3 hB tq rfl rfl tq_88 rfl rfl (fun (t1 : _ = 89) => ?_)
  refine ez_go (n := 2) (pc' := 6) (L' := [(0, .inr (.inr (some (r)))), (1, .inr (.inr (some (q)))), (2, .inl (i)), (3, .inl (j))]) (st' := [.inr (.inr (some (r))), .inl (i), .inr (.inr (some (q + 1)))]) rfl ?_
  refine ez_g3 hB tr rfl rfl tq_88 rfl rfl (fun (t2 : _ = 89) => ?_)
  refine ez_go (n := 4) (pc' := 13) (L' := [(0, .inr (.inr (some (r)))), (1, .inr (.inr (some (q)))), (2, .inl (i)), (3, .inl (j))]) (st' := [.inl ((j) - (i)), .inl (0), .inr (.inr (some (r + 1))), .inl (i), .inr (.inr (some (q + 1)))]) rfl ?_
  have n3 : 2000 ≤ qz_N h (q + 1) ∧ qz_N h (q + 1) ≤ 2000 := ez_len hB t1 tq_89 rfl
  have n4 : 2000 ≤ qz_N h (r + 1) ∧ qz_N h (r + 1) ≤ 2000 := ez_len hB t2 tq_89 rfl
  refine ez_ac hB t1 t2 tq_89 tq_89 rfl rfl rfl rfl rfl rfl rfl (by omega) (by omega) (by omega) (by omega) (by omega) (fun g hBg fg ng ig => ?_)
  refine ez_go (n := 4) (pc' := 20) (L' := [(0, .inr (.inr (some (r)))), (1, .inr (.inr (some (q)))), (2, .inl (i)), (3, .inl (j))]) (st' := [.inl ((j) - (i)), .inr (.inr (some (r)))]) rfl ?_
  refine ez_pf hBg tr rfl rfl tq_88 rfl rfl rfl rfl (ez_vdI rfl rfl (by omega) (by omega)) (fun hB5 w6 => ?_)
  refine ez_ret0 rfl rfl (k _ hB5 ((ez_fr_mono fg (fun z hz => by unfold ez_one at hz; rw [Nat.eq_of_beq_eq_true hz]; exact tx_Pb r)).put (tx_Pa r) _ _) (tx_part a i0 ij jl ?_ (fun k hk => ?_)))
  · rw [w6]; exact ez_rg.v ⟨by omega, by omega⟩
  · rw [ez_put_I (fun w => by omega), ig, if_pos (by omega)]; try (congr 2 <;> omega)

end EzTx
/-! The class: full decompositions into a text. (Written by wip/p2/py/pvt2.py.) -/
section EzFu
variable {d : Nat} {h : cz_H} {τ : Nat → Nat} {Q : cz_F → Prop} {T : Int → Nat} {F : rz_W} {E : Int → Prop} {r : Nat} {l : List Int}
theorem tx_keep {g : cz_H} (hB : ez_B τ h) (tr : τ r = 1) (f : ez_fr (tx_P r) h g) {q : Nat} (q1 : τ q ≠ 1) (q2 : τ q ≠ 2) : g.2.2 q = h.2.2 q := f.2.2 q (tx_Pn (fun e => q1 (by rw [e]; exact tr)) (fun e => q2 (by rw [e]; exact tx_p1 hB tr)))
theorem tx_kD {g : cz_H} (hB : ez_B τ h) (tr : τ r = 1) (f : ez_fr (tx_P r) h g) : ∀ q, kD (τ q) = true → g.2.2 q = h.2.2 q := fun q hq => tx_keep hB tr f (fun e => by rw [e] at hq; cases hq) (fun e => by rw [e] at hq; cases hq)
theorem rd_fSyl_l {x : Int} (tr : τ r = 1) (hx : hz x) (k1 : l.length + (hz_sy x).length ≤ 2000 → ∀ g, ez_B τ g → ez_fr (tx_P r) h g → tx g r (l ++ hz_sy x) → Q (.inl (some (ez_v (.inl 1))), g)) (k0 : 2000 < l.length + (hz_sy x).length → ∀ g, ez_B τ g → ez_fr (tx_P r) h g → Q (.inl (some (ez_v (.inl 0))), g)) : ∀ (m : Nat) (i : Int) (g : cz_H), m = (((hz_sy x).length : Int) - i).toNat → 0 ≤ i → i ≤ ((hz_sy x).length : Int) → ez_B τ g → ez_fr (tx_P r) h g → tx g r (l ++ (hz_sy x).take i.toNat) → ez_W (d + 1) cm_111 2 [(2, .inl (i)), (0, .inl (x)), (1, .inr (.inr (some (r))))] [] g Q := by
  have x0 := hx.1
  have x1 := hx.2
  intro m
  induction m with
  | zero =>
    intro i g hm i0 i1 hBg hf a
    have hlen := hz_sy_len x
    have hal : (l ++ (hz_sy x).take i.toNat).length = l.length + i.toNat := by rw [List.length_append, List.length_take]; omega
    have al := tx_l1 hBg tr
    rw [a.1] at al
    refine ez_go (n := 2) (pc' := 4) (L' := [(2, .inl (i)), (0, .inl (x)), (1, .inr (.inr (some (r))))]) (st' := [.inl (x), .inl (i)]) rfl ?_
    refine ez_cs hBg.2.1 rfl rfl rfl rfl rfl (rd_sylLen hx (ez_K1 ?_))
    refine ez_icmp rfl rfl ⟨by first | omega | exact (sz_i32 _).1, by first | omega | exact (sz_i32 _).2⟩ ⟨by first | omega | exact (sz_i32 _).1, by first | omega | exact (sz_i32 _).2⟩ (fun (c1 : (((hz_sy x).length : Int)) ≤ (i)) => ?_) (fun (c1 : ¬((((hz_sy x).length : Int)) ≤ (i))) => ?_)
    · skip
      refine ez_go (n := 1) (pc' := 31) (L' := [(2, .inl (i)), (0, .inl (x)), (1, .inr (.inr (some (r))))]) (st' := [.inl (1)]) rfl ?_
      exact ez_retZ rfl rfl (by decide) (k1 (by rw [hal] at al; omega) g hBg hf (by rw [List.take_of_length_le (by omega)] at a; exact a))
    · exfalso; omega
  | succ m ih =>
    intro i g hm i0 i1 hBg hf a
    have hlen := hz_sy_len x
    have hal : (l ++ (hz_sy x).take i.toNat).length = l.length + i.toNat := by rw [List.length_append, List.length_take]; omega
    have al := tx_l1 hBg tr
    rw [a.1] at al
    refine ez_go (n := 2) (pc' := 4) (L' := [(2, .inl (i)), (0, .inl (x)), (1, .inr (.inr (some (r))))]) (st' := [.inl (x), .inl (i)]) rfl ?_
    refine ez_cs hBg.2.1 rfl rfl rfl rfl rfl (rd_sylLen hx (ez_K1 ?_))
    refine ez_icmp rfl rfl ⟨by first | omega | exact (sz_i32 _).1, by first | omega | exact (sz_i32 _).2⟩ ⟨by first | omega | exact (sz_i32 _).1, by first | omega | exact (sz_i32 _).2⟩ (fun (c1 : (((hz_sy x).length : Int)) ≤ (i)) => ?_) (fun (c1 : ¬((((hz_sy x).length : Int)) ≤ (i))) => ?_)
    · exfalso; omega
    · skip
      refine ez_go (n := 3) (pc' := 13) (L' := [(2, .inl (i)), (0, .inl (x)), (1, .inr (.inr (some (r))))]) (st' := [.inl (i), .inl (x), .inr (.inr (some (r)))]) rfl ?_
      refine ez_cs hBg.2.1 rfl rfl rfl rfl rfl (rd_sylPart hx i0 (by omega) (fun v hv => ez_K1 ?_))
      have vb := hz_sy_bd hx _ _ hv
      refine ez_cv hBg tr rfl rfl rfl tq_1 rfl rfl rfl (rd_txa hBg tr a ⟨by omega, by omega⟩ (fun lt g2 hB2 f2 a2 => ez_K1 ?_) (fun lt => ez_K1 ?_))
      · skip
        refine ez_if rfl rfl ⟨by decide, by decide⟩ (fun _ => ?_) (fun (c2 : ¬((1 : Int) ≠ (0))) => absurd c2 (by decide))
        refine ez_go (n := 2) (pc' := 2) (L' := [(2, .inl (i + 1)), (0, .inl (x)), (1, .inr (.inr (some (r))))]) (st' := []) rfl ?_
        refine ez_less [(2, .inl (i + 1)), (0, .inl (x)), (1, .inr (.inr (some (r))))] rfl ⟨rfl, rfl, rfl, trivial⟩ ?_
        refine ih (i + 1) g2 (by omega) (by omega) (by omega) hB2 (hf.trans f2) ?_
        rw [show (i + 1).toNat = i.toNat + 1 by omega, List.take_add_one, hv, ← List.append_assoc]; exact a2
      · skip
        refine ez_if rfl rfl ⟨by decide, by decide⟩ (fun (c3 : (0 : Int) ≠ (0)) => absurd c3 (by decide)) (fun _ => ?_)
        refine ez_go (n := 1) (pc' := 23) (L' := [(2, .inl (i)), (0, .inl (x)), (1, .inr (.inr (some (r))))]) (st' := [.inl (0)]) rfl ?_
        exact ez_retZ rfl rfl (by decide) (k0 (by rw [hal] at lt; omega) g hBg hf)
theorem rd_fSyl {x : Int} (hB : ez_B τ h) (tr : τ r = 1) (hx : hz x) (a : tx h r l) (k1 : l.length + (hz_sy x).length ≤ 2000 → ∀ g, ez_B τ g → ez_fr (tx_P r) h g → tx g r (l ++ hz_sy x) → Q (.inl (some (ez_v (.inl 1))), g)) (k0 : 2000 < l.length + (hz_sy x).length → ∀ g, ez_B τ g → ez_fr (tx_P r) h g → Q (.inl (some (ez_v (.inl 0))), g)) : ez_W (d + 1) cm_111 0 [(0, .inl (x)), (1, .inr (.inr (some (r))))] [] h Q := by
  refine ez_go (n := 2) (pc' := 2) (L' := [(2, .inl (0)), (0, .inl (x)), (1, .inr (.inr (some (r))))]) (st' := []) rfl ?_
  refine ez_less [(2, .inl (0)), (0, .inl (x)), (1, .inr (.inr (some (r))))] rfl ⟨rfl, rfl, rfl, trivial⟩ ?_
  exact rd_fSyl_l tr hx k1 k0 _ 0 h rfl (by omega) (by omega) hB (ez_fr.refl _ _) (by rw [show (0 : Int).toNat = 0 from rfl, List.take_zero, List.append_nil]; exact a)

theorem rd_fFull1 {x : Int} (hC : pz_C τ h T F E) (fd : fD h T F) (hw : uz_wf F) (tr : τ r = 1) (x0 : 0 ≤ x) (x1 : x ≤ 1114111) (a : tx h r l) (k1 : ∀ m, uz_F F true x m → l.length + m.length ≤ 2000 → ∀ g, ez_B τ g → ez_fr (tx_P r) h g → tx g r (l ++ m) → Q (.inl (some (ez_v (.inl 1))), g)) (k0 : ∀ m, uz_F F true x m → 2000 < l.length + m.length → ∀ g, ez_B τ g → ez_fr (tx_P r) h g → Q (.inl (some (ez_v (.inl 0))), g)) : ez_W (d + 2) cm_110 0 [(0, .inr (.inr (some (723)))), (1, .inl (x)), (2, .inr (.inr (some (r)))), (3, .inl (1))] [] h Q := by
  have hB := hC.1
  have t723 : τ 723 = 55 := hC.2.1 723 (by decide)
  have t724 : τ 724 = 56 := hC.2.1 724 (by decide)
  have t202 : τ 202 = 48 := hC.2.1 202 (by decide)
  have t203 : τ 203 = 49 := hC.2.1 203 (by decide)
  have al := a.1
  have all := tx_l1 hB tr
  refine ez_go (n := 1) (pc' := 1) (L' := [(0, .inr (.inr (some (723)))), (1, .inl (x)), (2, .inr (.inr (some (r)))), (3, .inl (1))]) (st' := [.inl (x)]) rfl ?_
  refine ez_cs hB.2.1 rfl rfl rfl rfl rfl (rd_isSyl (by omega) (by omega) (fun hx => ez_K1 ?_) (fun hx => ez_K1 ?_))
  · skip
    refine ez_if rfl rfl ⟨by decide, by decide⟩ (fun (c1 : (1 : Int) = (0)) => absurd c1 (by decide)) (fun _ => ?_)
    refine ez_go (n := 2) (pc' := 9) (L' := [(0, .inr (.inr (some (723)))), (1, .inl (x)), (2, .inr (.inr (some (r)))), (3, .inl (1))]) (st' := [.inr (.inr (some (r))), .inl (x)]) rfl ?_
    refine ez_cs hB.2.1 rfl rfl rfl rfl rfl (rd_fSyl hB tr hx a (fun lt g2 hB2 f2 a2 => ez_K1 ?_) (fun lt g2 hB2 f2 => ez_K1 ?_))
    · skip
      exact ez_retZ rfl rfl (by decide) (k1 _ (uz_syl hx) lt g2 hB2 f2 a2)
    · skip
      exact ez_retZ rfl rfl (by decide) (k0 _ ((uz_syl hx)) lt g2 hB2 f2)
  · skip
    refine ez_if rfl rfl ⟨by decide, by decide⟩ (fun _ => ?_) (fun (c2 : ¬((0 : Int) = (0))) => absurd c2 (by decide))
    refine ez_go (n := 1) (pc' := 14) (L' := [(0, .inr (.inr (some (723)))), (1, .inl (x)), (2, .inr (.inr (some (r)))), (3, .inl (1))]) (st' := [.inr (.inr (some (723)))]) rfl ?_
    refine ez_gC (p := 202) (tg := 48) hB t723 rfl rfl tq_55 rfl rfl (fun (t202 : _ = 48) => ?_)
    refine ez_go (n := 1) (pc' := 18) (L' := [(0, .inr (.inr (some (723)))), (1, .inl (x)), (2, .inr (.inr (some (r)))), (3, .inl (1))]) (st' := [.inl (x), .inr (.inr (some (202)))]) rfl ?_
    refine ez_cv hB t202 rfl rfl rfl tq_48 rfl rfl rfl (rd_spanOf hC x0 x1 (fun z tz z1 _ => ez_KA ?_))
    refine ez_gR hB tz rfl rfl tq_4 rfl rfl (fun (t3 : _ = 3) (t3' : 1 ≤ qz_I h z 1) => ?_)
    have eT : qz_P h z 1 = T x := by unfold qz_P; omega
    rw [eT]
    obtain ⟨tT, -, f3, f4⟩ := hC.2.2.2.2 x x0 x1
    refine ez_go (n := 2) (pc' := 28) (L' := [(4, .inr (.inr (some ((T x))))), (0, .inr (.inr (some (723)))), (1, .inl (x)), (2, .inr (.inr (some (r)))), (3, .inl (1))]) (st' := [.inr (.inr (some ((T x))))]) rfl ?_
    refine ez_gN hB tT rfl rfl tq_3 rfl rfl (fun (t4 : qz_I h ((T x)) 3 = 0) => ?_) (fun (t4 : _ = 5) (t4' : 1 ≤ qz_I h ((T x)) 3) => ?_)
    · skip
      refine ez_nonn0 rfl ?_
      have hn9 : (F x).2 = none := Classical.byContradiction fun w => by obtain ⟨q, hq⟩ := Option.ne_none_iff_exists'.mp w; have := (f4 q.1 q.2 hq).2.2.1; omega
      refine ez_go (n := 2) (pc' := 36) (L' := [(4, .inr (.inr (some ((T x))))), (0, .inr (.inr (some (723)))), (1, .inl (x)), (2, .inr (.inr (some (r)))), (3, .inl (1))]) (st' := [.inl (x), .inr (.inr (some (r)))]) rfl ?_
      refine ez_cv hB tr rfl rfl rfl tq_1 rfl rfl rfl (rd_txa hB tr a ⟨by omega, by omega⟩ (fun lt g2 hB2 f2 a2 => ez_K1 ?_) (fun lt => ez_K1 ?_))
      · skip
        exact ez_retZ rfl rfl (by decide) (k1 _ (uz_leaf hx hn9) (by rw [List.length_singleton]; omega) g2 hB2 f2 a2)
      · skip
        exact ez_retZ rfl rfl (by decide) (k0 _ (uz_leaf hx hn9) (by rw [List.length_singleton]; omega) h hB (ez_fr.refl _ _))
    · skip
      refine ez_nonn1 rfl rfl ?_
      refine ez_go (n := 1) (pc' := 41) (L' := [(4, .inr (.inr (some ((T x))))), (0, .inr (.inr (some (723)))), (1, .inl (x)), (2, .inr (.inr (some (r)))), (3, .inl (1))]) (st' := [.inl (1)]) rfl ?_
      refine ez_if rfl rfl ⟨by decide, by decide⟩ (fun (c5 : (1 : Int) = (0)) => absurd c5 (by decide)) (fun _ => ?_)
      refine ez_go (n := 1) (pc' := 46) (L' := [(4, .inr (.inr (some ((T x))))), (0, .inr (.inr (some (723)))), (1, .inl (x)), (2, .inr (.inr (some (r)))), (3, .inl (1))]) (st' := [.inr (.inr (some ((T x))))]) rfl ?_
      refine ez_gI hB tT rfl rfl tq_3 rfl rfl (fun (b6 : 0 ≤ qz_I h ((T x)) 11) (b6' : qz_I h ((T x)) 11 ≤ 20480) => ?_)
      refine ez_go (n := 4) (pc' := 61) (L' := [(5, .inl (qz_I h ((T x)) 11)), (4, .inr (.inr (some ((T x))))), (0, .inr (.inr (some (723)))), (1, .inl (x)), (2, .inr (.inr (some (r)))), (3, .inl (1))]) (st' := [.inr (.inr (some (723))), .inr (.inr (some (r)))]) rfl ?_
      refine ez_gC (p := 724) (tg := 56) hB t723 rfl rfl tq_55 rfl rfl (fun (t724 : _ = 56) => ?_)
      refine ez_go (n := 2) (pc' := 67) (L' := [(5, .inl (qz_I h ((T x)) 11)), (4, .inr (.inr (some ((T x))))), (0, .inr (.inr (some (723)))), (1, .inl (x)), (2, .inr (.inr (some (r)))), (3, .inl (1))]) (st' := [.inl (1), .inl (qz_I h ((T x)) 11), .inr (.inr (some (724))), .inr (.inr (some (r)))]) rfl ?_
      refine ez_if rfl rfl ⟨by decide, by decide⟩ (fun (c7 : (1 : Int) = (0)) => absurd c7 (by decide)) (fun _ => ?_)
      refine ez_go (n := 1) (pc' := 72) (L' := [(5, .inl (qz_I h ((T x)) 11)), (4, .inr (.inr (some ((T x))))), (0, .inr (.inr (some (723)))), (1, .inl (x)), (2, .inr (.inr (some (r)))), (3, .inl (1))]) (st' := [.inr (.inr (some ((T x)))), .inl (qz_I h ((T x)) 11), .inr (.inr (some (724))), .inr (.inr (some (r)))]) rfl ?_
      refine ez_gI hB tT rfl rfl tq_3 rfl rfl (fun (b8 : 0 ≤ qz_I h ((T x)) 12) (b8' : qz_I h ((T x)) 12 ≤ 20480) => ?_)
      refine ez_go (n := 1) (pc' := 83) (L' := [(5, .inl (qz_I h ((T x)) 11)), (4, .inr (.inr (some ((T x))))), (0, .inr (.inr (some (723)))), (1, .inl (x)), (2, .inr (.inr (some (r)))), (3, .inl (1))]) (st' := [.inl (qz_I h ((T x)) 12), .inl (qz_I h ((T x)) 11), .inr (.inr (some (724))), .inr (.inr (some (r)))]) rfl ?_
      obtain ⟨m, m1, ⟨m2, m3, m4, m5⟩, m6⟩ := fd x x0 x1 (fun w => by have := f3 w; omega) true
      have m2 : qz_I h (T x) 12 = (m.length : Int) := m2
      have m3 : 0 ≤ qz_I h (T x) 11 := m3
      have m4 : qz_I h (T x) 11 + (m.length : Int) ≤ qz_I h 723 2 := m4
      have b2 : 0 ≤ qz_I h 723 2 ∧ qz_I h 723 2 ≤ 20480 := ez_fB (cl := 6) (k := 2) hB t723 tq_55 rfl rfl (by decide)
      have n724 : 20480 ≤ qz_N h 724 ∧ qz_N h 724 ≤ 20480 := ez_len hB t724 tq_56 rfl
      have mp := uz_F_ptl hw x0 x1 m1
      refine ez_cv hB tr rfl rfl rfl tq_1 rfl rfl rfl (rd_appRow_p tr t724 a (fun e => by have := tx_p1 hB tr; rw [← e, t724] at this; cases this) m2.symm m3 (by omega) (by omega) m5 (fun j v hv => ⟨by have := ptl_at mp hv; omega, by have := ptl_at mp hv; omega⟩) hB (fun lt g2 hB2 f2 a2 => ez_K1 ?_) (fun lt => ez_K1 ?_))
      · skip
        exact ez_retZ rfl rfl (by decide) (k1 _ m1 lt g2 hB2 f2 a2)
      · skip
        exact ez_retZ rfl rfl (by decide) (k0 _ (m1) lt h hB (ez_fr.refl _ _))

theorem rd_fFull0 {x : Int} (hC : pz_C τ h T F E) (fd : fD h T F) (hw : uz_wf F) (tr : τ r = 1) (x0 : 0 ≤ x) (x1 : x ≤ 1114111) (a : tx h r l) (k1 : ∀ m, uz_F F false x m → l.length + m.length ≤ 2000 → ∀ g, ez_B τ g → ez_fr (tx_P r) h g → tx g r (l ++ m) → Q (.inl (some (ez_v (.inl 1))), g)) (k0 : ∀ m, uz_F F false x m → 2000 < l.length + m.length → ∀ g, ez_B τ g → ez_fr (tx_P r) h g → Q (.inl (some (ez_v (.inl 0))), g)) : ez_W (d + 2) cm_110 0 [(0, .inr (.inr (some (723)))), (1, .inl (x)), (2, .inr (.inr (some (r)))), (3, .inl (0))] [] h Q := by
  have hB := hC.1
  have t723 : τ 723 = 55 := hC.2.1 723 (by decide)
  have t724 : τ 724 = 56 := hC.2.1 724 (by decide)
  have t202 : τ 202 = 48 := hC.2.1 202 (by decide)
  have t203 : τ 203 = 49 := hC.2.1 203 (by decide)
  have al := a.1
  have all := tx_l1 hB tr
  refine ez_go (n := 1) (pc' := 1) (L' := [(0, .inr (.inr (some (723)))), (1, .inl (x)), (2, .inr (.inr (some (r)))), (3, .inl (0))]) (st' := [.inl (x)]) rfl ?_
  refine ez_cs hB.2.1 rfl rfl rfl rfl rfl (rd_isSyl (by omega) (by omega) (fun hx => ez_K1 ?_) (fun hx => ez_K1 ?_))
  · skip
    refine ez_if rfl rfl ⟨by decide, by decide⟩ (fun (c1 : (1 : Int) = (0)) => absurd c1 (by decide)) (fun _ => ?_)
    refine ez_go (n := 2) (pc' := 9) (L' := [(0, .inr (.inr (some (723)))), (1, .inl (x)), (2, .inr (.inr (some (r)))), (3, .inl (0))]) (st' := [.inr (.inr (some (r))), .inl (x)]) rfl ?_
    refine ez_cs hB.2.1 rfl rfl rfl rfl rfl (rd_fSyl hB tr hx a (fun lt g2 hB2 f2 a2 => ez_K1 ?_) (fun lt g2 hB2 f2 => ez_K1 ?_))
    · skip
      exact ez_retZ rfl rfl (by decide) (k1 _ (uz_syl hx) lt g2 hB2 f2 a2)
    · skip
      exact ez_retZ rfl rfl (by decide) (k0 _ ((uz_syl hx)) lt g2 hB2 f2)
  · skip
    refine ez_if rfl rfl ⟨by decide, by decide⟩ (fun _ => ?_) (fun (c2 : ¬((0 : Int) = (0))) => absurd c2 (by decide))
    refine ez_go (n := 1) (pc' := 14) (L' := [(0, .inr (.inr (some (723)))), (1, .inl (x)), (2, .inr (.inr (some (r)))), (3, .inl (0))]) (st' := [.inr (.inr (some (723)))]) rfl ?_
    refine ez_gC (p := 202) (tg := 48) hB t723 rfl rfl tq_55 rfl rfl (fun (t202 : _ = 48) => ?_)
    refine ez_go (n := 1) (pc' := 18) (L' := [(0, .inr (.inr (some (723)))), (1, .inl (x)), (2, .inr (.inr (some (r)))), (3, .inl (0))]) (st' := [.inl (x), .inr (.inr (some (202)))]) rfl ?_
    refine ez_cv hB t202 rfl rfl rfl tq_48 rfl rfl rfl (rd_spanOf hC x0 x1 (fun z tz z1 _ => ez_KA ?_))
    refine ez_gR hB tz rfl rfl tq_4 rfl rfl (fun (t3 : _ = 3) (t3' : 1 ≤ qz_I h z 1) => ?_)
    have eT : qz_P h z 1 = T x := by unfold qz_P; omega
    rw [eT]
    obtain ⟨tT, -, f3, f4⟩ := hC.2.2.2.2 x x0 x1
    refine ez_go (n := 2) (pc' := 28) (L' := [(4, .inr (.inr (some ((T x))))), (0, .inr (.inr (some (723)))), (1, .inl (x)), (2, .inr (.inr (some (r)))), (3, .inl (0))]) (st' := [.inr (.inr (some ((T x))))]) rfl ?_
    refine ez_gN hB tT rfl rfl tq_3 rfl rfl (fun (t4 : qz_I h ((T x)) 3 = 0) => ?_) (fun (t4 : _ = 5) (t4' : 1 ≤ qz_I h ((T x)) 3) => ?_)
    · skip
      refine ez_nonn0 rfl ?_
      have hn9 : (F x).2 = none := Classical.byContradiction fun w => by obtain ⟨q, hq⟩ := Option.ne_none_iff_exists'.mp w; have := (f4 q.1 q.2 hq).2.2.1; omega
      refine ez_go (n := 2) (pc' := 36) (L' := [(4, .inr (.inr (some ((T x))))), (0, .inr (.inr (some (723)))), (1, .inl (x)), (2, .inr (.inr (some (r)))), (3, .inl (0))]) (st' := [.inl (x), .inr (.inr (some (r)))]) rfl ?_
      refine ez_cv hB tr rfl rfl rfl tq_1 rfl rfl rfl (rd_txa hB tr a ⟨by omega, by omega⟩ (fun lt g2 hB2 f2 a2 => ez_K1 ?_) (fun lt => ez_K1 ?_))
      · skip
        exact ez_retZ rfl rfl (by decide) (k1 _ (uz_leaf hx hn9) (by rw [List.length_singleton]; omega) g2 hB2 f2 a2)
      · skip
        exact ez_retZ rfl rfl (by decide) (k0 _ (uz_leaf hx hn9) (by rw [List.length_singleton]; omega) h hB (ez_fr.refl _ _))
    · skip
      refine ez_nonn1 rfl rfl ?_
      refine ez_go (n := 1) (pc' := 41) (L' := [(4, .inr (.inr (some ((T x))))), (0, .inr (.inr (some (723)))), (1, .inl (x)), (2, .inr (.inr (some (r)))), (3, .inl (0))]) (st' := [.inl (0)]) rfl ?_
      refine ez_if rfl rfl ⟨by decide, by decide⟩ (fun _ => ?_) (fun (c5 : ¬((0 : Int) = (0))) => absurd c5 (by decide))
      refine ez_go (n := 1) (pc' := 54) (L' := [(4, .inr (.inr (some ((T x))))), (0, .inr (.inr (some (723)))), (1, .inl (x)), (2, .inr (.inr (some (r)))), (3, .inl (0))]) (st' := [.inr (.inr (some ((T x))))]) rfl ?_
      refine ez_gI hB tT rfl rfl tq_3 rfl rfl (fun (b6 : 0 ≤ qz_I h ((T x)) 9) (b6' : qz_I h ((T x)) 9 ≤ 20480) => ?_)
      refine ez_go (n := 3) (pc' := 61) (L' := [(5, .inl (qz_I h ((T x)) 9)), (4, .inr (.inr (some ((T x))))), (0, .inr (.inr (some (723)))), (1, .inl (x)), (2, .inr (.inr (some (r)))), (3, .inl (0))]) (st' := [.inr (.inr (some (723))), .inr (.inr (some (r)))]) rfl ?_
      refine ez_gC (p := 724) (tg := 56) hB t723 rfl rfl tq_55 rfl rfl (fun (t724 : _ = 56) => ?_)
      refine ez_go (n := 2) (pc' := 67) (L' := [(5, .inl (qz_I h ((T x)) 9)), (4, .inr (.inr (some ((T x))))), (0, .inr (.inr (some (723)))), (1, .inl (x)), (2, .inr (.inr (some (r)))), (3, .inl (0))]) (st' := [.inl (0), .inl (qz_I h ((T x)) 9), .inr (.inr (some (724))), .inr (.inr (some (r)))]) rfl ?_
      refine ez_if rfl rfl ⟨by decide, by decide⟩ (fun _ => ?_) (fun (c7 : ¬((0 : Int) = (0))) => absurd c7 (by decide))
      refine ez_go (n := 1) (pc' := 80) (L' := [(5, .inl (qz_I h ((T x)) 9)), (4, .inr (.inr (some ((T x))))), (0, .inr (.inr (some (723)))), (1, .inl (x)), (2, .inr (.inr (some (r)))), (3, .inl (0))]) (st' := [.inr (.inr (some ((T x)))), .inl (qz_I h ((T x)) 9), .inr (.inr (some (724))), .inr (.inr (some (r)))]) rfl ?_
      refine ez_gI hB tT rfl rfl tq_3 rfl rfl (fun (b8 : 0 ≤ qz_I h ((T x)) 10) (b8' : qz_I h ((T x)) 10 ≤ 20480) => ?_)
      obtain ⟨m, m1, ⟨m2, m3, m4, m5⟩, m6⟩ := fd x x0 x1 (fun w => by have := f3 w; omega) false
      have m2 : qz_I h (T x) 10 = (m.length : Int) := m2
      have m3 : 0 ≤ qz_I h (T x) 9 := m3
      have m4 : qz_I h (T x) 9 + (m.length : Int) ≤ qz_I h 723 2 := m4
      have b2 : 0 ≤ qz_I h 723 2 ∧ qz_I h 723 2 ≤ 20480 := ez_fB (cl := 6) (k := 2) hB t723 tq_55 rfl rfl (by decide)
      have n724 : 20480 ≤ qz_N h 724 ∧ qz_N h 724 ≤ 20480 := ez_len hB t724 tq_56 rfl
      have mp := uz_F_ptl hw x0 x1 m1
      refine ez_cv hB tr rfl rfl rfl tq_1 rfl rfl rfl (rd_appRow_p tr t724 a (fun e => by have := tx_p1 hB tr; rw [← e, t724] at this; cases this) m2.symm m3 (by omega) (by omega) m5 (fun j v hv => ⟨by have := ptl_at mp hv; omega, by have := ptl_at mp hv; omega⟩) hB (fun lt g2 hB2 f2 a2 => ez_K1 ?_) (fun lt => ez_K1 ?_))
      · skip
        exact ez_retZ rfl rfl (by decide) (k1 _ m1 lt g2 hB2 f2 a2)
      · skip
        exact ez_retZ rfl rfl (by decide) (k0 _ (m1) lt h hB (ez_fr.refl _ _))

theorem rd_expand_ls1 {q : Nat} {u : List Int} {fm : Int} (hC : pz_C τ h T F E) (fd : fD h T F) (hw : uz_wf F) (tr : τ r = 1) (tq : τ q = 88) (qr : q ≠ r) (uq : tx h q u) (up : ptl u) (k1 : ∀ m, uz_FL F true u m → l.length + m.length ≤ 2000 → ∀ g, ez_B τ g → ez_fr (tx_P r) h g → tx g r (l ++ m) → Q (.inl (some (ez_v (.inl 1))), g)) (k0 : ∀ m, uz_FL F true u m → 2000 < l.length + m.length → ∀ g, ez_B τ g → ez_fr (tx_P r) h g → Q (.inl (some (ez_v (.inl 0))), g)) : ∀ (n : Nat) (i : Int) (g : cz_H) (m : List Int), n = ((u.length : Int) - i).toNat → 0 ≤ i → i ≤ (u.length : Int) → ez_B τ g → ez_fr (tx_P r) h g → uz_FL F true (u.take i.toNat) m → tx g r (l ++ m) → ez_W (d + 3) cm_139 20 [(5, .inl (i)), (4, .inl (1)), (0, .inr (.inr (some (729)))), (1, .inr (.inr (some (q)))), (2, .inr (.inr (some (r)))), (3, .inl (fm))] [] g Q := by
  have t729 : τ 729 = 61 := hC.2.1 729 (by decide)
  have t723 : τ 723 = 55 := hC.2.1 723 (by decide)
  have t724 : τ 724 = 56 := hC.2.1 724 (by decide)
  intro n
  induction n with
  | zero =>
    intro i g m hn i0 i1 hBg hf um am
    have tq1 := tx_p88 hBg tq
    have cq : g.2.2 q = h.2.2 q := hf.2.2 q (tx_Pn qr (fun e => by rw [e, tx_p1 hBg tr] at tq; cases tq))
    have cq1 : g.2.2 (q + 1) = h.2.2 (q + 1) := hf.2.2 (q + 1) (tx_Pn (fun e => by rw [e, tr] at tq1; cases tq1) (fun e => qr (by omega)))
    have uq := tx_c uq cq cq1
    have uql := uq.1
    have uqb := tx_l88 hBg tq
    have hCg : pz_C τ g T F E := hC.keep hBg (tx_kD hC.1 tr hf)
    have fdg : fD g T F := fd.keep hC (tx_kD hC.1 tr hf) (tx_keep hC.1 tr hf (by rw [t723]; decide) (by rw [t723]; decide)) (tx_keep hC.1 tr hf (by rw [t724]; decide) (by rw [t724]; decide))
    refine ez_go (n := 2) (pc' := 23) (L' := [(5, .inl (i)), (4, .inl (1)), (0, .inr (.inr (some (729)))), (1, .inr (.inr (some (q)))), (2, .inr (.inr (some (r)))), (3, .inl (fm))]) (st' := [.inr (.inr (some (q))), .inl (i)]) rfl ?_
    refine ez_gI hBg tq rfl rfl tq_88 rfl rfl (fun (b1 : 0 ≤ qz_I g q 1) (b1' : qz_I g q 1 ≤ 2000) => ?_)
    refine ez_icmp rfl rfl ⟨by first | omega | exact (sz_i32 _).1, by first | omega | exact (sz_i32 _).2⟩ ⟨by first | omega | exact (sz_i32 _).1, by first | omega | exact (sz_i32 _).2⟩ (fun (c2 : (qz_I g q 1) ≤ (i)) => ?_) (fun (c2 : ¬((qz_I g q 1) ≤ (i))) => ?_)
    · skip
      refine ez_go (n := 1) (pc' := 58) (L' := [(5, .inl (i)), (4, .inl (1)), (0, .inr (.inr (some (729)))), (1, .inr (.inr (some (q)))), (2, .inr (.inr (some (r)))), (3, .inl (fm))]) (st' := [.inl (1)]) rfl ?_
      exact ez_retZ rfl rfl (by decide) (k1 m (by rw [List.take_of_length_le (by omega)] at um; exact um) (by have := am.1; have := tx_l1 hBg tr; rw [List.length_append] at *; omega) g hBg hf am)
    · exfalso; omega
  | succ n ih =>
    intro i g m hn i0 i1 hBg hf um am
    have tq1 := tx_p88 hBg tq
    have cq : g.2.2 q = h.2.2 q := hf.2.2 q (tx_Pn qr (fun e => by rw [e, tx_p1 hBg tr] at tq; cases tq))
    have cq1 : g.2.2 (q + 1) = h.2.2 (q + 1) := hf.2.2 (q + 1) (tx_Pn (fun e => by rw [e, tr] at tq1; cases tq1) (fun e => qr (by omega)))
    have uq := tx_c uq cq cq1
    have uql := uq.1
    have uqb := tx_l88 hBg tq
    have hCg : pz_C τ g T F E := hC.keep hBg (tx_kD hC.1 tr hf)
    have fdg : fD g T F := fd.keep hC (tx_kD hC.1 tr hf) (tx_keep hC.1 tr hf (by rw [t723]; decide) (by rw [t723]; decide)) (tx_keep hC.1 tr hf (by rw [t724]; decide) (by rw [t724]; decide))
    refine ez_go (n := 2) (pc' := 23) (L' := [(5, .inl (i)), (4, .inl (1)), (0, .inr (.inr (some (729)))), (1, .inr (.inr (some (q)))), (2, .inr (.inr (some (r)))), (3, .inl (fm))]) (st' := [.inr (.inr (some (q))), .inl (i)]) rfl ?_
    refine ez_gI hBg tq rfl rfl tq_88 rfl rfl (fun (b1 : 0 ≤ qz_I g q 1) (b1' : qz_I g q 1 ≤ 2000) => ?_)
    refine ez_icmp rfl rfl ⟨by first | omega | exact (sz_i32 _).1, by first | omega | exact (sz_i32 _).2⟩ ⟨by first | omega | exact (sz_i32 _).1, by first | omega | exact (sz_i32 _).2⟩ (fun (c2 : (qz_I g q 1) ≤ (i)) => ?_) (fun (c2 : ¬((qz_I g q 1) ≤ (i))) => ?_)
    · exfalso; omega
    · skip
      refine ez_go (n := 1) (pc' := 30) (L' := [(5, .inl (i)), (4, .inl (1)), (0, .inr (.inr (some (729)))), (1, .inr (.inr (some (q)))), (2, .inr (.inr (some (r)))), (3, .inl (fm))]) (st' := [.inr (.inr (some (729)))]) rfl ?_
      refine ez_gC (p := 723) (tg := 55) hBg t729 rfl rfl tq_61 rfl rfl (fun (t723 : _ = 55) => ?_)
      refine ez_go (n := 1) (pc' := 34) (L' := [(5, .inl (i)), (4, .inl (1)), (0, .inr (.inr (some (729)))), (1, .inr (.inr (some (q)))), (2, .inr (.inr (some (r)))), (3, .inl (fm))]) (st' := [.inr (.inr (some (q))), .inr (.inr (some (723)))]) rfl ?_
      refine ez_g3 hBg tq rfl rfl tq_88 rfl rfl (fun (t3 : _ = 89) => ?_)
      refine ez_go (n := 1) (pc' := 39) (L' := [(5, .inl (i)), (4, .inl (1)), (0, .inr (.inr (some (729)))), (1, .inr (.inr (some (q)))), (2, .inr (.inr (some (r)))), (3, .inl (fm))]) (st' := [.inl (i), .inr (.inr (some (q + 1))), .inr (.inr (some (723)))]) rfl ?_
      have n5 : 2000 ≤ qz_N g (q + 1) ∧ qz_N g (q + 1) ≤ 2000 := ez_len hBg t3 tq_89 rfl
      refine ez_aI hBg t3 rfl tq_89 rfl rfl (by omega) (by omega) (fun (b4 : -2147483648 ≤ qz_I g (q + 1) (i).toNat) (b4' : qz_I g (q + 1) (i).toNat ≤ 2147483647) => ?_)
      refine ez_go (n := 2) (pc' := 43) (L' := [(5, .inl (i)), (4, .inl (1)), (0, .inr (.inr (some (729)))), (1, .inr (.inr (some (q)))), (2, .inr (.inr (some (r)))), (3, .inl (fm))]) (st' := [.inl (1), .inr (.inr (some (r))), .inl (qz_I g (q + 1) (i).toNat), .inr (.inr (some (723)))]) rfl ?_
      have hi9 : i.toNat < u.length := by omega
      have ev := uq.2 _ _ (List.getElem?_eq_getElem hi9)
      have vb := ptl_at up (List.getElem?_eq_getElem hi9)
      rw [← ev] at vb
      have hv : u[i.toNat]? = some (qz_I g (q + 1) (i).toNat) := by rw [ev]; exact List.getElem?_eq_getElem hi9
      refine ez_cv hBg t723 rfl rfl rfl tq_55 rfl rfl rfl (rd_fFull1 hCg fdg hw tr vb.1 vb.2 am (fun m2 u2 lt g2 hB2 f2 a2 => ez_K1 ?_) (fun m2 u2 lt g2 hB2 f2 => ez_K1 ?_))
      · skip
        refine ez_if rfl rfl ⟨by decide, by decide⟩ (fun _ => ?_) (fun (c6 : ¬((1 : Int) ≠ (0))) => absurd c6 (by decide))
        refine ez_go (n := 2) (pc' := 20) (L' := [(5, .inl (i + 1)), (4, .inl (1)), (0, .inr (.inr (some (729)))), (1, .inr (.inr (some (q)))), (2, .inr (.inr (some (r)))), (3, .inl (fm))]) (st' := []) rfl ?_
        refine ez_less [(5, .inl (i + 1)), (4, .inl (1)), (0, .inr (.inr (some (729)))), (1, .inr (.inr (some (q)))), (2, .inr (.inr (some (r)))), (3, .inl (fm))] rfl ⟨rfl, rfl, rfl, rfl, rfl, rfl, trivial⟩ ?_
        refine ih (i + 1) g2 (m ++ m2) (by omega) (by omega) (by omega) hB2 (hf.trans f2) ?_ (by rw [← List.append_assoc]; exact a2)
        rw [show (i + 1).toNat = i.toNat + 1 by omega]; exact uz_FL_take (l := l) hv um u2
      · skip
        refine ez_if rfl rfl ⟨by decide, by decide⟩ (fun (c7 : (0 : Int) ≠ (0)) => absurd c7 (by decide)) (fun _ => ?_)
        refine ez_go (n := 1) (pc' := 50) (L' := [(5, .inl (i)), (4, .inl (1)), (0, .inr (.inr (some (729)))), (1, .inr (.inr (some (q)))), (2, .inr (.inr (some (r)))), (3, .inl (fm))]) (st' := [.inl (0)]) rfl ?_
        obtain ⟨m3, u3⟩ := fd.allL true up
        have le := uz_FL_le (i := i.toNat + 1) (uz_FL_take (l := l) hv um u2) u3
        exact ez_retZ rfl rfl (by decide) (k0 m3 u3 (by rw [List.length_append] at lt le; omega) g2 hB2 (hf.trans f2))
theorem rd_expand_ls0 {q : Nat} {u : List Int} {fm : Int} (hC : pz_C τ h T F E) (fd : fD h T F) (hw : uz_wf F) (tr : τ r = 1) (tq : τ q = 88) (qr : q ≠ r) (uq : tx h q u) (up : ptl u) (k1 : ∀ m, uz_FL F false u m → l.length + m.length ≤ 2000 → ∀ g, ez_B τ g → ez_fr (tx_P r) h g → tx g r (l ++ m) → Q (.inl (some (ez_v (.inl 1))), g)) (k0 : ∀ m, uz_FL F false u m → 2000 < l.length + m.length → ∀ g, ez_B τ g → ez_fr (tx_P r) h g → Q (.inl (some (ez_v (.inl 0))), g)) : ∀ (n : Nat) (i : Int) (g : cz_H) (m : List Int), n = ((u.length : Int) - i).toNat → 0 ≤ i → i ≤ (u.length : Int) → ez_B τ g → ez_fr (tx_P r) h g → uz_FL F false (u.take i.toNat) m → tx g r (l ++ m) → ez_W (d + 3) cm_139 20 [(5, .inl (i)), (4, .inl (0)), (0, .inr (.inr (some (729)))), (1, .inr (.inr (some (q)))), (2, .inr (.inr (some (r)))), (3, .inl (fm))] [] g Q := by
  have t729 : τ 729 = 61 := hC.2.1 729 (by decide)
  have t723 : τ 723 = 55 := hC.2.1 723 (by decide)
  have t724 : τ 724 = 56 := hC.2.1 724 (by decide)
  intro n
  induction n with
  | zero =>
    intro i g m hn i0 i1 hBg hf um am
    have tq1 := tx_p88 hBg tq
    have cq : g.2.2 q = h.2.2 q := hf.2.2 q (tx_Pn qr (fun e => by rw [e, tx_p1 hBg tr] at tq; cases tq))
    have cq1 : g.2.2 (q + 1) = h.2.2 (q + 1) := hf.2.2 (q + 1) (tx_Pn (fun e => by rw [e, tr] at tq1; cases tq1) (fun e => qr (by omega)))
    have uq := tx_c uq cq cq1
    have uql := uq.1
    have uqb := tx_l88 hBg tq
    have hCg : pz_C τ g T F E := hC.keep hBg (tx_kD hC.1 tr hf)
    have fdg : fD g T F := fd.keep hC (tx_kD hC.1 tr hf) (tx_keep hC.1 tr hf (by rw [t723]; decide) (by rw [t723]; decide)) (tx_keep hC.1 tr hf (by rw [t724]; decide) (by rw [t724]; decide))
    refine ez_go (n := 2) (pc' := 23) (L' := [(5, .inl (i)), (4, .inl (0)), (0, .inr (.inr (some (729)))), (1, .inr (.inr (some (q)))), (2, .inr (.inr (some (r)))), (3, .inl (fm))]) (st' := [.inr (.inr (some (q))), .inl (i)]) rfl ?_
    refine ez_gI hBg tq rfl rfl tq_88 rfl rfl (fun (b1 : 0 ≤ qz_I g q 1) (b1' : qz_I g q 1 ≤ 2000) => ?_)
    refine ez_icmp rfl rfl ⟨by first | omega | exact (sz_i32 _).1, by first | omega | exact (sz_i32 _).2⟩ ⟨by first | omega | exact (sz_i32 _).1, by first | omega | exact (sz_i32 _).2⟩ (fun (c2 : (qz_I g q 1) ≤ (i)) => ?_) (fun (c2 : ¬((qz_I g q 1) ≤ (i))) => ?_)
    · skip
      refine ez_go (n := 1) (pc' := 58) (L' := [(5, .inl (i)), (4, .inl (0)), (0, .inr (.inr (some (729)))), (1, .inr (.inr (some (q)))), (2, .inr (.inr (some (r)))), (3, .inl (fm))]) (st' := [.inl (1)]) rfl ?_
      exact ez_retZ rfl rfl (by decide) (k1 m (by rw [List.take_of_length_le (by omega)] at um; exact um) (by have := am.1; have := tx_l1 hBg tr; rw [List.length_append] at *; omega) g hBg hf am)
    · exfalso; omega
  | succ n ih =>
    intro i g m hn i0 i1 hBg hf um am
    have tq1 := tx_p88 hBg tq
    have cq : g.2.2 q = h.2.2 q := hf.2.2 q (tx_Pn qr (fun e => by rw [e, tx_p1 hBg tr] at tq; cases tq))
    have cq1 : g.2.2 (q + 1) = h.2.2 (q + 1) := hf.2.2 (q + 1) (tx_Pn (fun e => by rw [e, tr] at tq1; cases tq1) (fun e => qr (by omega)))
    have uq := tx_c uq cq cq1
    have uql := uq.1
    have uqb := tx_l88 hBg tq
    have hCg : pz_C τ g T F E := hC.keep hBg (tx_kD hC.1 tr hf)
    have fdg : fD g T F := fd.keep hC (tx_kD hC.1 tr hf) (tx_keep hC.1 tr hf (by rw [t723]; decide) (by rw [t723]; decide)) (tx_keep hC.1 tr hf (by rw [t724]; decide) (by rw [t724]; decide))
    refine ez_go (n := 2) (pc' := 23) (L' := [(5, .inl (i)), (4, .inl (0)), (0, .inr (.inr (some (729)))), (1, .inr (.inr (some (q)))), (2, .inr (.inr (some (r)))), (3, .inl (fm))]) (st' := [.inr (.inr (some (q))), .inl (i)]) rfl ?_
    refine ez_gI hBg tq rfl rfl tq_88 rfl rfl (fun (b1 : 0 ≤ qz_I g q 1) (b1' : qz_I g q 1 ≤ 2000) => ?_)
    refine ez_icmp rfl rfl ⟨by first | omega | exact (sz_i32 _).1, by first | omega | exact (sz_i32 _).2⟩ ⟨by first | omega | exact (sz_i32 _).1, by first | omega | exact (sz_i32 _).2⟩ (fun (c2 : (qz_I g q 1) ≤ (i)) => ?_) (fun (c2 : ¬((qz_I g q 1) ≤ (i))) => ?_)
    · exfalso; omega
    · skip
      refine ez_go (n := 1) (pc' := 30) (L' := [(5, .inl (i)), (4, .inl (0)), (0, .inr (.inr (some (729)))), (1, .inr (.inr (some (q)))), (2, .inr (.inr (some (r)))), (3, .inl (fm))]) (st' := [.inr (.inr (some (729)))]) rfl ?_
      refine ez_gC (p := 723) (tg := 55) hBg t729 rfl rfl tq_61 rfl rfl (fun (t723 : _ = 55) => ?_)
      refine ez_go (n := 1) (pc' := 34) (L' := [(5, .inl (i)), (4, .inl (0)), (0, .inr (.inr (some (729)))), (1, .inr (.inr (some (q)))), (2, .inr (.inr (some (r)))), (3, .inl (fm))]) (st' := [.inr (.inr (some (q))), .inr (.inr (some (723)))]) rfl ?_
      refine ez_g3 hBg tq rfl rfl tq_88 rfl rfl (fun (t3 : _ = 89) => ?_)
      refine ez_go (n := 1) (pc' := 39) (L' := [(5, .inl (i)), (4, .inl (0)), (0, .inr (.inr (some (729)))), (1, .inr (.inr (some (q)))), (2, .inr (.inr (some (r)))), (3, .inl (fm))]) (st' := [.inl (i), .inr (.inr (some (q + 1))), .inr (.inr (some (723)))]) rfl ?_
      have n5 : 2000 ≤ qz_N g (q + 1) ∧ qz_N g (q + 1) ≤ 2000 := ez_len hBg t3 tq_89 rfl
      refine ez_aI hBg t3 rfl tq_89 rfl rfl (by omega) (by omega) (fun (b4 : -2147483648 ≤ qz_I g (q + 1) (i).toNat) (b4' : qz_I g (q + 1) (i).toNat ≤ 2147483647) => ?_)
      refine ez_go (n := 2) (pc' := 43) (L' := [(5, .inl (i)), (4, .inl (0)), (0, .inr (.inr (some (729)))), (1, .inr (.inr (some (q)))), (2, .inr (.inr (some (r)))), (3, .inl (fm))]) (st' := [.inl (0), .inr (.inr (some (r))), .inl (qz_I g (q + 1) (i).toNat), .inr (.inr (some (723)))]) rfl ?_
      have hi9 : i.toNat < u.length := by omega
      have ev := uq.2 _ _ (List.getElem?_eq_getElem hi9)
      have vb := ptl_at up (List.getElem?_eq_getElem hi9)
      rw [← ev] at vb
      have hv : u[i.toNat]? = some (qz_I g (q + 1) (i).toNat) := by rw [ev]; exact List.getElem?_eq_getElem hi9
      refine ez_cv hBg t723 rfl rfl rfl tq_55 rfl rfl rfl (rd_fFull0 hCg fdg hw tr vb.1 vb.2 am (fun m2 u2 lt g2 hB2 f2 a2 => ez_K1 ?_) (fun m2 u2 lt g2 hB2 f2 => ez_K1 ?_))
      · skip
        refine ez_if rfl rfl ⟨by decide, by decide⟩ (fun _ => ?_) (fun (c6 : ¬((1 : Int) ≠ (0))) => absurd c6 (by decide))
        refine ez_go (n := 2) (pc' := 20) (L' := [(5, .inl (i + 1)), (4, .inl (0)), (0, .inr (.inr (some (729)))), (1, .inr (.inr (some (q)))), (2, .inr (.inr (some (r)))), (3, .inl (fm))]) (st' := []) rfl ?_
        refine ez_less [(5, .inl (i + 1)), (4, .inl (0)), (0, .inr (.inr (some (729)))), (1, .inr (.inr (some (q)))), (2, .inr (.inr (some (r)))), (3, .inl (fm))] rfl ⟨rfl, rfl, rfl, rfl, rfl, rfl, trivial⟩ ?_
        refine ih (i + 1) g2 (m ++ m2) (by omega) (by omega) (by omega) hB2 (hf.trans f2) ?_ (by rw [← List.append_assoc]; exact a2)
        rw [show (i + 1).toNat = i.toNat + 1 by omega]; exact uz_FL_take (l := l) hv um u2
      · skip
        refine ez_if rfl rfl ⟨by decide, by decide⟩ (fun (c7 : (0 : Int) ≠ (0)) => absurd c7 (by decide)) (fun _ => ?_)
        refine ez_go (n := 1) (pc' := 50) (L' := [(5, .inl (i)), (4, .inl (0)), (0, .inr (.inr (some (729)))), (1, .inr (.inr (some (q)))), (2, .inr (.inr (some (r)))), (3, .inl (fm))]) (st' := [.inl (0)]) rfl ?_
        obtain ⟨m3, u3⟩ := fd.allL false up
        have le := uz_FL_le (i := i.toNat + 1) (uz_FL_take (l := l) hv um u2) u3
        exact ez_retZ rfl rfl (by decide) (k0 m3 u3 (by rw [List.length_append] at lt le; omega) g2 hB2 (hf.trans f2))
theorem rd_expand_s {q : Nat} {u : List Int} {fm : Int} (hC : pz_C τ h T F E) (fd : fD h T F) (hw : uz_wf F) (tr : τ r = 1) (tq : τ q = 88) (qr : q ≠ r) (uq : tx h q u) (up : ptl u) (fr : 0 ≤ fm ∧ fm ≤ 3) (a : tx h r l) (k1 : ∀ m, uz_FL F (decide (fm = 1 ∨ fm = 3)) u m → l.length + m.length ≤ 2000 → ∀ g, ez_B τ g → ez_fr (tx_P r) h g → tx g r (l ++ m) → Q (.inl (some (ez_v (.inl 1))), g)) (k0 : ∀ m, uz_FL F (decide (fm = 1 ∨ fm = 3)) u m → 2000 < l.length + m.length → ∀ g, ez_B τ g → ez_fr (tx_P r) h g → Q (.inl (some (ez_v (.inl 0))), g)) : ez_W (d + 3) cm_139 0 [(0, .inr (.inr (some (729)))), (1, .inr (.inr (some (q)))), (2, .inr (.inr (some (r)))), (3, .inl (fm))] [] h Q := by
  have t729 : τ 729 = 61 := hC.2.1 729 (by decide)
  have t723 : τ 723 = 55 := hC.2.1 723 (by decide)
  have t724 : τ 724 = 56 := hC.2.1 724 (by decide)
  refine ez_go (n := 2) (pc' := 2) (L' := [(0, .inr (.inr (some (729)))), (1, .inr (.inr (some (q)))), (2, .inr (.inr (some (r)))), (3, .inl (fm))]) (st' := [.inl (1), .inl (fm)]) rfl ?_
  refine ez_icmp rfl rfl ⟨by first | omega | exact (sz_i32 _).1, by first | omega | exact (sz_i32 _).2⟩ ⟨by first | omega | exact (sz_i32 _).1, by first | omega | exact (sz_i32 _).2⟩ (fun (c1 : (fm) = (1)) => ?_) (fun (c1 : ¬((fm) = (1))) => ?_)
  · skip
    refine ez_go (n := 5) (pc' := 20) (L' := [(5, .inl (0)), (4, .inl (1)), (0, .inr (.inr (some (729)))), (1, .inr (.inr (some (q)))), (2, .inr (.inr (some (r)))), (3, .inl (fm))]) (st' := []) rfl ?_
    refine ez_less [(5, .inl (0)), (4, .inl (1)), (0, .inr (.inr (some (729)))), (1, .inr (.inr (some (q)))), (2, .inr (.inr (some (r)))), (3, .inl (fm))] rfl ⟨rfl, rfl, rfl, rfl, rfl, rfl, trivial⟩ ?_
    have ec : decide (fm = 1 ∨ fm = 3) = true := decide_eq_true (by omega)
    rw [ec] at k1 k0
    exact rd_expand_ls1 (h := h) hC fd hw tr tq qr uq up k1 k0 _ 0 h [] rfl (by omega) (by omega) hC.1 (ez_fr.refl _ _) (by rw [show (0 : Int).toNat = 0 from rfl, List.take_zero]; exact uz_nil _ _) (by rw [List.append_nil]; exact a)
  · skip
    refine ez_go (n := 2) (pc' := 7) (L' := [(0, .inr (.inr (some (729)))), (1, .inr (.inr (some (q)))), (2, .inr (.inr (some (r)))), (3, .inl (fm))]) (st' := [.inl (3), .inl (fm)]) rfl ?_
    refine ez_icmp rfl rfl ⟨by first | omega | exact (sz_i32 _).1, by first | omega | exact (sz_i32 _).2⟩ ⟨by first | omega | exact (sz_i32 _).1, by first | omega | exact (sz_i32 _).2⟩ (fun (c2 : (fm) ≠ (3)) => ?_) (fun (c2 : ¬((fm) ≠ (3))) => ?_)
    · skip
      refine ez_go (n := 4) (pc' := 20) (L' := [(5, .inl (0)), (4, .inl (0)), (0, .inr (.inr (some (729)))), (1, .inr (.inr (some (q)))), (2, .inr (.inr (some (r)))), (3, .inl (fm))]) (st' := []) rfl ?_
      refine ez_less [(5, .inl (0)), (4, .inl (0)), (0, .inr (.inr (some (729)))), (1, .inr (.inr (some (q)))), (2, .inr (.inr (some (r)))), (3, .inl (fm))] rfl ⟨rfl, rfl, rfl, rfl, rfl, rfl, trivial⟩ ?_
      have ec : decide (fm = 1 ∨ fm = 3) = false := decide_eq_false (by omega)
      rw [ec] at k1 k0
      exact rd_expand_ls0 (h := h) hC fd hw tr tq qr uq up k1 k0 _ 0 h [] rfl (by omega) (by omega) hC.1 (ez_fr.refl _ _) (by rw [show (0 : Int).toNat = 0 from rfl, List.take_zero]; exact uz_nil _ _) (by rw [List.append_nil]; exact a)
    · skip
      refine ez_go (n := 5) (pc' := 20) (L' := [(5, .inl (0)), (4, .inl (1)), (0, .inr (.inr (some (729)))), (1, .inr (.inr (some (q)))), (2, .inr (.inr (some (r)))), (3, .inl (fm))]) (st' := []) rfl ?_
      refine ez_less [(5, .inl (0)), (4, .inl (1)), (0, .inr (.inr (some (729)))), (1, .inr (.inr (some (q)))), (2, .inr (.inr (some (r)))), (3, .inl (fm))] rfl ⟨rfl, rfl, rfl, rfl, rfl, rfl, trivial⟩ ?_
      have ec : decide (fm = 1 ∨ fm = 3) = true := decide_eq_true (by omega)
      rw [ec] at k1 k0
      exact rd_expand_ls1 (h := h) hC fd hw tr tq qr uq up k1 k0 _ 0 h [] rfl (by omega) (by omega) hC.1 (ez_fr.refl _ _) (by rw [show (0 : Int).toNat = 0 from rfl, List.take_zero]; exact uz_nil _ _) (by rw [List.append_nil]; exact a)

theorem rd_expand_lt1 {q : Nat} {u : List Int} {fm : Int} (hC : pz_C τ h T F E) (fd : fD h T F) (hw : uz_wf F) (tr : τ r = 1) (tq : τ q = 1) (qr : q ≠ r) (uq : tx h q u) (up : ptl u) (k1 : ∀ m, uz_FL F true u m → l.length + m.length ≤ 2000 → ∀ g, ez_B τ g → ez_fr (tx_P r) h g → tx g r (l ++ m) → Q (.inl (some (ez_v (.inl 1))), g)) (k0 : ∀ m, uz_FL F true u m → 2000 < l.length + m.length → ∀ g, ez_B τ g → ez_fr (tx_P r) h g → Q (.inl (some (ez_v (.inl 0))), g)) : ∀ (n : Nat) (i : Int) (g : cz_H) (m : List Int), n = ((u.length : Int) - i).toNat → 0 ≤ i → i ≤ (u.length : Int) → ez_B τ g → ez_fr (tx_P r) h g → uz_FL F true (u.take i.toNat) m → tx g r (l ++ m) → ez_W (d + 3) cm_139 20 [(5, .inl (i)), (4, .inl (1)), (0, .inr (.inr (some (729)))), (1, .inr (.inr (some (q)))), (2, .inr (.inr (some (r)))), (3, .inl (fm))] [] g Q := by
  have t729 : τ 729 = 61 := hC.2.1 729 (by decide)
  have t723 : τ 723 = 55 := hC.2.1 723 (by decide)
  have t724 : τ 724 = 56 := hC.2.1 724 (by decide)
  intro n
  induction n with
  | zero =>
    intro i g m hn i0 i1 hBg hf um am
    have tq1 := tx_p1 hBg tq
    have cq : g.2.2 q = h.2.2 q := hf.2.2 q (tx_Pn qr (fun e => by rw [e, tx_p1 hBg tr] at tq; cases tq))
    have cq1 : g.2.2 (q + 1) = h.2.2 (q + 1) := hf.2.2 (q + 1) (tx_Pn (fun e => by rw [e, tr] at tq1; cases tq1) (fun e => qr (by omega)))
    have uq := tx_c uq cq cq1
    have uql := uq.1
    have uqb := tx_l1 hBg tq
    have hCg : pz_C τ g T F E := hC.keep hBg (tx_kD hC.1 tr hf)
    have fdg : fD g T F := fd.keep hC (tx_kD hC.1 tr hf) (tx_keep hC.1 tr hf (by rw [t723]; decide) (by rw [t723]; decide)) (tx_keep hC.1 tr hf (by rw [t724]; decide) (by rw [t724]; decide))
    refine ez_go (n := 2) (pc' := 23) (L' := [(5, .inl (i)), (4, .inl (1)), (0, .inr (.inr (some (729)))), (1, .inr (.inr (some (q)))), (2, .inr (.inr (some (r)))), (3, .inl (fm))]) (st' := [.inr (.inr (some (q))), .inl (i)]) rfl ?_
    refine ez_gI hBg tq rfl rfl tq_1 rfl rfl (fun (b1 : 0 ≤ qz_I g q 1) (b1' : qz_I g q 1 ≤ 2000) => ?_)
    refine ez_icmp rfl rfl ⟨by first | omega | exact (sz_i32 _).1, by first | omega | exact (sz_i32 _).2⟩ ⟨by first | omega | exact (sz_i32 _).1, by first | omega | exact (sz_i32 _).2⟩ (fun (c2 : (qz_I g q 1) ≤ (i)) => ?_) (fun (c2 : ¬((qz_I g q 1) ≤ (i))) => ?_)
    · skip
      refine ez_go (n := 1) (pc' := 58) (L' := [(5, .inl (i)), (4, .inl (1)), (0, .inr (.inr (some (729)))), (1, .inr (.inr (some (q)))), (2, .inr (.inr (some (r)))), (3, .inl (fm))]) (st' := [.inl (1)]) rfl ?_
      exact ez_retZ rfl rfl (by decide) (k1 m (by rw [List.take_of_length_le (by omega)] at um; exact um) (by have := am.1; have := tx_l1 hBg tr; rw [List.length_append] at *; omega) g hBg hf am)
    · exfalso; omega
  | succ n ih =>
    intro i g m hn i0 i1 hBg hf um am
    have tq1 := tx_p1 hBg tq
    have cq : g.2.2 q = h.2.2 q := hf.2.2 q (tx_Pn qr (fun e => by rw [e, tx_p1 hBg tr] at tq; cases tq))
    have cq1 : g.2.2 (q + 1) = h.2.2 (q + 1) := hf.2.2 (q + 1) (tx_Pn (fun e => by rw [e, tr] at tq1; cases tq1) (fun e => qr (by omega)))
    have uq := tx_c uq cq cq1
    have uql := uq.1
    have uqb := tx_l1 hBg tq
    have hCg : pz_C τ g T F E := hC.keep hBg (tx_kD hC.1 tr hf)
    have fdg : fD g T F := fd.keep hC (tx_kD hC.1 tr hf) (tx_keep hC.1 tr hf (by rw [t723]; decide) (by rw [t723]; decide)) (tx_keep hC.1 tr hf (by rw [t724]; decide) (by rw [t724]; decide))
    refine ez_go (n := 2) (pc' := 23) (L' := [(5, .inl (i)), (4, .inl (1)), (0, .inr (.inr (some (729)))), (1, .inr (.inr (some (q)))), (2, .inr (.inr (some (r)))), (3, .inl (fm))]) (st' := [.inr (.inr (some (q))), .inl (i)]) rfl ?_
    refine ez_gI hBg tq rfl rfl tq_1 rfl rfl (fun (b1 : 0 ≤ qz_I g q 1) (b1' : qz_I g q 1 ≤ 2000) => ?_)
    refine ez_icmp rfl rfl ⟨by first | omega | exact (sz_i32 _).1, by first | omega | exact (sz_i32 _).2⟩ ⟨by first | omega | exact (sz_i32 _).1, by first | omega | exact (sz_i32 _).2⟩ (fun (c2 : (qz_I g q 1) ≤ (i)) => ?_) (fun (c2 : ¬((qz_I g q 1) ≤ (i))) => ?_)
    · exfalso; omega
    · skip
      refine ez_go (n := 1) (pc' := 30) (L' := [(5, .inl (i)), (4, .inl (1)), (0, .inr (.inr (some (729)))), (1, .inr (.inr (some (q)))), (2, .inr (.inr (some (r)))), (3, .inl (fm))]) (st' := [.inr (.inr (some (729)))]) rfl ?_
      refine ez_gC (p := 723) (tg := 55) hBg t729 rfl rfl tq_61 rfl rfl (fun (t723 : _ = 55) => ?_)
      refine ez_go (n := 1) (pc' := 34) (L' := [(5, .inl (i)), (4, .inl (1)), (0, .inr (.inr (some (729)))), (1, .inr (.inr (some (q)))), (2, .inr (.inr (some (r)))), (3, .inl (fm))]) (st' := [.inr (.inr (some (q))), .inr (.inr (some (723)))]) rfl ?_
      refine ez_g3 hBg tq rfl rfl tq_1 rfl rfl (fun (t3 : _ = 2) => ?_)
      refine ez_go (n := 1) (pc' := 39) (L' := [(5, .inl (i)), (4, .inl (1)), (0, .inr (.inr (some (729)))), (1, .inr (.inr (some (q)))), (2, .inr (.inr (some (r)))), (3, .inl (fm))]) (st' := [.inl (i), .inr (.inr (some (q + 1))), .inr (.inr (some (723)))]) rfl ?_
      have n5 : 2000 ≤ qz_N g (q + 1) ∧ qz_N g (q + 1) ≤ 2000 := ez_len hBg t3 tq_2 rfl
      refine ez_aI hBg t3 rfl tq_2 rfl rfl (by omega) (by omega) (fun (b4 : -2147483648 ≤ qz_I g (q + 1) (i).toNat) (b4' : qz_I g (q + 1) (i).toNat ≤ 2147483647) => ?_)
      refine ez_go (n := 2) (pc' := 43) (L' := [(5, .inl (i)), (4, .inl (1)), (0, .inr (.inr (some (729)))), (1, .inr (.inr (some (q)))), (2, .inr (.inr (some (r)))), (3, .inl (fm))]) (st' := [.inl (1), .inr (.inr (some (r))), .inl (qz_I g (q + 1) (i).toNat), .inr (.inr (some (723)))]) rfl ?_
      have hi9 : i.toNat < u.length := by omega
      have ev := uq.2 _ _ (List.getElem?_eq_getElem hi9)
      have vb := ptl_at up (List.getElem?_eq_getElem hi9)
      rw [← ev] at vb
      have hv : u[i.toNat]? = some (qz_I g (q + 1) (i).toNat) := by rw [ev]; exact List.getElem?_eq_getElem hi9
      refine ez_cv hBg t723 rfl rfl rfl tq_55 rfl rfl rfl (rd_fFull1 hCg fdg hw tr vb.1 vb.2 am (fun m2 u2 lt g2 hB2 f2 a2 => ez_K1 ?_) (fun m2 u2 lt g2 hB2 f2 => ez_K1 ?_))
      · skip
        refine ez_if rfl rfl ⟨by decide, by decide⟩ (fun _ => ?_) (fun (c6 : ¬((1 : Int) ≠ (0))) => absurd c6 (by decide))
        refine ez_go (n := 2) (pc' := 20) (L' := [(5, .inl (i + 1)), (4, .inl (1)), (0, .inr (.inr (some (729)))), (1, .inr (.inr (some (q)))), (2, .inr (.inr (some (r)))), (3, .inl (fm))]) (st' := []) rfl ?_
        refine ez_less [(5, .inl (i + 1)), (4, .inl (1)), (0, .inr (.inr (some (729)))), (1, .inr (.inr (some (q)))), (2, .inr (.inr (some (r)))), (3, .inl (fm))] rfl ⟨rfl, rfl, rfl, rfl, rfl, rfl, trivial⟩ ?_
        refine ih (i + 1) g2 (m ++ m2) (by omega) (by omega) (by omega) hB2 (hf.trans f2) ?_ (by rw [← List.append_assoc]; exact a2)
        rw [show (i + 1).toNat = i.toNat + 1 by omega]; exact uz_FL_take (l := l) hv um u2
      · skip
        refine ez_if rfl rfl ⟨by decide, by decide⟩ (fun (c7 : (0 : Int) ≠ (0)) => absurd c7 (by decide)) (fun _ => ?_)
        refine ez_go (n := 1) (pc' := 50) (L' := [(5, .inl (i)), (4, .inl (1)), (0, .inr (.inr (some (729)))), (1, .inr (.inr (some (q)))), (2, .inr (.inr (some (r)))), (3, .inl (fm))]) (st' := [.inl (0)]) rfl ?_
        obtain ⟨m3, u3⟩ := fd.allL true up
        have le := uz_FL_le (i := i.toNat + 1) (uz_FL_take (l := l) hv um u2) u3
        exact ez_retZ rfl rfl (by decide) (k0 m3 u3 (by rw [List.length_append] at lt le; omega) g2 hB2 (hf.trans f2))
theorem rd_expand_lt0 {q : Nat} {u : List Int} {fm : Int} (hC : pz_C τ h T F E) (fd : fD h T F) (hw : uz_wf F) (tr : τ r = 1) (tq : τ q = 1) (qr : q ≠ r) (uq : tx h q u) (up : ptl u) (k1 : ∀ m, uz_FL F false u m → l.length + m.length ≤ 2000 → ∀ g, ez_B τ g → ez_fr (tx_P r) h g → tx g r (l ++ m) → Q (.inl (some (ez_v (.inl 1))), g)) (k0 : ∀ m, uz_FL F false u m → 2000 < l.length + m.length → ∀ g, ez_B τ g → ez_fr (tx_P r) h g → Q (.inl (some (ez_v (.inl 0))), g)) : ∀ (n : Nat) (i : Int) (g : cz_H) (m : List Int), n = ((u.length : Int) - i).toNat → 0 ≤ i → i ≤ (u.length : Int) → ez_B τ g → ez_fr (tx_P r) h g → uz_FL F false (u.take i.toNat) m → tx g r (l ++ m) → ez_W (d + 3) cm_139 20 [(5, .inl (i)), (4, .inl (0)), (0, .inr (.inr (some (729)))), (1, .inr (.inr (some (q)))), (2, .inr (.inr (some (r)))), (3, .inl (fm))] [] g Q := by
  have t729 : τ 729 = 61 := hC.2.1 729 (by decide)
  have t723 : τ 723 = 55 := hC.2.1 723 (by decide)
  have t724 : τ 724 = 56 := hC.2.1 724 (by decide)
  intro n
  induction n with
  | zero =>
    intro i g m hn i0 i1 hBg hf um am
    have tq1 := tx_p1 hBg tq
    have cq : g.2.2 q = h.2.2 q := hf.2.2 q (tx_Pn qr (fun e => by rw [e, tx_p1 hBg tr] at tq; cases tq))
    have cq1 : g.2.2 (q + 1) = h.2.2 (q + 1) := hf.2.2 (q + 1) (tx_Pn (fun e => by rw [e, tr] at tq1; cases tq1) (fun e => qr (by omega)))
    have uq := tx_c uq cq cq1
    have uql := uq.1
    have uqb := tx_l1 hBg tq
    have hCg : pz_C τ g T F E := hC.keep hBg (tx_kD hC.1 tr hf)
    have fdg : fD g T F := fd.keep hC (tx_kD hC.1 tr hf) (tx_keep hC.1 tr hf (by rw [t723]; decide) (by rw [t723]; decide)) (tx_keep hC.1 tr hf (by rw [t724]; decide) (by rw [t724]; decide))
    refine ez_go (n := 2) (pc' := 23) (L' := [(5, .inl (i)), (4, .inl (0)), (0, .inr (.inr (some (729)))), (1, .inr (.inr (some (q)))), (2, .inr (.inr (some (r)))), (3, .inl (fm))]) (st' := [.inr (.inr (some (q))), .inl (i)]) rfl ?_
    refine ez_gI hBg tq rfl rfl tq_1 rfl rfl (fun (b1 : 0 ≤ qz_I g q 1) (b1' : qz_I g q 1 ≤ 2000) => ?_)
    refine ez_icmp rfl rfl ⟨by first | omega | exact (sz_i32 _).1, by first | omega | exact (sz_i32 _).2⟩ ⟨by first | omega | exact (sz_i32 _).1, by first | omega | exact (sz_i32 _).2⟩ (fun (c2 : (qz_I g q 1) ≤ (i)) => ?_) (fun (c2 : ¬((qz_I g q 1) ≤ (i))) => ?_)
    · skip
      refine ez_go (n := 1) (pc' := 58) (L' := [(5, .inl (i)), (4, .inl (0)), (0, .inr (.inr (some (729)))), (1, .inr (.inr (some (q)))), (2, .inr (.inr (some (r)))), (3, .inl (fm))]) (st' := [.inl (1)]) rfl ?_
      exact ez_retZ rfl rfl (by decide) (k1 m (by rw [List.take_of_length_le (by omega)] at um; exact um) (by have := am.1; have := tx_l1 hBg tr; rw [List.length_append] at *; omega) g hBg hf am)
    · exfalso; omega
  | succ n ih =>
    intro i g m hn i0 i1 hBg hf um am
    have tq1 := tx_p1 hBg tq
    have cq : g.2.2 q = h.2.2 q := hf.2.2 q (tx_Pn qr (fun e => by rw [e, tx_p1 hBg tr] at tq; cases tq))
    have cq1 : g.2.2 (q + 1) = h.2.2 (q + 1) := hf.2.2 (q + 1) (tx_Pn (fun e => by rw [e, tr] at tq1; cases tq1) (fun e => qr (by omega)))
    have uq := tx_c uq cq cq1
    have uql := uq.1
    have uqb := tx_l1 hBg tq
    have hCg : pz_C τ g T F E := hC.keep hBg (tx_kD hC.1 tr hf)
    have fdg : fD g T F := fd.keep hC (tx_kD hC.1 tr hf) (tx_keep hC.1 tr hf (by rw [t723]; decide) (by rw [t723]; decide)) (tx_keep hC.1 tr hf (by rw [t724]; decide) (by rw [t724]; decide))
    refine ez_go (n := 2) (pc' := 23) (L' := [(5, .inl (i)), (4, .inl (0)), (0, .inr (.inr (some (729)))), (1, .inr (.inr (some (q)))), (2, .inr (.inr (some (r)))), (3, .inl (fm))]) (st' := [.inr (.inr (some (q))), .inl (i)]) rfl ?_
    refine ez_gI hBg tq rfl rfl tq_1 rfl rfl (fun (b1 : 0 ≤ qz_I g q 1) (b1' : qz_I g q 1 ≤ 2000) => ?_)
    refine ez_icmp rfl rfl ⟨by first | omega | exact (sz_i32 _).1, by first | omega | exact (sz_i32 _).2⟩ ⟨by first | omega | exact (sz_i32 _).1, by first | omega | exact (sz_i32 _).2⟩ (fun (c2 : (qz_I g q 1) ≤ (i)) => ?_) (fun (c2 : ¬((qz_I g q 1) ≤ (i))) => ?_)
    · exfalso; omega
    · skip
      refine ez_go (n := 1) (pc' := 30) (L' := [(5, .inl (i)), (4, .inl (0)), (0, .inr (.inr (some (729)))), (1, .inr (.inr (some (q)))), (2, .inr (.inr (some (r)))), (3, .inl (fm))]) (st' := [.inr (.inr (some (729)))]) rfl ?_
      refine ez_gC (p := 723) (tg := 55) hBg t729 rfl rfl tq_61 rfl rfl (fun (t723 : _ = 55) => ?_)
      refine ez_go (n := 1) (pc' := 34) (L' := [(5, .inl (i)), (4, .inl (0)), (0, .inr (.inr (some (729)))), (1, .inr (.inr (some (q)))), (2, .inr (.inr (some (r)))), (3, .inl (fm))]) (st' := [.inr (.inr (some (q))), .inr (.inr (some (723)))]) rfl ?_
      refine ez_g3 hBg tq rfl rfl tq_1 rfl rfl (fun (t3 : _ = 2) => ?_)
      refine ez_go (n := 1) (pc' := 39) (L' := [(5, .inl (i)), (4, .inl (0)), (0, .inr (.inr (some (729)))), (1, .inr (.inr (some (q)))), (2, .inr (.inr (some (r)))), (3, .inl (fm))]) (st' := [.inl (i), .inr (.inr (some (q + 1))), .inr (.inr (some (723)))]) rfl ?_
      have n5 : 2000 ≤ qz_N g (q + 1) ∧ qz_N g (q + 1) ≤ 2000 := ez_len hBg t3 tq_2 rfl
      refine ez_aI hBg t3 rfl tq_2 rfl rfl (by omega) (by omega) (fun (b4 : -2147483648 ≤ qz_I g (q + 1) (i).toNat) (b4' : qz_I g (q + 1) (i).toNat ≤ 2147483647) => ?_)
      refine ez_go (n := 2) (pc' := 43) (L' := [(5, .inl (i)), (4, .inl (0)), (0, .inr (.inr (some (729)))), (1, .inr (.inr (some (q)))), (2, .inr (.inr (some (r)))), (3, .inl (fm))]) (st' := [.inl (0), .inr (.inr (some (r))), .inl (qz_I g (q + 1) (i).toNat), .inr (.inr (some (723)))]) rfl ?_
      have hi9 : i.toNat < u.length := by omega
      have ev := uq.2 _ _ (List.getElem?_eq_getElem hi9)
      have vb := ptl_at up (List.getElem?_eq_getElem hi9)
      rw [← ev] at vb
      have hv : u[i.toNat]? = some (qz_I g (q + 1) (i).toNat) := by rw [ev]; exact List.getElem?_eq_getElem hi9
      refine ez_cv hBg t723 rfl rfl rfl tq_55 rfl rfl rfl (rd_fFull0 hCg fdg hw tr vb.1 vb.2 am (fun m2 u2 lt g2 hB2 f2 a2 => ez_K1 ?_) (fun m2 u2 lt g2 hB2 f2 => ez_K1 ?_))
      · skip
        refine ez_if rfl rfl ⟨by decide, by decide⟩ (fun _ => ?_) (fun (c6 : ¬((1 : Int) ≠ (0))) => absurd c6 (by decide))
        refine ez_go (n := 2) (pc' := 20) (L' := [(5, .inl (i + 1)), (4, .inl (0)), (0, .inr (.inr (some (729)))), (1, .inr (.inr (some (q)))), (2, .inr (.inr (some (r)))), (3, .inl (fm))]) (st' := []) rfl ?_
        refine ez_less [(5, .inl (i + 1)), (4, .inl (0)), (0, .inr (.inr (some (729)))), (1, .inr (.inr (some (q)))), (2, .inr (.inr (some (r)))), (3, .inl (fm))] rfl ⟨rfl, rfl, rfl, rfl, rfl, rfl, trivial⟩ ?_
        refine ih (i + 1) g2 (m ++ m2) (by omega) (by omega) (by omega) hB2 (hf.trans f2) ?_ (by rw [← List.append_assoc]; exact a2)
        rw [show (i + 1).toNat = i.toNat + 1 by omega]; exact uz_FL_take (l := l) hv um u2
      · skip
        refine ez_if rfl rfl ⟨by decide, by decide⟩ (fun (c7 : (0 : Int) ≠ (0)) => absurd c7 (by decide)) (fun _ => ?_)
        refine ez_go (n := 1) (pc' := 50) (L' := [(5, .inl (i)), (4, .inl (0)), (0, .inr (.inr (some (729)))), (1, .inr (.inr (some (q)))), (2, .inr (.inr (some (r)))), (3, .inl (fm))]) (st' := [.inl (0)]) rfl ?_
        obtain ⟨m3, u3⟩ := fd.allL false up
        have le := uz_FL_le (i := i.toNat + 1) (uz_FL_take (l := l) hv um u2) u3
        exact ez_retZ rfl rfl (by decide) (k0 m3 u3 (by rw [List.length_append] at lt le; omega) g2 hB2 (hf.trans f2))
theorem rd_expand_t {q : Nat} {u : List Int} {fm : Int} (hC : pz_C τ h T F E) (fd : fD h T F) (hw : uz_wf F) (tr : τ r = 1) (tq : τ q = 1) (qr : q ≠ r) (uq : tx h q u) (up : ptl u) (fr : 0 ≤ fm ∧ fm ≤ 3) (a : tx h r l) (k1 : ∀ m, uz_FL F (decide (fm = 1 ∨ fm = 3)) u m → l.length + m.length ≤ 2000 → ∀ g, ez_B τ g → ez_fr (tx_P r) h g → tx g r (l ++ m) → Q (.inl (some (ez_v (.inl 1))), g)) (k0 : ∀ m, uz_FL F (decide (fm = 1 ∨ fm = 3)) u m → 2000 < l.length + m.length → ∀ g, ez_B τ g → ez_fr (tx_P r) h g → Q (.inl (some (ez_v (.inl 0))), g)) : ez_W (d + 3) cm_139 0 [(0, .inr (.inr (some (729)))), (1, .inr (.inr (some (q)))), (2, .inr (.inr (some (r)))), (3, .inl (fm))] [] h Q := by
  have t729 : τ 729 = 61 := hC.2.1 729 (by decide)
  have t723 : τ 723 = 55 := hC.2.1 723 (by decide)
  have t724 : τ 724 = 56 := hC.2.1 724 (by decide)
  refine ez_go (n := 2) (pc' := 2) (L' := [(0, .inr (.inr (some (729)))), (1, .inr (.inr (some (q)))), (2, .inr (.inr (some (r)))), (3, .inl (fm))]) (st' := [.inl (1), .inl (fm)]) rfl ?_
  refine ez_icmp rfl rfl ⟨by first | omega | exact (sz_i32 _).1, by first | omega | exact (sz_i32 _).2⟩ ⟨by first | omega | exact (sz_i32 _).1, by first | omega | exact (sz_i32 _).2⟩ (fun (c1 : (fm) = (1)) => ?_) (fun (c1 : ¬((fm) = (1))) => ?_)
  · skip
    refine ez_go (n := 5) (pc' := 20) (L' := [(5, .inl (0)), (4, .inl (1)), (0, .inr (.inr (some (729)))), (1, .inr (.inr (some (q)))), (2, .inr (.inr (some (r)))), (3, .inl (fm))]) (st' := []) rfl ?_
    refine ez_less [(5, .inl (0)), (4, .inl (1)), (0, .inr (.inr (some (729)))), (1, .inr (.inr (some (q)))), (2, .inr (.inr (some (r)))), (3, .inl (fm))] rfl ⟨rfl, rfl, rfl, rfl, rfl, rfl, trivial⟩ ?_
    have ec : decide (fm = 1 ∨ fm = 3) = true := decide_eq_true (by omega)
    rw [ec] at k1 k0
    exact rd_expand_lt1 (h := h) hC fd hw tr tq qr uq up k1 k0 _ 0 h [] rfl (by omega) (by omega) hC.1 (ez_fr.refl _ _) (by rw [show (0 : Int).toNat = 0 from rfl, List.take_zero]; exact uz_nil _ _) (by rw [List.append_nil]; exact a)
  · skip
    refine ez_go (n := 2) (pc' := 7) (L' := [(0, .inr (.inr (some (729)))), (1, .inr (.inr (some (q)))), (2, .inr (.inr (some (r)))), (3, .inl (fm))]) (st' := [.inl (3), .inl (fm)]) rfl ?_
    refine ez_icmp rfl rfl ⟨by first | omega | exact (sz_i32 _).1, by first | omega | exact (sz_i32 _).2⟩ ⟨by first | omega | exact (sz_i32 _).1, by first | omega | exact (sz_i32 _).2⟩ (fun (c2 : (fm) ≠ (3)) => ?_) (fun (c2 : ¬((fm) ≠ (3))) => ?_)
    · skip
      refine ez_go (n := 4) (pc' := 20) (L' := [(5, .inl (0)), (4, .inl (0)), (0, .inr (.inr (some (729)))), (1, .inr (.inr (some (q)))), (2, .inr (.inr (some (r)))), (3, .inl (fm))]) (st' := []) rfl ?_
      refine ez_less [(5, .inl (0)), (4, .inl (0)), (0, .inr (.inr (some (729)))), (1, .inr (.inr (some (q)))), (2, .inr (.inr (some (r)))), (3, .inl (fm))] rfl ⟨rfl, rfl, rfl, rfl, rfl, rfl, trivial⟩ ?_
      have ec : decide (fm = 1 ∨ fm = 3) = false := decide_eq_false (by omega)
      rw [ec] at k1 k0
      exact rd_expand_lt0 (h := h) hC fd hw tr tq qr uq up k1 k0 _ 0 h [] rfl (by omega) (by omega) hC.1 (ez_fr.refl _ _) (by rw [show (0 : Int).toNat = 0 from rfl, List.take_zero]; exact uz_nil _ _) (by rw [List.append_nil]; exact a)
    · skip
      refine ez_go (n := 5) (pc' := 20) (L' := [(5, .inl (0)), (4, .inl (1)), (0, .inr (.inr (some (729)))), (1, .inr (.inr (some (q)))), (2, .inr (.inr (some (r)))), (3, .inl (fm))]) (st' := []) rfl ?_
      refine ez_less [(5, .inl (0)), (4, .inl (1)), (0, .inr (.inr (some (729)))), (1, .inr (.inr (some (q)))), (2, .inr (.inr (some (r)))), (3, .inl (fm))] rfl ⟨rfl, rfl, rfl, rfl, rfl, rfl, trivial⟩ ?_
      have ec : decide (fm = 1 ∨ fm = 3) = true := decide_eq_true (by omega)
      rw [ec] at k1 k0
      exact rd_expand_lt1 (h := h) hC fd hw tr tq qr uq up k1 k0 _ 0 h [] rfl (by omega) (by omega) hC.1 (ez_fr.refl _ _) (by rw [show (0 : Int).toNat = 0 from rfl, List.take_zero]; exact uz_nil _ _) (by rw [List.append_nil]; exact a)

end EzFu
/-! Merging: rows of pairs, in lists and in arrays. -/
def om (A B : List (Int × Int)) : List (Int × Int) := os_mrg (A.length + B.length) A B
theorem om_nil (A : List (Int × Int)) : om A [] = A := by
  unfold om
  cases A with
  | nil => rfl
  | cons x A => unfold os_mrg; rfl
theorem om_a {x : Int × Int} {A B : List (Int × Int)} (h : ∀ y, B.head? = some y → x.2 ≤ y.2) : om (x :: A) B = x :: om A B := by
  cases B with
  | nil => rw [om_nil, om_nil]
  | cons y B =>
    have e : (x :: A).length + (y :: B).length = (A.length + (y :: B).length) + 1 := by simp only [List.length_cons]; omega
    unfold om
    rw [e]
    exact if_pos (h y rfl)
theorem om_b {y : Int × Int} {A B : List (Int × Int)} (h : ∀ x, A.head? = some x → ¬ x.2 ≤ y.2) : om A (y :: B) = y :: om A B := by
  cases A with
  | nil =>
    have e0 : ∀ C, om [] C = C := fun C => by
      unfold om
      cases C with
      | nil => rfl
      | cons z C => show os_mrg (0 + (C.length + 1)) [] (z :: C) = z :: C; rw [Nat.zero_add]; rfl
    rw [e0, e0]
  | cons x A => exact if_neg (h x rfl)
theorem om_len (A B : List (Int × Int)) : (om A B).length = A.length + B.length := os_mrg_len _ _ _
def upw (L : List (Int × Int)) (a b : Int) : Prop := ∀ (i j : Nat) x y, a ≤ (i : Int) → i < j → (j : Int) < b → L[i]? = some x → L[j]? = some y → x.2 ≤ y.2
def ps0 (L : List (Int × Int)) (a b : Int) : Prop := ∀ (i : Nat) x, a ≤ (i : Int) → (i : Int) < b → L[i]? = some x → 0 < x.2
theorem os_up_at : ∀ {L : List (Int × Int)}, os_up L → ∀ (i j : Nat) x y, i < j → L[i]? = some x → L[j]? = some y → x.2 ≤ y.2
  | [], _, i, j, x, y, _, h, _ => by cases h
  | z :: L, hu, 0, 0, x, y, hij, _, _ => absurd hij (Nat.lt_irrefl _)
  | z :: L, hu, 0, j + 1, x, y, _, h1, h2 => by
    cases h1
    exact hu.1 y (List.mem_of_getElem? h2)
  | z :: L, hu, i + 1, 0, x, y, hij, _, _ => absurd hij (by omega)
  | z :: L, hu, i + 1, j + 1, x, y, hij, h1, h2 => os_up_at hu.2 i j x y (by omega) h1 h2
theorem os_up_of : ∀ {L : List (Int × Int)}, (∀ (i j : Nat) x y, i < j → L[i]? = some x → L[j]? = some y → x.2 ≤ y.2) → os_up L
  | [], _ => trivial
  | z :: L, h => ⟨fun y hy => by
      obtain ⟨j, hj⟩ := List.mem_iff_getElem?.mp hy
      exact h 0 (j + 1) z y (by omega) rfl hj, os_up_of (fun i j x y hij h1 h2 => h (i + 1) (j + 1) x y (by omega) h1 h2)⟩
/-- the piece from a to b -/
def pcs (L : List (Int × Int)) (a b : Int) : List (Int × Int) := (L.drop a.toNat).take (b - a).toNat
theorem pcs_at {L : List (Int × Int)} {a b : Int} {k : Nat} : (pcs L a b)[k]? = if (k : Int) < b - a then L[a.toNat + k]? else none := by
  unfold pcs
  rw [List.getElem?_take, List.getElem?_drop]
  by_cases e : (k : Int) < b - a
  · rw [if_pos e, if_pos (by omega)]
  · rw [if_neg e, if_neg (by omega)]
theorem pcs_len {L : List (Int × Int)} {a b : Int} (a0 : 0 ≤ a) (ab : a ≤ b) (bl : b ≤ (L.length : Int)) : (pcs L a b).length = (b - a).toNat := by
  unfold pcs
  rw [List.length_take, List.length_drop]; omega
theorem pcs_up {L : List (Int × Int)} {a b : Int} (a0 : 0 ≤ a) (h : upw L a b) : os_up (pcs L a b) := os_up_of (fun i j x y hij h1 h2 => by
  rw [pcs_at] at h1 h2
  split at h1
  · split at h2
    · exact h _ _ x y (by omega) (by omega) (by omega) h1 h2
    · cases h2
  · cases h1)
theorem pcs_pos {L : List (Int × Int)} {a b : Int} (a0 : 0 ≤ a) (h : ps0 L a b) : ∀ x ∈ pcs L a b, 0 < x.2 := fun x hx => by
  obtain ⟨k, hk⟩ := List.mem_iff_getElem?.mp hx
  rw [pcs_at] at hk
  split at hk
  · exact h _ x (by omega) (by omega) hk
  · cases hk
theorem pcs_mem {L : List (Int × Int)} {a b : Int} {x : Int × Int} (hx : x ∈ pcs L a b) : x ∈ L := List.mem_of_mem_drop (List.mem_of_mem_take hx)
theorem pcs_split {L : List (Int × Int)} {a m b : Int} (a0 : 0 ≤ a) (am : a ≤ m) (mb : m ≤ b) : L = L.take a.toNat ++ (pcs L a m ++ (pcs L m b ++ L.drop b.toNat)) := by
  have e1 : L.drop m.toNat = pcs L m b ++ L.drop b.toNat := by
    unfold pcs
    have := (List.take_append_drop (b - m).toNat (L.drop m.toNat)).symm
    rw [List.drop_drop, show m.toNat + (b - m).toNat = b.toNat by omega] at this
    exact this
  have e2 : L.drop a.toNat = pcs L a m ++ L.drop m.toNat := by
    unfold pcs
    have := (List.take_append_drop (m - a).toNat (L.drop a.toNat)).symm
    rw [List.drop_drop, show a.toNat + (m - a).toNat = m.toNat by omega] at this
    exact this
  rw [← e1, ← e2]
  exact (List.take_append_drop _ _).symm
/-- what has become of a row by putting a piece in order -/
def mgd (L L' : List (Int × Int)) (a b : Int) : Prop := L'.length = L.length ∧ os_srt L' = os_srt L ∧ upw L' a b ∧ (∀ i : Nat, ((i : Int) < a ∨ b ≤ (i : Int)) → L'[i]? = L[i]?) ∧ ps0 L' a b ∧ ∀ x ∈ L', x ∈ L
def mgw (L : List (Int × Int)) (a m b : Int) : List (Int × Int) := L.take a.toNat ++ (om (pcs L a m) (pcs L m b) ++ L.drop b.toNat)
theorem mgw_at {L : List (Int × Int)} {a m b : Int} (a0 : 0 ≤ a) (am : a ≤ m) (mb : m ≤ b) (bl : b ≤ (L.length : Int)) (i : Nat) : (mgw L a m b)[i]? = if a ≤ (i : Int) ∧ (i : Int) < b then (om (pcs L a m) (pcs L m b))[i - a.toNat]? else L[i]? := by
  have l1 := pcs_len a0 am (show m ≤ (L.length : Int) by omega)
  have l2 := pcs_len (show 0 ≤ m by omega) mb bl
  have lw := om_len (pcs L a m) (pcs L m b)
  have lt : (L.take a.toNat).length = a.toNat := by rw [List.length_take]; omega
  unfold mgw
  by_cases e1 : (i : Int) < a
  · rw [if_neg (by omega), List.getElem?_append_left (by omega), List.getElem?_take, if_pos (by omega)]
  · rw [List.getElem?_append_right (by omega), lt]
    by_cases e2 : (i : Int) < b
    · rw [if_pos (by omega), List.getElem?_append_left (by omega)]
    · rw [if_neg (by omega), List.getElem?_append_right (by omega), List.getElem?_drop]
      congr 1; omega
theorem mgw_mg {L : List (Int × Int)} {a m b : Int} (a0 : 0 ≤ a) (am : a ≤ m) (mb : m ≤ b) (bl : b ≤ (L.length : Int)) (u1 : upw L a m) (u2 : upw L m b) (ps : ps0 L a b) : mgd L (mgw L a m b) a b := by
  have p1 : ps0 L a m := fun i x h1 h2 => ps i x h1 (by omega)
  have p2 : ps0 L m b := fun i x h1 h2 => ps i x (by omega) h2
  have hA := pcs_up a0 u1
  have hB := pcs_up (show 0 ≤ m by omega) u2
  have hm : ∀ x ∈ om (pcs L a m) (pcs L m b), 0 < x.2 ∧ x ∈ L := fun x hx => by
    rcases os_mrg_mem _ _ _ x hx with w | w
    · exact ⟨pcs_pos a0 p1 x w, pcs_mem w⟩
    · exact ⟨pcs_pos (by omega) p2 x w, pcs_mem w⟩
  have at' := mgw_at (L := L) a0 am mb bl
  refine ⟨?_, ?_, fun i j x y h1 h2 h3 h4 h5 => ?_, fun i hi => ?_, fun i x h1 h2 h3 => ?_, fun x hx => ?_⟩
  · have l1 := pcs_len a0 am (show m ≤ (L.length : Int) by omega)
    have l2 := pcs_len (show 0 ≤ m by omega) mb bl
    unfold mgw
    rw [List.length_append, List.length_append, om_len, l1, l2, List.length_take, List.length_drop]; omega
  · have e := os_mrg_srt _ (L.take a.toNat) (pcs L a m) (pcs L m b) (L.drop b.toNat) (Nat.le_refl _) hA (pcs_pos (by omega) p2)
    rw [← pcs_split a0 am mb] at e
    exact e
  · rw [at', if_pos (by omega)] at h4 h5
    exact os_up_at (os_mrg_up _ _ _ (Nat.le_refl _) hA hB) _ _ x y (by omega) h4 h5
  · rw [at', if_neg (by omega)]
  · rw [at', if_pos (by omega)] at h3
    exact (hm x (List.mem_of_getElem? h3)).1
  · unfold mgw at hx
    rcases List.mem_append.mp hx with w | w
    · exact List.mem_of_mem_take w
    · rcases List.mem_append.mp w with w | w
      · exact (hm x w).2
      · exact List.mem_of_mem_drop w
theorem mgd_refl {L : List (Int × Int)} {a m b : Int} (u1 : upw L a m) (u2 : upw L m b) (ps : ps0 L a b) (am : a < m) (mb : m < b) {x y : Int × Int} (hx : L[(m - 1).toNat]? = some x) (hy : L[m.toNat]? = some y) (hxy : x.2 ≤ y.2) (a0 : 0 ≤ a) : mgd L L a b := by
  refine ⟨rfl, rfl, fun i j z w h1 h2 h3 h4 h5 => ?_, fun _ _ => rfl, ps, fun _ h => h⟩
  by_cases e1 : (j : Int) < m
  · exact u1 i j z w h1 h2 e1 h4 h5
  · by_cases e2 : m ≤ (i : Int)
    · exact u2 i j z w e2 h2 h3 h4 h5
    · have q1 : z.2 ≤ x.2 := by
        by_cases e3 : i = (m - 1).toNat
        · rw [e3, hx] at h4; cases h4; exact Int.le_refl _
        · exact u1 i _ z x h1 (by omega) (by omega) h4 hx
      have q2 : y.2 ≤ w.2 := by
        by_cases e3 : j = m.toNat
        · rw [e3, hy] at h5; cases h5; exact Int.le_refl _
        · exact u2 _ j y w (by omega) (by omega) h3 hy h5
      omega
/-- points and their ranks lie in two arrays -/
def prs (h : cz_H) (p : Nat) (L : List (Int × Int)) : Prop := ∀ (j : Nat) x, L[j]? = some x → qz_I h p j = x.1 ∧ qz_I h 730 j = x.2
def rgl (L : List (Int × Int)) : Prop := ∀ x ∈ L, ez_rg x.1 ∧ ez_rg x.2
/-- within the merging -/
def mgi (g : cz_H) (p : Nat) (L : List (Int × Int)) (a m b i x y : Int) : Prop :=
  ((a ≤ x ∧ x ≤ m) ∧ (m ≤ y ∧ y ≤ b) ∧ i - a = (x - a) + (y - m)) ∧ (om (pcs L a m) (pcs L m b)).drop (i - a).toNat = om (pcs L x m) (pcs L y b) ∧ (∀ (j : Nat) z, (om (pcs L a m) (pcs L m b))[j]? = some z → a + (j : Int) < i → qz_I g p (a.toNat + j) = z.1 ∧ qz_I g 730 (a.toNat + j) = z.2) ∧ (∀ (j : Nat) z, ((j : Int) < a ∨ b ≤ (j : Int)) → L[j]? = some z → qz_I g p j = z.1 ∧ qz_I g 730 j = z.2) ∧ ∀ (j : Nat) z, a ≤ (j : Int) → (j : Int) < b → L[j]? = some z → qz_I g 731 j = z.1 ∧ qz_I g 732 j = z.2
theorem pcs_cons {L : List (Int × Int)} {x m : Int} (x0 : 0 ≤ x) (xm : x < m) (ml : m ≤ (L.length : Int)) {z : Int × Int} (hz : L[x.toNat]? = some z) : pcs L x m = z :: pcs L (x + 1) m := by
  have hl : x.toNat < L.length := by omega
  unfold pcs
  rw [List.drop_eq_getElem_cons hl, show (m - x).toNat = (m - (x + 1)).toNat + 1 by omega, List.take_succ_cons, show (x + 1).toNat = x.toNat + 1 by omega]
  rw [List.getElem?_eq_getElem hl] at hz
  cases hz
  rfl
theorem pcs_nil {L : List (Int × Int)} {x m : Int} (xm : m ≤ x) : pcs L x m = [] := by
  unfold pcs
  rw [show (m - x).toNat = 0 by omega, List.take_zero]
theorem mgi_step {g g2 : cz_H} {p : Nat} {L : List (Int × Int)} {a m b i x y t : Int} {z : Int × Int} (a0 : 0 ≤ a) (bl : b ≤ (L.length : Int)) (hi : mgi g p L a m b i x y) (ib : i < b) (hz : L[t.toNat]? = some z) (w1 : qz_I g2 p i.toNat = z.1) (w2 : qz_I g2 730 i.toNat = z.2) (f1 : ∀ j, j ≠ i.toNat → qz_I g2 p j = qz_I g p j) (f2 : ∀ j, j ≠ i.toNat → qz_I g2 730 j = qz_I g 730 j) (f3 : ∀ j, qz_I g2 731 j = qz_I g 731 j) (f4 : ∀ j, qz_I g2 732 j = qz_I g 732 j) : (t = x → x < m → (y = b ∨ ∀ w, L[y.toNat]? = some w → z.2 ≤ w.2) → mgi g2 p L a m b (i + 1) (x + 1) y) ∧ (t = y → y < b → (x = m ∨ ∀ w, L[x.toNat]? = some w → ¬ w.2 ≤ z.2) → mgi g2 p L a m b (i + 1) x (y + 1)) := by
  obtain ⟨⟨⟨c1, c2⟩, ⟨c3, c4⟩, c5⟩, c6, c7, c8, c9⟩ := hi
  have rest : ∀ (R : List (Int × Int)), (om (pcs L a m) (pcs L m b)).drop (i - a).toNat = z :: R → (om (pcs L a m) (pcs L m b)).drop (i + 1 - a).toNat = R ∧ (∀ (j : Nat) z, (om (pcs L a m) (pcs L m b))[j]? = some z → a + (j : Int) < i + 1 → qz_I g2 p (a.toNat + j) = z.1 ∧ qz_I g2 730 (a.toNat + j) = z.2) ∧ (∀ (j : Nat) z, ((j : Int) < a ∨ b ≤ (j : Int)) → L[j]? = some z → qz_I g2 p j = z.1 ∧ qz_I g2 730 j = z.2) ∧ ∀ (j : Nat) z, a ≤ (j : Int) → (j : Int) < b → L[j]? = some z → qz_I g2 731 j = z.1 ∧ qz_I g2 732 j = z.2 := fun R hR => by
    refine ⟨?_, fun j z' hj hj2 => ?_, fun j z' hj hz' => ?_, fun j z' h1 h2 h3 => by rw [f3, f4]; exact c9 j z' h1 h2 h3⟩
    · rw [show (i + 1 - a).toNat = (i - a).toNat + 1 by omega, ← List.drop_drop, hR]; rfl
    · by_cases e : a + (j : Int) = i
      · have e2 : (om (pcs L a m) (pcs L m b))[j]? = some z := by
          have : ((om (pcs L a m) (pcs L m b)).drop (i - a).toNat)[0]? = some z := by rw [hR]; rfl
          rw [List.getElem?_drop] at this
          rw [show j = (i - a).toNat + 0 by omega]; exact this
        rw [e2] at hj
        cases hj
        rw [show a.toNat + j = i.toNat by omega]; exact ⟨w1, w2⟩
      · rw [f1 _ (by omega), f2 _ (by omega)]; exact c7 j z' hj (by omega)
    · rw [f1 _ (by omega), f2 _ (by omega)]; exact c8 j z' hj hz'
  refine ⟨fun e1 e2 e3 => ?_, fun e1 e2 e3 => ?_⟩
  · have h9 := pcs_cons (L := L) (x := x) (m := m) (by omega) e2 (by omega) (by rw [← e1]; exact hz)
    have hh : ∀ w, (pcs L y b).head? = some w → z.2 ≤ w.2 := fun w hw => by
      rcases e3 with e3 | e3
      · rw [pcs_nil (by omega)] at hw; cases hw
      · refine e3 w ?_
        rw [List.head?_eq_getElem?, pcs_at] at hw
        split at hw
        · exact hw
        · cases hw
    rw [h9, om_a hh] at c6
    obtain ⟨r1, r2, r3, r4⟩ := rest _ c6
    exact ⟨⟨⟨by omega, by omega⟩, ⟨c3, c4⟩, by omega⟩, r1, r2, r3, r4⟩
  · have h9 := pcs_cons (L := L) (x := y) (m := b) (by omega) e2 (by omega) (by rw [← e1]; exact hz)
    have hh : ∀ w, (pcs L x m).head? = some w → ¬ w.2 ≤ z.2 := fun w hw => by
      rcases e3 with e3 | e3
      · rw [pcs_nil (by omega)] at hw; cases hw
      · refine e3 w ?_
        rw [List.head?_eq_getElem?, pcs_at] at hw
        split at hw
        · exact hw
        · cases hw
    rw [h9, om_b hh] at c6
    obtain ⟨r1, r2, r3, r4⟩ := rest _ c6
    exact ⟨⟨⟨c1, c2⟩, ⟨by omega, by omega⟩, by omega⟩, r1, r2, r3, r4⟩
theorem mgi_end {g : cz_H} {p : Nat} {L : List (Int × Int)} {a m b i x y : Int} (a0 : 0 ≤ a) (am : a ≤ m) (mb : m ≤ b) (bl : b ≤ (L.length : Int)) (hi : mgi g p L a m b i x y) (ib : i = b) : prs g p (mgw L a m b) := fun j z hj => by
  obtain ⟨-, -, c7, c8, -⟩ := hi
  rw [mgw_at a0 am mb bl] at hj
  split at hj
  · rename_i e
    have := c7 (j - a.toNat) z hj (by omega)
    rw [show a.toNat + (j - a.toNat) = j by omega] at this; exact this
  · rename_i e
    exact c8 j z (by omega) hj
/-! Sorting by merging, as lists have it. -/
theorem upw_mono {L : List (Int × Int)} {a b c e : Int} (h : upw L a b) (h1 : a ≤ c) (h2 : e ≤ b) : upw L c e := fun i j x y a1 a2 a3 a4 a5 => h i j x y (by omega) a2 (by omega) a4 a5
theorem upw_mg {L L' : List (Int × Int)} {a b c e : Int} (m : mgd L L' a b) (h : upw L c e) (hd : e ≤ a ∨ b ≤ c) : upw L' c e := fun i j x y a1 a2 a3 a4 a5 => by
  rw [m.2.2.2.1 i (by omega)] at a4
  rw [m.2.2.2.1 j (by omega)] at a5
  exact h i j x y a1 a2 a3 a4 a5
/-- the pieces of w from f on are in order -/
def bks (L : List (Int × Int)) (f t w : Int) : Prop := ∀ q, 0 ≤ q → upw L (f + q * w) (min (f + q * w + w) t)
/-- those of 2 w before the k-th, those of w behind -/
def sis (L : List (Int × Int)) (f t w k : Int) : Prop := (∀ q, 0 ≤ q → q < k → upw L (f + q * (2 * w)) (min (f + q * (2 * w) + 2 * w) t)) ∧ ∀ q, 2 * k ≤ q → upw L (f + q * w) (min (f + q * w + w) t)
theorem bks_1 (L : List (Int × Int)) (f t : Int) : bks L f t 1 := fun q _ i j x y a1 a2 a3 => by omega
theorem bks_all {L : List (Int × Int)} {f t w : Int} (h : bks L f t w) (hw : t - f ≤ w) : upw L f t := by
  have := h 0 (Int.le_refl _)
  rw [Int.zero_mul] at this
  exact upw_mono this (by omega) (by omega)
theorem sis_0 {L : List (Int × Int)} {f t w : Int} (h : bks L f t w) : sis L f t w 0 := ⟨fun q q0 q1 => by omega, fun q hq => h q (by omega)⟩
theorem sis_ar (k w : Int) : 2 * k * w = k * (2 * w) ∧ (2 * k + 1) * w = k * (2 * w) + w ∧ (k + 1) * (2 * w) = k * (2 * w) + 2 * w := by
  refine ⟨?_, ?_, ?_⟩
  · rw [Int.mul_comm 2 k, Int.mul_assoc]
  · rw [Int.add_mul, Int.mul_comm 2 k, Int.mul_assoc, Int.one_mul]
  · rw [Int.add_mul, Int.one_mul]
theorem sis_pre {L : List (Int × Int)} {f t w k : Int} (h : sis L f t w k) (hl : f + k * (2 * w) + w < t) : upw L (f + k * (2 * w)) (f + k * (2 * w) + w) ∧ upw L (f + k * (2 * w) + w) (min (f + k * (2 * w) + 2 * w) t) := by
  obtain ⟨e1, e2, -⟩ := sis_ar k w
  have a := h.2 (2 * k) (Int.le_refl _)
  have b := h.2 (2 * k + 1) (by omega)
  rw [e1] at a
  rw [e2] at b
  exact ⟨upw_mono a (by omega) (by omega), upw_mono b (by omega) (by omega)⟩
theorem sis_step {L L' : List (Int × Int)} {f t w k : Int} (w1 : 1 ≤ w) (k0 : 0 ≤ k) (h : sis L f t w k) (m : mgd L L' (f + k * (2 * w)) (min (f + k * (2 * w) + 2 * w) t)) : sis L' f t w (k + 1) := by
  refine ⟨fun q q0 q1 => ?_, fun q hq => ?_⟩
  · by_cases e : q = k
    · rw [e]; exact m.2.2.1
    · have e1 : (q + 1) * (2 * w) ≤ k * (2 * w) := Int.mul_le_mul_of_nonneg_right (by omega) (by omega)
      rw [(sis_ar q w).2.2] at e1
      exact upw_mg m (h.1 q q0 (by omega)) (Or.inl (by omega))
  · have e1 : (2 * k + 2) * w ≤ q * w := Int.mul_le_mul_of_nonneg_right (by omega) (by omega)
    have e2 : (2 * k + 2) * w = k * (2 * w) + 2 * w := by rw [Int.add_mul, (sis_ar k w).1]
    exact upw_mg m (h.2 q (by omega)) (Or.inr (by omega))
theorem sis_out {L : List (Int × Int)} {f t w k : Int} (w1 : 1 ≤ w) (k0 : 0 ≤ k) (h : sis L f t w k) (hl : t ≤ f + k * (2 * w) + w) : bks L f t (2 * w) := fun q q0 => by
  by_cases e : q < k
  · exact h.1 q q0 e
  · by_cases e2 : q = k
    · have a := h.2 (2 * k) (Int.le_refl _)
      rw [(sis_ar k w).1] at a
      rw [e2]
      exact upw_mono a (by omega) (by omega)
    · have e1 : (k + 1) * (2 * w) ≤ q * (2 * w) := Int.mul_le_mul_of_nonneg_right (by omega) (by omega)
      rw [(sis_ar k w).2.2] at e1
      exact fun i j x y a1 a2 a3 => by omega
/-- on the way -/
def sds (L0 L : List (Int × Int)) (f t : Int) : Prop := L.length = L0.length ∧ os_srt L = os_srt L0 ∧ (∀ i : Nat, ((i : Int) < f ∨ t ≤ (i : Int)) → L[i]? = L0[i]?) ∧ ps0 L f t ∧ ∀ x ∈ L, x ∈ L0
theorem sds_0 {L : List (Int × Int)} {f t : Int} (h : ps0 L f t) : sds L L f t := ⟨rfl, rfl, fun _ _ => rfl, h, fun _ h => h⟩
theorem sds_step {L0 L L' : List (Int × Int)} {f t a b : Int} (h : sds L0 L f t) (m : mgd L L' a b) (fa : f ≤ a) (bt : b ≤ t) : sds L0 L' f t := by
  refine ⟨m.1.trans h.1, m.2.1.trans h.2.1, fun i hi => (m.2.2.2.1 i (by omega)).trans (h.2.2.1 i hi), fun i x h1 h2 h3 => ?_, fun x hx => h.2.2.2.2 x (m.2.2.2.2.2 x hx)⟩
  by_cases e : a ≤ (i : Int) ∧ (i : Int) < b
  · exact m.2.2.2.2.1 i x e.1 e.2 h3
  · rw [m.2.2.2.1 i (by omega)] at h3
    exact h.2.2.2.1 i x h1 h2 h3
theorem sds_end {L0 L : List (Int × Int)} {f t : Int} (h : sds L0 L f t) (u : upw L f t) : mgd L0 L f t := ⟨h.1, h.2.1, u, h.2.2.1, h.2.2.2.1, h.2.2.2.2⟩
/-- runs before s are in order, the next one reaches from s to i -/
def pio (L0 L : List (Int × Int)) (s i : Int) : Prop := L.length = L0.length ∧ os_srt L = os_srt L0 ∧ ps0 L s i ∧ (∀ (j : Nat) x y, (j : Int) + 1 < s → L[j]? = some x → L[j + 1]? = some y → ¬ (y.2 < x.2 ∧ 0 < y.2)) ∧ (∀ (j : Nat) x, (j : Int) + 1 = s → L[j]? = some x → x.2 = 0) ∧ ∀ x ∈ L, x ∈ L0
theorem pio_0 (L : List (Int × Int)) : pio L L 0 0 := ⟨rfl, rfl, fun i x h1 h2 => by omega, fun j x y h => by omega, fun j x h => by omega, fun _ h => h⟩
theorem pio_more {L0 L : List (Int × Int)} {s i : Int} (h : pio L0 L s i) {x : Int × Int} (hx : L[i.toNat]? = some x) (i0 : 0 ≤ i) (x0 : 0 < x.2) : pio L0 L s (i + 1) := ⟨h.1, h.2.1, fun j y h1 h2 h3 => by
  by_cases e : (j : Int) = i
  · rw [show j = i.toNat by omega, hx] at h3; cases h3; exact x0
  · exact h.2.2.1 j y h1 (by omega) h3, h.2.2.2.1, h.2.2.2.2.1, h.2.2.2.2.2⟩
theorem pio_run {L0 L L' : List (Int × Int)} {s i : Int} (h : pio L0 L s i) (m : mgd L L' s i) (si : s ≤ i) (hz : ∀ (j : Nat) x, (j : Int) = i → L[j]? = some x → x.2 = 0) : pio L0 L' (i + 1) (i + 1) := by
  have hz' : ∀ (j : Nat) x, (j : Int) = i → L'[j]? = some x → x.2 = 0 := fun j x hj hx => by rw [m.2.2.2.1 j (by omega)] at hx; exact hz j x hj hx
  refine ⟨m.1.trans h.1, m.2.1.trans h.2.1, fun j x h1 h2 => by omega, fun j x y hj hx hy => ?_, fun j x hj hx => hz' j x (by omega) hx, fun x hx => h.2.2.2.2.2 x (m.2.2.2.2.2 x hx)⟩
  by_cases e1 : (j : Int) + 1 = i
  · have := hz' (j + 1) y (by omega) hy; omega
  · by_cases e2 : s ≤ (j : Int)
    · have := m.2.2.1 j (j + 1) x y e2 (by omega) (by omega) hx hy; omega
    · rw [m.2.2.2.1 j (by omega)] at hx
      by_cases e3 : (j : Int) + 1 = s
      · have := h.2.2.2.2.1 j x e3 hx; omega
      · rw [m.2.2.2.1 (j + 1) (by omega)] at hy
        exact h.2.2.2.1 j x y (by omega) hx hy
theorem pio_end {L0 L : List (Int × Int)} {s i : Int} (h : pio L0 L s i) (hs : (L0.length : Int) < s) : L = os_srt L0 := by
  rw [← h.2.1]
  refine (os_done L (os_nf_i L (fun j x y hx hy => ?_))).symm
  have : j < L.length := (List.getElem?_eq_some_iff.mp hx).1
  have := h.1
  exact h.2.2.2.1 j x y (by omega) hx hy
/-- points with their ranks -/
def zl (F : rz_W) (l : List Int) : List (Int × Int) := l.map (fun x => (x, (F x).1))
theorem zl_at {F : rz_W} {l : List Int} {j : Nat} {z : Int × Int} (h : (zl F l)[j]? = some z) : l[j]? = some z.1 ∧ z.2 = (F z.1).1 := by
  unfold zl at h
  rw [List.getElem?_map] at h
  obtain ⟨a, h1, h2⟩ := Option.map_eq_some_iff.mp h
  rw [← h2]; exact ⟨h1, rfl⟩
theorem zl_mem {F : rz_W} {l : List Int} {z : Int × Int} (h : z ∈ zl F l) : z.1 ∈ l ∧ z.2 = (F z.1).1 := by
  obtain ⟨j, hj⟩ := List.mem_iff_getElem?.mp h
  have := zl_at hj
  exact ⟨List.mem_of_getElem? this.1, this.2⟩
theorem zl_len (F : rz_W) (l : List Int) : (zl F l).length = l.length := by unfold zl; exact List.length_map _
