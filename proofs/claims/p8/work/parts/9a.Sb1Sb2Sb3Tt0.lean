/-! ORDERED: marks by rank, those of one rank as they stood. -/
def os_ins (x : Int × Int) : List (Int × Int) → List (Int × Int)
  | [] => [x]
  | y :: L => if y.2 < x.2 ∧ 0 < y.2 then y :: os_ins x L else x :: y :: L
def os_srt : List (Int × Int) → List (Int × Int)
  | [] => []
  | x :: L => os_ins x (os_srt L)
theorem os_comm {x y : Int × Int} (h1 : y.2 < x.2) (h2 : 0 < y.2) : ∀ M, os_ins x (os_ins y M) = os_ins y (os_ins x M)
  | [] => by
    show (if y.2 < x.2 ∧ 0 < y.2 then y :: os_ins x [] else x :: [y]) = (if x.2 < y.2 ∧ 0 < x.2 then x :: os_ins y [] else y :: [x])
    rw [if_pos ⟨h1, h2⟩, if_neg (fun w => by omega)]; rfl
  | m :: M => by
    by_cases e1 : m.2 < y.2 ∧ 0 < m.2
    · have a1 : os_ins y (m :: M) = m :: os_ins y M := if_pos e1
      have a2 : os_ins x (m :: M) = m :: os_ins x M := if_pos ⟨by omega, e1.2⟩
      have a3 : os_ins x (m :: os_ins y M) = m :: os_ins x (os_ins y M) := if_pos ⟨by omega, e1.2⟩
      have a4 : os_ins y (m :: os_ins x M) = m :: os_ins y (os_ins x M) := if_pos e1
      rw [a1, a2, a3, a4, os_comm h1 h2 M]
    · have a1 : os_ins y (m :: M) = y :: m :: M := if_neg e1
      have a3 : os_ins x (y :: m :: M) = y :: os_ins x (m :: M) := if_pos ⟨h1, h2⟩
      rw [a1, a3]
      by_cases e2 : m.2 < x.2 ∧ 0 < m.2
      · have a2 : os_ins x (m :: M) = m :: os_ins x M := if_pos e2
        have a4 : os_ins y (m :: os_ins x M) = y :: m :: os_ins x M := if_neg e1
        rw [a2, a4]
      · have a2 : os_ins x (m :: M) = x :: m :: M := if_neg e2
        have a4 : os_ins y (x :: m :: M) = y :: x :: m :: M := if_neg (fun w => by omega)
        rw [a2, a4]
theorem os_swap {x y : Int × Int} (h1 : y.2 < x.2) (h2 : 0 < y.2) : ∀ A B, os_srt (A ++ x :: y :: B) = os_srt (A ++ y :: x :: B)
  | [], B => os_comm h1 h2 (os_srt B)
  | a :: A, B => by
    show os_ins a (os_srt (A ++ x :: y :: B)) = os_ins a (os_srt (A ++ y :: x :: B))
    rw [os_swap h1 h2 A B]
/-- nothing is left to change places -/
def os_nf : List (Int × Int) → Prop
  | [] => True
  | [_] => True
  | x :: y :: L => ¬ (y.2 < x.2 ∧ 0 < y.2) ∧ os_nf (y :: L)
theorem os_done : ∀ L, os_nf L → os_srt L = L
  | [], _ => rfl
  | [_], _ => rfl
  | x :: y :: L, h => by
    show os_ins x (os_srt (y :: L)) = x :: y :: L
    rw [os_done (y :: L) h.2]
    exact if_neg h.1
theorem os_nf_i : ∀ L : List (Int × Int), (∀ i x y, L[i]? = some x → L[i + 1]? = some y → ¬ (y.2 < x.2 ∧ 0 < y.2)) → os_nf L
  | [], _ => trivial
  | [_], _ => trivial
  | x :: y :: L, h => ⟨h 0 x y rfl rfl, os_nf_i (y :: L) (fun i a b ha hb => h (i + 1) a b ha hb)⟩
theorem os_pass {b : Int × Int} (h2 : 0 < b.2) : ∀ P A B, (∀ a ∈ A, b.2 < a.2) → os_srt (P ++ (A ++ b :: B)) = os_srt (P ++ (b :: (A ++ B)))
  | P, [], B, _ => rfl
  | P, a :: A, B, h => by
    have e1 := os_pass h2 (P ++ [a]) A B (fun z hz => h z (List.mem_cons_of_mem _ hz))
    have e2 := os_swap (h a List.mem_cons_self) h2 P (A ++ B)
    simp only [List.append_assoc, List.cons_append, List.nil_append] at e1
    rw [List.cons_append, e1, e2]; rfl
/-- two rows in order become one -/
def os_mrg : Nat → List (Int × Int) → List (Int × Int) → List (Int × Int)
  | 0, A, B => A ++ B
  | _ + 1, [], B => B
  | _ + 1, A, [] => A
  | n + 1, a :: A, b :: B => if a.2 ≤ b.2 then a :: os_mrg n A (b :: B) else b :: os_mrg n (a :: A) B
def os_up : List (Int × Int) → Prop
  | [] => True
  | x :: L => (∀ y ∈ L, x.2 ≤ y.2) ∧ os_up L
theorem os_mrg_srt : ∀ n P A B S, A.length + B.length ≤ n → os_up A → (∀ b ∈ B, 0 < b.2) → os_srt (P ++ (os_mrg n A B ++ S)) = os_srt (P ++ (A ++ (B ++ S)))
  | 0, P, A, B, S, hn, _, _ => by show os_srt (P ++ ((A ++ B) ++ S)) = _; rw [List.append_assoc]
  | n + 1, P, [], B, S, _, _, _ => by unfold os_mrg; rfl
  | n + 1, P, a :: A, [], S, _, _, _ => by unfold os_mrg; rfl
  | n + 1, P, a :: A, b :: B, S, hn, hu, hb => by
    simp only [List.length_cons] at hn
    by_cases e : a.2 ≤ b.2
    · have e1 : os_mrg (n + 1) (a :: A) (b :: B) = a :: os_mrg n A (b :: B) := if_pos e
      have e2 := os_mrg_srt n (P ++ [a]) A (b :: B) S (by simp only [List.length_cons]; omega) hu.2 hb
      simp only [List.append_assoc, List.cons_append, List.nil_append] at e2
      rw [e1, List.cons_append, e2]; rfl
    · have e1 : os_mrg (n + 1) (a :: A) (b :: B) = b :: os_mrg n (a :: A) B := if_neg e
      have e2 := os_mrg_srt n (P ++ [b]) (a :: A) B S (by simp only [List.length_cons]; omega) hu (fun z hz => hb z (List.mem_cons_of_mem _ hz))
      have e3 := os_pass (b := b) (hb b List.mem_cons_self) P (a :: A) (B ++ S) (fun z hz => by
        rcases List.mem_cons.mp hz with w | w
        · rw [w]; omega
        · have := hu.1 z w; omega)
      simp only [List.append_assoc, List.cons_append, List.nil_append] at e2 e3
      rw [e1]
      simp only [List.cons_append]
      rw [e2, e3]
theorem os_mrg_mem : ∀ n A B (z : Int × Int), z ∈ os_mrg n A B → z ∈ A ∨ z ∈ B
  | 0, A, B, z, h => List.mem_append.mp h
  | n + 1, [], B, z, h => by unfold os_mrg at h; exact Or.inr h
  | n + 1, a :: A, [], z, h => by unfold os_mrg at h; exact Or.inl h
  | n + 1, a :: A, b :: B, z, h => by
    by_cases e : a.2 ≤ b.2
    · rw [show os_mrg (n + 1) (a :: A) (b :: B) = a :: os_mrg n A (b :: B) from if_pos e] at h
      rcases List.mem_cons.mp h with w | w
      · exact Or.inl (by rw [w]; exact List.mem_cons_self)
      · rcases os_mrg_mem n A (b :: B) z w with v | v
        · exact Or.inl (List.mem_cons_of_mem _ v)
        · exact Or.inr v
    · rw [show os_mrg (n + 1) (a :: A) (b :: B) = b :: os_mrg n (a :: A) B from if_neg e] at h
      rcases List.mem_cons.mp h with w | w
      · exact Or.inr (by rw [w]; exact List.mem_cons_self)
      · rcases os_mrg_mem n (a :: A) B z w with v | v
        · exact Or.inl v
        · exact Or.inr (List.mem_cons_of_mem _ v)
theorem os_mrg_up : ∀ n A B, A.length + B.length ≤ n → os_up A → os_up B → os_up (os_mrg n A B)
  | 0, [], [], _, _, _ => trivial
  | 0, _ :: _, _, hn, _, _ => by simp only [List.length_cons] at hn; omega
  | 0, [], _ :: _, hn, _, _ => by simp only [List.length_cons] at hn; omega
  | n + 1, [], B, _, _, hB => by unfold os_mrg; exact hB
  | n + 1, a :: A, [], _, hA, _ => by unfold os_mrg; exact hA
  | n + 1, a :: A, b :: B, hn, hA, hB => by
    simp only [List.length_cons] at hn
    by_cases e : a.2 ≤ b.2
    · rw [show os_mrg (n + 1) (a :: A) (b :: B) = a :: os_mrg n A (b :: B) from if_pos e]
      refine ⟨fun z hz => ?_, os_mrg_up n A (b :: B) (by simp only [List.length_cons]; omega) hA.2 hB⟩
      rcases os_mrg_mem n A (b :: B) z hz with v | v
      · exact hA.1 z v
      · rcases List.mem_cons.mp v with w | w
        · rw [w]; exact e
        · have := hB.1 z w; omega
    · rw [show os_mrg (n + 1) (a :: A) (b :: B) = b :: os_mrg n (a :: A) B from if_neg e]
      refine ⟨fun z hz => ?_, os_mrg_up n (a :: A) B (by simp only [List.length_cons]; omega) hA hB.2⟩
      rcases os_mrg_mem n (a :: A) B z hz with v | v
      · rcases List.mem_cons.mp v with w | w
        · rw [w]; omega
        · have := hA.1 z w; omega
      · exact hB.1 z v
theorem os_mrg_len : ∀ n A B, (os_mrg n A B).length = A.length + B.length
  | 0, A, B => List.length_append
  | n + 1, [], B => by unfold os_mrg; simp only [List.length_nil, Nat.zero_add]
  | n + 1, a :: A, [] => by unfold os_mrg; rfl
  | n + 1, a :: A, b :: B => by
    by_cases e : a.2 ≤ b.2
    · rw [show os_mrg (n + 1) (a :: A) (b :: B) = a :: os_mrg n A (b :: B) from if_pos e]
      have := os_mrg_len n A (b :: B)
      simp only [List.length_cons] at this ⊢; omega
    · rw [show os_mrg (n + 1) (a :: A) (b :: B) = b :: os_mrg n (a :: A) B from if_neg e]
      have := os_mrg_len n (a :: A) B
      simp only [List.length_cons] at this ⊢; omega
theorem os_mrg_more : ∀ n A B, A.length + B.length ≤ n → os_mrg (n + 1) A B = os_mrg n A B
  | 0, [], [], _ => rfl
  | 0, _ :: _, _, hn => by simp only [List.length_cons] at hn; omega
  | 0, [], _ :: _, hn => by simp only [List.length_cons] at hn; omega
  | n + 1, [], B, _ => rfl
  | n + 1, a :: A, [], _ => rfl
  | n + 1, a :: A, b :: B, hn => by
    simp only [List.length_cons] at hn
    by_cases e : a.2 ≤ b.2
    · rw [show os_mrg (n + 1) (a :: A) (b :: B) = a :: os_mrg n A (b :: B) from if_pos e, show os_mrg (n + 1 + 1) (a :: A) (b :: B) = a :: os_mrg (n + 1) A (b :: B) from if_pos e, os_mrg_more n A (b :: B) (by simp only [List.length_cons]; omega)]
    · rw [show os_mrg (n + 1) (a :: A) (b :: B) = b :: os_mrg n (a :: A) B from if_neg e, show os_mrg (n + 1 + 1) (a :: A) (b :: B) = b :: os_mrg (n + 1) (a :: A) B from if_neg e, os_mrg_more n (a :: A) B (by simp only [List.length_cons]; omega)]
/-! L3: a piece of an array of ints into another (or the same) one. -/
section EzAc
variable {d : Nat} {M : cz_M} {pc : Nat} {L : List (Nat × ez_V)} {st : List ez_V} {h : cz_H} {τ : Nat → Nat} {Q : cz_F → Prop}
theorem ac_B {r n : Nat} {f f' : Nat → cz_V} {ti : dz_I} {D : dz_D} (hB : ez_B τ h) (hti : tz_T (τ r) = some ti) (hk : Nat.beq ti.1 1 = true) (hD : dz_nth ti.2.2.2.2 0 = some D) (ho : h.2.2 r = .inl (1, n, f)) (hv : ∀ i, i < n → dz_vd τ r D (f' i)) : ez_B τ (cz_setc h r (.inl (1, n, f'))) := by
  have hcell : ∀ r', (cz_setc h r (.inl (1, n, f'))).2.2 r' = if r' = r then .inl (1, n, f') else h.2.2 r' := fun _ => rfl
  have hal : ∀ r', dz_al ((cz_setc h r (.inl (1, n, f'))).2.2 r') = dz_al (h.2.2 r') := by
    intro r'
    rw [hcell]
    by_cases e : r' = r
    · rw [if_pos e, e, ho]; rfl
    · rw [if_neg e]
  refine ⟨fun r' hr' => ?_, hB.2.1, hB.2.2⟩
  obtain ⟨i1, ti', i2, i3, i4, i5⟩ := hB.1 r' hr'
  refine ⟨i1, ti', i2, dz_sh_al (hal r') i3, i4, ?_⟩
  by_cases e : r' = r
  · subst e
    intro i v hi
    rw [hcell, if_pos rfl] at hi
    rw [hti] at i2
    cases i2
    have hi : (if i < n then some (f' i) else none) = some v := hi
    by_cases ei : i < n
    · rw [if_pos ei] at hi
      cases hi
      refine ⟨D, ?_, hv i ei⟩
      unfold dz_ds
      rw [Nat.eq_of_beq_eq_true hk]
      exact hD
    · rw [if_neg ei] at hi; cases hi
  · rw [hcell, if_neg e]; exact i5
theorem ez_ac {r1 r2 t1 t2 x y1 y2 y3 : Nat} {ti1 ti2 : dz_I} {sp dp n : Int} (hB : ez_B τ h) (h1 : τ r1 = t1) (h2 : τ r2 = t2) (hti1 : tz_T t1 = some ti1) (hti2 : tz_T t2 = some ti2) (hb : (((Nat.beq ti1.1 1 && Nat.beq ti1.2.1 1) && (Nat.beq ti2.1 1 && Nat.beq ti2.2.1 1)) && (Nat.beq ti2.2.2.1 1 && (dz_ile ti1.2.2.2.1.2 2147483647 && dz_ile ti2.2.2.2.1.2 2147483647))) = true) (hD1 : dz_nth ti1.2.2.2.2 0 = some (0, -2147483648, 2147483647, 0, 0)) (hD2 : dz_nth ti2.2.2.2.2 0 = some (0, -2147483648, 2147483647, 0, 0)) (hc : cz_code M pc = some (.invokestatic x, 3)) (hth : cz_throw M pc (.invokestatic x) = none) (hq : cz_lk M x = some (13, y1, y2, y3)) (hst : Nat.ble st.length 20 = true) (n0 : 0 ≤ n) (s0 : 0 ≤ sp) (d0 : 0 ≤ dp) (s1 : sp + n ≤ qz_N h r1) (d1 : dp + n ≤ qz_N h r2) (kk : ∀ g, ez_B τ g → ez_fr (ez_one r2) h g → qz_N g r2 = qz_N h r2 → (∀ j : Nat, qz_I g r2 j = if dp ≤ (j : Int) ∧ (j : Int) < dp + n then qz_I h r1 (sp + ((j : Int) - dp)).toNat else qz_I h r2 j) → ez_W (d + 1) M (pc + 3) L st g Q) : ez_W (d + 1) M pc L (.inl n :: .inl dp :: .inr (.inr (some r2)) :: .inl sp :: .inr (.inr (some r1)) :: st) h Q := by
  simp only [Bool.and_eq_true] at hb
  obtain ⟨⟨⟨b1, b2⟩, b3, b4⟩, b5, b6, b7⟩ := hb
  have b6 := dz_ile_ok b6
  have b7 := dz_ile_ok b7
  have e2 := Nat.eq_of_beq_eq_true b2
  have e4 := Nat.eq_of_beq_eq_true b4
  obtain ⟨n1, f1, a1, a2, a3, a4, a5, a6⟩ := ez_arr hB h1 hti1 (by rw [b1, e2]; rfl) hD1
  obtain ⟨n2, f2, c1, c2, c3, c4, c5, c6⟩ := ez_arr hB h2 hti2 (by rw [b3, e4]; rfl) hD2
  rw [e2] at a1 a2
  rw [e4] at c1 c2
  have hr : 192 ≤ r2 := by
    rcases c5 with w | w
    · rw [w] at b5; cases b5
    · exact w
  rw [a3] at s1 a4
  rw [c3] at d1 c4
  have en : (Int32.ofInt n).toInt = n := dz_toInt_i (by omega) (by omega)
  have es : (Int32.ofInt sp).toInt = sp := dz_toInt_i (by omega) (by omega)
  have ed : (Int32.ofInt dp).toInt = dp := dz_toInt_i (by omega) (by omega)
  have en2 : (Int32.ofInt n).toNatClampNeg = n.toNat := by unfold Int32.toNatClampNeg; rw [en]
  have es2 : (Int32.ofInt sp).toNatClampNeg = sp.toNat := by unfold Int32.toNatClampNeg; rw [es]
  have ed2 : (Int32.ofInt dp).toNatClampNeg = dp.toNat := by unfold Int32.toNatClampNeg; rw [ed]
  have vI : ∀ r r' (v : cz_V), dz_vd τ r (0, -2147483648, 2147483647, 0, 0) v → dz_vd τ r' (0, -2147483648, 2147483647, 0, 0) v := fun r r' v w => ⟨w.1, w.2.1, w.2.2.1, Or.inl (by decide), Or.inl (by decide), Or.inl (by decide)⟩
  have b := ac_B (f' := va_cpy f1 f2 sp.toNat dp.toNat n.toNat) hB (by rw [h2]; exact hti2) b3 hD2 c2 (fun i hi => by
    unfold va_cpy
    by_cases ec : dp.toNat ≤ i ∧ i < dp.toNat + n.toNat
    · rw [if_pos ec]; exact vI _ _ _ (a6 _ (by omega)).2
    · rw [if_neg ec]; exact (c6 i hi).2)
  have hI : ∀ (g : cz_H) (r m : Nat) (f : Nat → cz_V) (j : Nat), g.2.2 r = .inl (1, m, f) → qz_I g r j = if j < m then dz_n (f j) else 0 := fun g r m f j e => by
    unfold qz_I
    rw [e]
    unfold dz_get
    by_cases e : j < m
    · simp only [if_pos e]
    · simp only [if_neg e]
  have e0 : (cz_setc h r2 (.inl (1, n2, va_cpy f1 f2 sp.toNat dp.toNat n.toNat))).2.2 r2 = .inl (1, n2, va_cpy f1 f2 sp.toNat dp.toNat n.toNat) := if_pos rfl
  have kk := kk _ b ⟨rfl, rfl, fun q hq => by show (if q = r2 then _ else _) = _; rw [if_neg (fun e => by rw [e] at hq; unfold ez_one at hq; rw [Nat.beq_refl] at hq; cases hq)]⟩ (by rw [c3]; unfold qz_N; rw [e0]) (fun j => by
    rw [hI _ r2 n2 _ j e0, hI h r2 n2 f2 j c2]
    by_cases ec : dp ≤ (j : Int) ∧ (j : Int) < dp + n
    · rw [if_pos ec, hI h r1 n1 f1 _ a2, if_pos (by omega), if_pos (by omega)]
      unfold va_cpy
      rw [if_pos (by omega)]
      congr 2
      omega
    · rw [if_neg ec]
      have e9 : va_cpy f1 f2 sp.toNat dp.toNat n.toNat j = f2 j := by unfold va_cpy; exact if_neg (by omega)
      rw [e9])
  have hall : (List.range n.toNat).all (fun i => cz_fitc (bif Nat.beq 1 0 then 4 else 0) (f1 (sp.toNat + i))) = true := by
    rw [List.all_eq_true]
    intro i hi
    rw [List.mem_range] at hi
    exact (a6 _ (by omega)).2.1
  refine dz_wp_hp (q := (pc + 3, st.map ez_v, cz_setc h r2 (.inl (1, n2, va_cpy f1 f2 sp.toNat dp.toNat n.toNat)))) hc rfl rfl rfl rfl hth ?_ kk
  have key : cz_hcpy M (d + 1) x pc (.inl (Int32.ofInt n) :: .inl (Int32.ofInt dp) :: .inr (.inr (some r2)) :: .inl (Int32.ofInt sp) :: .inr (.inr (some r1)) :: st.map ez_v) h = some (pc + 3, st.map ez_v, cz_setc h r2 (.inl (1, n2, va_cpy f1 f2 sp.toNat dp.toNat n.toNat))) := by
    unfold cz_hcpy
    simp only [hq, a1, c1]
    rw [en2, es2, ed2, en, es, ed]
    have hcond : ((Nat.beq 13 13 && (Nat.blt 0 (d + 1) && Nat.ble (st.map ez_v).length 20))) = true := by
      rw [List.length_map, hst]; rfl
    rw [hcond]
    show (bif ((Nat.beq 1 1 && Nat.ble 1 1 && Nat.ble 192 r2) && (decide (0 ≤ n) && decide (0 ≤ dp) && decide (0 ≤ sp)) && (Nat.ble (sp.toNat + n.toNat) n1 && Nat.ble (dp.toNat + n.toNat) n2) && (List.range n.toNat).all (fun i => cz_fitc (bif Nat.beq 1 0 then 4 else 0) (f1 (sp.toNat + i)))) then _ else none) = _
    rw [hall, Nat.ble_eq.mpr hr, decide_eq_true n0, decide_eq_true d0, decide_eq_true s0, Nat.ble_eq.mpr (show sp.toNat + n.toNat ≤ n1 by omega), Nat.ble_eq.mpr (show dp.toNat + n.toNat ≤ n2 by omega)]
    rfl
  show (match cz_hcpy M (d + 1) x pc (.inl (Int32.ofInt n) :: .inl (Int32.ofInt dp) :: .inr (.inr (some r2)) :: .inl (Int32.ofInt sp) :: .inr (.inr (some r1)) :: st.map ez_v) h with
      | some q => some q
      | none => cz_hci M (d + 1) x pc (.inl (Int32.ofInt n) :: .inl (Int32.ofInt dp) :: .inr (.inr (some r2)) :: .inl (Int32.ofInt sp) :: .inr (.inr (some r1)) :: st.map ez_v) h) = _
  rw [key]
end EzAc
/-! Texts. -/
section EzG3
variable {d : Nat} {M : cz_M} {pc : Nat} {L : List (Nat × ez_V)} {st : List ez_V} {h : cz_H} {τ : Nat → Nat} {Q : cz_F → Prop}
/-- a reference to the place right behind -/
theorem ez_g3 {x q0 cl k w r t tg : Nat} {ti : dz_I} {lo hi : Int} (hB : ez_B τ h) (hτ : τ r = t) (hc : cz_code M pc = some (.getfield x, 3)) (hq : cz_lk M x = some (q0, cl, k, w)) (hti : tz_T t = some ti) (hD : dz_nth ti.2.2.2.2 k = some (3, lo, hi, tg, 3)) (hb : (Nat.ble q0 1 && ((Nat.beq ti.1 0 && Nat.beq ti.2.1 cl) && dz_ile 1 lo)) = true) (kk : τ (r + 1) = tg → ez_W d M (pc + 3) L (.inr (.inr (some (r + 1))) :: st) h Q) : ez_W d M pc L (.inr (.inr (some r)) :: st) h Q := by
  simp only [Bool.and_eq_true] at hb
  obtain ⟨b1, b2, b3⟩ := hb
  obtain ⟨vs, v, o1, o2, o3, o4, -⟩ := ez_fld hB hτ hti (by rw [Bool.and_eq_true]; exact b2) hD
  have hbd := ez_slB o3 o4 (by show (3 : Nat) ≠ 2; decide)
  have b3 := dz_ile_ok b3
  have h1 : 1 ≤ qz_I h r k := by have h2 : lo ≤ qz_I h r k := hbd.1; omega
  obtain ⟨e1, e2, e3⟩ := ez_slR o3 o4 rfl (by show (3 : Nat) ≠ 2; decide) h1
  have hm : qz_I h r k = (r : Int) + 2 := by
    rw [qz_I_of o3]
    exact o4.2.2.2.2.1.resolve_left (fun w => w rfl)
  have ep : qz_P h r k = r + 1 := by unfold qz_P; omega
  rw [ep] at e1 e2
  exact ez_getf hc hq b1 o1 o2 e1 (kk e2)
end EzG3
theorem ez_fr_mono {P P' : Nat → Bool} {h g : cz_H} (hf : ez_fr P h g) (hp : ∀ z, P z = true → P' z = true) : ez_fr P' h g := ⟨hf.1, hf.2.1, fun z hz => hf.2.2 z (by
  cases e : P z with
  | false => rfl
  | true => rw [hp z e] at hz; cases hz)⟩
/-- a Text at r holds l -/
def tx (h : cz_H) (r : Nat) (l : List Int) : Prop := qz_I h r 1 = (l.length : Int) ∧ ∀ (j : Nat) v, l[j]? = some v → qz_I h (r + 1) j = v
/-- POINTS -/
def ptl (l : List Int) : Prop := ∀ v ∈ l, 0 ≤ v ∧ v ≤ 1114111
theorem tx_u {h : cz_H} {r : Nat} {l l2 : List Int} (a : tx h r l) (b : tx h r l2) : l = l2 := by
  have hl : l.length = l2.length := by have := a.1; have := b.1; omega
  refine List.ext_getElem? (fun i => ?_)
  by_cases e : i < l.length
  · have h1 := List.getElem?_eq_getElem e
    have h2 := List.getElem?_eq_getElem (show i < l2.length by omega)
    have := a.2 i _ h1
    rw [h1, h2, ← b.2 i _ h2, this]
  · rw [List.getElem?_eq_none (by omega), List.getElem?_eq_none (by omega)]
theorem tx_c {h g : cz_H} {r : Nat} {l : List Int} (a : tx h r l) (e1 : g.2.2 r = h.2.2 r) (e2 : g.2.2 (r + 1) = h.2.2 (r + 1)) : tx g r l := by
  unfold tx qz_I at a ⊢
  rw [e1, e2]; exact a
theorem tx_ex (h : cz_H) (r : Nat) (n0 : 0 ≤ qz_I h r 1) : ∃ l, tx h r l := by
  refine ⟨(List.range (qz_I h r 1).toNat).map (fun j => qz_I h (r + 1) j), ?_, fun j v hv => ?_⟩
  · rw [List.length_map, List.length_range]; omega
  · rw [List.getElem?_map] at hv
    obtain ⟨a, h1, h2⟩ := Option.map_eq_some_iff.mp hv
    have := List.getElem?_eq_some_iff.mp h1
    obtain ⟨w, e⟩ := this
    rw [List.getElem_range] at e
    rw [← h2, ← e]
/-! Texts: pieces, what is kept. -/
def pt (l : List Int) (i j : Int) : List Int := (l.drop i.toNat).take (j - i).toNat
theorem pt_len {l : List Int} {i j : Int} (i0 : 0 ≤ i) (ij : i ≤ j) (jl : j ≤ (l.length : Int)) : ((pt l i j).length : Int) = j - i := by
  unfold pt
  rw [List.length_take, List.length_drop]; omega
theorem pt_at {l : List Int} {i j : Int} {k : Nat} {v : Int} (h : (pt l i j)[k]? = some v) : (k : Int) < j - i ∧ l[i.toNat + k]? = some v := by
  unfold pt at h
  rw [List.getElem?_take] at h
  split at h
  · rename_i e
    rw [List.getElem?_drop] at h
    exact ⟨by omega, h⟩
  · cases h
theorem pt_all (l : List Int) : pt l 0 (l.length : Int) = l := by
  unfold pt
  rw [show ((l.length : Int) - 0).toNat = l.length by omega, show (0 : Int).toNat = 0 from rfl, List.drop_zero, List.take_length]
theorem pt_ptl {l : List Int} {i j : Int} (h : ptl l) : ptl (pt l i j) := fun v hv => h v (List.mem_of_mem_drop (List.mem_of_mem_take hv))
theorem ptl_app {l m : List Int} (h1 : ptl l) (h2 : ptl m) : ptl (l ++ m) := fun v hv => (List.mem_append.mp hv).elim (h1 v) (h2 v)
theorem ptl_at {l : List Int} {j : Nat} {v : Int} (h : ptl l) (hv : l[j]? = some v) : 0 ≤ v ∧ v ≤ 1114111 := h v (List.mem_of_getElem? hv)
theorem tx_part {h g : cz_H} {q r : Nat} {l : List Int} {i j : Int} (a : tx h q l) (i0 : 0 ≤ i) (ij : i ≤ j) (jl : j ≤ (l.length : Int)) (e1 : qz_I g r 1 = j - i) (e2 : ∀ k : Nat, (k : Int) < j - i → qz_I g (r + 1) k = qz_I h (q + 1) (i + (k : Int)).toNat) : tx g r (pt l i j) := by
  refine ⟨by rw [e1, pt_len i0 ij jl], fun k v hv => ?_⟩
  obtain ⟨h1, h2⟩ := pt_at hv
  rw [e2 k h1]
  have := a.2 _ _ h2
  rw [show (i + (k : Int)).toNat = i.toNat + k by omega]; exact this
section TxPt
variable {h : cz_H} {τ : Nat → Nat}
theorem tx_pt {r t cl tg : Nat} {ti : dz_I} {lo hi : Int} (hB : ez_B τ h) (hτ : τ r = t) (hti : tz_T t = some ti) (hD : dz_nth ti.2.2.2.2 0 = some (3, lo, hi, tg, 3)) (hb : ((Nat.beq ti.1 0 && Nat.beq ti.2.1 cl) && dz_ile 1 lo) = true) : τ (r + 1) = tg := by
  simp only [Bool.and_eq_true] at hb
  obtain ⟨b2, b3⟩ := hb
  obtain ⟨vs, v, o1, o2, o3, o4, -⟩ := ez_fld hB hτ hti (by rw [Bool.and_eq_true]; exact b2) hD
  have hbd := ez_slB o3 o4 (by show (3 : Nat) ≠ 2; decide)
  have b3 := dz_ile_ok b3
  have h1 : 1 ≤ qz_I h r 0 := by have h2 : lo ≤ qz_I h r 0 := hbd.1; omega
  obtain ⟨e1, e2, e3⟩ := ez_slR o3 o4 rfl (by show (3 : Nat) ≠ 2; decide) h1
  have hm : qz_I h r 0 = (r : Int) + 2 := by
    rw [qz_I_of o3]
    exact o4.2.2.2.2.1.resolve_left (fun w => w rfl)
  have ep : qz_P h r 0 = r + 1 := by unfold qz_P; omega
  rw [ep] at e2
  exact e2
theorem tx_p1 {r : Nat} (hB : ez_B τ h) (tr : τ r = 1) : τ (r + 1) = 2 := tx_pt (cl := 1) hB tr tq_1 rfl rfl
theorem tx_p88 {r : Nat} (hB : ez_B τ h) (tr : τ r = 88) : τ (r + 1) = 89 := tx_pt (cl := 1) hB tr tq_88 rfl rfl
theorem tx_l1 {r : Nat} (hB : ez_B τ h) (tr : τ r = 1) : 0 ≤ qz_I h r 1 ∧ qz_I h r 1 ≤ 2000 := ez_fB (cl := 1) (k := 1) hB tr tq_1 rfl rfl (by decide)
theorem tx_l88 {r : Nat} (hB : ez_B τ h) (tr : τ r = 88) : 0 ≤ qz_I h r 1 ∧ qz_I h r 1 ≤ 2000 := ez_fB (cl := 1) (k := 1) hB tr tq_88 rfl rfl (by decide)
end TxPt
/-- DATA's cells -/
def kD (t : Nat) : Bool := Nat.beq t 3 || (Nat.beq t 4 || (Nat.beq t 5 || (Nat.beq t 48 || Nat.beq t 49)))
theorem pz_C.keep {τ : Nat → Nat} {h g : cz_H} {T : Int → Nat} {F : rz_W} {E : Int → Prop} (hC : pz_C τ h T F E) (hB : ez_B τ g) (x : ∀ q, kD (τ q) = true → g.2.2 q = h.2.2 q) : pz_C τ g T F E := by
  obtain ⟨c1, c2, c3, c4, c5⟩ := hC
  have t202 : τ 202 = 48 := c2 202 (by decide)
  have t203 : τ 203 = 49 := c2 203 (by decide)
  have e202 := x 202 (by rw [t202]; rfl)
  have e203 := x 203 (by rw [t203]; rfl)
  have e4 : ∀ q, τ q = 4 → g.2.2 q = h.2.2 q := fun q hq => x q (by rw [hq]; rfl)
  have e5 : ∀ q, τ q = 5 → g.2.2 q = h.2.2 q := fun q hq => x q (by rw [hq]; rfl)
  obtain ⟨a1, a2, a3⟩ := sz_same c1 t203 t202 e202 e203 e4
  have bn := sz_R_n1 c1 t202
  refine ⟨hB, c2, (sz_ok_tr c1 t203 t202 (a3 1) e203 e4 c3), fun y k y0 y1 hk => ?_, fun y y0 y1 => ?_⟩
  · have k0 := hk.1
    have k1 := hk.2.1
    rw [a3] at k1
    have hk' : sz_at h y k := by
      obtain ⟨d0, d1, d2, d3⟩ := hk
      rw [a3] at d1 d3
      unfold sz_f at d2 d3
      refine ⟨d0, d1, ?_, fun w => ?_⟩
      · unfold sz_f; rw [← a2 k d0 (by omega)]; exact d2
      · unfold sz_f; rw [← a2 (k + 1) (by omega) (by omega)]; exact d3 w
    rw [a2 k k0 (by omega), a2 k k0 (by omega)]
    exact c4 y k y0 y1 hk'
  · obtain ⟨f1, f2, f3, f4⟩ := c5 y y0 y1
    have c3 := x (T y) (by rw [f1]; rfl)
    have e3 : ∀ j, qz_I g (T y) j = qz_I h (T y) j := fun j => by unfold qz_I; rw [c3]
    have ep : qz_P g (T y) 3 = qz_P h (T y) 3 := by unfold qz_P; rw [e3 3]
    refine ⟨f1, by rw [e3 2]; exact f2, fun w => by rw [e3 3]; exact f3 w, fun cp vs w => ?_⟩
    obtain ⟨g0, g1, g2, g3, g4, g5⟩ := f4 cp vs w
    rw [e3 0, e3 4, e3 3, ep]
    refine ⟨g0, g1, g2, g3, ?_, fun j v hj => ?_⟩
    · unfold qz_N; rw [e5 _ g3]; exact g4
    · unfold qz_I; rw [e5 _ g3]; exact g5 j v hj
/-- what lies in the pool, where DATA are sealed -/
def fD (h : cz_H) (T : Int → Nat) (F : rz_W) : Prop := ∀ x, 0 ≤ x → x ≤ 1114111 → (F x).2 ≠ none → ∀ c, ∃ l, uz_F F c x l ∧ sg h (T x) c l ∧ l.length ≤ 40
theorem fD.keep {τ : Nat → Nat} {h g : cz_H} {T : Int → Nat} {F : rz_W} {E : Int → Prop} (a : fD h T F) (hC : pz_C τ h T F E) (x : ∀ q, kD (τ q) = true → g.2.2 q = h.2.2 q) (e1 : g.2.2 723 = h.2.2 723) (e2 : g.2.2 724 = h.2.2 724) : fD g T F := fun y y0 y1 hy c => by
  obtain ⟨l, l1, l2, l3⟩ := a y y0 y1 hy c
  have e3 := x (T y) (by rw [(hC.2.2.2.2 y y0 y1).1]; rfl)
  refine ⟨l, l1, ?_, l3⟩
  unfold sg qz_I at l2 ⊢
  rw [e1, e2, e3]; exact l2
/-- every point has its full decomposition, a row of points -/
theorem fD.all {h : cz_H} {T : Int → Nat} {F : rz_W} (a : fD h T F) {x : Int} (x0 : 0 ≤ x) (x1 : x ≤ 1114111) (c : Bool) : ∃ l, uz_F F c x l := by
  by_cases e : hz x
  · exact ⟨_, uz_syl e⟩
  · by_cases e2 : (F x).2 = none
    · exact ⟨_, uz_leaf e e2⟩
    · obtain ⟨l, l1, -⟩ := a x x0 x1 e2 c
      exact ⟨l, l1⟩
theorem uz_f_ptl {F : rz_W} {c : Bool} (hw : uz_wf F) : ∀ (n : Nat) (x : Int) (l : List Int), 0 ≤ x → x ≤ 1114111 → uz_f F c n x = some l → ptl l
  | 0, x, l, _, _, h => by cases h
  | n + 1, x, l, x0, x1, h => by
    have hL : ∀ (vs m : List Int), (∀ v ∈ vs, 0 ≤ v ∧ v ≤ 1114111) → uz_L (uz_f F c n) vs = some m → ptl m := by
      intro vs
      induction vs with
      | nil => intro m _ hm; cases hm; exact fun v hv => by cases hv
      | cons v vs ih =>
        intro m hv hm
        unfold uz_L at hm
        cases h1 : uz_f F c n v with
        | none => rw [h1] at hm; cases hm
        | some a =>
          cases h2 : uz_L (uz_f F c n) vs with
          | none => rw [h1, h2] at hm; cases hm
          | some b =>
            rw [h1, h2] at hm
            cases hm
            exact ptl_app (uz_f_ptl hw n v a (hv v List.mem_cons_self).1 (hv v List.mem_cons_self).2 h1) (ih b (fun w hw => hv w (List.mem_cons_of_mem _ hw)) h2)
    unfold uz_f at h
    split at h
    · rename_i e
      cases h
      intro v hv
      obtain ⟨j, hj⟩ := List.mem_iff_getElem?.mp hv
      exact hz_sy_bd e _ _ hj
    · split at h
      · cases h
        intro v hv
        rw [List.mem_singleton] at hv
        rw [hv]; exact ⟨x0, x1⟩
      · rename_i q hq
        split at h
        · exact hL q.2 l ((hw x).2 q.1 q.2 hq).2.2.1 h
        · cases h
          intro v hv
          rw [List.mem_singleton] at hv
          rw [hv]; exact ⟨x0, x1⟩
theorem uz_F_ptl {F : rz_W} {c : Bool} {x : Int} {l : List Int} (hw : uz_wf F) (x0 : 0 ≤ x) (x1 : x ≤ 1114111) (h : uz_F F c x l) : ptl l := by
  obtain ⟨n, hn⟩ := h
  exact uz_f_ptl hw n x l x0 x1 hn
theorem uz_FL_ptl {F : rz_W} {c : Bool} (hw : uz_wf F) : ∀ {u l : List Int}, ptl u → uz_FL F c u l → ptl l
  | [], l, _, h => by
    have e : l = [] := uz_L_uniq h (uz_nil F c)
    subst e
    exact fun v hv => by cases hv
  | x :: u, l, hu, h => by
    obtain ⟨p, q, p1, p2, rfl⟩ := uz_cons_inv h
    have hx := hu x List.mem_cons_self
    exact ptl_app (uz_F_ptl hw hx.1 hx.2 p1) (uz_FL_ptl hw (fun v hv => hu v (List.mem_cons_of_mem _ hv)) p2)
theorem uz_FL_app {F : rz_W} {c : Bool} : ∀ {u v a b : List Int}, uz_FL F c u a → uz_FL F c v b → uz_FL F c (u ++ v) (a ++ b)
  | [], v, a, b, h1, h2 => by
    have e : a = [] := uz_L_uniq h1 (uz_nil F c)
    subst e
    exact h2
  | x :: u, v, a, b, h1, h2 => by
    obtain ⟨p, q, p1, p2, rfl⟩ := uz_cons_inv h1
    rw [List.append_assoc]
    exact uz_cons p1 (uz_FL_app p2 h2)
theorem fD.allL {h : cz_H} {T : Int → Nat} {F : rz_W} (a : fD h T F) (c : Bool) : ∀ {u : List Int}, ptl u → ∃ l, uz_FL F c u l
  | [], _ => ⟨[], uz_nil F c⟩
  | x :: u, hu => by
    have hx := hu x List.mem_cons_self
    obtain ⟨p, p1⟩ := a.all hx.1 hx.2 c
    obtain ⟨q, q1⟩ := fD.allL a c (u := u) (fun v hv => hu v (List.mem_cons_of_mem _ hv))
    exact ⟨p ++ q, uz_cons p1 q1⟩
/-- a piece more: what comes of it is longer -/
theorem uz_FL_take {F : rz_W} {c : Bool} {u l : List Int} {i : Nat} {x : Int} (hx : u[i]? = some x) {a b : List Int} (h1 : uz_FL F c (u.take i) a) (h2 : uz_F F c x b) : uz_FL F c (u.take (i + 1)) (a ++ b) := by
  have e : u.take (i + 1) = u.take i ++ [x] := by
    obtain ⟨hi, e1⟩ := List.getElem?_eq_some_iff.mp hx
    rw [List.take_add_one, hx]; rfl
  rw [e]; exact uz_snoc h2 h1
theorem uz_FL_le {F : rz_W} {c : Bool} : ∀ {i : Nat} {u a l : List Int}, uz_FL F c (u.take i) a → uz_FL F c u l → a.length ≤ l.length
  | 0, u, a, l, h1, _ => by
    have e : a = [] := uz_L_uniq h1 (by rw [List.take_zero]; exact uz_nil F c)
    subst e
    exact Nat.zero_le _
  | i + 1, [], a, l, h1, h2 => by
    rw [List.take_nil] at h1
    rw [uz_L_uniq h1 h2]; exact Nat.le_refl _
  | i + 1, x :: u, a, l, h1, h2 => by
    rw [List.take_succ_cons] at h1
    obtain ⟨p, q, p1, p2, rfl⟩ := uz_cons_inv h1
    obtain ⟨p', q', p1', p2', rfl⟩ := uz_cons_inv h2
    rw [uz_uniq p1 p1', List.length_append, List.length_append]
    exact Nat.add_le_add_left (uz_FL_le p2 p2') _
