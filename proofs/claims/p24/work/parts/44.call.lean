/-! L2, part 15: methods with what is asked and what is given; calls. -/
/-- how it ends (0 returns nothing, 1 a value, k + 2 throws of kind k; value or exception is local 0), and what is known then -/
abbrev dz_Al : Type := Nat × dz_Tp
/-- number of the method, frames it needs, what is asked, ends, what may be written -/
abbrev dz_Sp : Type := Nat × Nat × dz_Tp × List dz_Al × dz_Md
def dz_res (k : Nat) (F : cz_F) (L : List (Nat × cz_V)) : Prop := match k with
  | 0 => F.1 = .inl none
  | 1 => ∃ v, F.1 = .inl (some v) ∧ L = [(0, v)]
  | k + 2 => ∃ r, F.1 = .inr r ∧ L = [(0, .inr (.inr (some r)))] ∧ cz_exc F.2 r = some k
def dz_post (T : dz_TT) (X : dz_X) (sp : dz_Sp) (ρ : Nat → Int) (τ : Nat → Nat) (h : cz_H) (F : cz_F) : Prop := ∃ al ∈ sp.2.2.2.1, ∃ ρ2 τ2 L2, dz_G T X (dz_ini al.2) ρ2 τ2 F.2 L2 [] ∧ al.2.1 = (dz_ini sp.2.2.1).1 ∧ (∀ i, i < (dz_ini sp.2.2.1).1 → ρ2 i = ρ i) ∧ dz_Fr sp.2.2.2.2 τ h τ2 F.2 ∧ dz_res al.1 F L2
def dz_spec (T : dz_TT) (X : dz_X) (P : cz_P) (sp : dz_Sp) : Prop := ∀ M, P.1[sp.1]? = some M → ∀ d, sp.2.1 ≤ d → ∀ ρ τ h L, dz_G T X (dz_ini sp.2.2.1) ρ τ h L [] → dz_WP P d M 0 L [] h (dz_post T X sp ρ τ h)
noncomputable def dz_vars (n : Nat) (k : Nat) : List dz_E := (List.range k).map (fun i => dz_var (Nat.add n i))
noncomputable def dz_sbA (θ : List dz_E) (a : dz_A) : dz_A := (a.1, dz_sbt θ a.2.1, a.2.2)
noncomputable def dz_sbM (θ : List dz_E) (m : dz_M) : dz_M := (dz_sbt θ m.1, m.2.1, dz_sbt θ m.2.2.1, dz_sbA θ m.2.2.2)
noncomputable def dz_sbK (θ : List dz_E) (k : dz_K) : dz_K := (dz_sbt θ k.1, k.2.1, dz_sbt θ k.2.2.1, dz_sbt θ k.2.2.2.1, dz_sbt θ k.2.2.2.2.1, dz_sbt θ k.2.2.2.2.2.1, dz_sbt θ k.2.2.2.2.2.2)
noncomputable def dz_mdt (l : dz_Md) (t : Nat) : Bool := List.rec false (fun q _ ih => Nat.beq q.1 t || ih) l
theorem dz_mdt_f {t : Nat} : ∀ {l : dz_Md}, dz_mdt l t = false → ∀ i, dz_mdf l t i = false
  | [], h, i => rfl
  | q :: r, h, i => by
    have h : (Nat.beq q.1 t || dz_mdt r t) = false := h
    show ((Nat.beq q.1 t && (Nat.beq q.2 0 || Nat.beq q.2 (Nat.succ i))) || dz_mdf r t i) = false
    simp only [Bool.or_eq_false_iff] at h
    rw [h.1, dz_mdt_f h.2 i]
    rfl
/-- is a known slot untouched -/
noncomputable def dz_mkp (md : dz_Md) (m : dz_M) : Bool := match m.2.2.1 with
  | (.ofNat i, []) => !(dz_mdf md m.2.1 i)
  | _ => !(dz_mdt md m.2.1)
noncomputable def dz_kkp (md : dz_Md) (k : dz_K) : dz_K := bif dz_mdt md k.2.1 then dz_kl k else k
/-- behind a call -/
noncomputable def dz_aft (S : dz_S) (θ : List dz_E) (al : dz_Al) (md : dz_Md) (m : Nat) (l : List (Nat × dz_A)) (as : List dz_A) : dz_S := (m, (al.2.2.2.map (dz_sbt θ)) ++ S.2.1, l, as, ((dz_inM al.2.2.1 (Nat.add al.2.1 2)).map (dz_sbM θ)) ++ cz_fil (dz_mkp md) S.2.2.2.2.1, ((dz_inK al.2.2.1 (Nat.add al.2.1 2)).map (dz_sbK θ)) ++ S.2.2.2.2.2.1.map (dz_kkp md), dz_sbt θ (dz_var al.2.1), dz_sbt θ (dz_var (Nat.add al.2.1 1)))
section DzCall
variable {T : dz_TT} {X : dz_X} {S : dz_S} {ρ ρ2 : Nat → Int} {τ τ2 : Nat → Nat} {h h2 : cz_H} {L L2 : List (Nat × cz_V)} {st w : List cz_V}
theorem dz_mo_fr {n : Nat} {md : dz_Md} (hf : dz_Fr md τ h τ2 h2) {m : dz_M} (hm : dz_mo n ρ τ h m) (hk : dz_mkp md m = true) : dz_mo n ρ τ2 h2 m := by
  obtain ⟨r, i, v, h1, h2', h3, h4, h5⟩ := hm
  have h0 : τ r ≠ 0 := by rw [h2'.1]; exact h2'.2
  refine ⟨r, i, v, h1, ⟨(hf.1 r h0).trans h2'.1, h2'.2⟩, h3, ?_, dz_vo_tn hf.1 h5⟩
  rw [hf.2.2.1 r h0 i ?_]
  · exact h4
  · rw [h2'.1]
    unfold dz_mkp at hk
    split at hk
    · rename_i j hj
      rw [hj] at h3
      have e := dz_cst_eq h3
      have e : i = j := by have e : (i : Int) = (j : Int) := e; omega
      rw [e]
      simpa using hk
    · exact dz_mdt_f (by simpa using hk) i
theorem dz_ko_fr {n : Nat} {md : dz_Md} (hf : dz_Fr md τ h τ2 h2) {k : dz_K} (hk : dz_ko n ρ τ h k) : dz_ko n ρ τ2 h2 (dz_kkp md k) := by
  unfold dz_kkp
  obtain ⟨r, q, s, u, lo, hi, h1, h2', h3, h4, h5, h6, h7, h8, h9⟩ := hk
  have h0 : τ r ≠ 0 := by rw [h2'.1]; exact h2'.2
  have ha := hf.2.1 r h0
  rw [h3] at ha
  cases hc : h2.2.2 r with
  | inr q' => rw [hc] at ha; obtain q' | q' := q' <;> cases ha
  | inl q' =>
    rw [hc] at ha
    simp only [dz_al, Sum.inl.injEq, Prod.mk.injEq] at ha
    cases hb : dz_mdt md k.2.1 with
    | true => exact ⟨r, q', 0, 0, lo, hi, h1, ⟨(hf.1 r h0).trans h2'.1, h2'.2⟩, hc, by rw [ha.2]; exact h4, dz_ok_cst 0, dz_ok_cst 0, h7, h8, fun i a1 a2 _ => by omega⟩
    | false =>
      refine ⟨r, q', s, u, lo, hi, h1, ⟨(hf.1 r h0).trans h2'.1, h2'.2⟩, hc, by rw [ha.2]; exact h4, h5, h6, h7, h8, fun i a1 a2 a3 => ?_⟩
      have e := hf.2.2.1 r h0 i (by rw [h2'.1]; exact dz_mdt_f hb i)
      rw [hc, h3] at e
      have e : (if i < q'.2.1 then some (q'.2.2 i) else none) = (if i < q.2.1 then some (q.2.2 i) else none) := e
      rw [if_pos a3, if_pos (by rw [← ha.2]; exact a3)] at e
      rw [Option.some.inj e]
      exact h9 i a1 a2 (by rw [← ha.2]; exact a3)
theorem dz_vo_sb {n m : Nat} {θ : List dz_E} (hθ : dz_th n ρ θ ρ2) (hm : m = θ.length) {a : dz_A} {v : cz_V} (hv : dz_vo m ρ2 τ a v) : dz_vo n ρ τ (dz_sbA θ a) v := ⟨hv.1, dz_sbt_ok hθ hm hv.2.1, hv.2.2⟩
theorem dz_mo_sb {n m : Nat} {θ : List dz_E} (hθ : dz_th n ρ θ ρ2) (hm : m = θ.length) {q : dz_M} (hq : dz_mo m ρ2 τ h q) : dz_mo n ρ τ h (dz_sbM θ q) := by
  obtain ⟨r, i, v, h1, h2, h3, h4, h5⟩ := hq
  exact ⟨r, i, v, dz_sbt_ok hθ hm h1, h2, dz_sbt_ok hθ hm h3, h4, dz_vo_sb hθ hm h5⟩
theorem dz_ko_sb {n m : Nat} {θ : List dz_E} (hθ : dz_th n ρ θ ρ2) (hm : m = θ.length) {k : dz_K} (hk : dz_ko m ρ2 τ h k) : dz_ko n ρ τ h (dz_sbK θ k) := by
  obtain ⟨r, q, s, u, lo, hi, h1, h2, h3, h4, h5, h6, h7, h8, h9⟩ := hk
  exact ⟨r, q, s, u, lo, hi, dz_sbt_ok hθ hm h1, h2, h3, dz_sbt_ok hθ hm h4, dz_sbt_ok hθ hm h5, dz_sbt_ok hθ hm h6, dz_sbt_ok hθ hm h7, dz_sbt_ok hθ hm h8, h9⟩
/-- the values of a callee's new unknowns, behind those of the caller -/
def dz_cat (n np : Nat) (ρ ρ2 : Nat → Int) : Nat → Int := fun i => if i < n then ρ i else ρ2 (np + (i - n))
theorem dz_cat_ext (n np m : Nat) (ρ ρ2 : Nat → Int) : dz_ext n ρ (n + m) (dz_cat n np ρ ρ2) := ⟨Nat.le_add_right _ _, fun i hi => by unfold dz_cat; rw [if_pos hi]⟩
theorem dz_aft_th {n np m : Nat} {θ : List dz_E} {ρp : Nat → Int} (hθ : dz_th n ρ θ ρp) (hl : θ.length = np) (ha : ∀ i, i < np → ρ2 i = ρp i) : dz_th (n + m) (dz_cat n np ρ ρ2) (θ ++ dz_vars n m) ρ2 := by
  intro i e he
  rw [dz_nth_eq] at he
  by_cases hi : i < θ.length
  · rw [List.getElem?_append_left hi] at he
    have h1 := hθ i e (by rw [dz_nth_eq]; exact he)
    rw [ha i (by omega)]
    exact h1.ext (dz_cat_ext n np m ρ ρ2)
  · rw [List.getElem?_append_right (by omega)] at he
    unfold dz_vars at he
    rw [List.getElem?_map] at he
    obtain ⟨j, hj, rfl⟩ := Option.map_eq_some_iff.mp he
    obtain ⟨hj1, hj2⟩ := List.getElem?_eq_some_iff.mp hj
    rw [List.getElem_range] at hj2
    rw [List.length_range] at hj1
    have h1 := dz_ok_var (n := n + m) (ρ := dz_cat n np ρ ρ2) (i := n + j) (by omega)
    have e1 : dz_cat n np ρ ρ2 (n + j) = ρ2 i := by
      unfold dz_cat
      rw [if_neg (by omega)]
      congr 1
      omega
    rw [e1] at h1
    exact h1
theorem dz_aft_ok (hG : dz_G T X S ρ τ h L st) {θ : List dz_E} {ρp : Nat → Int} {al : dz_Al} {md : dz_Md} {m : Nat} {as : List dz_A} (hθ : dz_th S.1 ρ θ ρp) (hl : θ.length = al.2.1) (ha : ∀ i, i < al.2.1 → ρ2 i = ρp i) (hA : dz_G T X (dz_ini al.2) ρ2 τ2 h2 L2 []) (hm : (dz_ini al.2).1 = al.2.1 + m) (hf : dz_Fr md τ h τ2 h2)
    (hs : dz_so (S.1 + m) (dz_cat S.1 al.2.1 ρ ρ2) τ2 as w) {l : List (Nat × dz_A)} {L' : List (Nat × cz_V)} (hL : dz_lo (S.1 + m) (dz_cat S.1 al.2.1 ρ ρ2) τ2 l L') : dz_G T X (dz_aft S (θ ++ dz_vars S.1 m) al md (S.1 + m) l as) (dz_cat S.1 al.2.1 ρ ρ2) τ2 h2 L' w := by
  have hx := dz_cat_ext S.1 al.2.1 m ρ ρ2
  have hth := dz_aft_th (m := m) hθ hl ha
  have hlen : (dz_ini al.2).1 = (θ ++ dz_vars S.1 m).length := by
    rw [hm, List.length_append, hl]
    unfold dz_vars
    rw [List.length_map, List.length_range]
  obtain ⟨a1, a2, a3, a4, a5, a6, a7, a8⟩ := hA
  refine ⟨?_, hL, hs, ?_, ?_, dz_sbt_ok hth hlen a6, dz_sbt_ok hth hlen a7, a8⟩
  · intro c hc
    rcases List.mem_append.mp hc with hc | hc
    · obtain ⟨c0, c1, rfl⟩ := List.mem_map.mp hc
      obtain ⟨x, x1, x2⟩ := a1 c0 c1
      exact ⟨x, x1, dz_sbt_ok hth hlen x2⟩
    · exact hG.1.ext hx c hc
  · intro q hq
    rcases List.mem_append.mp hq with hq | hq
    · obtain ⟨q0, q1, rfl⟩ := List.mem_map.mp hq
      exact dz_mo_sb hth hlen (a4 q0 q1)
    · obtain ⟨q1, q2⟩ := dz_fil_mem hq
      exact dz_mo_fr hf ((hG.2.2.2.1 q q1).ext hx) q2
  · intro k hk
    rcases List.mem_append.mp hk with hk | hk
    · obtain ⟨k0, k1, rfl⟩ := List.mem_map.mp hk
      exact dz_ko_sb hth hlen (a5 k0 k1)
    · obtain ⟨k0, k1, rfl⟩ := List.mem_map.mp hk
      exact dz_ko_fr hf ((hG.2.2.2.2.1 k0 k1).ext hx)
/-- arguments off the stack -/
noncomputable def dz_take (n : Nat) : List dz_A → Option (List dz_A × List dz_A) := Nat.rec (fun st => some ([], st)) (fun _ ih st => match st with
  | [] => none
  | v :: r => (match ih r with
    | some q => some (v :: q.1, q.2)
    | none => none)) n
theorem dz_take_ok {n : Nat} : ∀ {k : Nat} {l aw ar : List dz_A} {s : List cz_V}, dz_so n ρ τ l s → dz_take k l = some (aw, ar) → ∃ w r, cz_take k s = some (w, r) ∧ dz_so n ρ τ aw w ∧ dz_so n ρ τ ar r
  | 0, l, aw, ar, s, hs, ht => by cases ht; exact ⟨[], s, rfl, trivial, hs⟩
  | k + 1, [], aw, ar, s, hs, ht => by cases ht
  | k + 1, a :: l, aw, ar, s, hs, ht => by
    obtain ⟨v, s', rfl, h1, h2⟩ := hs.inv
    have ht : (match dz_take k l with
      | some q => some (a :: q.1, q.2)
      | none => none) = some (aw, ar) := ht
    split at ht
    · rename_i q hq
      cases ht
      obtain ⟨w, r, w1, w2, w3⟩ := dz_take_ok h2 hq
      refine ⟨v :: w, r, ?_, ⟨h1, w2⟩, w3⟩
      show (match cz_take k s' with
        | some q => some (v :: q.1, q.2)
        | none => none) = _
      rw [w1]
    · cases ht
theorem dz_so_app {n : Nat} : ∀ {l l' : List dz_A} {s s' : List cz_V}, dz_so n ρ τ l s → dz_so n ρ τ l' s' → dz_so n ρ τ (l ++ l') (s ++ s')
  | [], l', [], s', _, h => h
  | a :: l, l', v :: s, s', h, h' => ⟨h.1, dz_so_app h.2 h'⟩
theorem dz_so_rev {n : Nat} : ∀ {l : List dz_A} {s : List cz_V}, dz_so n ρ τ l s → dz_so n ρ τ l.reverse s.reverse
  | [], [], _ => trivial
  | a :: l, v :: s, h => by
    rw [List.reverse_cons, List.reverse_cons]
    exact dz_so_app (dz_so_rev h.2) ⟨h.1, trivial⟩
noncomputable def dz_argl (l : List dz_A) : Nat → List (Nat × dz_A) := List.rec (fun _ => []) (fun a _ ih j => dz_fn j (fun j => (j, a) :: ih (Nat.add j (bif Nat.beq a.1 2 then 2 else 1)))) l
theorem dz_argl_cons (a : dz_A) (l : List dz_A) (j : Nat) : dz_argl (a :: l) j = (j, a) :: dz_argl l (j + (bif Nat.beq a.1 2 then 2 else 1)) := rfl
theorem dz_argl_ge : ∀ {l : List dz_A} {j : Nat}, ∀ q ∈ dz_argl l j, j ≤ q.1
  | [], j => fun q hq => by cases hq
  | a :: l, j => fun q hq => by
    rw [dz_argl_cons] at hq
    rcases List.mem_cons.mp hq with rfl | hq
    · exact Nat.le_refl _
    · have := dz_argl_ge q hq
      omega
theorem cz_argl_cons (j : Nat) (v : cz_V) (s : List cz_V) : cz_argl j (v :: s) = (j, v) :: cz_argl (j + (bif Nat.beq (dz_k v) 2 then 2 else 1)) s := by
  obtain x | x | x := v <;> rfl
theorem dz_argl_ok {n : Nat} : ∀ {l : List dz_A} {s : List cz_V} {j : Nat}, dz_so n ρ τ l s → dz_lo n ρ τ (dz_argl l j) (cz_argl j s)
  | [], [], j, _ => fun q hq => by cases hq
  | a :: l, v :: s, j, h => by
    rw [dz_argl_cons]
    have hc : cz_argl j (v :: s) = (j, v) :: cz_argl (j + (bif Nat.beq a.1 2 then 2 else 1)) s := by
      rw [cz_argl_cons, h.1.1]
    rw [hc]
    intro q hq
    rcases List.mem_cons.mp hq with rfl | hq
    · refine ⟨v, ?_, h.1⟩
      rw [cz_find_cons]
      show (bif Nat.beq j j then some v else _) = _
      rw [Nat.beq_refl]
      rfl
    · obtain ⟨v', h1, h2⟩ := dz_argl_ok h.2 q hq
      have hge := dz_argl_ge q hq
      refine ⟨v', ?_, h2⟩
      have h1' : (1 : Nat) ≤ (bif Nat.beq a.1 2 then 2 else 1) := by cases Nat.beq a.1 2 <;> decide
      have hne : j ≠ q.1 := by omega
      rw [cz_find_cons, dz_beq_ne hne]
      exact h1
noncomputable def dz_cat2 (l : List dz_A) : Nat := List.rec 0 (fun a _ ih => Nat.add (bif Nat.beq a.1 2 then 2 else 1) ih) l
theorem dz_cat2_ok {n : Nat} : ∀ {l : List dz_A} {s : List cz_V}, dz_so n ρ τ l s → cz_cat2 s = dz_cat2 l
  | [], [], _ => rfl
  | a :: l, v :: s, h => by
    have ih := dz_cat2_ok h.2
    show ((v :: s).map (fun v => match v with | .inr (.inl _) => 2 | _ => 1)).sum = Nat.add (bif Nat.beq a.1 2 then 2 else 1) (dz_cat2 l)
    rw [List.map_cons, List.sum_cons, ← ih, ← h.1.1]
    obtain x | x | x := v <;> rfl
/-- the call that an instruction makes -/
noncomputable def dz_cal (T : dz_TT) (i : Instr) (M : cz_M) (hn : dz_Hn) (S : dz_S) : Option (Nat × List dz_A × List dz_A) := match i with
  | .invokestatic x => (match cz_lk M x with
    | some q => bif Nat.beq q.1 2 then (match dz_take q.2.2.1 S.2.2.2.1 with
      | some w => some (q.2.1, w.1.reverse, w.2)
      | none => none) else none
    | none => none)
  | .invokevirtual x => (match cz_lk M x with
    | some q => bif Nat.beq q.1 3 then (match dz_take q.2.2.1 S.2.2.2.1 with
      | some w => (match w.2 with
        | a :: r => (match T a.2.2 with
          | some ti => bif (Nat.beq a.1 3 && dz_pf S.2.1 (dz_ct hn 0) (dz_plus a.2.1 (-1))) && (Nat.beq ti.1 0 && Nat.beq ti.2.1 q.2.2.2) then some (q.2.1, a :: w.1.reverse, r) else none
          | none => none)
        | [] => none)
      | none => none) else none
    | none => none)
  | .invokespecial x => (match cz_lk M x with
    | some q => bif Nat.beq q.1 4 || Nat.beq q.1 5 then (match dz_take q.2.2.1 S.2.2.2.1 with
      | some w => (match w.2 with
        | a :: r => bif Nat.beq a.1 3 && dz_pf S.2.1 (dz_ct hn 0) (dz_plus a.2.1 (-1)) then some (q.2.1, a :: w.1.reverse, r) else none
        | [] => none)
      | none => none) else bif Nat.beq q.1 20 then (match dz_take q.2.2.1 S.2.2.2.1 with
      | some w => (match w.2 with
        | a :: r => (match T a.2.2 with
          | some ti => bif (Nat.beq a.1 3 && dz_pf S.2.1 (dz_ct hn 0) (dz_plus a.2.1 (-1))) && (Nat.beq ti.1 0 && Nat.beq ti.2.1 q.2.2.2) then some (q.2.1, a :: w.1.reverse, r) else none
          | none => none)
        | [] => none)
      | none => none) else none
    | none => none)
  | _ => none
set_option maxHeartbeats 4000000 in
theorem dz_cal_ok {P : cz_P} {M : cz_M} {i : Instr} {hn : dz_Hn} {d pc nL y : Nat} {tt : Option FieldType} {aas ar : List dz_A} (hG : dz_G T X S ρ τ h L st) (hc : dz_cal T i M hn S = some (y, aas, ar)) : cz_pure i nL L st = none ∧ cz_br i pc st = none ∧ cz_ret i tt st = none ∧ cz_throw M pc i = none ∧ cz_hp P M d pc st h i = none ∧ cz_len i = 3 ∧ ∃ as rest, cz_call i M st h = some (y, as, rest) ∧ dz_so S.1 ρ τ aas as ∧ dz_so S.1 ρ τ ar rest := by
  have hs := hG.2.2.1
  cases i
  case invokestatic x =>
    refine ⟨rfl, rfl, rfl, rfl, ?_, rfl, ?_⟩
    · simp only [dz_cal] at hc
      split at hc
      · rename_i q hq
        cases hk : Nat.beq q.1 2 with
        | false => rw [hk] at hc; cases hc
        | true =>
          have e := Nat.eq_of_beq_eq_true hk
          have h1 : cz_hcpy M d x pc st h = none := by
            unfold cz_hcpy
            split
            · rw [hq]
              dsimp only
              rw [e]
              rfl
            · rfl
          have h2 : cz_hci M d x pc st h = none := by
            unfold cz_hci
            split
            · rw [hq]
              dsimp only
              rw [e]
              rfl
            · rfl
          show (match cz_hcpy M d x pc st h with
            | some q => some q
            | none => cz_hci M d x pc st h) = none
          rw [h1]
          exact h2
      · cases hc
    · simp only [dz_cal] at hc
      split at hc
      · rename_i q hq
        cases hk : Nat.beq q.1 2 with
        | false => rw [hk] at hc; cases hc
        | true =>
          rw [hk] at hc
          simp only [cond_true] at hc
          split at hc
          · rename_i w hw
            cases hc
            obtain ⟨w', r, w1, w2, w3⟩ := dz_take_ok hs hw
            refine ⟨w'.reverse, r, ?_, dz_so_rev w2, w3⟩
            show cz_cS x M st = _
            unfold cz_cS
            rw [hq]
            dsimp only
            rw [hk]
            simp only [cond_true, w1]
          · cases hc
      · cases hc
  case invokevirtual x =>
    refine ⟨rfl, rfl, rfl, rfl, ?_, rfl, ?_⟩
    · simp only [dz_cal] at hc
      split at hc
      · rename_i q hq
        cases hk : Nat.beq q.1 3 with
        | false => rw [hk] at hc; cases hc
        | true =>
          have e := Nat.eq_of_beq_eq_true hk
          show cz_hcl M d x pc st h = none
          unfold cz_hcl
          split
          · rw [hq]
            dsimp only
            rw [e]
            rfl
          · rfl
      · cases hc
    simp only [dz_cal] at hc
    split at hc
    · rename_i q hq
      cases hk : Nat.beq q.1 3 with
      | false => rw [hk] at hc; cases hc
      | true =>
        rw [hk] at hc
        simp only [cond_true] at hc
        split at hc
        · rename_i w hw
          obtain ⟨w', r', w1, w2, w3⟩ := dz_take_ok hs hw
          split at hc
          · rename_i a r he
            rw [he] at w3
            obtain ⟨v, r2, rfl, v1, v2⟩ := w3.inv
            split at hc
            · rename_i ti hti
              cases hb : ((Nat.beq a.1 3 && dz_pf S.2.1 (dz_ct hn 0) (dz_plus a.2.1 (-1))) && (Nat.beq ti.1 0 && Nat.beq ti.2.1 q.2.2.2)) with
              | false => rw [hb] at hc; cases hc
              | true =>
                rw [hb] at hc
                cases hc
                simp only [Bool.and_eq_true] at hb
                obtain ⟨rr, rfl, k1, k2, k3⟩ := v1.at hb.1.1 (fun x hx => by have := dz_pf_ok hG.1 (dz_ok_plus (-1) hx) hb.1.2; omega)
                obtain ⟨vs, o1, _⟩ := dz_obj_at hG.2.2.2.2.2.2.2 (r := rr) (by rw [k2]; exact k3) (by rw [k2]; exact hti) hb.2.1
                refine ⟨.inr (.inr (some rr)) :: w'.reverse, r2, ?_, ⟨v1, dz_so_rev w2⟩, v2⟩
                show cz_cV x M st h = _
                unfold cz_cV
                rw [hq]
                dsimp only
                rw [hk]
                simp only [cond_true, w1, o1, hb.2.2]
            · cases hc
          · cases hc
        · cases hc
    · cases hc
  case invokespecial x =>
    refine ⟨rfl, rfl, rfl, rfl, ?_, rfl, ?_⟩
    · simp only [dz_cal] at hc
      split at hc
      · rename_i q hq
        have e : Nat.beq q.1 6 = false := by
          cases hk : (Nat.beq q.1 4 || Nat.beq q.1 5) with
          | false =>
            rw [hk] at hc
            simp only [cond_false] at hc
            cases hk2 : Nat.beq q.1 20 with
            | false => rw [hk2] at hc; cases hc
            | true => rw [Nat.eq_of_beq_eq_true hk2]; rfl
          | true =>
            simp only [Bool.or_eq_true] at hk
            rcases hk with k | k <;> rw [Nat.eq_of_beq_eq_true k] <;> rfl
        show cz_hobj M d x pc st h = none
        unfold cz_hobj
        split
        · rw [hq]
          dsimp only
          rw [e]
          rfl
        · rfl
      · cases hc
    · simp only [dz_cal] at hc
      split at hc
      · rename_i q hq
        cases hk : (Nat.beq q.1 4 || Nat.beq q.1 5) with
        | false =>
          rw [hk] at hc
          simp only [cond_false] at hc
          cases hk2 : Nat.beq q.1 20 with
          | false => rw [hk2] at hc; cases hc
          | true =>
            rw [hk2] at hc
            simp only [cond_true] at hc
            split at hc
            · rename_i w hw
              obtain ⟨w', r', w1, w2, w3⟩ := dz_take_ok hs hw
              split at hc
              · rename_i a r he
                rw [he] at w3
                obtain ⟨v, r2, rfl, v1, v2⟩ := w3.inv
                split at hc
                · rename_i ti hti
                  cases hb : ((Nat.beq a.1 3 && dz_pf S.2.1 (dz_ct hn 0) (dz_plus a.2.1 (-1))) && (Nat.beq ti.1 0 && Nat.beq ti.2.1 q.2.2.2)) with
                  | false => rw [hb] at hc; cases hc
                  | true =>
                    rw [hb] at hc
                    cases hc
                    simp only [Bool.and_eq_true] at hb
                    obtain ⟨rr, rfl, k1, k2, k3⟩ := v1.at hb.1.1 (fun x hx => by have := dz_pf_ok hG.1 (dz_ok_plus (-1) hx) hb.1.2; omega)
                    obtain ⟨vs, o1, _⟩ := dz_obj_at hG.2.2.2.2.2.2.2 (r := rr) (by rw [k2]; exact k3) (by rw [k2]; exact hti) hb.2.1
                    refine ⟨.inr (.inr (some rr)) :: w'.reverse, r2, ?_, ⟨v1, dz_so_rev w2⟩, v2⟩
                    have hI : cz_cI x M st = none := by
                      unfold cz_cI
                      rw [hq]
                      dsimp only
                      rw [hk]
                      rfl
                    show (match cz_cI x M st with
                      | some v => some v
                      | none => cz_cU x M st h) = _
                    rw [hI]
                    show cz_cU x M st h = _
                    unfold cz_cU
                    rw [hq]
                    dsimp only
                    rw [hk2]
                    simp only [cond_true, w1, o1, hb.2.2]
                · cases hc
              · cases hc
            · cases hc
        | true =>
          rw [hk] at hc
          simp only [cond_true] at hc
          split at hc
          · rename_i w hw
            obtain ⟨w', r', w1, w2, w3⟩ := dz_take_ok hs hw
            split at hc
            · rename_i a r he
              rw [he] at w3
              obtain ⟨v, r2, rfl, v1, v2⟩ := w3.inv
              cases hb : (Nat.beq a.1 3 && dz_pf S.2.1 (dz_ct hn 0) (dz_plus a.2.1 (-1))) with
              | false => rw [hb] at hc; cases hc
              | true =>
                rw [hb] at hc
                cases hc
                simp only [Bool.and_eq_true] at hb
                obtain ⟨rr, rfl, k1, k2, k3⟩ := v1.at hb.1 (fun x hx => by have := dz_pf_ok hG.1 (dz_ok_plus (-1) hx) hb.2; omega)
                refine ⟨.inr (.inr (some rr)) :: w'.reverse, r2, ?_, ⟨v1, dz_so_rev w2⟩, v2⟩
                have hI : cz_cI x M st = some (q.2.1, .inr (.inr (some rr)) :: w'.reverse, r2) := by
                  unfold cz_cI
                  rw [hq]
                  dsimp only
                  rw [hk]
                  simp only [cond_true, w1]
                show (match cz_cI x M st with
                  | some v => some v
                  | none => cz_cU x M st h) = _
                rw [hI]
            · cases hc
          · cases hc
      · cases hc
  all_goals (exact absurd hc (by simp [dz_cal]))
end DzCall
