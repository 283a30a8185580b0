/-! L2, part 11: making cells; constants; Object's constructor. -/
abbrev dz_Sa : Type := dz_S → Nat → dz_Hn → Bool
def dz_XA (T : dz_TT) (X : dz_X) (sa : dz_Sa) : Prop := ∀ (S : dz_S) (ρ : Nat → Int) (τ : Nat → Nat) (h : cz_H) (L : List (Nat × cz_V)) (st : List cz_V) (n t : Nat) (c : cz_C) (hn : dz_Hn), dz_G T X S ρ τ h L st → t ≠ 0 → cz_room h 1 n = true → (∀ i v, dz_get c i = some v → dz_n v = 0) → sa S t hn = true → X (dz_tn τ h.1 t) (cz_push h n c)
noncomputable def dz_room (S : dz_S) (c1 c2 : dz_Ct) (n : dz_E) : Bool := dz_pf S.2.1 c1 (dz_sub (dz_cst 600191) S.2.2.2.2.2.2.1) && dz_pf S.2.1 c2 (dz_sub (dz_sub (dz_cst 7302232) S.2.2.2.2.2.2.2) n)
section DzMk
variable {T : dz_TT} {X : dz_X} {S S' : dz_S} {ρ : Nat → Int} {τ : Nat → Nat} {h : cz_H} {L : List (Nat × cz_V)} {st w : List cz_V}
theorem dz_room_ok (hG : dz_G T X S ρ τ h L st) {c1 c2 : dz_Ct} {n : dz_E} {k : Nat} (hn : dz_ok S.1 ρ n (k : Int)) (hr : dz_room S c1 c2 n = true) : cz_room h 1 k = true := by
  simp only [dz_room, Bool.and_eq_true] at hr
  have b1 := dz_pf_ok hG.1 (dz_ok_sub (dz_ok_cst 600191) hG.2.2.2.2.2.1) hr.1
  have b2 := dz_pf_ok hG.1 (dz_ok_sub (dz_ok_sub (dz_ok_cst 7302232) hG.2.2.2.2.2.2.1) hn) hr.2
  simp only [cz_room, Bool.and_eq_true, Nat.ble_eq]
  omega
/-- the state behind it -/
noncomputable def dz_nw (S : dz_S) (as : List dz_A) (Ms : List dz_M) (Ks : List dz_K) (n : dz_E) : dz_S := (S.1, S.2.1, S.2.2.1, as, Ms ++ S.2.2.2.2.1, Ks ++ S.2.2.2.2.2.1, dz_plus S.2.2.2.2.2.2.1 1, dz_add S.2.2.2.2.2.2.2 n)
theorem dz_G.new (hG : dz_G T X S ρ τ h L st) {n t : Nat} {c : cz_C} {ti : dz_I} {as : List dz_A} {Ms : List dz_M} {Ks : List dz_K} {ne : dz_E} (h0 : t ≠ 0) (hti : T t = some ti) (hsh : dz_sh ti c) (hsl : ∀ i v, dz_get c i = some v → ∃ D, dz_ds ti i = some D ∧ dz_vd τ h.1 D v) (hX : X (dz_tn τ h.1 t) (cz_push h n c)) (hne : dz_ok S.1 ρ ne (n : Int)) (hs : dz_so S.1 ρ (dz_tn τ h.1 t) as w) (hM : ∀ m ∈ Ms, dz_mo S.1 ρ (dz_tn τ h.1 t) (cz_push h n c) m) (hK : ∀ k ∈ Ks, dz_ko S.1 ρ (dz_tn τ h.1 t) (cz_push h n c) k) :
    dz_G T X (dz_nw S as Ms Ks ne) ρ (dz_tn τ h.1 t) (cz_push h n c) L w ∧ (∀ r, τ r ≠ 0 → dz_tn τ h.1 t r = τ r) ∧ (∀ r, τ r ≠ 0 → (cz_push h n c).2.2 r = h.2.2 r) := by
  obtain ⟨g1, g2, g3, g4, g5, g6, g7, g8⟩ := hG
  obtain ⟨b1, b2, b3⟩ := dz_B_new g8 h0 hti hsh hsl hX (n := n)
  refine ⟨⟨g1, dz_lo_tn b2 g2, hs, ?_, ?_, ?_, ?_, b1⟩, b2, b3⟩
  · intro m hm
    rcases List.mem_append.mp hm with hm | hm
    · exact hM m hm
    · exact dz_mo_tn b2 b3 (g4 m hm)
  · intro k hk
    rcases List.mem_append.mp hk with hk | hk
    · exact hK k hk
    · exact dz_ko_tn b2 b3 (g5 k hk)
  · show dz_ok S.1 ρ (dz_plus _ 1) (((h.1 + 1 : Nat)) : Int)
    rw [show (((h.1 + 1 : Nat)) : Int) = (h.1 : Int) + 1 by omega]
    exact dz_ok_plus 1 g6
  · show dz_ok S.1 ρ (dz_add _ ne) (((h.2.1 + n : Nat)) : Int)
    rw [show (((h.2.1 + n : Nat)) : Int) = (h.2.1 : Int) + (n : Int) by omega]
    exact dz_ok_add g7 hne
theorem dz_new_ref (hG : dz_G T X S ρ τ h L st) {t : Nat} (h0 : t ≠ 0) : dz_vo S.1 ρ (dz_tn τ h.1 t) (3, dz_plus S.2.2.2.2.2.2.1 1, t) (.inr (.inr (some h.1))) := by
  refine ⟨rfl, dz_ok_plus 1 hG.2.2.2.2.2.1, fun r hr => ?_⟩
  cases hr
  exact ⟨by unfold dz_tn; rw [if_pos rfl], h0⟩
/-- an object's kinds, as the machine has them and as the tag has them -/
noncomputable def dz_ke (ks : List Nat) : List dz_D → Bool := List.rec (fun ds => ds.isEmpty) (fun k _ ih ds => match ds with
  | [] => false
  | D :: ds => (Nat.beq k D.1 && dz_d0 D) && ih ds) ks
theorem dz_ke_ok : ∀ {ks : List Nat} {ds : List dz_D}, dz_ke ks ds = true → ks.length = ds.length ∧ ∀ (i : Nat) (D : dz_D), ds[i]? = some D → ks[i]? = some D.1 ∧ dz_d0 D = true
  | [], [], _ => ⟨rfl, fun i D h => by cases h⟩
  | [], D :: ds, h => by cases h
  | k :: ks, [], h => by cases h
  | k :: ks, D :: ds, h => by
    have h : ((Nat.beq k D.1 && dz_d0 D) && dz_ke ks ds) = true := h
    simp only [Bool.and_eq_true] at h
    obtain ⟨h1, h2⟩ := dz_ke_ok h.2
    refine ⟨by simp only [List.length_cons, h1], fun i D' hi => ?_⟩
    cases i with
    | zero => cases hi; exact ⟨by show some k = _; rw [Nat.eq_of_beq_eq_true h.1.1], h.1.2⟩
    | succ i => exact h2 i D' hi
noncomputable def dz_nf (p : dz_E) (t : Nat) (ds : List dz_D) : Nat → List dz_M := List.rec (fun _ => []) (fun D _ ih j => (p, t, dz_cst (.ofNat j), (dz_kc D.1, dz_cst 0, D.2.2.2.1)) :: ih (Nat.add j 1)) ds
theorem dz_nf_ok {n : Nat} {τ' : Nat → Nat} {h' : cz_H} {p : dz_E} {t r : Nat} (hp : dz_ok n ρ p ((r : Int) + 1)) (ht : τ' r = t) (h0 : t ≠ 0) : ∀ {ds : List dz_D} {j : Nat}, (∀ (i : Nat) (D : dz_D), ds[i]? = some D → dz_get (h'.2.2 r) (j + i) = some (cz_dflt D.1) ∧ dz_d0 D = true) → ∀ m ∈ dz_nf p t ds j, dz_mo n ρ τ' h' m
  | [], j, _ => fun m hm => by cases hm
  | D :: ds, j, hd => fun m hm => by
    have hm : m ∈ (p, t, dz_cst (.ofNat j), (dz_kc D.1, dz_cst 0, D.2.2.2.1)) :: dz_nf p t ds (j + 1) := hm
    rcases List.mem_cons.mp hm with rfl | hm
    · obtain ⟨a1, a2⟩ := hd 0 D rfl
      have hv := dz_vd0 (τ := τ') (r := r) a2
      have hn : dz_n (cz_dflt D.1) = 0 := by
        unfold cz_dflt
        split <;> rfl
      refine ⟨r, j, cz_dflt D.1, hp, ⟨ht, h0⟩, dz_ok_cst _, a1, dz_fit_k hv.1, ?_, fun q hq => ?_⟩
      · rw [hn]; exact dz_ok_cst 0
      · unfold cz_dflt at hq
        split at hq <;> cases hq
    · refine dz_nf_ok hp ht h0 (ds := ds) (j := j + 1) (fun i D' hi => ?_) m hm
      have := hd (i + 1) D' hi
      rw [show j + 1 + i = j + (i + 1) by omega]
      exact this
theorem dz_dflt_n (c : Nat) : dz_n (cz_dflt c) = 0 := by
  unfold cz_dflt
  split <;> rfl
/-- new: the tag, and 1 where its slots are to be known -/
noncomputable def dz_new (T : dz_TT) (P : cz_P) (sa : dz_Sa) (M : cz_M) (x : Nat) (hn : dz_Hn) (S : dz_S) : Option dz_S := match cz_lk M x with
  | some q => (match P.2.1[q.2.1]?, T (dz_num hn 0) with
    | some ks, some ti => bif (Nat.beq q.1 8 && !(Nat.beq (dz_num hn 0) 0)) && ((Nat.beq ti.1 0 && Nat.beq ti.2.1 q.2.1) && (dz_ke ks ti.2.2.2.2 && (dz_room S (dz_ct hn 0) (dz_ct hn 1) (dz_cst (.ofNat ks.length)) && sa S (dz_num hn 0) hn))) then
        some (dz_nw S ((3, dz_plus S.2.2.2.2.2.2.1 1, dz_num hn 0) :: S.2.2.2.1) (bif Nat.beq (dz_num hn 1) 1 then dz_nf (dz_plus S.2.2.2.2.2.2.1 1) (dz_num hn 0) ti.2.2.2.2 0 else []) [] (dz_cst (.ofNat ks.length))) else none
    | _, _ => none)
  | none => none
theorem dz_new_ok {P : cz_P} {sa : dz_Sa} (hX : dz_XA T X sa) {M : cz_M} {d pc x : Nat} {hn : dz_Hn} (hG : dz_G T X S ρ τ h L st) (hp : dz_new T P sa M x hn S = some S') : ∃ st' n c t, t ≠ 0 ∧ cz_hp P M d pc st h (.new x) = some (pc + 3, st', cz_push h n c) ∧ dz_G T X S' ρ (dz_tn τ h.1 t) (cz_push h n c) L st' ∧ S'.1 = S.1 ∧ (∀ r, τ r ≠ 0 → dz_tn τ h.1 t r = τ r) ∧ (∀ r, τ r ≠ 0 → (cz_push h n c).2.2 r = h.2.2 r) := by
  unfold dz_new at hp
  split at hp
  · rename_i q hq
    split at hp
    · rename_i ks ti hks hti
      cases hb : ((Nat.beq q.1 8 && !(Nat.beq (dz_num hn 0) 0)) && ((Nat.beq ti.1 0 && Nat.beq ti.2.1 q.2.1) && (dz_ke ks ti.2.2.2.2 && (dz_room S (dz_ct hn 0) (dz_ct hn 1) (dz_cst (.ofNat ks.length)) && sa S (dz_num hn 0) hn)))) with
      | false => rw [hb] at hp; cases hp
      | true =>
        rw [hb] at hp
        cases hp
        simp only [Bool.and_eq_true, Bool.not_eq_true'] at hb
        obtain ⟨⟨b1, b2⟩, ⟨b3, b4⟩, b5, b6, b7⟩ := hb
        have h0 : dz_num hn 0 ≠ 0 := fun e => by rw [e] at b2; cases b2
        have e3 := Nat.eq_of_beq_eq_true b3
        have e4 := Nat.eq_of_beq_eq_true b4
        obtain ⟨l1, l2⟩ := dz_ke_ok b5
        have hroom := dz_room_ok hG (dz_ok_cst (.ofNat ks.length)) b6
        have hget : ∀ i v, dz_get (.inr (.inl (q.2.1, ks.map cz_dflt))) i = some v → ∃ k, ks[i]? = some k ∧ v = cz_dflt k := by
          intro i v hv
          have hv : (ks.map cz_dflt)[i]? = some v := hv
          rw [List.getElem?_map] at hv
          obtain ⟨k, k1, k2⟩ := Option.map_eq_some_iff.mp hv
          exact ⟨k, k1, k2.symm⟩
        have hget2 : ∀ (i : Nat) (D : dz_D), ti.2.2.2.2[i]? = some D → dz_get (.inr (.inl (q.2.1, ks.map cz_dflt))) i = some (cz_dflt D.1) ∧ dz_d0 D = true := by
          intro i D hi
          obtain ⟨k1, k2⟩ := l2 i D hi
          refine ⟨?_, k2⟩
          show (ks.map cz_dflt)[i]? = _
          rw [List.getElem?_map, k1]
          rfl
        have hXn := hX S ρ τ h L st ks.length (dz_num hn 0) (.inr (.inl (q.2.1, ks.map cz_dflt))) hn hG h0 hroom (fun i v hv => by obtain ⟨k, _, rfl⟩ := hget i v hv; exact dz_dflt_n k) b7
        have hpl : (cz_push h ks.length (.inr (.inl (q.2.1, ks.map cz_dflt)))).2.2 h.1 = .inr (.inl (q.2.1, ks.map cz_dflt)) := by
          show (if h.1 = h.1 then _ else _) = _
          rw [if_pos rfl]
        have hgo := hG.new (n := ks.length) (as := (3, dz_plus S.2.2.2.2.2.2.1 1, dz_num hn 0) :: S.2.2.2.1) (w := .inr (.inr (some h.1)) :: st) (Ms := bif Nat.beq (dz_num hn 1) 1 then dz_nf (dz_plus S.2.2.2.2.2.2.1 1) (dz_num hn 0) ti.2.2.2.2 0 else []) (Ks := []) (ne := dz_cst (.ofNat ks.length)) h0 hti (c := .inr (.inl (q.2.1, ks.map cz_dflt))) ⟨e3, e4.symm, by rw [List.length_map]; exact l1⟩ ?_ hXn (dz_ok_cst _) ?_ ?_ (fun k hk => by cases hk)
        · refine ⟨_, _, _, _, h0, ?_, hgo.1, rfl, hgo.2.1, hgo.2.2⟩
          show cz_hnew P M x pc st h = _
          unfold cz_hnew
          simp only [hq, b1, cond_true, hks, hroom]
        · intro i v hv
          obtain ⟨k, k1, rfl⟩ := hget i v hv
          have hi : i < ti.2.2.2.2.length := by rw [← l1]; exact (List.getElem?_eq_some_iff.mp k1).1
          have hD := List.getElem?_eq_getElem hi
          obtain ⟨m1, m2⟩ := l2 i _ hD
          rw [m1] at k1
          cases k1
          refine ⟨_, ?_, dz_vd0 m2⟩
          unfold dz_ds
          rw [e3]
          show dz_nth ti.2.2.2.2 i = _
          rw [dz_nth_eq, hD]
        · refine ⟨dz_new_ref hG h0, dz_so_tn (fun r hr => ?_) hG.2.2.1⟩
          have := dz_here_lt (hG.2.2.2.2.2.2.2.1 r hr).1
          unfold dz_tn
          rw [if_neg (by omega)]
        · cases hz : Nat.beq (dz_num hn 1) 1 with
          | false => exact fun m hm => by cases hm
          | true =>
            refine dz_nf_ok (r := h.1) (dz_ok_plus 1 hG.2.2.2.2.2.1) (by unfold dz_tn; rw [if_pos rfl]) h0 (fun i D hi => ?_)
            rw [hpl, Nat.zero_add]
            exact hget2 i D hi
    · cases hp
  · cases hp
/-- what is known of a new array: 0 nothing, 1 a stretch, still empty, of what isn't null, 2 all 0 -/
noncomputable def dz_nk (p : dz_E) (t : Nat) (n : dz_E) (m : Nat) : List dz_K := bif Nat.beq m 0 then [] else bif Nat.beq m 1 then [(p, t, n, dz_cst 0, dz_cst 0, dz_cst 1, dz_cst 1000000)] else [(p, t, n, dz_cst 0, n, dz_cst 0, dz_cst 0)]
/-- an array of a type; the number of the tag, what is to be known -/
noncomputable def dz_mka (T : dz_TT) (sa : dz_Sa) (ty c : Nat) (hn : dz_Hn) (S : dz_S) : Option dz_S := match S.2.2.2.1 with
  | a :: r => (match T (dz_num hn 0) with
    | some ti => (match dz_nth ti.2.2.2.2 0 with
      | some D => bif (Nat.beq a.1 0 && !(Nat.beq (dz_num hn 0) 0)) && ((Nat.beq ti.1 1 && Nat.beq ti.2.1 ty) && ((Nat.beq D.1 c && dz_d0 D) && ((dz_room S (dz_ct hn 0) (dz_ct hn 1) a.2.1 && sa S (dz_num hn 0) hn) && (dz_pf S.2.1 (dz_ct hn 2) a.2.1 && (dz_pf S.2.1 (dz_ct hn 3) (dz_sub (dz_cst 67108864) a.2.1) && (dz_pf S.2.1 (dz_ct hn 4) (dz_plus a.2.1 (-ti.2.2.2.1.1)) && dz_pf S.2.1 (dz_ct hn 5) (dz_sub (dz_cst ti.2.2.2.1.2) a.2.1))))))) then
          some (dz_nw S ((3, dz_plus S.2.2.2.2.2.2.1 1, dz_num hn 0) :: r) [] (dz_nk (dz_plus S.2.2.2.2.2.2.1 1) (dz_num hn 0) a.2.1 (dz_num hn 1)) a.2.1) else none
      | none => none)
    | none => none)
  | _ => none
theorem dz_mka_ok {sa : dz_Sa} (hX : dz_XA T X sa) {ty c : Nat} {hn : dz_Hn} (hG : dz_G T X S ρ τ h L st) (hp : dz_mka T sa ty c hn S = some S') : ∃ (x : Int32) (wst : List cz_V) (t : Nat), st = .inl x :: wst ∧ (t ≠ 0 ∧ t = dz_num hn 0) ∧ 0 ≤ x.toInt ∧ cz_room h 1 x.toInt.toNat = true ∧ x.toInt.toNat * 8 ≤ 536870912 ∧ dz_G T X S' ρ (dz_tn τ h.1 t) (cz_push h x.toInt.toNat (.inl (ty, x.toInt.toNat, fun _ => cz_dflt c))) L (.inr (.inr (some h.1)) :: wst) ∧ S'.1 = S.1 ∧ (∀ r, τ r ≠ 0 → dz_tn τ h.1 t r = τ r) ∧ (∀ r, τ r ≠ 0 → (cz_push h x.toInt.toNat (.inl (ty, x.toInt.toNat, fun _ => cz_dflt c))).2.2 r = h.2.2 r) := by
  have hs := hG.2.2.1
  unfold dz_mka at hp
  split at hp
  · rename_i a r he
    rw [he] at hs
    obtain ⟨v1, w, rfl, ha, h2⟩ := hs.inv
    split at hp
    · rename_i ti hti
      split at hp
      · rename_i D hD
        cases hb : ((Nat.beq a.1 0 && !(Nat.beq (dz_num hn 0) 0)) && ((Nat.beq ti.1 1 && Nat.beq ti.2.1 ty) && ((Nat.beq D.1 c && dz_d0 D) && ((dz_room S (dz_ct hn 0) (dz_ct hn 1) a.2.1 && sa S (dz_num hn 0) hn) && (dz_pf S.2.1 (dz_ct hn 2) a.2.1 && (dz_pf S.2.1 (dz_ct hn 3) (dz_sub (dz_cst 67108864) a.2.1) && (dz_pf S.2.1 (dz_ct hn 4) (dz_plus a.2.1 (-ti.2.2.2.1.1)) && dz_pf S.2.1 (dz_ct hn 5) (dz_sub (dz_cst ti.2.2.2.1.2) a.2.1)))))))) with
        | false => rw [hb] at hp; cases hp
        | true =>
          rw [hb] at hp
          cases hp
          simp only [Bool.and_eq_true, Bool.not_eq_true'] at hb
          obtain ⟨⟨b1, b2⟩, ⟨b3, b4⟩, ⟨b5, b6⟩, ⟨b7, b8⟩, b9, b10, b11, b12⟩ := hb
          have h0 : dz_num hn 0 ≠ 0 := fun e => by rw [e] at b2; cases b2
          obtain ⟨x, rfl, hx⟩ := ha.int b1
          have c9 := dz_pf_ok hG.1 hx b9
          have c10 := dz_pf_ok hG.1 (dz_ok_sub (dz_ok_cst 67108864) hx) b10
          have c11 := dz_pf_ok hG.1 (dz_ok_plus (-ti.2.2.2.1.1) hx) b11
          have c12 := dz_pf_ok hG.1 (dz_ok_sub (dz_ok_cst ti.2.2.2.1.2) hx) b12
          have hxn : x.toInt = ((x.toInt.toNat : Nat) : Int) := by omega
          have hx2 : dz_ok S.1 ρ a.2.1 ((x.toInt.toNat : Nat) : Int) := by rw [← hxn]; exact hx
          have hroom := dz_room_ok hG hx2 b7
          have ec := Nat.eq_of_beq_eq_true b5
          have hget : ∀ i v, dz_get (.inl (ty, x.toInt.toNat, fun _ => cz_dflt c)) i = some v → v = cz_dflt c := by
            intro i v hv
            have hv : (if i < x.toInt.toNat then some (cz_dflt c) else none) = some v := hv
            by_cases e : i < x.toInt.toNat
            · rw [if_pos e] at hv; cases hv; rfl
            · rw [if_neg e] at hv; cases hv
          have hXn := hX S ρ τ h L _ x.toInt.toNat (dz_num hn 0) (.inl (ty, x.toInt.toNat, fun _ => cz_dflt c)) hn hG h0 hroom (fun i v hv => by rw [hget i v hv]; exact dz_dflt_n c) b8
          have hpl : (cz_push h x.toInt.toNat (.inl (ty, x.toInt.toNat, fun _ => cz_dflt c))).2.2 h.1 = .inl (ty, x.toInt.toNat, fun _ => cz_dflt c) := by
            show (if h.1 = h.1 then _ else _) = _
            rw [if_pos rfl]
          have hτp : dz_tn τ h.1 (dz_num hn 0) h.1 = dz_num hn 0 := by unfold dz_tn; rw [if_pos rfl]
          have hgo := hG.new (n := x.toInt.toNat) (as := (3, dz_plus S.2.2.2.2.2.2.1 1, dz_num hn 0) :: r) (w := .inr (.inr (some h.1)) :: w) (Ms := []) (Ks := dz_nk (dz_plus S.2.2.2.2.2.2.1 1) (dz_num hn 0) a.2.1 (dz_num hn 1)) (ne := a.2.1) h0 hti (c := .inl (ty, x.toInt.toNat, fun _ => cz_dflt c)) ⟨Nat.eq_of_beq_eq_true b3, (Nat.eq_of_beq_eq_true b4).symm, by show _ ≤ ((x.toInt.toNat : Nat) : Int); omega, by show ((x.toInt.toNat : Nat) : Int) ≤ _; omega⟩ ?_ hXn hx2 ?_ (fun m hm => by cases hm) ?_
          · exact ⟨x, w, dz_num hn 0, rfl, ⟨h0, rfl⟩, c9, hroom, by omega, hgo.1, rfl, hgo.2.1, hgo.2.2⟩
          · intro i v hv
            rw [hget i v hv]
            refine ⟨D, ?_, by rw [← ec]; exact dz_vd0 b6⟩
            unfold dz_ds
            rw [Nat.eq_of_beq_eq_true b3]
            exact hD
          · refine ⟨dz_new_ref hG h0, dz_so_tn (fun r hr => ?_) h2⟩
            have := dz_here_lt (hG.2.2.2.2.2.2.2.1 r hr).1
            unfold dz_tn
            rw [if_neg (by omega)]
          · intro k hk
            unfold dz_nk at hk
            cases hz : Nat.beq (dz_num hn 1) 0 with
            | true => rw [hz] at hk; cases hk
            | false =>
              rw [hz] at hk
              simp only [cond_false] at hk
              cases hz1 : Nat.beq (dz_num hn 1) 1 with
              | true =>
                rw [hz1] at hk
                rw [List.mem_singleton.mp hk]
                exact ⟨h.1, _, 0, 0, 1, 1000000, dz_ok_plus 1 hG.2.2.2.2.2.1, ⟨hτp, h0⟩, hpl, hx2, dz_ok_cst 0, dz_ok_cst 0, dz_ok_cst 1, dz_ok_cst 1000000, fun i a1 a2 _ => by omega⟩
              | false =>
                rw [hz1] at hk
                rw [List.mem_singleton.mp hk]
                refine ⟨h.1, _, 0, _, 0, 0, dz_ok_plus 1 hG.2.2.2.2.2.1, ⟨hτp, h0⟩, hpl, hx2, dz_ok_cst 0, hx2, dz_ok_cst 0, dz_ok_cst 0, fun i a1 a2 _ => ?_⟩
                show 0 ≤ dz_n (cz_dflt c) ∧ dz_n (cz_dflt c) ≤ 0
                rw [dz_dflt_n]
                omega
      · cases hp
    · cases hp
  · cases hp
/-- newarray, anewarray -/
noncomputable def dz_na (T : dz_TT) (P : cz_P) (sa : dz_Sa) (t : ArrayType) (hn : dz_Hn) (S : dz_S) : Option dz_S := match cz_atn t with
  | some k => (match P.2.2[k]? with
    | some y => dz_mka T sa k y.1 hn S
    | none => none)
  | none => none
theorem dz_na_ok {P : cz_P} {sa : dz_Sa} (hX : dz_XA T X sa) {M : cz_M} {d pc : Nat} {ty : ArrayType} {hn : dz_Hn} (hG : dz_G T X S ρ τ h L st) (hp : dz_na T P sa ty hn S = some S') : ∃ st' n c t, t ≠ 0 ∧ cz_hp P M d pc st h (.newarray ty) = some (pc + 2, st', cz_push h n c) ∧ dz_G T X S' ρ (dz_tn τ h.1 t) (cz_push h n c) L st' ∧ S'.1 = S.1 ∧ (∀ r, τ r ≠ 0 → dz_tn τ h.1 t r = τ r) ∧ (∀ r, τ r ≠ 0 → (cz_push h n c).2.2 r = h.2.2 r) := by
  unfold dz_na at hp
  split at hp
  · rename_i k hk
    split at hp
    · rename_i y hy
      obtain ⟨x, w, t, rfl, ⟨h0, _⟩, h1, h2, h3, h4⟩ := dz_mka_ok hX hG hp
      refine ⟨_, _, _, t, h0, ?_, h4⟩
      show cz_hna P ty pc (.inl x :: w) h = _
      unfold cz_hna
      simp only [hk]
      rw [decide_eq_true h1, h2, Nat.ble_eq.mpr h3]
      simp only [Bool.and_self, cond_true, hy]
    · cases hp
  · cases hp
noncomputable def dz_nq (T : dz_TT) (sa : dz_Sa) (M : cz_M) (x : Nat) (hn : dz_Hn) (S : dz_S) : Option dz_S := match cz_lk M (x + 65536) with
  | some q => bif Nat.beq q.1 10 then dz_mka T sa q.2.1 3 hn S else none
  | none => none
theorem dz_nq_ok {P : cz_P} {sa : dz_Sa} (hX : dz_XA T X sa) {M : cz_M} {d pc x : Nat} {hn : dz_Hn} (hG : dz_G T X S ρ τ h L st) (hp : dz_nq T sa M x hn S = some S') : ∃ st' n c t, t ≠ 0 ∧ cz_hp P M d pc st h (.anewarray x) = some (pc + 3, st', cz_push h n c) ∧ dz_G T X S' ρ (dz_tn τ h.1 t) (cz_push h n c) L st' ∧ S'.1 = S.1 ∧ (∀ r, τ r ≠ 0 → dz_tn τ h.1 t r = τ r) ∧ (∀ r, τ r ≠ 0 → (cz_push h n c).2.2 r = h.2.2 r) := by
  unfold dz_nq at hp
  split at hp
  · rename_i q hq
    cases hb : Nat.beq q.1 10 with
    | false => rw [hb] at hp; cases hp
    | true =>
      rw [hb] at hp
      obtain ⟨y, w, t, rfl, ⟨h0, _⟩, h1, h2, h3, h4⟩ := dz_mka_ok hX hG hp
      refine ⟨_, _, _, t, h0, ?_, h4⟩
      show cz_hnq M x pc (.inl y :: w) h = _
      unfold cz_hnq
      simp only [hq]
      rw [hb, decide_eq_true h1, h2, Nat.ble_eq.mpr h3]
      rfl
  · cases hp
end DzMk
