/-! L2, part 19: the run over a piece is right. -/
theorem dz_thr_new {M : cz_M} {pc k : Nat} {i : Instr} (h : cz_throw M pc i = some k) : ∃ x, i = .new x := by
  cases i <;> first | exact ⟨_, rfl⟩ | (exact absurd h (by simp [cz_throw]))
theorem dz_vars_nth {n k i : Nat} (h : i < k) : dz_nth (dz_vars n k) i = some (dz_var (n + i)) := by
  rw [dz_nth_eq]
  unfold dz_vars
  rw [List.getElem?_map, List.getElem?_range h]
  rfl
theorem dz_vars_ok {n : Nat} {ρ : Nat → Int} {k : Nat} (h : k ≤ n) : ∀ e ∈ dz_vars 0 k, ∃ x, dz_ok n ρ e x := by
  intro e he
  obtain ⟨i, hi, rfl⟩ := List.mem_map.mp he
  have := List.mem_range.mp hi
  exact ⟨_, dz_ok_var (by show 0 + i < n; omega)⟩
theorem dz_bif1 {α : Type} {b : Bool} {x y : α} (h : (bif b then some x else none) = some y) : b = true := by
  cases b with
  | false => cases h
  | true => rfl
section DzSound
variable {X : dz_X} {E : dz_Ev} {d : Nat} {ρ0 : Nat → Int} {τ0 : Nat → Nat} {h0 : cz_H} {R0 : Int}
/-- what holds all along a piece -/
def dz_V (X : dz_X) (E : dz_Ev) (R0 : Int) (ρ0 : Nat → Int) (τ0 : Nat → Nat) (h0 : cz_H) (S : dz_S) (ρ : Nat → Int) (τ : Nat → Nat) (h : cz_H) (L : List (Nat × cz_V)) (st : List cz_V) : Prop := dz_G E.1.1 X S ρ τ h L st ∧ E.2.2.1 ≤ S.1 ∧ (∀ i, i < E.2.2.1 → ρ i = ρ0 i) ∧ (∀ r, E.2.2.2 = some r → dz_ok S.1 ρ r R0) ∧ dz_Fr E.2.1.2.1.2.2.2.2 τ0 h0 τ h
theorem dz_V.step {S S' : dz_S} {ρ ρ' : Nat → Int} {τ τ' : Nat → Nat} {h h' : cz_H} {L L' : List (Nat × cz_V)} {st st' : List cz_V} (hV : dz_V X E R0 ρ0 τ0 h0 S ρ τ h L st) (hG : dz_G E.1.1 X S' ρ' τ' h' L' st') (hx : dz_ext S.1 ρ S'.1 ρ') (hf : dz_Fr E.2.1.2.1.2.2.2.2 τ h τ' h') : dz_V X E R0 ρ0 τ0 h0 S' ρ' τ' h' L' st' :=
  ⟨hG, Nat.le_trans hV.2.1 hx.1, fun i hi => (hx.2 i (Nat.lt_of_lt_of_le hi hV.2.1)).trans (hV.2.2.1 i hi), fun r hr => (hV.2.2.2.1 r hr).ext hx, hV.2.2.2.2.trans hf⟩
/-- what is known of the cuts -/
def dz_HC (X : dz_X) (E : dz_Ev) (d : Nat) (R0 : Int) (ρ0 : Nat → Int) (τ0 : Nat → Nat) (h0 : cz_H) : Prop := ∀ c ∈ E.2.1.2.2.2, ∀ ρ τ h L, dz_G E.1.1 X (dz_ini c.2.1) ρ τ h L [] → E.2.2.1 ≤ (dz_ini c.2.1).1 → (∀ i, i < E.2.2.1 → ρ i = ρ0 i) → dz_Fr E.2.1.2.1.2.2.2.2 τ0 h0 τ h → 0 ≤ dz_val ρ c.2.2 → (∀ r, E.2.2.2 = some r → dz_val ρ c.2.2 < R0) → (∀ t ∈ c.2.2.2, t.1 < (dz_ini c.2.1).1) → dz_WP E.1.2.2 d E.2.1.1 c.1 L [] h (dz_post E.1.1 X E.2.1.2.1 ρ0 τ0 h0)
theorem dz_exi_ok (hH : dz_HC X E d R0 ρ0 τ0 h0) {S : dz_S} {ρ : Nat → Int} {τ : Nat → Nat} {h : cz_H} {L : List (Nat × cz_V)} {st : List cz_V} {pc : Nat} {hn : dz_Hn} (hV : dz_V X E R0 ρ0 τ0 h0 S ρ τ h L st) (he : dz_exi E pc S hn = true) : dz_WP E.1.2.2 d E.2.1.1 pc L st h (dz_post E.1.1 X E.2.1.2.1 ρ0 τ0 h0) := by
  obtain ⟨hG, hn1, hag, hrk, hfr⟩ := hV
  unfold dz_exi at he
  split at he
  · rename_i c hc
    cases hb : (Nat.beq c.1 pc && S.2.2.2.1.isEmpty) with
    | false => rw [hb] at he; cases he
    | true =>
      rw [hb] at he
      simp only [Bool.and_eq_true] at hb
      simp only [cond_true] at he
      have hst : st = [] := by
        have hs := hG.2.2.1
        rw [List.isEmpty_iff.mp hb.2] at hs
        exact hs.nil
      subst hst
      split at he
      · rename_i θ hθ
        obtain ⟨g1, g2, g3, r, g4⟩ := dz_into_ok hG (dz_vars_ok hn1) hθ
        have hge : E.2.2.1 ≤ θ.length := by
          rw [g4, List.length_append]
          unfold dz_vars
          rw [List.length_map, List.length_range]
          omega
        split at he
        · rename_i e hsb
          simp only [Bool.and_eq_true] at he
          obtain ⟨s1, s2⟩ := dz_sb_ok g2 hsb
          have hpc := Nat.eq_of_beq_eq_true hb.1
          rw [← hpc]
          refine hH c (dz_nth_mem hc) _ τ h L g1 (by rw [g3]; exact hge) ?_ hfr (dz_pf_ok hG.1 s1 he.1) ?_ (by rw [g3]; exact s2)
          · intro i hi
            have h1 : dz_nth θ i = some (dz_var (0 + i)) := by
              rw [g4]
              exact dz_nth_app (dz_vars_nth hi)
            have h2 := g2 i _ h1
            have h3 := dz_ok_uniq h2 (dz_ok_var (by show 0 + i < S.1; omega))
            exact h3.trans (by rw [Nat.zero_add]; exact hag i hi)
          · intro r' hr'
            have he2 := he.2
            rw [hr'] at he2
            have := dz_pf_ok hG.1 (dz_ok_plus (-1) (dz_ok_sub (hrk r' hr') s1)) he2
            omega
        · cases he
      · cases he
  · cases he
theorem dz_end_ok (hnp : (dz_ini E.2.1.2.1.2.2.1).1 = E.2.2.1) {S : dz_S} {ρ : Nat → Int} {τ : Nat → Nat} {L : List (Nat × cz_V)} {k j : Nat} {hn : dz_Hn} {F : cz_F} (hV : dz_V X E R0 ρ0 τ0 h0 S ρ τ F.2 L []) (hr : dz_res k F L) (he : dz_end E.2.1.2.1 E.2.2.1 S k j hn = true) : dz_post E.1.1 X E.2.1.2.1 ρ0 τ0 h0 F := by
  obtain ⟨hG, hn1, hag, hrk, hfr⟩ := hV
  unfold dz_end at he
  split at he
  · rename_i al hal
    simp only [Bool.and_eq_true] at he
    obtain ⟨θ, hθ⟩ := Option.isSome_iff_exists.mp he.2.2
    obtain ⟨g1, g2, g3, r, g4⟩ := dz_into_ok hG (dz_vars_ok hn1) hθ
    refine ⟨al, dz_nth_mem hal, _, τ, L, g1, (Nat.eq_of_beq_eq_true he.2.1).trans hnp.symm, ?_, hfr, by rw [Nat.eq_of_beq_eq_true he.1]; exact hr⟩
    intro i hi
    rw [hnp] at hi
    have h1 : dz_nth θ i = some (dz_var (0 + i)) := by
      rw [g4]
      exact dz_nth_app (dz_vars_nth hi)
    have h2 := g2 i _ h1
    have h3 := dz_ok_uniq h2 (dz_ok_var (by show 0 + i < S.1; omega))
    exact h3.trans (by rw [Nat.zero_add]; exact hag i hi)
  · cases he
/-- what a run that goes on is asked for -/
def dz_IHp (X : dz_X) (E : dz_Ev) (d : Nat) (R0 : Int) (ρ0 : Nat → Int) (τ0 : Nat → Nat) (h0 : cz_H) (ih : dz_It) : Prop := ∀ fst pc S hs hs', ih fst pc S hs = some hs' → ∀ ρ τ h L st, dz_V X E R0 ρ0 τ0 h0 S ρ τ h L st → dz_WP E.1.2.2 d E.2.1.1 pc L st h (dz_post E.1.1 X E.2.1.2.1 ρ0 τ0 h0)
theorem dz_prs_ok (hC : dz_okC E.1.1 X E.1.2.1) (hz : 0 < E.2.2.1 ∧ ∀ r, τ0 r ≠ 0 → (r : Int) < ρ0 0) {ih : dz_It} (hI : dz_IHp X E d R0 ρ0 τ0 h0 ih) {S : dz_S} {ρ : Nat → Int} {τ : Nat → Nat} {h : cz_H} {L : List (Nat × cz_V)} {st : List cz_V} {pc : Nat} {fst : Bool} {hn : dz_Hn} {hs hs' : List dz_Hn} (hV : dz_V X E R0 ρ0 τ0 h0 S ρ τ h L st) (he : dz_prs E ih fst pc S hn hs = some hs') : dz_WP E.1.2.2 d E.2.1.1 pc L st h (dz_post E.1.1 X E.2.1.2.1 ρ0 τ0 h0) := by
  unfold dz_prs at he
  cases c0 : Nat.beq hn.1 110 with
  | true =>
    rw [c0] at he
    simp only [cond_true] at he
    split at he
    · rename_i a ha
      cases hb : Nat.beq a.1 0 with
      | false => rw [hb] at he; cases he
      | true =>
        rw [hb] at he
        simp only [cond_true] at he
        split at he
        · rename_i R hR
          obtain ⟨v, _, hv⟩ := hV.1.2.1 _ (dz_fl_mem ha)
          obtain ⟨x, rfl, hx⟩ := hv.int hb
          obtain ⟨k1, k2⟩ := dz_cmp2_ok hV.1 hx (dz_ok_cst _) hR
          rcases dz_cv_or .le x.toInt (.ofNat (dz_num hn 3)) with q | q
          · obtain ⟨S', z1, z2, z3⟩ := k1 q
            obtain ⟨y1, y2, y3⟩ := dz_seq_ok he _ z1
            exact hI _ _ _ _ _ y3 ρ τ h L st (hV.step z2 (dz_same_ext ρ z3) (dz_Fr.refl _ _ _))
          · obtain ⟨S', z1, z2, z3⟩ := k2 q
            obtain ⟨y1, y2, y3⟩ := dz_seq_ok he _ z1
            exact hI _ _ _ _ _ y3 ρ τ h L st (hV.step z2 (dz_same_ext ρ z3) (dz_Fr.refl _ _ _))
        · cases he
    · cases he
  | false =>
    rw [c0] at he
    simp only [cond_false] at he
    cases c1 : Nat.beq hn.1 111 with
    | true =>
      rw [c1] at he
      simp only [cond_true] at he
      cases hb : dz_pf S.2.1 (dz_ct hn 0) (dz_cst (-1)) with
      | false => rw [hb] at he; cases he
      | true => exact absurd (dz_pf_ok hV.1.1 (dz_ok_cst (-1)) hb) (by omega)
    | false =>
      rw [c1] at he
      simp only [cond_false] at he
      cases c2 : Nat.beq hn.1 107 with
      | true =>
        rw [c2] at he
        simp only [cond_true] at he
        split at he
        · rename_i S' hS'
          obtain ⟨r, t', z1, z2, z3⟩ := dz_ret_ok hC.2.2.2.2.2.2.1 hV.1 (Nat.lt_of_lt_of_le hz.1 hV.2.1) hS'
          have e0 := hV.2.2.1 0 hz.1
          have hfr := hV.2.2.2.2
          refine hI _ _ _ _ _ he ρ (dz_tn τ r t') h L st ⟨z1, by rw [z2]; exact hV.2.1, hV.2.2.1, fun q hq => by rw [z2]; exact hV.2.2.2.1 q hq, fun q hq => ?_, hfr.2.1, hfr.2.2.1, hfr.2.2.2⟩
          have hlt := hz.2 q hq
          unfold dz_tn
          rw [if_neg (by omega)]
          exact hfr.1 q hq
        · cases he
      | false =>
      rw [c2] at he
      simp only [cond_false] at he
      split at he
      · rename_i S' hS'
        obtain ⟨ρ', z1, z2⟩ := dz_pre_ok hC.1 hC.2.1 hC.2.2.2.2.2.2.2 hV.1 hS'
        exact hI _ _ _ _ _ he ρ' τ h L st (hV.step z1 z2 (dz_Fr.refl _ _ _))
      · cases he
theorem dz_so_tau {n : Nat} {ρ : Nat → Int} {τ τ' : Nat → Nat} {md : dz_Md} {h h' : cz_H} (hf : dz_Fr md τ h τ' h') {l : List dz_A} {s : List cz_V} (hs : dz_so n ρ τ l s) : dz_so n ρ τ' l s := dz_so_tn hf.1 hs
theorem dz_fl0 {n : Nat} {ρ : Nat → Int} {τ : Nat → Nat} {l : List (Nat × dz_A)} {v : cz_V} {a : dz_A} (hl : dz_lo n ρ τ l [(0, v)]) (hf : dz_fl 0 l = some a) : dz_vo n ρ τ a v := by
  obtain ⟨w, h1, h2⟩ := hl _ (dz_fl_mem hf)
  have h1 : some v = some w := h1
  cases h1
  exact h2
set_option maxHeartbeats 4000000 in
theorem dz_alt_ok (hnp : (dz_ini E.2.1.2.1.2.2.1).1 = E.2.2.1) {ih : dz_It} (hI : dz_IHp X E d R0 ρ0 τ0 h0 ih) {S : dz_S} {ρ ρp ρ2 : Nat → Int} {τ τ2 : Nat → Nat} {h : cz_H} {L L2 : List (Nat × cz_V)} {st rest : List cz_V} {pc : Nat} {θ : List dz_E} {md : dz_Md} {ar : List dz_A} {al : dz_Al} {F : cz_F} {hs hs' : List dz_Hn} (hV : dz_V X E R0 ρ0 τ0 h0 S ρ τ h L st) (hth : dz_th S.1 ρ θ ρp) (har : dz_so S.1 ρ τ ar rest) (hmd : ∀ t i, dz_mdf md t i = true → dz_mdf E.2.1.2.1.2.2.2.2 t i = true)
    (hA : dz_G E.1.1 X (dz_ini al.2) ρ2 τ2 F.2 L2 []) (hag : ∀ i, i < θ.length → ρ2 i = ρp i) (hf : dz_Fr md τ h τ2 F.2) (hres : dz_res al.1 F L2) (he : dz_alt E ih pc S θ md ar al hs = some hs') : ∃ n F', cz_sK (cz_x E.1.2.2 n) d E.2.1.1 pc L rest F = some F' ∧ dz_post E.1.1 X E.2.1.2.1 ρ0 τ0 h0 F' := by
  unfold dz_alt at he
  cases hb : (Nat.ble al.2.1 (dz_ini al.2).1 && Nat.beq al.2.1 θ.length) with
  | false => rw [hb] at he; cases he
  | true =>
    rw [hb] at he
    simp only [Bool.and_eq_true] at hb
    have hle := Nat.ble_eq.mp hb.1
    have hlen := Nat.eq_of_beq_eq_true hb.2
    simp only [cond_true, dz_fn_eq] at he
    have hm : (dz_ini al.2).1 = al.2.1 + Nat.sub (dz_ini al.2).1 al.2.1 := by show _ = al.2.1 + ((dz_ini al.2).1 - al.2.1); omega
    have hag' : ∀ i, i < al.2.1 → ρ2 i = ρp i := fun i hi => hag i (by rw [← hlen]; exact hi)
    have hx := dz_cat_ext S.1 al.2.1 (Nat.sub (dz_ini al.2).1 al.2.1) ρ ρ2
    have hth2 := dz_aft_th (m := Nat.sub (dz_ini al.2).1 al.2.1) hth hlen.symm hag'
    have hlen2 : (dz_ini al.2).1 = (θ ++ dz_vars S.1 (Nat.sub (dz_ini al.2).1 al.2.1)).length := by
      rw [List.length_append, ← hlen]
      unfold dz_vars
      rw [List.length_map, List.length_range]
      exact hm
    have hLo := dz_lo_tn hf.1 (hV.1.2.1.ext hx)
    have hso := dz_so_tau hf (har.ext hx)
    have hf' := hf.weak hmd
    obtain ⟨⟨o, h2⟩⟩ : Nonempty cz_F := ⟨F⟩
    obtain ⟨Fo, Fh⟩ := F
    obtain ⟨ak, at'⟩ := al
    match ak, hres, he with
    | 0, hres, he =>
      have hres : Fo = .inl none := hres
      subst hres
      have hS := dz_aft_ok hV.1 hth hlen.symm hag' hA hm hf hso hLo
      have := hI _ _ _ _ _ he _ τ2 Fh L rest (hV.step hS hx hf')
      exact dz_wp_back (o := none) this
    | 1, hres, he =>
      obtain ⟨v, hv1, hv2⟩ := hres
      have hv1 : Fo = .inl (some v) := hv1
      subst hv1 hv2
      dsimp only at he
      split at he
      · rename_i a ha
        have hva := dz_vo_sb hth2 hlen2 (dz_fl0 hA.2.1 ha)
        have hS := dz_aft_ok hV.1 hth hlen.symm hag' hA hm hf (as := dz_sbA (θ ++ dz_vars S.1 (Nat.sub (dz_ini at').1 at'.1)) a :: ar) (w := v :: rest) ⟨hva, hso⟩ hLo
        have := hI _ _ _ _ _ he _ τ2 Fh L (v :: rest) (hV.step hS hx hf')
        exact dz_wp_back (o := some v) this
      · cases he
    | k + 2, hres, he =>
      obtain ⟨r, hv1, hv2, hv3⟩ := hres
      have hv1 : Fo = .inr r := hv1
      subst hv1 hv2
      dsimp only at he
      split at he
      · rename_i a t ha ht
        have hva := dz_vo_sb hth2 hlen2 (dz_fl0 hA.2.1 ha)
        have hS := dz_aft_ok hV.1 hth hlen.symm hag' hA hm hf (as := [dz_sbA (θ ++ dz_vars S.1 (Nat.sub (dz_ini at').1 at'.1)) a]) (w := [.inr (.inr (some r))]) ⟨hva, trivial⟩ hLo
        have := hI _ _ _ _ _ he _ τ2 Fh L [.inr (.inr (some r))] (hV.step hS hx hf')
        exact dz_wp_catch hv3 ht this
      · rename_i a ha ht
        cases hem : E.2.1.1.2.1.2.2.2.isEmpty with
        | false => rw [hem] at he; cases he
        | true =>
          rw [hem] at he
          simp only [cond_true] at he
          split at he
          · rename_i hn hs2 _
            have hva := dz_vo_sb hth2 hlen2 (dz_fl0 hA.2.1 ha)
            have hS := dz_aft_ok hV.1 hth hlen.symm hag' hA hm hf (as := []) (w := []) (l := [(0, dz_sbA (θ ++ dz_vars S.1 (Nat.sub (dz_ini at').1 at'.1)) a)]) (L' := [(0, .inr (.inr (some r)))]) trivial (dz_lo1 hva)
            cases h111 : Nat.beq hn.1 111 with
            | true =>
              rw [h111] at he
              simp only [cond_true] at he
              exact absurd (dz_pf_ok hS.1 (dz_ok_cst (-1)) (dz_bif1 he)) (by omega)
            | false =>
              rw [h111] at he
              exact dz_wp_pass hv3 ht hem (dz_end_ok hnp (k := k + 2) (F := (.inr r, Fh)) (hV.step hS hx hf') ⟨r, rfl, rfl, hv3⟩ (dz_bif1 he))
          · cases he
      · cases he
theorem dz_cl_ok (hC : dz_okC E.1.1 X E.1.2.1) (hnp : (dz_ini E.2.1.2.1.2.2.1).1 = E.2.2.1) (hd : E.2.1.2.1.2.1 ≤ d) (hsp : ∀ sp ∈ E.2.1.2.2.1, dz_spec E.1.1 X E.1.2.2 sp) {ih : dz_It} (hI : dz_IHp X E d R0 ρ0 τ0 h0 ih) {S : dz_S} {ρ : Nat → Int} {τ : Nat → Nat} {h : cz_H} {L : List (Nat × cz_V)} {st : List cz_V} {i : Instr} {len pc : Nat} {hn : dz_Hn} {hs hs' : List dz_Hn} (hc : cz_code E.2.1.1 pc = some (i, len)) (hV : dz_V X E R0 ρ0 τ0 h0 S ρ τ h L st) (he : dz_cl E ih i len pc S hn hs = some hs') : dz_WP E.1.2.2 d E.2.1.1 pc L st h (dz_post E.1.1 X E.2.1.2.1 ρ0 τ0 h0) := by
  unfold dz_cl at he
  split at he
  · rename_i sp y aas ar hsn hcal
    split at he
    · rename_i M' hM'
      cases hb : ((Nat.beq len 3 && (Nat.beq y sp.1 && Nat.blt sp.2.1 E.2.1.2.1.2.1)) && ((Nat.ble (Nat.add (dz_cat2 ar) (Nat.add M'.2.1.2.1 11)) 100 && Nat.ble (dz_cat2 aas) M'.2.1.2.1) && dz_mds sp.2.2.2.2 E.2.1.2.1.2.2.2.2)) with
      | false => rw [hb] at he; cases he
      | true =>
        rw [hb] at he
        simp only [Bool.and_eq_true] at hb
        obtain ⟨⟨b1, b2, b3⟩, ⟨b4, b5⟩, b6⟩ := hb
        simp only [cond_true] at he
        obtain ⟨e1, e2, e3, e4, e5, e6, as, rest, e7, e8, e9⟩ := dz_cal_ok (P := E.1.2.2) (d := d) (pc := pc) (nL := E.2.1.1.2.1.2.1) (tt := E.2.1.1.2.1.2.2.1) hV.1 hcal
        split at he
        · rename_i θ hθ
          have hGa : dz_G E.1.1 X (dz_lst S (dz_argl aas 0)) ρ τ h (cz_argl 0 as) [] := ⟨hV.1.1, dz_argl_ok e8, trivial, hV.1.2.2.2⟩
          obtain ⟨g1, g2, g3, r, g4⟩ := dz_into_ok hGa (fun e he => by cases he) hθ
          have ey := Nat.eq_of_beq_eq_true b2
          have b3 := Nat.blt_eq.mp b3
          have hrun := hsp sp (dz_nth_mem hsn) M' (by rw [← ey]; exact hM') (d - 1) (by omega) _ τ h _ g1
          have h0d : Nat.blt 0 d = true := Nat.blt_eq.mpr (by omega)
          have hroom := hC.2.2.2.2.2.1 τ h hV.1.2.2.2.2.2.2.2.2.1
          refine dz_wp_call hc (by rw [e6]; exact b1) e1 e2 e3 e4 e5 e7 hM' ?_ (hrun.imp ?_)
          · rw [h0d, hroom, dz_cat2_ok e9, dz_cat2_ok e8]
            have b4 : Nat.ble (dz_cat2 ar + (M'.2.1.2.1 + 11)) 100 = true := b4
            rw [b4, b5]
            rfl
          · intro F hF
            obtain ⟨al, a1, ρ2, τ2, L2, a2, a3, a4, a5, a6⟩ := hF
            obtain ⟨x1, x2, x3⟩ := dz_seq_ok he al a1
            exact dz_alt_ok hnp hI hV g2 e9 (dz_mds_ok b6) a2 (fun i hi => a4 i (by rw [g3]; exact hi)) a5 a6 x3
        · cases he
    · cases he
  · cases he
theorem dz_ck1_ok (hC : dz_okC E.1.1 X E.1.2.1) (hnp : (dz_ini E.2.1.2.1.2.2.1).1 = E.2.2.1) (hd : E.2.1.2.1.2.1 ≤ d) (hsp : ∀ sp ∈ E.2.1.2.2.1, dz_spec E.1.1 X E.1.2.2 sp) (hH : dz_HC X E d R0 ρ0 τ0 h0) (hz : 0 < E.2.2.1 ∧ ∀ r, τ0 r ≠ 0 → (r : Int) < ρ0 0) {ih : dz_It} (hI : dz_IHp X E d R0 ρ0 τ0 h0 ih) : dz_IHp X E d R0 ρ0 τ0 h0 (dz_ck1 E ih) := by
  intro fst pc S hs hs' he ρ τ h L st hV
  unfold dz_ck1 at he
  cases hb : (!fst && dz_isc E.2.1.2.2.2 pc) with
  | true =>
    rw [hb] at he
    simp only [cond_true] at he
    cases hs with
    | nil => cases he
    | cons hn hs =>
      simp only at he
      cases h2 : Nat.ble 200 hn.1 with
      | true =>
        rw [h2] at he
        simp only [cond_true] at he
        exact dz_exi_ok hH hV (dz_bif1 he)
      | false =>
        rw [h2] at he
        exact dz_prs_ok hC hz hI hV he
  | false =>
    rw [hb] at he
    simp only [cond_false] at he
    split at he
    · rename_i i len hc
      split at he
      · rename_i q hq
        obtain ⟨L', st', z1, z2, z3⟩ := dz_n0_ok (P := E.1.2.2) (d := d) hC hc hV.1 hq
        exact z3 _ (hI _ _ _ _ _ he ρ τ h L' st' (hV.step z1 (dz_same_ext ρ z2) (dz_Fr.refl _ _ _)))
      · cases hs with
        | nil => cases he
        | cons hn hs =>
          simp only at he
          cases h2 : (Nat.ble 100 hn.1 && Nat.blt hn.1 200) with
          | true =>
            rw [h2] at he
            exact dz_prs_ok hC hz hI hV he
          | false =>
            rw [h2] at he
            simp only [cond_false] at he
            unfold dz_inn at he
            cases h4 : Nat.ble 400 hn.1 with
            | true =>
              rw [h4] at he
              exact dz_cl_ok hC hnp hd hsp hI hc hV he
            | false =>
              rw [h4] at he
              simp only [cond_false] at he
              cases h3 : Nat.ble 300 hn.1 with
              | true =>
                rw [h3] at he
                simp only [cond_true] at he
                cases hl : Nat.beq len (cz_len i) with
                | false => rw [hl] at he; cases he
                | true =>
                  rw [hl] at he
                  simp only [cond_true] at he
                  split at he
                  · rename_i k hk
                    obtain ⟨x, rfl⟩ := dz_thr_new hk
                    split at he
                    · rename_i S' hS'
                      obtain ⟨z1, τ', z2, z3, z4, z5⟩ := dz_thr_ok (md := E.2.1.2.1.2.2.2.2) hC hd hV.1 hS'
                      exact dz_wp_throw hc hl rfl rfl rfl hk z1 (dz_end_ok hnp (k := k + 2) (F := (.inr h.1, cz_push h 6 (.inr (.inr k)))) (hV.step z2 (dz_same_ext ρ z3) z4) ⟨h.1, rfl, rfl, z5⟩ (dz_bif1 he))
                    · cases he
                  · split at he
                    · rename_i k l hkl
                      obtain ⟨z1, z2, v, L2, z3, z4, z5⟩ := dz_rt_ok (nL := E.2.1.1.2.1.2.1) (pc := pc) hV.1 hkl
                      exact dz_wp_ret hc hl z1 z2 z3 (dz_end_ok hnp (F := (.inl v, h)) (hV.step z4 (dz_ext.refl _ _) (dz_Fr.refl _ _ _)) z5 (dz_bif1 he))
                    · cases he
              | false =>
                rw [h3] at he
                simp only [cond_false] at he
                split at he
                · rename_i R hR
                  obtain ⟨p', S', L', st', h', τ', ρ', y1, y2, y3, y4, y5⟩ := dz_suc_ok hC hd hc hV.1 hR
                  obtain ⟨x1, x2, x3⟩ := dz_seq_ok he _ y1
                  exact y5 _ (hI _ _ _ _ _ x3 ρ' τ' h' L' st' (hV.step y2 y3 y4))
                · cases he
    · cases he
theorem dz_ck_ok (hC : dz_okC E.1.1 X E.1.2.1) (hnp : (dz_ini E.2.1.2.1.2.2.1).1 = E.2.2.1) (hd : E.2.1.2.1.2.1 ≤ d) (hsp : ∀ sp ∈ E.2.1.2.2.1, dz_spec E.1.1 X E.1.2.2 sp) (hH : dz_HC X E d R0 ρ0 τ0 h0) (hz : 0 < E.2.2.1 ∧ ∀ r, τ0 r ≠ 0 → (r : Int) < ρ0 0) : ∀ n, dz_IHp X E d R0 ρ0 τ0 h0 (dz_ck E n)
  | 0 => fun fst pc S hs hs' he => by cases he
  | n + 1 => dz_ck1_ok hC hnp hd hsp hH hz (dz_ck_ok hC hnp hd hsp hH hz n)
end DzSound
/-- a method's pieces are all checked: from the start, and from each cut -/
def dz_okE (T : dz_TT) (cf : dz_Cf) (P : cz_P) (M : cz_M) (sp : dz_Sp) (sps : List dz_Sp) (cu : List dz_Cu) : Prop := ∃ n f a b, dz_ck ((T, cf, P), (M, sp, sps, cu), (dz_ini sp.2.2.1).1, none) n f 0 (dz_ini sp.2.2.1) a = some b
def dz_okU (T : dz_TT) (cf : dz_Cf) (P : cz_P) (M : cz_M) (sp : dz_Sp) (sps : List dz_Sp) (cu : List dz_Cu) (c : dz_Cu) : Prop := ∃ n a b, dz_ck ((T, cf, P), (M, sp, sps, cu), (dz_ini sp.2.2.1).1, some c.2.2) n true c.1 (dz_ini c.2.1) a = some b
theorem dz_meth {T : dz_TT} {X : dz_X} {cf : dz_Cf} {P : cz_P} {M : cz_M} {sp : dz_Sp} {sps : List dz_Sp} {cu : List dz_Cu} (hC : dz_okC T X cf) (hM : P.1[sp.1]? = some M) (hp0 : sp.2.2.1.1 = 0) (hsp : ∀ s ∈ sps, dz_spec T X P s) (hE : dz_okE T cf P M sp sps cu) (hU : ∀ c ∈ cu, dz_okU T cf P M sp sps cu c) : dz_spec T X P sp := by
  intro M1 hM1 d hd ρ0 τ0 h0 L0 hG0
  rw [hM] at hM1
  cases hM1
  have hz : 0 < (dz_ini sp.2.2.1).1 ∧ ∀ r, τ0 r ≠ 0 → (r : Int) < ρ0 0 := by
    have hce := hG0.2.2.2.2.2.1
    have hce : dz_ok (dz_ini sp.2.2.1).1 ρ0 (dz_var sp.2.2.1.1) (h0.1 : Int) := hce
    rw [hp0] at hce
    have hlt : 0 < (dz_ini sp.2.2.1).1 := hce.1 (0, 1) List.mem_cons_self
    refine ⟨hlt, fun r hr => ?_⟩
    have e := dz_ok_uniq hce (dz_ok_var hlt)
    have := dz_here_lt (hG0.2.2.2.2.2.2.2.1 r hr).1
    omega
  have hcut : ∀ N : Nat, ∀ c ∈ cu, ∀ ρ τ h L, dz_G T X (dz_ini c.2.1) ρ τ h L [] → (dz_ini sp.2.2.1).1 ≤ (dz_ini c.2.1).1 → (∀ i, i < (dz_ini sp.2.2.1).1 → ρ i = ρ0 i) → dz_Fr sp.2.2.2.2 τ0 h0 τ h → 0 ≤ dz_val ρ c.2.2 → dz_val ρ c.2.2 < (N : Int) → (∀ t ∈ c.2.2.2, t.1 < (dz_ini c.2.1).1) → dz_WP P d M c.1 L [] h (dz_post T X sp ρ0 τ0 h0) := by
    intro N
    induction N with
    | zero => intro c _ ρ τ h L _ _ _ _ h1 h2; exfalso; omega
    | succ N ih =>
      intro c hc ρ τ h L hG hle hag hfr hr1 hr2 hwf
      obtain ⟨n, a, b, hck⟩ := hU c hc
      have hH : dz_HC X ((T, cf, P), (M, sp, sps, cu), (dz_ini sp.2.2.1).1, some c.2.2) d (dz_val ρ c.2.2) ρ0 τ0 h0 := by
        intro c' hc' ρ' τ' h' L' g1 g2 g3 g4 g5 g6 g7
        have := g6 c.2.2 rfl
        exact ih c' hc' ρ' τ' h' L' g1 g2 g3 g4 g5 (by omega) g7
      refine dz_ck_ok (E := ((T, cf, P), (M, sp, sps, cu), (dz_ini sp.2.2.1).1, some c.2.2)) hC rfl hd hsp hH hz n true c.1 (dz_ini c.2.1) a b hck ρ τ h L [] ⟨hG, hle, hag, fun r hr => ?_, hfr⟩
      cases hr
      exact ⟨hwf, rfl⟩
  obtain ⟨n, f, a, b, hck⟩ := hE
  have hH : dz_HC X ((T, cf, P), (M, sp, sps, cu), (dz_ini sp.2.2.1).1, none) d 0 ρ0 τ0 h0 := by
    intro c' hc' ρ' τ' h' L' g1 g2 g3 g4 g5 _ g7
    exact hcut ((dz_val ρ' c'.2.2).toNat + 1) c' hc' ρ' τ' h' L' g1 g2 g3 g4 g5 (by omega) g7
  exact dz_ck_ok (E := ((T, cf, P), (M, sp, sps, cu), (dz_ini sp.2.2.1).1, none)) hC rfl hd hsp hH hz n f 0 (dz_ini sp.2.2.1) a b hck ρ0 τ0 h0 L0 [] ⟨hG0, Nat.le_refl _, fun _ _ => rfl, fun r hr => (by cases hr), dz_Fr.refl _ _ _⟩
