/-! L2, part 21: lists of numbers written as one number, read back step by step. -/
/-- one number: a byte below 250, or 250 + k and then k + 2 bytes -/
noncomputable def dz_r1 (α : Type) (N : Nat) (k : Nat → Nat → α) : α := dz_fn (Nat.mod N 256) (fun b => bif Nat.blt b 250 then dz_fn (Nat.div N 256) (fun M => k b M) else dz_fn (Nat.pow 256 (Nat.sub b 248)) (fun p => dz_fn (Nat.div N 256) (fun M => dz_fn (Nat.mod M p) (fun v => dz_fn (Nat.div M p) (fun W => k v W)))))
/-- a way of reading that ends in one thing and a rest, whatever is done with them -/
def dz_rdr (β : Type) : Type 1 := (α : Type) → Nat → (β → Nat → α) → α
def dz_rn {β : Type} (R : dz_rdr β) : Prop := ∀ N, ∃ x W, ∀ (α : Type) (k : β → Nat → α), R α N k = k x W
theorem dz_r1_n : dz_rn dz_r1 := by
  intro N
  cases hb : Nat.blt (Nat.mod N 256) 250 with
  | true =>
    refine ⟨Nat.mod N 256, Nat.div N 256, fun α k => ?_⟩
    unfold dz_r1
    rw [dz_fn_eq, hb, cond_true, dz_fn_eq]
  | false =>
    refine ⟨Nat.mod (Nat.div N 256) (Nat.pow 256 (Nat.sub (Nat.mod N 256) 248)), Nat.div (Nat.div N 256) (Nat.pow 256 (Nat.sub (Nat.mod N 256) 248)), fun α k => ?_⟩
    unfold dz_r1
    rw [dz_fn_eq, hb, cond_false, dz_fn_eq, dz_fn_eq, dz_fn_eq, dz_fn_eq]
/-- a whole number: twice it, or twice what is below it less one -/
noncomputable def dz_rz (α : Type) (N : Nat) (k : Int → Nat → α) : α := dz_r1 α N (fun v W => bif Nat.beq (Nat.mod v 2) 0 then dz_fn (Nat.div v 2) (fun a => k (.ofNat a) W) else dz_fn (Nat.div v 2) (fun a => k (.negSucc a) W))
theorem dz_rz_n : dz_rn dz_rz := by
  intro N
  obtain ⟨v, W, hv⟩ := dz_r1_n N
  cases hb : Nat.beq (Nat.mod v 2) 0 with
  | true => exact ⟨.ofNat (Nat.div v 2), W, fun α k => by unfold dz_rz; rw [hv, hb, cond_true, dz_fn_eq]⟩
  | false => exact ⟨.negSucc (Nat.div v 2), W, fun α k => by unfold dz_rz; rw [hv, hb, cond_false, dz_fn_eq]⟩
noncomputable def dz_rm {β : Type} (R : dz_rdr β) (α : Type) (m : Nat) : Nat → List β → (List β → Nat → α) → α := Nat.rec (fun N l k => k l N) (fun _ ih N l k => R α N (fun x W => ih W (x :: l) k)) m
theorem dz_rm_n {β : Type} {R : dz_rdr β} (hR : dz_rn R) : ∀ (m N : Nat) (l : List β), ∃ x W, ∀ (α : Type) (k : List β → Nat → α), dz_rm R α m N l k = k x W
  | 0, N, l => ⟨l, N, fun _ _ => rfl⟩
  | m + 1, N, l => by
    obtain ⟨x, W, hx⟩ := hR N
    obtain ⟨y, V, hy⟩ := dz_rm_n hR m W (x :: l)
    refine ⟨y, V, fun α k => ?_⟩
    show R α N (fun x W => dz_rm R α m W (x :: l) k) = _
    rw [hx, hy]
/-- how many, then each, the last one first -/
noncomputable def dz_rl {β : Type} (R : dz_rdr β) (α : Type) (N : Nat) (k : List β → Nat → α) : α := dz_r1 α N (fun m W => dz_rm R α m W [] k)
theorem dz_rl_n {β : Type} {R : dz_rdr β} (hR : dz_rn R) : dz_rn (dz_rl R) := by
  intro N
  obtain ⟨m, W, hm⟩ := dz_r1_n N
  obtain ⟨y, V, hy⟩ := dz_rm_n hR m W []
  exact ⟨y, V, fun α k => by unfold dz_rl; rw [hm, hy]⟩
noncomputable def dz_rp {β γ : Type} (R : dz_rdr β) (Q : dz_rdr γ) (α : Type) (N : Nat) (k : β × γ → Nat → α) : α := R α N (fun x W => Q α W (fun y V => k (x, y) V))
theorem dz_rp_n {β γ : Type} {R : dz_rdr β} {Q : dz_rdr γ} (hR : dz_rn R) (hQ : dz_rn Q) : dz_rn (dz_rp R Q) := by
  intro N
  obtain ⟨x, W, hx⟩ := hR N
  obtain ⟨y, V, hy⟩ := hQ W
  exact ⟨(x, y), V, fun α k => by unfold dz_rp; rw [hx, hy]⟩
noncomputable def dz_rE : dz_rdr dz_E := dz_rp dz_rz (dz_rl (dz_rp dz_r1 dz_rz))
theorem dz_rE_n : dz_rn dz_rE := dz_rp_n dz_rz_n (dz_rl_n (dz_rp_n dz_r1_n dz_rz_n))
noncomputable def dz_rCt : dz_rdr dz_Ct := dz_rp dz_r1 (dz_rl (dz_rp dz_r1 dz_r1))
noncomputable def dz_rHn : dz_rdr dz_Hn := dz_rp dz_r1 (dz_rp (dz_rl dz_rCt) (dz_rl dz_r1))
theorem dz_rHn_n : dz_rn dz_rHn := dz_rp_n dz_r1_n (dz_rp_n (dz_rl_n (dz_rp_n dz_r1_n (dz_rl_n (dz_rp_n dz_r1_n dz_r1_n)))) (dz_rl_n dz_r1_n))
noncomputable def dz_rCm : dz_rdr dz_Cm := dz_rp (dz_rp dz_r1 (dz_rp dz_r1 (dz_rp dz_r1 dz_r1))) (dz_rp dz_rE (dz_rp dz_rE dz_rE))
theorem dz_rCm_n : dz_rn dz_rCm := dz_rp_n (dz_rp_n dz_r1_n (dz_rp_n dz_r1_n (dz_rp_n dz_r1_n dz_r1_n))) (dz_rp_n dz_rE_n (dz_rp_n dz_rE_n dz_rE_n))
noncomputable def dz_rTp : dz_rdr dz_Tp := dz_rp dz_r1 (dz_rp (dz_rl dz_rCm) (dz_rl dz_rE))
theorem dz_rTp_n : dz_rn dz_rTp := dz_rp_n dz_r1_n (dz_rp_n (dz_rl_n dz_rCm_n) (dz_rl_n dz_rE_n))
noncomputable def dz_rSp : dz_rdr dz_Sp := dz_rp dz_r1 (dz_rp dz_r1 (dz_rp dz_rTp (dz_rp (dz_rl (dz_rp dz_r1 dz_rTp)) (dz_rl (dz_rp dz_r1 dz_r1)))))
theorem dz_rSp_n : dz_rn dz_rSp := dz_rp_n dz_r1_n (dz_rp_n dz_r1_n (dz_rp_n dz_rTp_n (dz_rp_n (dz_rl_n (dz_rp_n dz_r1_n dz_rTp_n)) (dz_rl_n (dz_rp_n dz_r1_n dz_r1_n)))))
noncomputable def dz_rCu : dz_rdr (List dz_Cu) := dz_rl (dz_rp dz_r1 (dz_rp dz_rTp dz_rE))
theorem dz_rCu_n : dz_rn dz_rCu := dz_rl_n (dz_rp_n dz_r1_n (dz_rp_n dz_rTp_n dz_rE_n))
/-- what is read -/
noncomputable def dz_rd {β : Type} (R : dz_rdr β) (N : Nat) : β := R β N (fun x _ => x)
theorem dz_rd_eq {β : Type} {R : dz_rdr β} (hR : dz_rn R) (N : Nat) : ∃ W, ∀ (α : Type) (k : β → Nat → α), R α N k = k (dz_rd R N) W := by
  obtain ⟨x, W, hx⟩ := hR N
  have : dz_rd R N = x := hx β (fun x _ => x)
  exact ⟨W, fun α k => by rw [this]; exact hx α k⟩
/-- each of some numbers read -/
noncomputable def dz_rs {β : Type} (R : dz_rdr β) (α : Type) (ns : List Nat) : (List β → α) → α := List.rec (fun k => k []) (fun n _ ih k => R α n (fun x _ => ih (fun l => k (x :: l)))) ns
theorem dz_rs_eq {β : Type} {R : dz_rdr β} (hR : dz_rn R) (α : Type) : ∀ (ns : List Nat) (k : List β → α), dz_rs R α ns k = k (ns.map (dz_rd R))
  | [], k => rfl
  | n :: ns, k => by
    obtain ⟨W, hW⟩ := dz_rd_eq hR n
    show R α n (fun x _ => dz_rs R α ns (fun l => k (x :: l))) = _
    rw [hW, dz_rs_eq hR α ns]
    rfl
def dz_fin (o : Option (List dz_Hn)) : Bool := match o with
  | some l => (match l with
    | [] => true
    | _ :: _ => false)
  | none => false
theorem dz_fin_ok {o : Option (List dz_Hn)} (h : dz_fin o = true) : ∃ b, o = some b := by
  cases o with
  | none => cases h
  | some b => exact ⟨b, rfl⟩
/-- the piece from a method's start, all of it read from numbers -/
noncomputable def dz_goE (T : dz_TT) (cf : dz_Cf) (P : cz_P) (M : cz_M) (f : Bool) (sp : Nat) (sps : List Nat) (cu hs : Nat) : Bool := dz_rSp Bool sp (fun s _ => dz_rs dz_rSp Bool sps (fun l => dz_rCu Bool cu (fun u _ => dz_rl dz_rHn Bool hs (fun a _ => dz_fin (dz_ck ((T, cf, P), (M, s, l, u), (dz_ini s.2.2.1).1, none) 20000 f 0 (dz_ini s.2.2.1) a)))))
theorem dz_goE_ok {T : dz_TT} {cf : dz_Cf} {P : cz_P} {M : cz_M} {f : Bool} {sp cu hs : Nat} {sps : List Nat} (h : dz_goE T cf P M f sp sps cu hs = true) : dz_okE T cf P M (dz_rd dz_rSp sp) (sps.map (dz_rd dz_rSp)) (dz_rd dz_rCu cu) := by
  obtain ⟨w1, h1⟩ := dz_rd_eq dz_rSp_n sp
  obtain ⟨w2, h2⟩ := dz_rd_eq dz_rCu_n cu
  obtain ⟨w3, h3⟩ := dz_rd_eq (dz_rl_n dz_rHn_n) hs
  unfold dz_goE at h
  rw [h1, dz_rs_eq dz_rSp_n, h2, h3] at h
  obtain ⟨b, hb⟩ := dz_fin_ok h
  exact ⟨_, f, _, b, hb⟩
/-- the piece from a cut -/
noncomputable def dz_goU (T : dz_TT) (cf : dz_Cf) (P : cz_P) (M : cz_M) (sp : Nat) (sps : List Nat) (cu j hs : Nat) : Bool := dz_rSp Bool sp (fun s _ => dz_rs dz_rSp Bool sps (fun l => dz_rCu Bool cu (fun u _ => match dz_nth u j with
  | some c => dz_rl dz_rHn Bool hs (fun a _ => dz_fin (dz_ck ((T, cf, P), (M, s, l, u), (dz_ini s.2.2.1).1, some c.2.2) 20000 true c.1 (dz_ini c.2.1) a))
  | none => false)))
theorem dz_goU_ok {T : dz_TT} {cf : dz_Cf} {P : cz_P} {M : cz_M} {sp cu j hs : Nat} {sps : List Nat} (h : dz_goU T cf P M sp sps cu j hs = true) : ∃ c, dz_nth (dz_rd dz_rCu cu) j = some c ∧ dz_okU T cf P M (dz_rd dz_rSp sp) (sps.map (dz_rd dz_rSp)) (dz_rd dz_rCu cu) c := by
  obtain ⟨w1, h1⟩ := dz_rd_eq dz_rSp_n sp
  obtain ⟨w2, h2⟩ := dz_rd_eq dz_rCu_n cu
  obtain ⟨w3, h3⟩ := dz_rd_eq (dz_rl_n dz_rHn_n) hs
  unfold dz_goU at h
  rw [h1, dz_rs_eq dz_rSp_n, h2] at h
  split at h
  · rename_i c hc
    rw [h3] at h
    obtain ⟨b, hb⟩ := dz_fin_ok h
    exact ⟨c, hc, _, _, b, hb⟩
  · cases h
/-- all of a method's pieces: its start, then its cuts -/
noncomputable def dz_goA (T : dz_TT) (cf : dz_Cf) (P : cz_P) (M : cz_M) (sp : Nat) (sps : List Nat) (cu : Nat) (hs : List Nat) : Nat → Bool := List.rec (fun _ => true) (fun a _ ih j => dz_goU T cf P M sp sps cu j a && ih (Nat.add j 1)) hs
theorem dz_goA_ok {T : dz_TT} {cf : dz_Cf} {P : cz_P} {M : cz_M} {sp cu : Nat} {sps : List Nat} : ∀ {hs : List Nat} {j : Nat}, dz_goA T cf P M sp sps cu hs j = true → ∀ i, i < hs.length → ∃ c, dz_nth (dz_rd dz_rCu cu) (j + i) = some c ∧ dz_okU T cf P M (dz_rd dz_rSp sp) (sps.map (dz_rd dz_rSp)) (dz_rd dz_rCu cu) c
  | [], j, h => fun i hi => absurd hi (Nat.not_lt_zero i)
  | a :: hs, j, h => fun i hi => by
    have h : (dz_goU T cf P M sp sps cu j a && dz_goA T cf P M sp sps cu hs (j + 1)) = true := h
    rw [Bool.and_eq_true] at h
    cases i with
    | zero => exact dz_goU_ok h.1
    | succ i =>
      have := dz_goA_ok h.2 i (by simpa using hi)
      rwa [show j + 1 + i = j + (i + 1) by omega] at this
/-- a method by its numbers -/
noncomputable def dz_goM (T : dz_TT) (cf : dz_Cf) (P : cz_P) (M : cz_M) (f : Bool) (sp : Nat) (sps : List Nat) (cu h0 : Nat) (hs : List Nat) : Bool := (dz_goE T cf P M f sp sps cu h0 && dz_goA T cf P M sp sps cu hs 0) && (Nat.beq (dz_rd dz_rCu cu).length hs.length && Nat.beq (dz_rd dz_rSp sp).2.2.1.1 0)
theorem dz_goM_ok {T : dz_TT} {X : dz_X} {cf : dz_Cf} {P : cz_P} {M : cz_M} {f : Bool} {sp cu h0 : Nat} {sps hs : List Nat} (hC : dz_okC T X cf) (hM : P.1[(dz_rd dz_rSp sp).1]? = some M) (hsp : ∀ s ∈ sps, dz_spec T X P (dz_rd dz_rSp s)) (h : dz_goM T cf P M f sp sps cu h0 hs = true) : dz_spec T X P (dz_rd dz_rSp sp) := by
  unfold dz_goM at h
  rw [Bool.and_eq_true, Bool.and_eq_true, Bool.and_eq_true] at h
  obtain ⟨⟨h1, h2⟩, h3, h4⟩ := h
  have h3 := Nat.eq_of_beq_eq_true h3
  have h4 := Nat.eq_of_beq_eq_true h4
  refine dz_meth hC hM h4 (fun s hs => ?_) (dz_goE_ok h1) (fun c hc => ?_)
  · obtain ⟨n, hn, rfl⟩ := List.mem_map.mp hs
    exact hsp n hn
  · obtain ⟨i, hi, rfl⟩ := List.getElem_of_mem hc
    obtain ⟨c, hc1, hc2⟩ := dz_goA_ok h2 i (by omega)
    rw [Nat.zero_add, dz_nth_eq, List.getElem?_eq_getElem hi] at hc1
    cases hc1
    exact hc2
