/-! L2, part 21: lists of numbers written as one number, read back step by step. -/
/-- one number: a byte below 250, or 250 + k and then k + 2 bytes -/
noncomputable def dy_r1 (α : Type) (N : Nat) (k : Nat → Nat → α) : α := dz_fn (Nat.mod N 256) (fun b => bif Nat.blt b 250 then dz_fn (Nat.div N 256) (fun M => k b M) else dz_fn (Nat.pow 256 (Nat.sub b 248)) (fun p => dz_fn (Nat.div N 256) (fun M => dz_fn (Nat.mod M p) (fun v => dz_fn (Nat.div M p) (fun W => k v W)))))
/-- a way of reading that ends in one thing and a rest, whatever is done with them -/
def dy_rdr (β : Type) : Type 1 := (α : Type) → Nat → (β → Nat → α) → α
def dy_rn {β : Type} (R : dy_rdr β) : Prop := ∀ N, ∃ x W, ∀ (α : Type) (k : β → Nat → α), R α N k = k x W
theorem dy_r1_n : dy_rn dy_r1 := by
  intro N
  cases hb : Nat.blt (Nat.mod N 256) 250 with
  | true =>
    refine ⟨Nat.mod N 256, Nat.div N 256, fun α k => ?_⟩
    unfold dy_r1
    rw [dz_fn_eq, hb, cond_true, dz_fn_eq]
  | false =>
    refine ⟨Nat.mod (Nat.div N 256) (Nat.pow 256 (Nat.sub (Nat.mod N 256) 248)), Nat.div (Nat.div N 256) (Nat.pow 256 (Nat.sub (Nat.mod N 256) 248)), fun α k => ?_⟩
    unfold dy_r1
    rw [dz_fn_eq, hb, cond_false, dz_fn_eq, dz_fn_eq, dz_fn_eq, dz_fn_eq]
/-- a whole number: twice it, or twice what is below it less one -/
noncomputable def dy_rz (α : Type) (N : Nat) (k : Int → Nat → α) : α := dy_r1 α N (fun v W => bif Nat.beq (Nat.mod v 2) 0 then dz_fn (Nat.div v 2) (fun a => k (.ofNat a) W) else dz_fn (Nat.div v 2) (fun a => k (.negSucc a) W))
theorem dy_rz_n : dy_rn dy_rz := by
  intro N
  obtain ⟨v, W, hv⟩ := dy_r1_n N
  cases hb : Nat.beq (Nat.mod v 2) 0 with
  | true => exact ⟨.ofNat (Nat.div v 2), W, fun α k => by unfold dy_rz; rw [hv, hb, cond_true, dz_fn_eq]⟩
  | false => exact ⟨.negSucc (Nat.div v 2), W, fun α k => by unfold dy_rz; rw [hv, hb, cond_false, dz_fn_eq]⟩
noncomputable def dy_rm {β : Type} (R : dy_rdr β) (α : Type) (m : Nat) : Nat → List β → (List β → Nat → α) → α := Nat.rec (fun N l k => k l N) (fun _ ih N l k => R α N (fun x W => ih W (x :: l) k)) m
theorem dy_rm_n {β : Type} {R : dy_rdr β} (hR : dy_rn R) : ∀ (m N : Nat) (l : List β), ∃ x W, ∀ (α : Type) (k : List β → Nat → α), dy_rm R α m N l k = k x W
  | 0, N, l => ⟨l, N, fun _ _ => rfl⟩
  | m + 1, N, l => by
    obtain ⟨x, W, hx⟩ := hR N
    obtain ⟨y, V, hy⟩ := dy_rm_n hR m W (x :: l)
    refine ⟨y, V, fun α k => ?_⟩
    show R α N (fun x W => dy_rm R α m W (x :: l) k) = _
    rw [hx, hy]
/-- how many, then each, the last one first -/
noncomputable def dy_rl {β : Type} (R : dy_rdr β) (α : Type) (N : Nat) (k : List β → Nat → α) : α := dy_r1 α N (fun m W => dy_rm R α m W [] k)
theorem dy_rl_n {β : Type} {R : dy_rdr β} (hR : dy_rn R) : dy_rn (dy_rl R) := by
  intro N
  obtain ⟨m, W, hm⟩ := dy_r1_n N
  obtain ⟨y, V, hy⟩ := dy_rm_n hR m W []
  exact ⟨y, V, fun α k => by unfold dy_rl; rw [hm, hy]⟩
noncomputable def dy_rp {β γ : Type} (R : dy_rdr β) (Q : dy_rdr γ) (α : Type) (N : Nat) (k : β × γ → Nat → α) : α := R α N (fun x W => Q α W (fun y V => k (x, y) V))
theorem dy_rp_n {β γ : Type} {R : dy_rdr β} {Q : dy_rdr γ} (hR : dy_rn R) (hQ : dy_rn Q) : dy_rn (dy_rp R Q) := by
  intro N
  obtain ⟨x, W, hx⟩ := hR N
  obtain ⟨y, V, hy⟩ := hQ W
  exact ⟨(x, y), V, fun α k => by unfold dy_rp; rw [hx, hy]⟩
noncomputable def dy_rE : dy_rdr dz_E := dy_rp dy_rz (dy_rl (dy_rp dy_r1 dy_rz))
theorem dy_rE_n : dy_rn dy_rE := dy_rp_n dy_rz_n (dy_rl_n (dy_rp_n dy_r1_n dy_rz_n))
noncomputable def dy_rCt : dy_rdr dz_Ct := dy_rp dy_r1 (dy_rl (dy_rp dy_r1 dy_r1))
noncomputable def dy_rHn : dy_rdr dz_Hn := dy_rp dy_r1 (dy_rp (dy_rl dy_rCt) (dy_rl dy_r1))
theorem dy_rHn_n : dy_rn dy_rHn := dy_rp_n dy_r1_n (dy_rp_n (dy_rl_n (dy_rp_n dy_r1_n (dy_rl_n (dy_rp_n dy_r1_n dy_r1_n)))) (dy_rl_n dy_r1_n))
noncomputable def dy_rCm : dy_rdr dz_Cm := dy_rp (dy_rp dy_r1 (dy_rp dy_r1 (dy_rp dy_r1 dy_r1))) (dy_rp dy_rE (dy_rp dy_rE dy_rE))
theorem dy_rCm_n : dy_rn dy_rCm := dy_rp_n (dy_rp_n dy_r1_n (dy_rp_n dy_r1_n (dy_rp_n dy_r1_n dy_r1_n))) (dy_rp_n dy_rE_n (dy_rp_n dy_rE_n dy_rE_n))
noncomputable def dy_rTp : dy_rdr dz_Tp := dy_rp dy_r1 (dy_rp (dy_rl dy_rCm) (dy_rl dy_rE))
theorem dy_rTp_n : dy_rn dy_rTp := dy_rp_n dy_r1_n (dy_rp_n (dy_rl_n dy_rCm_n) (dy_rl_n dy_rE_n))
noncomputable def dy_rSp : dy_rdr dz_Sp := dy_rp dy_r1 (dy_rp dy_r1 (dy_rp dy_rTp (dy_rp (dy_rl (dy_rp dy_r1 dy_rTp)) (dy_rl (dy_rp dy_r1 dy_r1)))))
theorem dy_rSp_n : dy_rn dy_rSp := dy_rp_n dy_r1_n (dy_rp_n dy_r1_n (dy_rp_n dy_rTp_n (dy_rp_n (dy_rl_n (dy_rp_n dy_r1_n dy_rTp_n)) (dy_rl_n (dy_rp_n dy_r1_n dy_r1_n)))))
noncomputable def dy_rCu : dy_rdr (List dz_Cu) := dy_rl (dy_rp dy_r1 (dy_rp dy_rTp dy_rE))
theorem dy_rCu_n : dy_rn dy_rCu := dy_rl_n (dy_rp_n dy_r1_n (dy_rp_n dy_rTp_n dy_rE_n))
/-- what is read -/
noncomputable def dy_rd {β : Type} (R : dy_rdr β) (N : Nat) : β := R β N (fun x _ => x)
theorem dy_rd_eq {β : Type} {R : dy_rdr β} (hR : dy_rn R) (N : Nat) : ∃ W, ∀ (α : Type) (k : β → Nat → α), R α N k = k (dy_rd R N) W := by
  obtain ⟨x, W, hx⟩ := hR N
  have : dy_rd R N = x := hx β (fun x _ => x)
  exact ⟨W, fun α k => by rw [this]; exact hx α k⟩
/-- each of some numbers read -/
noncomputable def dy_rs {β : Type} (R : dy_rdr β) (α : Type) (ns : List Nat) : (List β → α) → α := List.rec (fun k => k []) (fun n _ ih k => R α n (fun x _ => ih (fun l => k (x :: l)))) ns
theorem dy_rs_eq {β : Type} {R : dy_rdr β} (hR : dy_rn R) (α : Type) : ∀ (ns : List Nat) (k : List β → α), dy_rs R α ns k = k (ns.map (dy_rd R))
  | [], k => rfl
  | n :: ns, k => by
    obtain ⟨W, hW⟩ := dy_rd_eq hR n
    show R α n (fun x _ => dy_rs R α ns (fun l => k (x :: l))) = _
    rw [hW, dy_rs_eq hR α ns]
    rfl
def dy_fin (o : Option (List dz_Hn)) : Bool := match o with
  | some l => (match l with
    | [] => true
    | _ :: _ => false)
  | none => false
theorem dy_fin_ok {o : Option (List dz_Hn)} (h : dy_fin o = true) : ∃ b, o = some b := by
  cases o with
  | none => cases h
  | some b => exact ⟨b, rfl⟩
/-- the piece from a method's start, all of it read from numbers -/
noncomputable def dy_goE (T : dz_TT) (cf : dz_Cf) (P : cz_P) (M : cz_M) (f : Bool) (sp : Nat) (sps : List Nat) (cu hs : Nat) : Bool := dy_rSp Bool sp (fun s _ => dy_rs dy_rSp Bool sps (fun l => dy_rCu Bool cu (fun u _ => dy_rl dy_rHn Bool hs (fun a _ => dy_fin (dz_ck ((T, cf, P), (M, s, l, u), (dz_ini s.2.2.1).1, none) 20000 f 0 (dz_ini s.2.2.1) a)))))
theorem dy_goE_ok {T : dz_TT} {cf : dz_Cf} {P : cz_P} {M : cz_M} {f : Bool} {sp cu hs : Nat} {sps : List Nat} (h : dy_goE T cf P M f sp sps cu hs = true) : dz_okE T cf P M (dy_rd dy_rSp sp) (sps.map (dy_rd dy_rSp)) (dy_rd dy_rCu cu) := by
  obtain ⟨w1, h1⟩ := dy_rd_eq dy_rSp_n sp
  obtain ⟨w2, h2⟩ := dy_rd_eq dy_rCu_n cu
  obtain ⟨w3, h3⟩ := dy_rd_eq (dy_rl_n dy_rHn_n) hs
  unfold dy_goE at h
  rw [h1, dy_rs_eq dy_rSp_n, h2, h3] at h
  obtain ⟨b, hb⟩ := dy_fin_ok h
  exact ⟨_, f, _, b, hb⟩
/-- the piece from a cut -/
noncomputable def dy_goU (T : dz_TT) (cf : dz_Cf) (P : cz_P) (M : cz_M) (sp : Nat) (sps : List Nat) (cu j hs : Nat) : Bool := dy_rSp Bool sp (fun s _ => dy_rs dy_rSp Bool sps (fun l => dy_rCu Bool cu (fun u _ => match dz_nth u j with
  | some c => dy_rl dy_rHn Bool hs (fun a _ => dy_fin (dz_ck ((T, cf, P), (M, s, l, u), (dz_ini s.2.2.1).1, some c.2.2) 20000 true c.1 (dz_ini c.2.1) a))
  | none => false)))
theorem dy_goU_ok {T : dz_TT} {cf : dz_Cf} {P : cz_P} {M : cz_M} {sp cu j hs : Nat} {sps : List Nat} (h : dy_goU T cf P M sp sps cu j hs = true) : ∃ c, dz_nth (dy_rd dy_rCu cu) j = some c ∧ dz_okU T cf P M (dy_rd dy_rSp sp) (sps.map (dy_rd dy_rSp)) (dy_rd dy_rCu cu) c := by
  obtain ⟨w1, h1⟩ := dy_rd_eq dy_rSp_n sp
  obtain ⟨w2, h2⟩ := dy_rd_eq dy_rCu_n cu
  obtain ⟨w3, h3⟩ := dy_rd_eq (dy_rl_n dy_rHn_n) hs
  unfold dy_goU at h
  rw [h1, dy_rs_eq dy_rSp_n, h2] at h
  split at h
  · rename_i c hc
    rw [h3] at h
    obtain ⟨b, hb⟩ := dy_fin_ok h
    exact ⟨c, hc, _, _, b, hb⟩
  · cases h
/-- all of a method's pieces: its start, then its cuts -/
noncomputable def dy_goA (T : dz_TT) (cf : dz_Cf) (P : cz_P) (M : cz_M) (sp : Nat) (sps : List Nat) (cu : Nat) (hs : List Nat) : Nat → Bool := List.rec (fun _ => true) (fun a _ ih j => dy_goU T cf P M sp sps cu j a && ih (Nat.add j 1)) hs
theorem dy_goA_ok {T : dz_TT} {cf : dz_Cf} {P : cz_P} {M : cz_M} {sp cu : Nat} {sps : List Nat} : ∀ {hs : List Nat} {j : Nat}, dy_goA T cf P M sp sps cu hs j = true → ∀ i, i < hs.length → ∃ c, dz_nth (dy_rd dy_rCu cu) (j + i) = some c ∧ dz_okU T cf P M (dy_rd dy_rSp sp) (sps.map (dy_rd dy_rSp)) (dy_rd dy_rCu cu) c
  | [], j, h => fun i hi => absurd hi (Nat.not_lt_zero i)
  | a :: hs, j, h => fun i hi => by
    have h : (dy_goU T cf P M sp sps cu j a && dy_goA T cf P M sp sps cu hs (j + 1)) = true := h
    rw [Bool.and_eq_true] at h
    cases i with
    | zero => exact dy_goU_ok h.1
    | succ i =>
      have := dy_goA_ok h.2 i (by simpa using hi)
      rwa [show j + 1 + i = j + (i + 1) by omega] at this
/-- a method by its numbers -/
noncomputable def dy_goM (T : dz_TT) (cf : dz_Cf) (P : cz_P) (M : cz_M) (f : Bool) (sp : Nat) (sps : List Nat) (cu h0 : Nat) (hs : List Nat) : Bool := (dy_goE T cf P M f sp sps cu h0 && dy_goA T cf P M sp sps cu hs 0) && (Nat.beq (dy_rd dy_rCu cu).length hs.length && Nat.beq (dy_rd dy_rSp sp).2.2.1.1 0)
theorem dy_goM_ok {T : dz_TT} {X : dz_X} {cf : dz_Cf} {P : cz_P} {M : cz_M} {f : Bool} {sp cu h0 : Nat} {sps hs : List Nat} (hC : dz_okC T X cf) (hM : P.1[(dy_rd dy_rSp sp).1]? = some M) (hsp : ∀ s ∈ sps, dz_spec T X P (dy_rd dy_rSp s)) (h : dy_goM T cf P M f sp sps cu h0 hs = true) : dz_spec T X P (dy_rd dy_rSp sp) := by
  unfold dy_goM at h
  rw [Bool.and_eq_true, Bool.and_eq_true, Bool.and_eq_true] at h
  obtain ⟨⟨h1, h2⟩, h3, h4⟩ := h
  have h3 := Nat.eq_of_beq_eq_true h3
  have h4 := Nat.eq_of_beq_eq_true h4
  refine dz_meth hC hM h4 (fun s hs => ?_) (dy_goE_ok h1) (fun c hc => ?_)
  · obtain ⟨n, hn, rfl⟩ := List.mem_map.mp hs
    exact hsp n hn
  · obtain ⟨i, hi, rfl⟩ := List.getElem_of_mem hc
    obtain ⟨c, hc1, hc2⟩ := dy_goA_ok h2 i (by omega)
    rw [Nat.zero_add, dz_nth_eq, List.getElem?_eq_getElem hi] at hc1
    cases hc1
    exact hc2
