/-! The class: placeOf; what LINES 1, 2, 4 tell. (Written by wip/p2/py/pv22.py.) -/
theorem nz_cmp_lt (a b : Int64) : (lg_cmp a b).toInt < 0 ↔ a < b := by
  unfold lg_cmp
  by_cases h1 : a > b
  · rw [if_pos h1]
    refine ⟨fun w => absurd w (by decide), fun w => ?_⟩
    have e1 := Int64.lt_iff_toInt_lt.mp h1
    have e2 := Int64.lt_iff_toInt_lt.mp w
    omega
  · rw [if_neg h1]
    by_cases h2 : a = b
    · rw [if_pos h2]
      refine ⟨fun w => absurd w (by decide), fun w => ?_⟩
      have e2 := Int64.lt_iff_toInt_lt.mp w
      rw [h2] at e2
      omega
    · rw [if_neg h2]
      refine ⟨fun _ => Int64.lt_iff_toInt_lt.mpr ?_, fun _ => by decide⟩
      have e1 : ¬ b.toInt < a.toInt := fun w => h1 (Int64.lt_iff_toInt_lt.mpr w)
      have e2 : a.toInt ≠ b.toInt := fun w => h2 (Int64.toInt_inj.mp w)
      omega
theorem nz_cmp_eq (a b : Int64) : (lg_cmp a b).toInt = 0 ↔ a = b := by
  unfold lg_cmp
  by_cases h1 : a > b
  · rw [if_pos h1]
    refine ⟨fun w => absurd w (by decide), fun w => ?_⟩
    have e1 := Int64.lt_iff_toInt_lt.mp h1
    rw [w] at e1
    omega
  · rw [if_neg h1]
    by_cases h2 : a = b
    · rw [if_pos h2]; exact ⟨fun _ => h2, fun _ => by decide⟩
    · rw [if_neg h2]; exact ⟨fun w => absurd w (by decide), fun w => absurd w h2⟩
theorem ez_and {d : Nat} {M : cz_M} {pc : Nat} {L : List (Nat × ez_V)} {st : List ez_V} {h : cz_H} {Q1 Q2 : cz_F → Prop} (a : ez_W d M pc L st h Q1) (b : ez_W d M pc L st h Q2) : ez_W d M pc L st h (fun F => Q1 F ∧ Q2 F) := by
  obtain ⟨n1, F1, h1, q1⟩ := a
  obtain ⟨n2, F2, h2, q2⟩ := b
  have e1 := dz_x_mono cz_pg n1 n2 _ _ _ _ _ _ _ h1
  have e2 := dz_x_mono cz_pg n2 n1 _ _ _ _ _ _ _ h2
  rw [Nat.add_comm] at e2
  rw [e1] at e2
  cases e2
  exact ⟨n1, F1, h1, q1, q2⟩
theorem ez_mono {d : Nat} {M : cz_M} {pc : Nat} {L : List (Nat × ez_V)} {st : List ez_V} {h : cz_H} {Q1 Q2 : cz_F → Prop} (a : ez_W d M pc L st h Q1) (k : ∀ F, Q1 F → Q2 F) : ez_W d M pc L st h Q2 := by
  obtain ⟨n1, F1, h1, q1⟩ := a
  exact ⟨n1, F1, h1, k _ q1⟩
/-- a cut makes no new specials -/
theorem rd_cut8 {d : Nat} {h : cz_H} {τ : Nat → Nat} {p : Int} (hB : ez_B τ h) (t202 : τ 202 = 48) (t203 : τ 203 = 49) (hs : sz_ok h) (hinj : sz_inj h) (p0 : 0 ≤ p) (p1 : p ≤ 2147483647) : ez_W (d + 1) cm_97 0 [(0, .inr (.inr (some (202)))), (1, .inl (p))] [] h (fun F => ∀ z, τ z = 4 → ∃ z', τ z' = 4 ∧ qz_I F.2 z 8 = qz_I h z' 8) := by
  refine rd_cutBefore hB t202 hs hinj p0 p1 (fun w => ?_) (fun i hi w hor => ?_) (fun g i q hi w hne hn hq hB1 hf v1 v2 v3 v4 v5 => ?_)
  · exact fun z hz => ⟨z, hz, rfl⟩
  · exact fun z hz => ⟨z, hz, rfl⟩
  · intro z hz
    by_cases e : z = q
    · subst e
      have bn := sz_R_n1 hB t202
      exact ⟨_, sz_tag hB t203 hi.1 (by have := hi.2.1; omega), v5 8 (by omega) (by omega)⟩
    · refine ⟨z, hz, hf.I ?_ 8⟩
      unfold sz_P3
      rw [dz_beq_ne e, dz_beq_ne (fun e => by rw [e, t202] at hz; cases hz), dz_beq_ne (fun e => by rw [e, t203] at hz; cases hz)]
      rfl
section EzPl
variable {d : Nat} {h : cz_H} {τ : Nat → Nat} {Q : cz_F → Prop}
theorem rd_mid {lo hi : Int} (l0 : 0 ≤ lo) (lh : lo < hi) (h1 : hi ≤ 100000) : lo ≤ (((Int32.ofInt ((lo) + (hi))).toUInt32 >>> ((Int32.ofInt (1)).toUInt32 &&& Int32.toUInt32 31)).toInt32).toInt ∧ (((Int32.ofInt ((lo) + (hi))).toUInt32 >>> ((Int32.ofInt (1)).toUInt32 &&& Int32.toUInt32 31)).toInt32).toInt < hi := by
  have e := ez_half (a := lo + hi) (by omega) (by omega)
  rw [e]
  omega
theorem rd_placeOfR_l {s : Int64} {r : Nat} {n : Int} (hB : ez_B τ h) (tr : τ r = 50) (n1 : n ≤ 256) (k : ∀ v : Int, 0 ≤ v → v ≤ n → (v = 0 ∨ Int64.ofInt (qz_I h r (v - 1).toNat) < s) → (v = n ∨ ¬ Int64.ofInt (qz_I h r (v).toNat) < s) → Q (.inl (some (ez_v (.inl v))), h)) : ∀ (m : Nat) (lo hi : Int), (hi - lo).toNat ≤ m → 0 ≤ lo → lo ≤ hi → hi ≤ n → (lo = 0 ∨ Int64.ofInt (qz_I h r (lo - 1).toNat) < s) → (hi = n ∨ ¬ Int64.ofInt (qz_I h r (hi).toNat) < s) → ez_W d cm_26 6 [(5, .inl (hi)), (4, .inl (lo)), (0, .inr (.inl (s))), (2, .inr (.inr (some (r)))), (3, .inl (n))] [] h Q := by
  intro m
  induction m with
  | zero =>
    intro lo hi hm l0 lh hn h1 h2
    refine ez_go (n := 2) (pc' := 10) (L' := [(5, .inl (hi)), (4, .inl (lo)), (0, .inr (.inl (s))), (2, .inr (.inr (some (r)))), (3, .inl (n))]) (st' := [.inl (hi), .inl (lo)]) rfl ?_
    refine ez_icmp rfl rfl ⟨by first | omega | exact (sz_i32 _).1, by first | omega | exact (sz_i32 _).2⟩ ⟨by first | omega | exact (sz_i32 _).1, by first | omega | exact (sz_i32 _).2⟩ (fun (c1 : (hi) ≤ (lo)) => ?_) (fun (c1 : ¬((hi) ≤ (lo))) => ?_)
    · skip
      refine ez_go (n := 1) (pc' := 49) (L' := [(5, .inl (hi)), (4, .inl (lo)), (0, .inr (.inl (s))), (2, .inr (.inr (some (r)))), (3, .inl (n))]) (st' := [.inl (lo)]) rfl ?_
      exact ez_retI rfl rfl (k lo l0 (by omega) h1 (by rw [show lo = hi by omega]; exact h2))
    · exfalso; omega
  | succ m ih =>
    intro lo hi hm l0 lh hn h1 h2
    refine ez_go (n := 2) (pc' := 10) (L' := [(5, .inl (hi)), (4, .inl (lo)), (0, .inr (.inl (s))), (2, .inr (.inr (some (r)))), (3, .inl (n))]) (st' := [.inl (hi), .inl (lo)]) rfl ?_
    refine ez_icmp rfl rfl ⟨by first | omega | exact (sz_i32 _).1, by first | omega | exact (sz_i32 _).2⟩ ⟨by first | omega | exact (sz_i32 _).1, by first | omega | exact (sz_i32 _).2⟩ (fun (c1 : (hi) ≤ (lo)) => ?_) (fun (c1 : ¬((hi) ≤ (lo))) => ?_)
    · skip
      refine ez_go (n := 1) (pc' := 49) (L' := [(5, .inl (hi)), (4, .inl (lo)), (0, .inr (.inl (s))), (2, .inr (.inr (some (r)))), (3, .inl (n))]) (st' := [.inl (lo)]) rfl ?_
      exact ez_retI rfl rfl (k lo l0 (by omega) h1 (by rw [show lo = hi by omega]; exact h2))
    · skip
      refine ez_go (n := 6) (pc' := 22) (L' := [(6, .inl ((((Int32.ofInt ((lo) + (hi))).toUInt32 >>> ((Int32.ofInt (1)).toUInt32 &&& Int32.toUInt32 31)).toInt32).toInt)), (5, .inl (hi)), (4, .inl (lo)), (0, .inr (.inl (s))), (2, .inr (.inr (some (r)))), (3, .inl (n))]) (st' := []) rfl ?_
      have hmid := rd_mid (lo := lo) (hi := hi) (by omega) (by omega) (by omega)
      generalize (((Int32.ofInt ((lo) + (hi))).toUInt32 >>> ((Int32.ofInt (1)).toUInt32 &&& Int32.toUInt32 31)).toInt32).toInt = md at *
      refine ez_go (n := 2) (pc' := 25) (L' := [(6, .inl (md)), (5, .inl (hi)), (4, .inl (lo)), (0, .inr (.inl (s))), (2, .inr (.inr (some (r)))), (3, .inl (n))]) (st' := [.inl (md), .inr (.inr (some (r)))]) rfl ?_
      have n2 : 256 ≤ qz_N h r ∧ qz_N h r ≤ 256 := ez_len hB tr tq_50 rfl
      refine ez_aL hB tr rfl tq_50 rfl rfl (by omega) (by omega) ?_
      refine ez_go (n := 2) (pc' := 28) (L' := [(6, .inl (md)), (5, .inl (hi)), (4, .inl (lo)), (0, .inr (.inl (s))), (2, .inr (.inr (some (r)))), (3, .inl (n))]) (st' := [.inl ((lg_cmp (Int64.ofInt (qz_I h r (md).toNat)) (s)).toInt)]) rfl ?_
      refine ez_if rfl rfl ⟨by first | omega | exact (sz_i32 _).1, by first | omega | exact (sz_i32 _).2⟩ (fun (c3 : (0) ≤ ((lg_cmp (Int64.ofInt (qz_I h r (md).toNat)) (s)).toInt)) => ?_) (fun (c3 : ¬((0) ≤ ((lg_cmp (Int64.ofInt (qz_I h r (md).toNat)) (s)).toInt))) => ?_)
      · skip
        refine ez_go (n := 3) (pc' := 6) (L' := [(5, .inl (md)), (6, .inl (md)), (4, .inl (lo)), (0, .inr (.inl (s))), (2, .inr (.inr (some (r)))), (3, .inl (n))]) (st' := []) rfl ?_
        refine ez_less [(5, .inl (md)), (4, .inl (lo)), (0, .inr (.inl (s))), (2, .inr (.inr (some (r)))), (3, .inl (n))] rfl ⟨rfl, rfl, rfl, rfl, rfl, trivial⟩ ?_
        exact ih _ _ (by omega) (by omega) (by omega) (by omega) h1 (Or.inr (fun w => absurd ((nz_cmp_lt _ _).mpr w) (by omega)))
      · skip
        refine ez_go (n := 6) (pc' := 6) (L' := [(4, .inl ((md) + (1))), (6, .inl (md)), (5, .inl (hi)), (0, .inr (.inl (s))), (2, .inr (.inr (some (r)))), (3, .inl (n))]) (st' := []) rfl ?_
        refine ez_less [(5, .inl (hi)), (4, .inl ((md) + (1))), (0, .inr (.inl (s))), (2, .inr (.inr (some (r)))), (3, .inl (n))] rfl ⟨rfl, rfl, rfl, rfl, rfl, trivial⟩ ?_
        exact ih _ _ (by omega) (by omega) (by omega) hn (Or.inr (by rw [show md + 1 - 1 = md by omega]; exact (nz_cmp_lt _ _).mp (by omega))) h2
theorem rd_placeOfR {s : Int64} {r : Nat} {n : Int} (hB : ez_B τ h) (tr : τ r = 50) (n0 : 0 ≤ n) (n1 : n ≤ 256) (k : ∀ v : Int, 0 ≤ v → v ≤ n → (v = 0 ∨ Int64.ofInt (qz_I h r (v - 1).toNat) < s) → (v = n ∨ ¬ Int64.ofInt (qz_I h r (v).toNat) < s) → Q (.inl (some (ez_v (.inl v))), h)) : ez_W d cm_26 0 [(0, .inr (.inl (s))), (2, .inr (.inr (some (r)))), (3, .inl (n))] [] h Q := by
  refine ez_go (n := 4) (pc' := 6) (L' := [(5, .inl (n)), (4, .inl (0)), (0, .inr (.inl (s))), (2, .inr (.inr (some (r)))), (3, .inl (n))]) (st' := []) rfl ?_
  refine ez_less [(5, .inl (n)), (4, .inl (0)), (0, .inr (.inl (s))), (2, .inr (.inr (some (r)))), (3, .inl (n))] rfl ⟨rfl, rfl, rfl, rfl, rfl, trivial⟩ ?_
  exact rd_placeOfR_l hB tr n1 k _ 0 n (Nat.le_refl _) (by omega) n0 (by omega) (Or.inl rfl) (Or.inl rfl)

theorem rd_placeOfP_l {s : Int64} {r : Nat} {n : Int} (hB : ez_B τ h) (tr : τ r = 59) (n1 : n ≤ 256) (k : ∀ v : Int, 0 ≤ v → v ≤ n → (v = 0 ∨ Int64.ofInt (qz_I h r (v - 1).toNat) < s) → (v = n ∨ ¬ Int64.ofInt (qz_I h r (v).toNat) < s) → Q (.inl (some (ez_v (.inl v))), h)) : ∀ (m : Nat) (lo hi : Int), (hi - lo).toNat ≤ m → 0 ≤ lo → lo ≤ hi → hi ≤ n → (lo = 0 ∨ Int64.ofInt (qz_I h r (lo - 1).toNat) < s) → (hi = n ∨ ¬ Int64.ofInt (qz_I h r (hi).toNat) < s) → ez_W d cm_26 6 [(5, .inl (hi)), (4, .inl (lo)), (0, .inr (.inl (s))), (2, .inr (.inr (some (r)))), (3, .inl (n))] [] h Q := by
  intro m
  induction m with
  | zero =>
    intro lo hi hm l0 lh hn h1 h2
    refine ez_go (n := 2) (pc' := 10) (L' := [(5, .inl (hi)), (4, .inl (lo)), (0, .inr (.inl (s))), (2, .inr (.inr (some (r)))), (3, .inl (n))]) (st' := [.inl (hi), .inl (lo)]) rfl ?_
    refine ez_icmp rfl rfl ⟨by first | omega | exact (sz_i32 _).1, by first | omega | exact (sz_i32 _).2⟩ ⟨by first | omega | exact (sz_i32 _).1, by first | omega | exact (sz_i32 _).2⟩ (fun (c1 : (hi) ≤ (lo)) => ?_) (fun (c1 : ¬((hi) ≤ (lo))) => ?_)
    · skip
      refine ez_go (n := 1) (pc' := 49) (L' := [(5, .inl (hi)), (4, .inl (lo)), (0, .inr (.inl (s))), (2, .inr (.inr (some (r)))), (3, .inl (n))]) (st' := [.inl (lo)]) rfl ?_
      exact ez_retI rfl rfl (k lo l0 (by omega) h1 (by rw [show lo = hi by omega]; exact h2))
    · exfalso; omega
  | succ m ih =>
    intro lo hi hm l0 lh hn h1 h2
    refine ez_go (n := 2) (pc' := 10) (L' := [(5, .inl (hi)), (4, .inl (lo)), (0, .inr (.inl (s))), (2, .inr (.inr (some (r)))), (3, .inl (n))]) (st' := [.inl (hi), .inl (lo)]) rfl ?_
    refine ez_icmp rfl rfl ⟨by first | omega | exact (sz_i32 _).1, by first | omega | exact (sz_i32 _).2⟩ ⟨by first | omega | exact (sz_i32 _).1, by first | omega | exact (sz_i32 _).2⟩ (fun (c1 : (hi) ≤ (lo)) => ?_) (fun (c1 : ¬((hi) ≤ (lo))) => ?_)
    · skip
      refine ez_go (n := 1) (pc' := 49) (L' := [(5, .inl (hi)), (4, .inl (lo)), (0, .inr (.inl (s))), (2, .inr (.inr (some (r)))), (3, .inl (n))]) (st' := [.inl (lo)]) rfl ?_
      exact ez_retI rfl rfl (k lo l0 (by omega) h1 (by rw [show lo = hi by omega]; exact h2))
    · skip
      refine ez_go (n := 6) (pc' := 22) (L' := [(6, .inl ((((Int32.ofInt ((lo) + (hi))).toUInt32 >>> ((Int32.ofInt (1)).toUInt32 &&& Int32.toUInt32 31)).toInt32).toInt)), (5, .inl (hi)), (4, .inl (lo)), (0, .inr (.inl (s))), (2, .inr (.inr (some (r)))), (3, .inl (n))]) (st' := []) rfl ?_
      have hmid := rd_mid (lo := lo) (hi := hi) (by omega) (by omega) (by omega)
      generalize (((Int32.ofInt ((lo) + (hi))).toUInt32 >>> ((Int32.ofInt (1)).toUInt32 &&& Int32.toUInt32 31)).toInt32).toInt = md at *
      refine ez_go (n := 2) (pc' := 25) (L' := [(6, .inl (md)), (5, .inl (hi)), (4, .inl (lo)), (0, .inr (.inl (s))), (2, .inr (.inr (some (r)))), (3, .inl (n))]) (st' := [.inl (md), .inr (.inr (some (r)))]) rfl ?_
      have n2 : 256 ≤ qz_N h r ∧ qz_N h r ≤ 256 := ez_len hB tr tq_59 rfl
      refine ez_aL hB tr rfl tq_59 rfl rfl (by omega) (by omega) ?_
      refine ez_go (n := 2) (pc' := 28) (L' := [(6, .inl (md)), (5, .inl (hi)), (4, .inl (lo)), (0, .inr (.inl (s))), (2, .inr (.inr (some (r)))), (3, .inl (n))]) (st' := [.inl ((lg_cmp (Int64.ofInt (qz_I h r (md).toNat)) (s)).toInt)]) rfl ?_
      refine ez_if rfl rfl ⟨by first | omega | exact (sz_i32 _).1, by first | omega | exact (sz_i32 _).2⟩ (fun (c3 : (0) ≤ ((lg_cmp (Int64.ofInt (qz_I h r (md).toNat)) (s)).toInt)) => ?_) (fun (c3 : ¬((0) ≤ ((lg_cmp (Int64.ofInt (qz_I h r (md).toNat)) (s)).toInt))) => ?_)
      · skip
        refine ez_go (n := 3) (pc' := 6) (L' := [(5, .inl (md)), (6, .inl (md)), (4, .inl (lo)), (0, .inr (.inl (s))), (2, .inr (.inr (some (r)))), (3, .inl (n))]) (st' := []) rfl ?_
        refine ez_less [(5, .inl (md)), (4, .inl (lo)), (0, .inr (.inl (s))), (2, .inr (.inr (some (r)))), (3, .inl (n))] rfl ⟨rfl, rfl, rfl, rfl, rfl, trivial⟩ ?_
        exact ih _ _ (by omega) (by omega) (by omega) (by omega) h1 (Or.inr (fun w => absurd ((nz_cmp_lt _ _).mpr w) (by omega)))
      · skip
        refine ez_go (n := 6) (pc' := 6) (L' := [(4, .inl ((md) + (1))), (6, .inl (md)), (5, .inl (hi)), (0, .inr (.inl (s))), (2, .inr (.inr (some (r)))), (3, .inl (n))]) (st' := []) rfl ?_
        refine ez_less [(5, .inl (hi)), (4, .inl ((md) + (1))), (0, .inr (.inl (s))), (2, .inr (.inr (some (r)))), (3, .inl (n))] rfl ⟨rfl, rfl, rfl, rfl, rfl, trivial⟩ ?_
        exact ih _ _ (by omega) (by omega) (by omega) hn (Or.inr (by rw [show md + 1 - 1 = md by omega]; exact (nz_cmp_lt _ _).mp (by omega))) h2
theorem rd_placeOfP {s : Int64} {r : Nat} {n : Int} (hB : ez_B τ h) (tr : τ r = 59) (n0 : 0 ≤ n) (n1 : n ≤ 256) (k : ∀ v : Int, 0 ≤ v → v ≤ n → (v = 0 ∨ Int64.ofInt (qz_I h r (v - 1).toNat) < s) → (v = n ∨ ¬ Int64.ofInt (qz_I h r (v).toNat) < s) → Q (.inl (some (ez_v (.inl v))), h)) : ez_W d cm_26 0 [(0, .inr (.inl (s))), (2, .inr (.inr (some (r)))), (3, .inl (n))] [] h Q := by
  refine ez_go (n := 4) (pc' := 6) (L' := [(5, .inl (n)), (4, .inl (0)), (0, .inr (.inl (s))), (2, .inr (.inr (some (r)))), (3, .inl (n))]) (st' := []) rfl ?_
  refine ez_less [(5, .inl (n)), (4, .inl (0)), (0, .inr (.inl (s))), (2, .inr (.inr (some (r)))), (3, .inl (n))] rfl ⟨rfl, rfl, rfl, rfl, rfl, trivial⟩ ?_
  exact rd_placeOfP_l hB tr n1 k _ 0 n (Nat.le_refl _) (by omega) n0 (by omega) (Or.inl rfl) (Or.inl rfl)

/-- slots up to traits stay -/
def sz_RW (_ : Prop) (j : Nat) (u v : Int) : Prop := j ≤ 4 → v = u
theorem rd_onlySpanOf {p : Int} (hB : ez_B τ h) (t202 : τ 202 = 48) (t203 : τ 203 = 49) (hs : sz_ok h) (hinj : sz_inj h) (p0 : 0 ≤ p) (p1 : p ≤ 1114111) (hn : qz_I h 202 1 + 2 ≤ 513) (k : ∀ g z, ez_B τ g → τ z = 4 → (∃ z2, τ z2 = 4 ∧ qz_I g z 8 = qz_I h z2 8) → ez_fr (sz_PS τ) h g → (∀ g3, ez_fr (ez_one z) g g3 → (∀ j, j ≤ 4 → qz_I g3 z j = qz_I g z j) → sz_toldR τ h g3 p p sz_RW) → Q (.inl (some (.inr (.inr (some z)))), g)) : ez_W (d + 2) cm_100 0 [(0, .inr (.inr (some (202)))), (1, .inl (p))] [] h Q := by
  refine ez_go (n := 2) (pc' := 2) (L' := [(0, .inr (.inr (some (202)))), (1, .inl (p))]) (st' := [.inl (p), .inr (.inr (some (202)))]) rfl ?_
  refine ez_cv hB t202 rfl rfl rfl tq_48 rfl rfl rfl (ez_mono (ez_and (rd_cutP (Q := fun F => ∃ g m, F = (.inl (some (ez_v (.inl m))), g) ∧ ez_B τ g ∧ sz_ok g ∧ sz_inj g ∧ ez_fr (sz_PS τ) h g ∧ (∀ j, j ≠ 1 → qz_I g 202 j = qz_I h 202 j) ∧ qz_I h 202 1 ≤ qz_I g 202 1 ∧ qz_I g 202 1 ≤ qz_I h 202 1 + 1 ∧ (∀ x k, sz_at g x k → ∃ k', sz_at h x k' ∧ ∀ j, 1 ≤ j → j ≤ 8 → qz_I g (sz_p g k) j = qz_I h (sz_p h k') j) ∧ (∀ k, 0 ≤ k → k < qz_I h 202 1 → sz_f h k ≤ p → sz_f g k = sz_f h k) ∧ (1114111 < p → m = qz_I g 202 1) ∧ (p ≤ 1114111 → qz_I h 202 1 < 513 → 0 ≤ m ∧ m < qz_I g 202 1 ∧ sz_f g m = p) ∧ (0 ≤ m ∧ m ≤ 513)) hB t202 t203 hs hinj (by omega) (by omega) (fun g1 a hB1 s1 i1 x1 x2 x3 x4 x5 x55 x6 x7 x8 => ⟨_, _, rfl, hB1, s1, i1, x1, x2, x3, x4, x5, x55, x6, x7, x8⟩)) (rd_cut8 hB t202 t203 hs hinj (by omega) (by omega))) (fun F hF => ?_))
  obtain ⟨⟨g1, a, rfl, hB1, s1, i1, x1, x2, x3, x4, x5, x55, x6, x7, x8⟩, w80⟩ := hF
  refine ez_K1 ?_
  refine ez_go (n := 5) (pc' := 10) (L' := [(2, .inl (a)), (0, .inr (.inr (some (202)))), (1, .inl (p))]) (st' := [.inl ((p) + (1)), .inr (.inr (some (202)))]) rfl ?_
  refine ez_cv hB1 t202 rfl rfl rfl tq_48 rfl rfl rfl (ez_mono (ez_and (rd_cutP (Q := fun F => ∃ g m, F = (.inl (some (ez_v (.inl m))), g) ∧ ez_B τ g ∧ sz_ok g ∧ sz_inj g ∧ ez_fr (sz_PS τ) g1 g ∧ (∀ j, j ≠ 1 → qz_I g 202 j = qz_I g1 202 j) ∧ qz_I g1 202 1 ≤ qz_I g 202 1 ∧ qz_I g 202 1 ≤ qz_I g1 202 1 + 1 ∧ (∀ x k, sz_at g x k → ∃ k', sz_at g1 x k' ∧ ∀ j, 1 ≤ j → j ≤ 8 → qz_I g (sz_p g k) j = qz_I g1 (sz_p g1 k') j) ∧ (∀ k, 0 ≤ k → k < qz_I g1 202 1 → sz_f g1 k ≤ (p) + (1) → sz_f g k = sz_f g1 k) ∧ (1114111 < (p) + (1) → m = qz_I g 202 1) ∧ ((p) + (1) ≤ 1114111 → qz_I g1 202 1 < 513 → 0 ≤ m ∧ m < qz_I g 202 1 ∧ sz_f g m = (p) + (1)) ∧ (0 ≤ m ∧ m ≤ 513)) hB1 t202 t203 s1 i1 (by omega) (by omega) (fun g2 b hB2 s2 i2 yy1 yy2 yy3 yy4 yy5 yy6 yy7 yy8 yy9 => ⟨_, _, rfl, hB2, s2, i2, yy1, yy2, yy3, yy4, yy5, yy6, yy7, yy8, yy9⟩)) (rd_cut8 hB1 t202 t203 s1 i1 (by omega) (by omega))) (fun F hF => ?_))
  obtain ⟨⟨g2, b, rfl, hB2, s2, i2, yy1, yy2, yy3, yy4, yy5, yy6, yy7, yy8, yy9⟩, w81⟩ := hF
  refine ez_K1 ?_
  have x7 := x7 (by omega) (by omega)
  have bn2 := sz_R_n1 hB2 t202
  refine ez_go (n := 2) (pc' := 15) (L' := [(2, .inl (a)), (0, .inr (.inr (some (202)))), (1, .inl (p))]) (st' := [.inr (.inr (some (202)))]) rfl ?_
  refine ez_gC (p := 203) (tg := 49) hB2 t202 rfl rfl tq_48 rfl rfl (fun (t203 : _ = 49) => ?_)
  refine ez_go (n := 1) (pc' := 19) (L' := [(2, .inl (a)), (0, .inr (.inr (some (202)))), (1, .inl (p))]) (st' := [.inl (a), .inr (.inr (some (203)))]) rfl ?_
  have n2 : 513 ≤ qz_N g2 203 ∧ qz_N g2 203 ≤ 513 := ez_len hB2 t203 tq_49 rfl
  have y3 : 1 ≤ qz_I g2 203 (a).toNat ∧ qz_I g2 203 (a).toNat ≤ 1000000 := ez_aB hB2 t203 tq_49 rfl rfl (by decide) (by omega) (by omega)
  have y3' : ((qz_P g2 203 (a).toNat : Nat) : Int) + 1 = qz_I g2 203 (a).toNat := by unfold qz_P; omega
  refine ez_aR hB2 t203 rfl tq_49 rfl rfl (by omega) (by omega) (by omega) (fun (t1 : _ = 4) => ?_)
  have tz : τ (qz_P g2 203 (a).toNat) = 4 := t1
  refine ez_retA rfl rfl rfl (k g2 _ hB2 tz (by obtain ⟨z1, q1, q2⟩ := w81 _ tz; obtain ⟨z2, q3, q4⟩ := w80 _ q1; exact ⟨z2, q3, q2.trans q4⟩) (x1.trans yy1) (fun g3 f3 v3 => sz_tellR (Rl := sz_RW) (fun P u v w => w (by omega)) t202 t203 p0 (Int.le_refl p) p1 hn x1 x2 x4 x5 x7 s2 i2 yy1 yy2 yy3 yy4 yy5 yy6 yy7 yy8 ⟨f3.1, f3.2.1, fun q hq => f3.2.2 q (dz_beq_ne (fun e => by rw [e] at hq; unfold sz_P4 at hq; rw [tz] at hq; cases hq))⟩ (fun k j k0 k1 j8 j4 => ?_)))
  by_cases e : sz_p g2 k = qz_P g2 203 (a).toNat
  · rw [e]; exact v3 j j4
  · exact f3.I (dz_beq_ne e) j

theorem rd_tellFold {p c : Int} {r : Nat} (hB : ez_B τ h) (t202 : τ 202 = 48) (t203 : τ 203 = 49) (hs : sz_ok h) (hinj : sz_inj h) (p0 : 0 ≤ p) (p1 : p ≤ 1114111) (hn : qz_I h 202 1 + 2 ≤ 513) (tr : τ r = 5) (hr : (r : Int) + 1 ≤ 1000000) (c0 : -128 ≤ c) (c1 : c ≤ 127) (k : ∀ g, ez_B τ g → sz_toldR τ h g p p sz_RW → Q (.inl none, g)) : ez_W (d + 3) cm_106 0 [(0, .inr (.inr (some (202)))), (1, .inl (p)), (2, .inl (c)), (3, .inr (.inr (some (r))))] [] h Q := by
  refine ez_go (n := 2) (pc' := 2) (L' := [(0, .inr (.inr (some (202)))), (1, .inl (p)), (2, .inl (c)), (3, .inr (.inr (some (r))))]) (st' := [.inl (p), .inr (.inr (some (202)))]) rfl ?_
  refine ez_cv hB t202 rfl rfl rfl tq_48 rfl rfl rfl (rd_onlySpanOf hB t202 t203 hs hinj p0 p1 hn (fun g z hB1 tz hz8 hzf hz => ez_KA ?_))
  refine ez_go (n := 3) (pc' := 10) (L' := [(4, .inr (.inr (some (z)))), (0, .inr (.inr (some (202)))), (1, .inl (p)), (2, .inl (c)), (3, .inr (.inr (some (r))))]) (st' := [.inl (67), .inl (c)]) rfl ?_
  refine ez_icmp rfl rfl ⟨by first | omega | exact (sz_i32 _).1, by first | omega | exact (sz_i32 _).2⟩ ⟨by first | omega | exact (sz_i32 _).1, by first | omega | exact (sz_i32 _).2⟩ (fun (c1 : (c) ≠ (67)) => ?_) (fun (c1 : ¬((c) ≠ (67))) => ?_)
  · skip
    refine ez_go (n := 2) (pc' := 25) (L' := [(4, .inr (.inr (some (z)))), (0, .inr (.inr (some (202)))), (1, .inl (p)), (2, .inl (c)), (3, .inr (.inr (some (r))))]) (st' := [.inl (70), .inl (c)]) rfl ?_
    refine ez_icmp rfl rfl ⟨by first | omega | exact (sz_i32 _).1, by first | omega | exact (sz_i32 _).2⟩ ⟨by first | omega | exact (sz_i32 _).1, by first | omega | exact (sz_i32 _).2⟩ (fun (c2 : (c) ≠ (70)) => ?_) (fun (c2 : ¬((c) ≠ (70))) => ?_)
    · skip
      refine ez_go (n := 2) (pc' := 40) (L' := [(4, .inr (.inr (some (z)))), (0, .inr (.inr (some (202)))), (1, .inl (p)), (2, .inl (c)), (3, .inr (.inr (some (r))))]) (st' := [.inl (84), .inl (c)]) rfl ?_
      refine ez_icmp rfl rfl ⟨by first | omega | exact (sz_i32 _).1, by first | omega | exact (sz_i32 _).2⟩ ⟨by first | omega | exact (sz_i32 _).1, by first | omega | exact (sz_i32 _).2⟩ (fun (c3 : (c) ≠ (84)) => ?_) (fun (c3 : ¬((c) ≠ (84))) => ?_)
      · skip
        exact ez_ret0 rfl rfl (k g hB1 (hz g (ez_fr.refl _ _) (fun _ _ => rfl)))
      · skip
        refine ez_go (n := 2) (pc' := 46) (L' := [(4, .inr (.inr (some (z)))), (0, .inr (.inr (some (202)))), (1, .inl (p)), (2, .inl (c)), (3, .inr (.inr (some (r))))]) (st' := [.inr (.inr (some (r))), .inr (.inr (some (z)))]) rfl ?_
        refine ez_pf hB1 tz rfl rfl tq_4 rfl rfl rfl rfl (ez_vdR rfl tr (by omega) (by omega)) (fun hB4 w5 => ?_)
        exact ez_ret0 rfl rfl (k _ hB4 (hz _ ((ez_fr.refl (ez_one z) g).put (show Nat.beq z z = true from Nat.beq_refl z) _ _) (fun j j4 => ez_put_I (by omega))))
    · skip
      refine ez_go (n := 2) (pc' := 31) (L' := [(4, .inr (.inr (some (z)))), (0, .inr (.inr (some (202)))), (1, .inl (p)), (2, .inl (c)), (3, .inr (.inr (some (r))))]) (st' := [.inr (.inr (some (r))), .inr (.inr (some (z)))]) rfl ?_
      refine ez_pf hB1 tz rfl rfl tq_4 rfl rfl rfl rfl (ez_vdR rfl tr (by omega) (by omega)) (fun hB6 w7 => ?_)
      refine ez_go (n := 1) (pc' := 49) (L' := [(4, .inr (.inr (some (z)))), (0, .inr (.inr (some (202)))), (1, .inl (p)), (2, .inl (c)), (3, .inr (.inr (some (r))))]) (st' := []) rfl ?_
      exact ez_ret0 rfl rfl (k _ hB6 (hz _ ((ez_fr.refl (ez_one z) g).put (show Nat.beq z z = true from Nat.beq_refl z) _ _) (fun j j4 => ez_put_I (by omega))))
  · skip
    refine ez_go (n := 2) (pc' := 16) (L' := [(4, .inr (.inr (some (z)))), (0, .inr (.inr (some (202)))), (1, .inl (p)), (2, .inl (c)), (3, .inr (.inr (some (r))))]) (st' := [.inr (.inr (some (r))), .inr (.inr (some (z)))]) rfl ?_
    refine ez_pf hB1 tz rfl rfl tq_4 rfl rfl rfl rfl (ez_vdR rfl tr (by omega) (by omega)) (fun hB8 w9 => ?_)
    refine ez_go (n := 1) (pc' := 49) (L' := [(4, .inr (.inr (some (z)))), (0, .inr (.inr (some (202)))), (1, .inl (p)), (2, .inl (c)), (3, .inr (.inr (some (r))))]) (st' := []) rfl ?_
    exact ez_ret0 rfl rfl (k _ hB8 (hz _ ((ez_fr.refl (ez_one z) g).put (show Nat.beq z z = true from Nat.beq_refl z) _ _) (fun j j4 => ez_put_I (by omega))))

def sz_P6 (τ : Nat → Nat) (z : Nat) : Bool := Nat.beq (τ z) 6
theorem rd_tellSpecial_l {p : Int} {r z : Nat} (hB : ez_B τ h) (t202 : τ 202 = 48) (t203 : τ 203 = 49) (tz : τ z = 4) (tr : τ r = 6) (hr : (r : Int) + 1 ≤ 1000000) (hch : ∀ q, τ q = 6 → q ≠ r → q < r ∧ qz_I h q 4 ≠ (r : Int) + 1) (k : ∀ g, ez_B τ g → ez_fr (sz_P6 τ) h g → Q (.inl none, g)) : ∀ (m : Nat) (q : Nat), h.1 - q ≤ m → τ q = 6 → q < h.1 → q ≠ r → ez_W d cm_108 25 [(4, .inr (.inr (some (q)))), (3, .inr (.inr (some (z)))), (0, .inr (.inr (some (202)))), (1, .inl (p)), (2, .inr (.inr (some (r))))] [] h Q := by
  intro m
  induction m with
  | zero =>
    intro q hm tq hq hqr
    refine ez_go (n := 1) (pc' := 27) (L' := [(4, .inr (.inr (some (q)))), (3, .inr (.inr (some (z)))), (0, .inr (.inr (some (202)))), (1, .inl (p)), (2, .inr (.inr (some (r))))]) (st' := [.inr (.inr (some (q)))]) rfl ?_
    refine ez_gN hB tq rfl rfl tq_6 rfl rfl (fun (t1 : qz_I h q 4 = 0) => ?_) (fun (t1 : _ = 6) (t1' : 1 ≤ qz_I h q 4) => ?_)
    · skip
      refine ez_null0 rfl rfl ?_
      refine ez_go (n := 2) (pc' := 46) (L' := [(4, .inr (.inr (some (q)))), (3, .inr (.inr (some (z)))), (0, .inr (.inr (some (202)))), (1, .inl (p)), (2, .inr (.inr (some (r))))]) (st' := [.inr (.inr (some (r))), .inr (.inr (some (q)))]) rfl ?_
      refine ez_pf hB tq rfl rfl tq_6 rfl rfl rfl rfl (ez_vdR1 rfl tr (by omega) (by omega) (hch q tq hqr).1) (fun hB2 w3 => ?_)
      exact ez_ret0 rfl rfl (k _ hB2 ((ez_fr.refl (sz_P6 τ) h).put (show sz_P6 τ q = true by unfold sz_P6; rw [tq]; rfl) _ _))
    · skip
      refine ez_null1 rfl ?_
      refine ez_go (n := 1) (pc' := 35) (L' := [(4, .inr (.inr (some (q)))), (3, .inr (.inr (some (z)))), (0, .inr (.inr (some (202)))), (1, .inl (p)), (2, .inr (.inr (some (r))))]) (st' := [.inr (.inr (some (q)))]) rfl ?_
      refine ez_gN hB tq rfl rfl tq_6 rfl rfl (fun (t4 : qz_I h q 4 = 0) => ?_) (fun (t4 : _ = 6) (t4' : 1 ≤ qz_I h q 4) => ?_)
      · skip
        refine ez_go (n := 2) (pc' := 25) (L' := [(4, .inr (.inr none)), (3, .inr (.inr (some (z)))), (0, .inr (.inr (some (202)))), (1, .inl (p)), (2, .inr (.inr (some (r))))]) (st' := []) rfl ?_
        exfalso; omega
      · skip
        refine ez_go (n := 2) (pc' := 25) (L' := [(4, .inr (.inr (some (qz_P h q 4)))), (3, .inr (.inr (some (z)))), (0, .inr (.inr (some (202)))), (1, .inl (p)), (2, .inr (.inr (some (r))))]) (st' := []) rfl ?_
        exfalso; omega
  | succ m ih =>
    intro q hm tq hq hqr
    refine ez_go (n := 1) (pc' := 27) (L' := [(4, .inr (.inr (some (q)))), (3, .inr (.inr (some (z)))), (0, .inr (.inr (some (202)))), (1, .inl (p)), (2, .inr (.inr (some (r))))]) (st' := [.inr (.inr (some (q)))]) rfl ?_
    refine ez_gN hB tq rfl rfl tq_6 rfl rfl (fun (t1 : qz_I h q 4 = 0) => ?_) (fun (t1 : _ = 6) (t1' : 1 ≤ qz_I h q 4) => ?_)
    · skip
      refine ez_null0 rfl rfl ?_
      refine ez_go (n := 2) (pc' := 46) (L' := [(4, .inr (.inr (some (q)))), (3, .inr (.inr (some (z)))), (0, .inr (.inr (some (202)))), (1, .inl (p)), (2, .inr (.inr (some (r))))]) (st' := [.inr (.inr (some (r))), .inr (.inr (some (q)))]) rfl ?_
      refine ez_pf hB tq rfl rfl tq_6 rfl rfl rfl rfl (ez_vdR1 rfl tr (by omega) (by omega) (hch q tq hqr).1) (fun hB2 w3 => ?_)
      exact ez_ret0 rfl rfl (k _ hB2 ((ez_fr.refl (sz_P6 τ) h).put (show sz_P6 τ q = true by unfold sz_P6; rw [tq]; rfl) _ _))
    · skip
      refine ez_null1 rfl ?_
      refine ez_go (n := 1) (pc' := 35) (L' := [(4, .inr (.inr (some (q)))), (3, .inr (.inr (some (z)))), (0, .inr (.inr (some (202)))), (1, .inl (p)), (2, .inr (.inr (some (r))))]) (st' := [.inr (.inr (some (q)))]) rfl ?_
      refine ez_gN hB tq rfl rfl tq_6 rfl rfl (fun (t4 : qz_I h q 4 = 0) => ?_) (fun (t4 : _ = 6) (t4' : 1 ≤ qz_I h q 4) => ?_)
      · skip
        refine ez_go (n := 2) (pc' := 25) (L' := [(4, .inr (.inr none)), (3, .inr (.inr (some (z)))), (0, .inr (.inr (some (202)))), (1, .inl (p)), (2, .inr (.inr (some (r))))]) (st' := []) rfl ?_
        exfalso; omega
      · skip
        refine ez_go (n := 2) (pc' := 25) (L' := [(4, .inr (.inr (some (qz_P h q 4)))), (3, .inr (.inr (some (z)))), (0, .inr (.inr (some (202)))), (1, .inl (p)), (2, .inr (.inr (some (r))))]) (st' := []) rfl ?_
        refine ez_less [(4, .inr (.inr (some (qz_P h q 4)))), (3, .inr (.inr (some (z)))), (0, .inr (.inr (some (202)))), (1, .inl (p)), (2, .inr (.inr (some (r))))] rfl ⟨rfl, rfl, rfl, rfl, rfl, trivial⟩ ?_
        have hu := ez_up (cl := 13) (k := 4) hB tq tq_6 rfl rfl
        have hl := dz_here_lt (hB.1 _ (by rw [t4]; decide)).1
        have e9 : ((qz_P h q 4 : Nat) : Int) + 1 = qz_I h q 4 := by unfold qz_P; omega
        exact ih _ (by omega) t4 (by omega) (fun e => (hch q tq hqr).2 (by omega))
theorem rd_tellSpecial {p : Int} {r : Nat} (hB : ez_B τ h) (t202 : τ 202 = 48) (t203 : τ 203 = 49) (hs : sz_ok h) (hinj : sz_inj h) (p0 : 0 ≤ p) (p1 : p ≤ 1114111) (hn : qz_I h 202 1 + 2 ≤ 513) (tr : τ r = 6) (hr : (r : Int) + 1 ≤ 1000000) (hch : ∀ q, τ q = 6 → q ≠ r → q < r ∧ qz_I h q 4 ≠ (r : Int) + 1) (hsp : ∀ z, τ z = 4 → qz_I h z 8 ≠ (r : Int) + 1) (k : ∀ g1 g, ez_B τ g → sz_toldR τ h g1 p p sz_RW → ez_fr (sz_P6 τ) g1 g → Q (.inl none, g)) : ez_W (d + 3) cm_108 0 [(0, .inr (.inr (some (202)))), (1, .inl (p)), (2, .inr (.inr (some (r))))] [] h Q := by
  refine ez_go (n := 2) (pc' := 2) (L' := [(0, .inr (.inr (some (202)))), (1, .inl (p)), (2, .inr (.inr (some (r))))]) (st' := [.inl (p), .inr (.inr (some (202)))]) rfl ?_
  refine ez_cv hB t202 rfl rfl rfl tq_48 rfl rfl rfl (rd_onlySpanOf hB t202 t203 hs hinj p0 p1 hn (fun g z hB1 tz hz8 hzf hz => ez_KA ?_))
  obtain ⟨z2, tz2, ez2⟩ := hz8
  have hsp2 := hsp z2 tz2
  refine ez_go (n := 2) (pc' := 7) (L' := [(3, .inr (.inr (some (z)))), (0, .inr (.inr (some (202)))), (1, .inl (p)), (2, .inr (.inr (some (r))))]) (st' := [.inr (.inr (some (z)))]) rfl ?_
  refine ez_gN hB1 tz rfl rfl tq_4 rfl rfl (fun (t1 : qz_I g z 8 = 0) => ?_) (fun (t1 : _ = 6) (t1' : 1 ≤ qz_I g z 8) => ?_)
  · skip
    refine ez_nonn0 rfl ?_
    refine ez_go (n := 2) (pc' := 15) (L' := [(3, .inr (.inr (some (z)))), (0, .inr (.inr (some (202)))), (1, .inl (p)), (2, .inr (.inr (some (r))))]) (st' := [.inr (.inr (some (r))), .inr (.inr (some (z)))]) rfl ?_
    refine ez_pf hB1 tz rfl rfl tq_4 rfl rfl rfl rfl (ez_vdR rfl tr (by omega) (by omega)) (fun hB2 w3 => ?_)
    exact ez_ret0 rfl rfl (k _ _ hB2 (hz _ ((ez_fr.refl (ez_one z) g).put (show Nat.beq z z = true from Nat.beq_refl z) _ _) (fun j j4 => ez_put_I (by omega))) (ez_fr.refl _ _))
  · skip
    refine ez_nonn1 rfl rfl ?_
    refine ez_go (n := 1) (pc' := 20) (L' := [(3, .inr (.inr (some (z)))), (0, .inr (.inr (some (202)))), (1, .inl (p)), (2, .inr (.inr (some (r))))]) (st' := [.inr (.inr (some (z)))]) rfl ?_
    refine ez_gN hB1 tz rfl rfl tq_4 rfl rfl (fun (t4 : qz_I g z 8 = 0) => ?_) (fun (t4 : _ = 6) (t4' : 1 ≤ qz_I g z 8) => ?_)
    · skip
      refine ez_go (n := 1) (pc' := 25) (L' := [(4, .inr (.inr none)), (3, .inr (.inr (some (z)))), (0, .inr (.inr (some (202)))), (1, .inl (p)), (2, .inr (.inr (some (r))))]) (st' := []) rfl ?_
      exfalso; omega
    · skip
      refine ez_go (n := 1) (pc' := 25) (L' := [(4, .inr (.inr (some (qz_P g z 8)))), (3, .inr (.inr (some (z)))), (0, .inr (.inr (some (202)))), (1, .inl (p)), (2, .inr (.inr (some (r))))]) (st' := []) rfl ?_
      refine ez_less [(4, .inr (.inr (some (qz_P g z 8)))), (3, .inr (.inr (some (z)))), (0, .inr (.inr (some (202)))), (1, .inl (p)), (2, .inr (.inr (some (r))))] rfl ⟨rfl, rfl, rfl, rfl, rfl, trivial⟩ ?_
      have e9 : ((qz_P g z 8 : Nat) : Int) + 1 = qz_I g z 8 := by unfold qz_P; omega
      have hl := dz_here_lt (hB1.1 _ (by rw [t4]; decide)).1
      refine rd_tellSpecial_l hB1 t202 t203 tz tr hr (fun q tq hq => ?_) (fun g3 hB3 f3 => k g g3 hB3 (hz g (ez_fr.refl _ _) (fun _ _ => rfl)) f3) _ _ (Nat.le_refl _) t4 (by omega) (fun e => by omega)
      rw [hzf.I (by unfold sz_PS; rw [tq, dz_beq_ne (fun e => by rw [e, t202] at tq; cases tq), dz_beq_ne (fun e => by rw [e, t203] at tq; cases tq)]; rfl)]; exact hch q tq hq

end EzPl
