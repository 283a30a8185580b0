/-! The reader of the class: takeFact. (Written by wip/p2/py/pv15.py.) -/
theorem ez_xr.fr {τ τ' : Nat → Nat} {h g g' : cz_H} {x r dc ds : Nat} (hx : ez_xr τ h τ' g x dc ds) (hf : ez_fr (ez_one r) g g') (hr : τ r = 0 ∨ r = x) : ez_xr τ h τ' g' x dc ds := by
  refine ⟨fun q hq => ⟨(hx.1 q hq).1, fun hqx => ?_⟩, ?_, ?_⟩
  · rw [hf.2.2 q (dz_beq_ne (fun e => by rcases hr with w | w; (· rw [e] at hq; exact hq w); (· exact hqx (e.trans w)))), (hx.1 q hq).2 hqx]
  · rw [hf.1]; exact hx.2.1
  · rw [hf.2.1]; exact hx.2.2
theorem ez_xr.xr {τ τ' τ2 : Nat → Nat} {h g g' : cz_H} {x r dc ds dc' ds' : Nat} (hx : ez_xr τ h τ' g x dc ds) (hf : ez_xr τ' g τ2 g' r dc' ds') (hr : τ r = 0) : ez_xr τ h τ2 g' x (dc + dc') (ds + ds') := by
  have h1 := hx.2
  have h2 := hf.2
  refine ⟨fun q hq => ⟨?_, fun hqx => ?_⟩, by omega, by omega⟩
  · rw [(hf.1 q (by rw [(hx.1 q hq).1]; exact hq)).1, (hx.1 q hq).1]
  · rw [(hf.1 q (by rw [(hx.1 q hq).1]; exact hq)).2 (fun e => by rw [e] at hq; exact hq hr), (hx.1 q hq).2 hqx]
theorem ez_xr.mono {τ τ' : Nat → Nat} {h g : cz_H} {x dc ds dc' ds' : Nat} (hx : ez_xr τ h τ' g x dc ds) (h1 : dc ≤ dc') (h2 : ds ≤ ds') : ez_xr τ h τ' g x dc' ds' := by
  have := hx.2
  exact ⟨hx.1, by omega, by omega⟩
theorem ez_xr.t {τ τ' : Nat → Nat} {h g : cz_H} {x dc ds : Nat} (hx : ez_xr τ h τ' g x dc ds) {q t : Nat} (hq : τ q = t) (ht : Nat.beq t 0 = false) : τ' q = t := (hx.1 q (fun e => by rw [hq] at e; rw [e] at ht; cases ht)).1.trans hq
theorem ez_fresh {τ : Nat → Nat} {h : cz_H} (hB : ez_B τ h) : τ h.1 = 0 := Classical.byContradiction fun e => Nat.lt_irrefl _ (dz_here_lt (hB.1 h.1 e).1)
/-- spans are as they were where their cells are -/
theorem sz_same {τ : Nat → Nat} {h g : cz_H} (hB : ez_B τ h) (t203 : τ 203 = 49) (t202 : τ 202 = 48) (e2 : g.2.2 202 = h.2.2 202) (e3 : g.2.2 203 = h.2.2 203) (e4 : ∀ q, τ q = 4 → g.2.2 q = h.2.2 q) : (∀ k, sz_p g k = sz_p h k) ∧ (∀ k, 0 ≤ k → k < 513 → ∀ j, qz_I g (sz_p g k) j = qz_I h (sz_p h k) j) ∧ (∀ j, qz_I g 202 j = qz_I h 202 j) := by
  have hp : ∀ k, sz_p g k = sz_p h k := fun k => by unfold sz_p qz_P qz_I; rw [e3]
  refine ⟨hp, fun k k0 k1 j => ?_, fun j => by unfold qz_I; rw [e2]⟩
  rw [hp]
  have ht : τ (sz_p h k) = 4 := by
    have n : 513 ≤ qz_N h 203 ∧ qz_N h 203 ≤ 513 := ez_len hB t203 tq_49 rfl
    have y : 1 ≤ qz_I h 203 k.toNat ∧ qz_I h 203 k.toNat ≤ 1000000 := ez_aB hB t203 tq_49 rfl rfl (by decide) k0 (by omega)
    obtain ⟨n, f, o1, o2, o3, o4, -, o6⟩ := ez_arr hB t203 tq_49 rfl rfl
    obtain ⟨g1, g2⟩ := o6 k.toNat (by omega)
    exact (ez_slR g1 g2 rfl (by decide) y.1).2.1
  unfold qz_I
  rw [e4 _ ht]
theorem sz_same_ok {τ : Nat → Nat} {h g : cz_H} (hB : ez_B τ h) (t203 : τ 203 = 49) (t202 : τ 202 = 48) (e2 : g.2.2 202 = h.2.2 202) (e3 : g.2.2 203 = h.2.2 203) (e4 : ∀ q, τ q = 4 → g.2.2 q = h.2.2 q) (hs : sz_ok h) (hi : sz_inj h) : sz_ok g ∧ sz_inj g := by
  obtain ⟨a, b, c⟩ := sz_same hB t203 t202 e2 e3 e4
  have n1 : 1 ≤ qz_I h 202 1 ∧ qz_I h 202 1 ≤ 513 := ez_fB (cl := 2) hB t202 tq_48 rfl rfl (by decide)
  refine ⟨⟨(b 0 (by omega) (by omega) 0).trans hs.1, fun i j i0 ij jn => ?_⟩, fun i j i0 i1 j0 j1 e => hi i j i0 i1 j0 j1 ?_⟩
  · rw [c] at jn
    have := hs.2 i j i0 ij jn
    unfold sz_f at *
    rw [b i i0 (by omega), b j (by omega) (by omega)]
    exact this
  · rw [a, a] at e; exact e
/-- what a LINE 0 says: first, last, class, decomposition -/
def rz_F (b : Int → Int) (f t : Int → Int) (first last cls : Int) (dec : Option (Int × List Int)) : Prop :=
  (first = rz_first b (f 0) (t 0) ∧ last = rz_last b (f 0) (t 0) ∧ first ≠ -1 ∧ first ≤ last) ∧ rz_cat b (f 1) (t 1) ∧ ((1 ≤ t 2 - f 2 ∧ t 2 - f 2 ≤ 3) ∧ (0 ≤ cls ∧ cls ≤ 254) ∧ cls = rz_dec b (t 2 - f 2).toNat (f 2) 0) ∧ ((f 3 = t 3 ∧ dec = none) ∨ (f 3 ≠ t 3 ∧ ∃ cp bg vs, rz_db b (f 3) (t 3) = some (cp, bg) ∧ rz_rw b 18 bg (t 3) = some vs ∧ dec = some (cp, vs))) ∧ (∀ k, 4 ≤ k → k ≤ 6 → f k = t k ∨ rz_code b (f k) (t k) ≠ -1) ∧ (first < last → ∀ k, 3 ≤ k → k ≤ 6 → f k = t k)
section EzTk
variable {d : Nat} {h : cz_H} {τ : Nat → Nat} {Q : cz_F → Prop} {r : Nat}
theorem rd_takeFact_d {first last : Int} (hB : ez_B τ h) (t720 : τ 720 = 52) (t202 : τ 202 = 48) (t203 : τ 203 = 49) (tr : τ r = 3) (hr : (r : Int) + 1 ≤ 1000000) (hs : sz_ok h) (hinj : sz_inj h) (e4 : qz_I h 720 4 = first) (e5 : qz_I h 720 5 = last) (f0 : 0 ≤ first) (fl : first ≤ last) (l1 : last ≤ 1114111) (hn : qz_I h 202 1 + 2 ≤ 513) (k : ∀ g h1, ez_B τ g → ez_B τ h1 → ez_fr (ez_one r) h h1 → qz_I h1 r 0 = first → (∀ j, j ≠ 0 → qz_I h1 r j = qz_I h r j) → sz_told τ h1 g first last r → Q (.inl (some (ez_v (.inl (last - first + 1)))), g)) : ez_W (d + 3) cm_176 176 [(0, .inr (.inr (some (720)))), (1, .inr (.inr (some (r))))] [] h Q := by
  refine ez_go (n := 2) (pc' := 178) (L' := [(0, .inr (.inr (some (720)))), (1, .inr (.inr (some (r))))]) (st' := [.inr (.inr (some (720))), .inr (.inr (some (r)))]) rfl ?_
  refine ez_gI hB t720 rfl rfl tq_52 rfl rfl (fun (b1 : -2147483648 ≤ qz_I h 720 4) (b1' : qz_I h 720 4 ≤ 2147483647) => ?_)
  refine ez_pf hB tr rfl rfl tq_3 rfl rfl rfl rfl (ez_vdI rfl rfl (by omega) (by omega)) (fun hB2 w3 => ?_)
  refine ez_go (n := 1) (pc' := 185) (L' := [(0, .inr (.inr (some (720)))), (1, .inr (.inr (some (r))))]) (st' := [.inr (.inr (some (720)))]) rfl ?_
  refine ez_gC (p := 202) (tg := 48) hB2 t720 rfl rfl tq_52 rfl rfl (fun (t202 : _ = 48) => ?_)
  refine ez_go (n := 1) (pc' := 189) (L' := [(0, .inr (.inr (some (720)))), (1, .inr (.inr (some (r))))]) (st' := [.inr (.inr (some (720))), .inr (.inr (some (202)))]) rfl ?_
  refine ez_gI hB2 t720 rfl rfl tq_52 rfl rfl (fun (b4 : -2147483648 ≤ qz_I (dz_put h r 0 (ez_v (.inl (qz_I h 720 4)))) 720 4) (b4' : qz_I (dz_put h r 0 (ez_v (.inl (qz_I h 720 4)))) 720 4 ≤ 2147483647) => ?_)
  refine ez_go (n := 1) (pc' := 193) (L' := [(0, .inr (.inr (some (720)))), (1, .inr (.inr (some (r))))]) (st' := [.inr (.inr (some (720))), .inl (qz_I (dz_put h r 0 (ez_v (.inl (qz_I h 720 4)))) 720 4), .inr (.inr (some (202)))]) rfl ?_
  refine ez_gI hB2 t720 rfl rfl tq_52 rfl rfl (fun (b5 : -2147483648 ≤ qz_I (dz_put h r 0 (ez_v (.inl (qz_I h 720 4)))) 720 5) (b5' : qz_I (dz_put h r 0 (ez_v (.inl (qz_I h 720 4)))) 720 5 ≤ 2147483647) => ?_)
  refine ez_go (n := 1) (pc' := 197) (L' := [(0, .inr (.inr (some (720)))), (1, .inr (.inr (some (r))))]) (st' := [.inr (.inr (some (r))), .inl (qz_I (dz_put h r 0 (ez_v (.inl (qz_I h 720 4)))) 720 5), .inl (qz_I (dz_put h r 0 (ez_v (.inl (qz_I h 720 4)))) 720 4), .inr (.inr (some (202)))]) rfl ?_
  have hf1 : ez_fr (ez_one r) h (dz_put h r 0 (ez_v (.inl (qz_I h 720 4)))) := (ez_fr.refl (ez_one r) h).put (show Nat.beq r r = true from Nat.beq_refl r) _ _
  have n2 : ∀ q, τ q ≠ 3 → ((dz_put h r 0 (ez_v (.inl (qz_I h 720 4))))).2.2 q = h.2.2 q := fun q hq => hf1.2.2 q (dz_beq_ne (fun e => hq (by rw [e]; exact tr)))
  obtain ⟨hs1, hi1⟩ := sz_same_ok hB t203 t202 (n2 202 (by rw [t202]; decide)) (n2 203 (by rw [t203]; decide)) (fun q hq => n2 q (by rw [hq]; decide)) hs hinj
  have f4 : qz_I (dz_put h r 0 (ez_v (.inl (qz_I h 720 4)))) 720 4 = first := (hf1.I (rz_ne t720 tr rfl) 4).trans e4
  have f5 : qz_I (dz_put h r 0 (ez_v (.inl (qz_I h 720 4)))) 720 5 = last := (hf1.I (rz_ne t720 tr rfl) 5).trans e5
  have g1 : qz_I (dz_put h r 0 (ez_v (.inl (qz_I h 720 4)))) 202 1 = qz_I h 202 1 := hf1.I (rz_ne t202 tr rfl) 1
  refine ez_cv hB2 t202 rfl rfl rfl tq_48 rfl rfl rfl (rd_tellFact hB2 t202 t203 tr hr hs1 hi1 (by omega) (by omega) (by omega) (by omega) (fun g hB9 ht => ez_K0 ?_))
  rw [f4, f5] at ht
  have p720 : sz_PS τ 720 = false := by unfold sz_PS; rw [t720]; rfl
  have v4 : qz_I g 720 4 = first := (ht.2.2.1.I p720 4).trans f4
  have v5 : qz_I g 720 5 = last := (ht.2.2.1.I p720 5).trans f5
  refine ez_go (n := 1) (pc' := 201) (L' := [(0, .inr (.inr (some (720)))), (1, .inr (.inr (some (r))))]) (st' := [.inr (.inr (some (720)))]) rfl ?_
  refine ez_gI hB9 t720 rfl rfl tq_52 rfl rfl (fun (b6 : -2147483648 ≤ qz_I g 720 5) (b6' : qz_I g 720 5 ≤ 2147483647) => ?_)
  refine ez_go (n := 1) (pc' := 205) (L' := [(0, .inr (.inr (some (720)))), (1, .inr (.inr (some (r))))]) (st' := [.inr (.inr (some (720))), .inl (qz_I g 720 5)]) rfl ?_
  refine ez_gI hB9 t720 rfl rfl tq_52 rfl rfl (fun (b7 : -2147483648 ≤ qz_I g 720 4) (b7' : qz_I g 720 4 ≤ 2147483647) => ?_)
  refine ez_go (n := 3) (pc' := 211) (L' := [(0, .inr (.inr (some (720)))), (1, .inr (.inr (some (r))))]) (st' := [.inl (((qz_I g 720 5) - (qz_I g 720 4)) + (1))]) rfl ?_
  rw [v4, v5]
  exact ez_retI rfl rfl (k g _ hB9 hB2 hf1 (by rw [w3, rz_rd ⟨by omega, by omega⟩]; exact e4) (fun j hj => ez_put_I (fun w => hj w.2)) ht)

theorem rd_takeFact_c (hB : ez_B τ h) (t720 : τ 720 = 52) (k0 : qz_I h 720 4 < qz_I h 720 5 → ¬ (∀ k, 3 ≤ k → k ≤ 6 → rz_f h k = rz_t h k) → Q (.inl (some (ez_v (.inl (-1)))), h)) (k1 : (qz_I h 720 4 < qz_I h 720 5 → ∀ k, 3 ≤ k → k ≤ 6 → rz_f h k = rz_t h k) → ez_W (d + 3) cm_176 176 [(0, .inr (.inr (some (720)))), (1, .inr (.inr (some (r))))] [] h Q) : ez_W (d + 3) cm_176 130 [(0, .inr (.inr (some (720)))), (1, .inr (.inr (some (r))))] [] h Q := by
  refine ez_go (n := 1) (pc' := 131) (L' := [(0, .inr (.inr (some (720)))), (1, .inr (.inr (some (r))))]) (st' := [.inr (.inr (some (720)))]) rfl ?_
  refine ez_gI hB t720 rfl rfl tq_52 rfl rfl (fun (b1 : -2147483648 ≤ qz_I h 720 4) (b1' : qz_I h 720 4 ≤ 2147483647) => ?_)
  refine ez_go (n := 1) (pc' := 135) (L' := [(0, .inr (.inr (some (720)))), (1, .inr (.inr (some (r))))]) (st' := [.inr (.inr (some (720))), .inl (qz_I h 720 4)]) rfl ?_
  refine ez_gI hB t720 rfl rfl tq_52 rfl rfl (fun (b2 : -2147483648 ≤ qz_I h 720 5) (b2' : qz_I h 720 5 ≤ 2147483647) => ?_)
  refine ez_icmp rfl rfl ⟨by first | omega | exact (sz_i32 _).1, by first | omega | exact (sz_i32 _).2⟩ ⟨by first | omega | exact (sz_i32 _).1, by first | omega | exact (sz_i32 _).2⟩ (fun (c3 : (qz_I h 720 5) ≤ (qz_I h 720 4)) => ?_) (fun (c3 : ¬((qz_I h 720 5) ≤ (qz_I h 720 4))) => ?_)
  · skip
    refine ez_less [(0, .inr (.inr (some (720)))), (1, .inr (.inr (some (r))))] rfl ⟨rfl, rfl, trivial⟩ ?_
    exact k1 (fun hlt k hk3 hk6 => by first | (exfalso; omega) | (rcases (by omega : k = 3 ∨ k = 4 ∨ k = 5 ∨ k = 6) with w | w | w | w <;> (rw [w]; assumption)))
  · skip
    refine ez_go (n := 2) (pc' := 143) (L' := [(0, .inr (.inr (some (720)))), (1, .inr (.inr (some (r))))]) (st' := [.inl (3), .inr (.inr (some (720)))]) rfl ?_
    refine ez_cv hB t720 rfl rfl rfl tq_52 rfl rfl rfl (rd_isEmptyField hB t720 (by omega) (by omega) (fun (e4 : rz_f h 3 = rz_t h 3) => ez_K1 ?_) (fun (e4 : ¬ rz_f h 3 = rz_t h 3) => ez_K1 ?_))
    · skip
      refine ez_if rfl rfl ⟨by decide, by decide⟩ (fun (c5 : (1 : Int) = (0)) => absurd c5 (by decide)) (fun _ => ?_)
      refine ez_go (n := 2) (pc' := 151) (L' := [(0, .inr (.inr (some (720)))), (1, .inr (.inr (some (r))))]) (st' := [.inl (4), .inr (.inr (some (720)))]) rfl ?_
      refine ez_cv hB t720 rfl rfl rfl tq_52 rfl rfl rfl (rd_isEmptyField hB t720 (by omega) (by omega) (fun (e6 : rz_f h 4 = rz_t h 4) => ez_K1 ?_) (fun (e6 : ¬ rz_f h 4 = rz_t h 4) => ez_K1 ?_))
      · skip
        refine ez_if rfl rfl ⟨by decide, by decide⟩ (fun (c7 : (1 : Int) = (0)) => absurd c7 (by decide)) (fun _ => ?_)
        refine ez_go (n := 2) (pc' := 159) (L' := [(0, .inr (.inr (some (720)))), (1, .inr (.inr (some (r))))]) (st' := [.inl (5), .inr (.inr (some (720)))]) rfl ?_
        refine ez_cv hB t720 rfl rfl rfl tq_52 rfl rfl rfl (rd_isEmptyField hB t720 (by omega) (by omega) (fun (e8 : rz_f h 5 = rz_t h 5) => ez_K1 ?_) (fun (e8 : ¬ rz_f h 5 = rz_t h 5) => ez_K1 ?_))
        · skip
          refine ez_if rfl rfl ⟨by decide, by decide⟩ (fun (c9 : (1 : Int) = (0)) => absurd c9 (by decide)) (fun _ => ?_)
          refine ez_go (n := 2) (pc' := 168) (L' := [(0, .inr (.inr (some (720)))), (1, .inr (.inr (some (r))))]) (st' := [.inl (6), .inr (.inr (some (720)))]) rfl ?_
          refine ez_cv hB t720 rfl rfl rfl tq_52 rfl rfl rfl (rd_isEmptyField hB t720 (by omega) (by omega) (fun (e10 : rz_f h 6 = rz_t h 6) => ez_K1 ?_) (fun (e10 : ¬ rz_f h 6 = rz_t h 6) => ez_K1 ?_))
          · skip
            refine ez_if rfl rfl ⟨by decide, by decide⟩ (fun _ => ?_) (fun (c11 : ¬((1 : Int) ≠ (0))) => absurd c11 (by decide))
            refine ez_less [(0, .inr (.inr (some (720)))), (1, .inr (.inr (some (r))))] rfl ⟨rfl, rfl, trivial⟩ ?_
            exact k1 (fun hlt k hk3 hk6 => by first | (exfalso; omega) | (rcases (by omega : k = 3 ∨ k = 4 ∨ k = 5 ∨ k = 6) with w | w | w | w <;> (rw [w]; assumption)))
          · skip
            refine ez_if rfl rfl ⟨by decide, by decide⟩ (fun (c12 : (0 : Int) ≠ (0)) => absurd c12 (by decide)) (fun _ => ?_)
            refine ez_go (n := 1) (pc' := 175) (L' := [(0, .inr (.inr (some (720)))), (1, .inr (.inr (some (r))))]) (st' := [.inl (-1)]) rfl ?_
            exact ez_retI rfl rfl (k0 (by omega) (fun w => by have w3 := w 3 (by omega) (by omega); have w4 := w 4 (by omega) (by omega); have w5 := w 5 (by omega) (by omega); have w6 := w 6 (by omega) (by omega); first | exact absurd w3 (by assumption) | exact absurd w4 (by assumption) | exact absurd w5 (by assumption) | exact absurd w6 (by assumption)))
        · skip
          refine ez_if rfl rfl ⟨by decide, by decide⟩ (fun _ => ?_) (fun (c13 : ¬((0 : Int) = (0))) => absurd c13 (by decide))
          refine ez_go (n := 1) (pc' := 175) (L' := [(0, .inr (.inr (some (720)))), (1, .inr (.inr (some (r))))]) (st' := [.inl (-1)]) rfl ?_
          exact ez_retI rfl rfl (k0 (by omega) (fun w => by have w3 := w 3 (by omega) (by omega); have w4 := w 4 (by omega) (by omega); have w5 := w 5 (by omega) (by omega); have w6 := w 6 (by omega) (by omega); first | exact absurd w3 (by assumption) | exact absurd w4 (by assumption) | exact absurd w5 (by assumption) | exact absurd w6 (by assumption)))
      · skip
        refine ez_if rfl rfl ⟨by decide, by decide⟩ (fun _ => ?_) (fun (c14 : ¬((0 : Int) = (0))) => absurd c14 (by decide))
        refine ez_go (n := 1) (pc' := 175) (L' := [(0, .inr (.inr (some (720)))), (1, .inr (.inr (some (r))))]) (st' := [.inl (-1)]) rfl ?_
        exact ez_retI rfl rfl (k0 (by omega) (fun w => by have w3 := w 3 (by omega) (by omega); have w4 := w 4 (by omega) (by omega); have w5 := w 5 (by omega) (by omega); have w6 := w 6 (by omega) (by omega); first | exact absurd w3 (by assumption) | exact absurd w4 (by assumption) | exact absurd w5 (by assumption) | exact absurd w6 (by assumption)))
    · skip
      refine ez_if rfl rfl ⟨by decide, by decide⟩ (fun _ => ?_) (fun (c15 : ¬((0 : Int) = (0))) => absurd c15 (by decide))
      refine ez_go (n := 1) (pc' := 175) (L' := [(0, .inr (.inr (some (720)))), (1, .inr (.inr (some (r))))]) (st' := [.inl (-1)]) rfl ?_
      exact ez_retI rfl rfl (k0 (by omega) (fun w => by have w3 := w 3 (by omega) (by omega); have w4 := w 4 (by omega) (by omega); have w5 := w 5 (by omega) (by omega); have w6 := w 6 (by omega) (by omega); first | exact absurd w3 (by assumption) | exact absurd w4 (by assumption) | exact absurd w5 (by assumption) | exact absurd w6 (by assumption)))

theorem rd_takeFact_b2 (hB : ez_B τ h) (t720 : τ 720 = 52) (t721 : τ 721 = 53) (t722 : τ 722 = 54) (tr : τ r = 3) (hft : ∀ k, 0 ≤ k → k ≤ 6 → rz_f h k ≤ rz_t h k) (k : ∀ g, ez_B τ g → ez_fr (ez_one r) h g → (∀ j, j ≠ 5 → j ≠ 6 → j ≠ 7 → qz_I g r j = qz_I h r j) → ez_W (d + 3) cm_176 130 [(0, .inr (.inr (some (720)))), (1, .inr (.inr (some (r))))] [] g Q) : ez_W (d + 3) cm_176 68 [(0, .inr (.inr (some (720)))), (1, .inr (.inr (some (r))))] [] h Q := by
  refine ez_go (n := 3) (pc' := 71) (L' := [(0, .inr (.inr (some (720)))), (1, .inr (.inr (some (r))))]) (st' := [.inr (.inr (some (720))), .inr (.inr (some (720))), .inr (.inr (some (r)))]) rfl ?_
  refine ez_gC (p := 721) (tg := 53) hB t720 rfl rfl tq_52 rfl rfl (fun (t721 : _ = 53) => ?_)
  refine ez_go (n := 1) (pc' := 75) (L' := [(0, .inr (.inr (some (720)))), (1, .inr (.inr (some (r))))]) (st' := [.inl (4), .inr (.inr (some (721))), .inr (.inr (some (720))), .inr (.inr (some (r)))]) rfl ?_
  have n2 : 7 ≤ qz_N h 721 ∧ qz_N h 721 ≤ 7 := ez_len hB t721 tq_53 rfl
  refine ez_aI hB t721 rfl tq_53 rfl rfl (by omega) (by omega) (fun (b1 : 0 ≤ qz_I h 721 (4 : Int).toNat) (b1' : qz_I h 721 (4 : Int).toNat ≤ 4096) => ?_)
  refine ez_go (n := 1) (pc' := 77) (L' := [(0, .inr (.inr (some (720)))), (1, .inr (.inr (some (r))))]) (st' := [.inr (.inr (some (720))), .inl (qz_I h 721 (4 : Int).toNat), .inr (.inr (some (720))), .inr (.inr (some (r)))]) rfl ?_
  refine ez_gC (p := 722) (tg := 54) hB t720 rfl rfl tq_52 rfl rfl (fun (t722 : _ = 54) => ?_)
  refine ez_go (n := 1) (pc' := 81) (L' := [(0, .inr (.inr (some (720)))), (1, .inr (.inr (some (r))))]) (st' := [.inl (4), .inr (.inr (some (722))), .inl (qz_I h 721 (4 : Int).toNat), .inr (.inr (some (720))), .inr (.inr (some (r)))]) rfl ?_
  have n4 : 7 ≤ qz_N h 722 ∧ qz_N h 722 ≤ 7 := ez_len hB t722 tq_54 rfl
  refine ez_aI hB t722 rfl tq_54 rfl rfl (by omega) (by omega) (fun (b3 : 0 ≤ qz_I h 722 (4 : Int).toNat) (b3' : qz_I h 722 (4 : Int).toNat ≤ 4096) => ?_)
  have xf4 : qz_I h 721 (4 : Int).toNat = rz_f h 4 := rfl
  have xt4 : qz_I h 722 (4 : Int).toNat = rz_t h 4 := rfl
  have xl4 := hft 4 (by omega) (by omega)
  have xb4 := rz_code_bd (rz_b h) (qz_I h 721 (4 : Int).toNat) (qz_I h 722 (4 : Int).toNat)
  refine ez_cv hB t720 rfl rfl rfl tq_52 rfl rfl rfl (rd_readCode hB t720 (by omega) (by omega) (by omega) (ez_K1 ?_))
  refine ez_pf hB tr rfl rfl tq_3 rfl rfl rfl rfl (ez_vdI rfl rfl (by omega) (by omega)) (fun hB5 w6 => ?_)
  refine ez_go (n := 3) (pc' := 91) (L' := [(0, .inr (.inr (some (720)))), (1, .inr (.inr (some (r))))]) (st' := [.inr (.inr (some (720))), .inr (.inr (some (720))), .inr (.inr (some (r)))]) rfl ?_
  refine ez_gC (p := 721) (tg := 53) hB5 t720 rfl rfl tq_52 rfl rfl (fun (t721 : _ = 53) => ?_)
  refine ez_go (n := 1) (pc' := 95) (L' := [(0, .inr (.inr (some (720)))), (1, .inr (.inr (some (r))))]) (st' := [.inl (5), .inr (.inr (some (721))), .inr (.inr (some (720))), .inr (.inr (some (r)))]) rfl ?_
  have n8 : 7 ≤ qz_N (dz_put h r 5 (ez_v (.inl (rz_code (rz_b h) (qz_I h 721 (4 : Int).toNat) (qz_I h 722 (4 : Int).toNat))))) 721 ∧ qz_N (dz_put h r 5 (ez_v (.inl (rz_code (rz_b h) (qz_I h 721 (4 : Int).toNat) (qz_I h 722 (4 : Int).toNat))))) 721 ≤ 7 := ez_len hB5 t721 tq_53 rfl
  refine ez_aI hB5 t721 rfl tq_53 rfl rfl (by omega) (by omega) (fun (b7 : 0 ≤ qz_I (dz_put h r 5 (ez_v (.inl (rz_code (rz_b h) (qz_I h 721 (4 : Int).toNat) (qz_I h 722 (4 : Int).toNat))))) 721 (5 : Int).toNat) (b7' : qz_I (dz_put h r 5 (ez_v (.inl (rz_code (rz_b h) (qz_I h 721 (4 : Int).toNat) (qz_I h 722 (4 : Int).toNat))))) 721 (5 : Int).toNat ≤ 4096) => ?_)
  refine ez_go (n := 1) (pc' := 97) (L' := [(0, .inr (.inr (some (720)))), (1, .inr (.inr (some (r))))]) (st' := [.inr (.inr (some (720))), .inl (qz_I (dz_put h r 5 (ez_v (.inl (rz_code (rz_b h) (qz_I h 721 (4 : Int).toNat) (qz_I h 722 (4 : Int).toNat))))) 721 (5 : Int).toNat), .inr (.inr (some (720))), .inr (.inr (some (r)))]) rfl ?_
  refine ez_gC (p := 722) (tg := 54) hB5 t720 rfl rfl tq_52 rfl rfl (fun (t722 : _ = 54) => ?_)
  refine ez_go (n := 1) (pc' := 101) (L' := [(0, .inr (.inr (some (720)))), (1, .inr (.inr (some (r))))]) (st' := [.inl (5), .inr (.inr (some (722))), .inl (qz_I (dz_put h r 5 (ez_v (.inl (rz_code (rz_b h) (qz_I h 721 (4 : Int).toNat) (qz_I h 722 (4 : Int).toNat))))) 721 (5 : Int).toNat), .inr (.inr (some (720))), .inr (.inr (some (r)))]) rfl ?_
  have n10 : 7 ≤ qz_N (dz_put h r 5 (ez_v (.inl (rz_code (rz_b h) (qz_I h 721 (4 : Int).toNat) (qz_I h 722 (4 : Int).toNat))))) 722 ∧ qz_N (dz_put h r 5 (ez_v (.inl (rz_code (rz_b h) (qz_I h 721 (4 : Int).toNat) (qz_I h 722 (4 : Int).toNat))))) 722 ≤ 7 := ez_len hB5 t722 tq_54 rfl
  refine ez_aI hB5 t722 rfl tq_54 rfl rfl (by omega) (by omega) (fun (b9 : 0 ≤ qz_I (dz_put h r 5 (ez_v (.inl (rz_code (rz_b h) (qz_I h 721 (4 : Int).toNat) (qz_I h 722 (4 : Int).toNat))))) 722 (5 : Int).toNat) (b9' : qz_I (dz_put h r 5 (ez_v (.inl (rz_code (rz_b h) (qz_I h 721 (4 : Int).toNat) (qz_I h 722 (4 : Int).toNat))))) 722 (5 : Int).toNat ≤ 4096) => ?_)
  have fr5 : ez_fr (ez_one r) h (dz_put h r 5 (ez_v (.inl (rz_code (rz_b h) (qz_I h 721 (4 : Int).toNat) (qz_I h 722 (4 : Int).toNat))))) := (ez_fr.refl (ez_one r) h).put (show Nat.beq r r = true from Nat.beq_refl r) _ _
  have xf5 : qz_I (dz_put h r 5 (ez_v (.inl (rz_code (rz_b h) (qz_I h 721 (4 : Int).toNat) (qz_I h 722 (4 : Int).toNat))))) 721 (5 : Int).toNat = rz_f h 5 := fr5.I (rz_ne t721 tr rfl) _
  have xt5 : qz_I (dz_put h r 5 (ez_v (.inl (rz_code (rz_b h) (qz_I h 721 (4 : Int).toNat) (qz_I h 722 (4 : Int).toNat))))) 722 (5 : Int).toNat = rz_t h 5 := fr5.I (rz_ne t722 tr rfl) _
  have xl5 := hft 5 (by omega) (by omega)
  have xb5 := rz_code_bd (rz_b (dz_put h r 5 (ez_v (.inl (rz_code (rz_b h) (qz_I h 721 (4 : Int).toNat) (qz_I h 722 (4 : Int).toNat)))))) (qz_I (dz_put h r 5 (ez_v (.inl (rz_code (rz_b h) (qz_I h 721 (4 : Int).toNat) (qz_I h 722 (4 : Int).toNat))))) 721 (5 : Int).toNat) (qz_I (dz_put h r 5 (ez_v (.inl (rz_code (rz_b h) (qz_I h 721 (4 : Int).toNat) (qz_I h 722 (4 : Int).toNat))))) 722 (5 : Int).toNat)
  refine ez_cv hB5 t720 rfl rfl rfl tq_52 rfl rfl rfl (rd_readCode hB5 t720 (by omega) (by omega) (by omega) (ez_K1 ?_))
  refine ez_pf hB5 tr rfl rfl tq_3 rfl rfl rfl rfl (ez_vdI rfl rfl (by omega) (by omega)) (fun hB11 w12 => ?_)
  refine ez_go (n := 3) (pc' := 111) (L' := [(0, .inr (.inr (some (720)))), (1, .inr (.inr (some (r))))]) (st' := [.inr (.inr (some (720))), .inr (.inr (some (720))), .inr (.inr (some (r)))]) rfl ?_
  refine ez_gC (p := 721) (tg := 53) hB11 t720 rfl rfl tq_52 rfl rfl (fun (t721 : _ = 53) => ?_)
  refine ez_go (n := 1) (pc' := 116) (L' := [(0, .inr (.inr (some (720)))), (1, .inr (.inr (some (r))))]) (st' := [.inl (6), .inr (.inr (some (721))), .inr (.inr (some (720))), .inr (.inr (some (r)))]) rfl ?_
  have n14 : 7 ≤ qz_N (dz_put (dz_put h r 5 (ez_v (.inl (rz_code (rz_b h) (qz_I h 721 (4 : Int).toNat) (qz_I h 722 (4 : Int).toNat))))) r 6 (ez_v (.inl (rz_code (rz_b (dz_put h r 5 (ez_v (.inl (rz_code (rz_b h) (qz_I h 721 (4 : Int).toNat) (qz_I h 722 (4 : Int).toNat)))))) (qz_I (dz_put h r 5 (ez_v (.inl (rz_code (rz_b h) (qz_I h 721 (4 : Int).toNat) (qz_I h 722 (4 : Int).toNat))))) 721 (5 : Int).toNat) (qz_I (dz_put h r 5 (ez_v (.inl (rz_code (rz_b h) (qz_I h 721 (4 : Int).toNat) (qz_I h 722 (4 : Int).toNat))))) 722 (5 : Int).toNat))))) 721 ∧ qz_N (dz_put (dz_put h r 5 (ez_v (.inl (rz_code (rz_b h) (qz_I h 721 (4 : Int).toNat) (qz_I h 722 (4 : Int).toNat))))) r 6 (ez_v (.inl (rz_code (rz_b (dz_put h r 5 (ez_v (.inl (rz_code (rz_b h) (qz_I h 721 (4 : Int).toNat) (qz_I h 722 (4 : Int).toNat)))))) (qz_I (dz_put h r 5 (ez_v (.inl (rz_code (rz_b h) (qz_I h 721 (4 : Int).toNat) (qz_I h 722 (4 : Int).toNat))))) 721 (5 : Int).toNat) (qz_I (dz_put h r 5 (ez_v (.inl (rz_code (rz_b h) (qz_I h 721 (4 : Int).toNat) (qz_I h 722 (4 : Int).toNat))))) 722 (5 : Int).toNat))))) 721 ≤ 7 := ez_len hB11 t721 tq_53 rfl
  refine ez_aI hB11 t721 rfl tq_53 rfl rfl (by omega) (by omega) (fun (b13 : 0 ≤ qz_I (dz_put (dz_put h r 5 (ez_v (.inl (rz_code (rz_b h) (qz_I h 721 (4 : Int).toNat) (qz_I h 722 (4 : Int).toNat))))) r 6 (ez_v (.inl (rz_code (rz_b (dz_put h r 5 (ez_v (.inl (rz_code (rz_b h) (qz_I h 721 (4 : Int).toNat) (qz_I h 722 (4 : Int).toNat)))))) (qz_I (dz_put h r 5 (ez_v (.inl (rz_code (rz_b h) (qz_I h 721 (4 : Int).toNat) (qz_I h 722 (4 : Int).toNat))))) 721 (5 : Int).toNat) (qz_I (dz_put h r 5 (ez_v (.inl (rz_code (rz_b h) (qz_I h 721 (4 : Int).toNat) (qz_I h 722 (4 : Int).toNat))))) 722 (5 : Int).toNat))))) 721 (6 : Int).toNat) (b13' : qz_I (dz_put (dz_put h r 5 (ez_v (.inl (rz_code (rz_b h) (qz_I h 721 (4 : Int).toNat) (qz_I h 722 (4 : Int).toNat))))) r 6 (ez_v (.inl (rz_code (rz_b (dz_put h r 5 (ez_v (.inl (rz_code (rz_b h) (qz_I h 721 (4 : Int).toNat) (qz_I h 722 (4 : Int).toNat)))))) (qz_I (dz_put h r 5 (ez_v (.inl (rz_code (rz_b h) (qz_I h 721 (4 : Int).toNat) (qz_I h 722 (4 : Int).toNat))))) 721 (5 : Int).toNat) (qz_I (dz_put h r 5 (ez_v (.inl (rz_code (rz_b h) (qz_I h 721 (4 : Int).toNat) (qz_I h 722 (4 : Int).toNat))))) 722 (5 : Int).toNat))))) 721 (6 : Int).toNat ≤ 4096) => ?_)
  refine ez_go (n := 1) (pc' := 118) (L' := [(0, .inr (.inr (some (720)))), (1, .inr (.inr (some (r))))]) (st' := [.inr (.inr (some (720))), .inl (qz_I (dz_put (dz_put h r 5 (ez_v (.inl (rz_code (rz_b h) (qz_I h 721 (4 : Int).toNat) (qz_I h 722 (4 : Int).toNat))))) r 6 (ez_v (.inl (rz_code (rz_b (dz_put h r 5 (ez_v (.inl (rz_code (rz_b h) (qz_I h 721 (4 : Int).toNat) (qz_I h 722 (4 : Int).toNat)))))) (qz_I (dz_put h r 5 (ez_v (.inl (rz_code (rz_b h) (qz_I h 721 (4 : Int).toNat) (qz_I h 722 (4 : Int).toNat))))) 721 (5 : Int).toNat) (qz_I (dz_put h r 5 (ez_v (.inl (rz_code (rz_b h) (qz_I h 721 (4 : Int).toNat) (qz_I h 722 (4 : Int).toNat))))) 722 (5 : Int).toNat))))) 721 (6 : Int).toNat), .inr (.inr (some (720))), .inr (.inr (some (r)))]) rfl ?_
  refine ez_gC (p := 722) (tg := 54) hB11 t720 rfl rfl tq_52 rfl rfl (fun (t722 : _ = 54) => ?_)
  refine ez_go (n := 1) (pc' := 123) (L' := [(0, .inr (.inr (some (720)))), (1, .inr (.inr (some (r))))]) (st' := [.inl (6), .inr (.inr (some (722))), .inl (qz_I (dz_put (dz_put h r 5 (ez_v (.inl (rz_code (rz_b h) (qz_I h 721 (4 : Int).toNat) (qz_I h 722 (4 : Int).toNat))))) r 6 (ez_v (.inl (rz_code (rz_b (dz_put h r 5 (ez_v (.inl (rz_code (rz_b h) (qz_I h 721 (4 : Int).toNat) (qz_I h 722 (4 : Int).toNat)))))) (qz_I (dz_put h r 5 (ez_v (.inl (rz_code (rz_b h) (qz_I h 721 (4 : Int).toNat) (qz_I h 722 (4 : Int).toNat))))) 721 (5 : Int).toNat) (qz_I (dz_put h r 5 (ez_v (.inl (rz_code (rz_b h) (qz_I h 721 (4 : Int).toNat) (qz_I h 722 (4 : Int).toNat))))) 722 (5 : Int).toNat))))) 721 (6 : Int).toNat), .inr (.inr (some (720))), .inr (.inr (some (r)))]) rfl ?_
  have n16 : 7 ≤ qz_N (dz_put (dz_put h r 5 (ez_v (.inl (rz_code (rz_b h) (qz_I h 721 (4 : Int).toNat) (qz_I h 722 (4 : Int).toNat))))) r 6 (ez_v (.inl (rz_code (rz_b (dz_put h r 5 (ez_v (.inl (rz_code (rz_b h) (qz_I h 721 (4 : Int).toNat) (qz_I h 722 (4 : Int).toNat)))))) (qz_I (dz_put h r 5 (ez_v (.inl (rz_code (rz_b h) (qz_I h 721 (4 : Int).toNat) (qz_I h 722 (4 : Int).toNat))))) 721 (5 : Int).toNat) (qz_I (dz_put h r 5 (ez_v (.inl (rz_code (rz_b h) (qz_I h 721 (4 : Int).toNat) (qz_I h 722 (4 : Int).toNat))))) 722 (5 : Int).toNat))))) 722 ∧ qz_N (dz_put (dz_put h r 5 (ez_v (.inl (rz_code (rz_b h) (qz_I h 721 (4 : Int).toNat) (qz_I h 722 (4 : Int).toNat))))) r 6 (ez_v (.inl (rz_code (rz_b (dz_put h r 5 (ez_v (.inl (rz_code (rz_b h) (qz_I h 721 (4 : Int).toNat) (qz_I h 722 (4 : Int).toNat)))))) (qz_I (dz_put h r 5 (ez_v (.inl (rz_code (rz_b h) (qz_I h 721 (4 : Int).toNat) (qz_I h 722 (4 : Int).toNat))))) 721 (5 : Int).toNat) (qz_I (dz_put h r 5 (ez_v (.inl (rz_code (rz_b h) (qz_I h 721 (4 : Int).toNat) (qz_I h 722 (4 : Int).toNat))))) 722 (5 : Int).toNat))))) 722 ≤ 7 := ez_len hB11 t722 tq_54 rfl
  refine ez_aI hB11 t722 rfl tq_54 rfl rfl (by omega) (by omega) (fun (b15 : 0 ≤ qz_I (dz_put (dz_put h r 5 (ez_v (.inl (rz_code (rz_b h) (qz_I h 721 (4 : Int).toNat) (qz_I h 722 (4 : Int).toNat))))) r 6 (ez_v (.inl (rz_code (rz_b (dz_put h r 5 (ez_v (.inl (rz_code (rz_b h) (qz_I h 721 (4 : Int).toNat) (qz_I h 722 (4 : Int).toNat)))))) (qz_I (dz_put h r 5 (ez_v (.inl (rz_code (rz_b h) (qz_I h 721 (4 : Int).toNat) (qz_I h 722 (4 : Int).toNat))))) 721 (5 : Int).toNat) (qz_I (dz_put h r 5 (ez_v (.inl (rz_code (rz_b h) (qz_I h 721 (4 : Int).toNat) (qz_I h 722 (4 : Int).toNat))))) 722 (5 : Int).toNat))))) 722 (6 : Int).toNat) (b15' : qz_I (dz_put (dz_put h r 5 (ez_v (.inl (rz_code (rz_b h) (qz_I h 721 (4 : Int).toNat) (qz_I h 722 (4 : Int).toNat))))) r 6 (ez_v (.inl (rz_code (rz_b (dz_put h r 5 (ez_v (.inl (rz_code (rz_b h) (qz_I h 721 (4 : Int).toNat) (qz_I h 722 (4 : Int).toNat)))))) (qz_I (dz_put h r 5 (ez_v (.inl (rz_code (rz_b h) (qz_I h 721 (4 : Int).toNat) (qz_I h 722 (4 : Int).toNat))))) 721 (5 : Int).toNat) (qz_I (dz_put h r 5 (ez_v (.inl (rz_code (rz_b h) (qz_I h 721 (4 : Int).toNat) (qz_I h 722 (4 : Int).toNat))))) 722 (5 : Int).toNat))))) 722 (6 : Int).toNat ≤ 4096) => ?_)
  have fr6 : ez_fr (ez_one r) h (dz_put (dz_put h r 5 (ez_v (.inl (rz_code (rz_b h) (qz_I h 721 (4 : Int).toNat) (qz_I h 722 (4 : Int).toNat))))) r 6 (ez_v (.inl (rz_code (rz_b (dz_put h r 5 (ez_v (.inl (rz_code (rz_b h) (qz_I h 721 (4 : Int).toNat) (qz_I h 722 (4 : Int).toNat)))))) (qz_I (dz_put h r 5 (ez_v (.inl (rz_code (rz_b h) (qz_I h 721 (4 : Int).toNat) (qz_I h 722 (4 : Int).toNat))))) 721 (5 : Int).toNat) (qz_I (dz_put h r 5 (ez_v (.inl (rz_code (rz_b h) (qz_I h 721 (4 : Int).toNat) (qz_I h 722 (4 : Int).toNat))))) 722 (5 : Int).toNat))))) := ((ez_fr.refl (ez_one r) h).put (show Nat.beq r r = true from Nat.beq_refl r) _ _).put (show Nat.beq r r = true from Nat.beq_refl r) _ _
  have xf6 : qz_I (dz_put (dz_put h r 5 (ez_v (.inl (rz_code (rz_b h) (qz_I h 721 (4 : Int).toNat) (qz_I h 722 (4 : Int).toNat))))) r 6 (ez_v (.inl (rz_code (rz_b (dz_put h r 5 (ez_v (.inl (rz_code (rz_b h) (qz_I h 721 (4 : Int).toNat) (qz_I h 722 (4 : Int).toNat)))))) (qz_I (dz_put h r 5 (ez_v (.inl (rz_code (rz_b h) (qz_I h 721 (4 : Int).toNat) (qz_I h 722 (4 : Int).toNat))))) 721 (5 : Int).toNat) (qz_I (dz_put h r 5 (ez_v (.inl (rz_code (rz_b h) (qz_I h 721 (4 : Int).toNat) (qz_I h 722 (4 : Int).toNat))))) 722 (5 : Int).toNat))))) 721 (6 : Int).toNat = rz_f h 6 := fr6.I (rz_ne t721 tr rfl) _
  have xt6 : qz_I (dz_put (dz_put h r 5 (ez_v (.inl (rz_code (rz_b h) (qz_I h 721 (4 : Int).toNat) (qz_I h 722 (4 : Int).toNat))))) r 6 (ez_v (.inl (rz_code (rz_b (dz_put h r 5 (ez_v (.inl (rz_code (rz_b h) (qz_I h 721 (4 : Int).toNat) (qz_I h 722 (4 : Int).toNat)))))) (qz_I (dz_put h r 5 (ez_v (.inl (rz_code (rz_b h) (qz_I h 721 (4 : Int).toNat) (qz_I h 722 (4 : Int).toNat))))) 721 (5 : Int).toNat) (qz_I (dz_put h r 5 (ez_v (.inl (rz_code (rz_b h) (qz_I h 721 (4 : Int).toNat) (qz_I h 722 (4 : Int).toNat))))) 722 (5 : Int).toNat))))) 722 (6 : Int).toNat = rz_t h 6 := fr6.I (rz_ne t722 tr rfl) _
  have xl6 := hft 6 (by omega) (by omega)
  have xb6 := rz_code_bd (rz_b (dz_put (dz_put h r 5 (ez_v (.inl (rz_code (rz_b h) (qz_I h 721 (4 : Int).toNat) (qz_I h 722 (4 : Int).toNat))))) r 6 (ez_v (.inl (rz_code (rz_b (dz_put h r 5 (ez_v (.inl (rz_code (rz_b h) (qz_I h 721 (4 : Int).toNat) (qz_I h 722 (4 : Int).toNat)))))) (qz_I (dz_put h r 5 (ez_v (.inl (rz_code (rz_b h) (qz_I h 721 (4 : Int).toNat) (qz_I h 722 (4 : Int).toNat))))) 721 (5 : Int).toNat) (qz_I (dz_put h r 5 (ez_v (.inl (rz_code (rz_b h) (qz_I h 721 (4 : Int).toNat) (qz_I h 722 (4 : Int).toNat))))) 722 (5 : Int).toNat)))))) (qz_I (dz_put (dz_put h r 5 (ez_v (.inl (rz_code (rz_b h) (qz_I h 721 (4 : Int).toNat) (qz_I h 722 (4 : Int).toNat))))) r 6 (ez_v (.inl (rz_code (rz_b (dz_put h r 5 (ez_v (.inl (rz_code (rz_b h) (qz_I h 721 (4 : Int).toNat) (qz_I h 722 (4 : Int).toNat)))))) (qz_I (dz_put h r 5 (ez_v (.inl (rz_code (rz_b h) (qz_I h 721 (4 : Int).toNat) (qz_I h 722 (4 : Int).toNat))))) 721 (5 : Int).toNat) (qz_I (dz_put h r 5 (ez_v (.inl (rz_code (rz_b h) (qz_I h 721 (4 : Int).toNat) (qz_I h 722 (4 : Int).toNat))))) 722 (5 : Int).toNat))))) 721 (6 : Int).toNat) (qz_I (dz_put (dz_put h r 5 (ez_v (.inl (rz_code (rz_b h) (qz_I h 721 (4 : Int).toNat) (qz_I h 722 (4 : Int).toNat))))) r 6 (ez_v (.inl (rz_code (rz_b (dz_put h r 5 (ez_v (.inl (rz_code (rz_b h) (qz_I h 721 (4 : Int).toNat) (qz_I h 722 (4 : Int).toNat)))))) (qz_I (dz_put h r 5 (ez_v (.inl (rz_code (rz_b h) (qz_I h 721 (4 : Int).toNat) (qz_I h 722 (4 : Int).toNat))))) 721 (5 : Int).toNat) (qz_I (dz_put h r 5 (ez_v (.inl (rz_code (rz_b h) (qz_I h 721 (4 : Int).toNat) (qz_I h 722 (4 : Int).toNat))))) 722 (5 : Int).toNat))))) 722 (6 : Int).toNat)
  refine ez_cv hB11 t720 rfl rfl rfl tq_52 rfl rfl rfl (rd_readCode hB11 t720 (by omega) (by omega) (by omega) (ez_K1 ?_))
  refine ez_pf hB11 tr rfl rfl tq_3 rfl rfl rfl rfl (ez_vdI rfl rfl (by omega) (by omega)) (fun hB17 w18 => ?_)
  refine ez_less [(0, .inr (.inr (some (720)))), (1, .inr (.inr (some (r))))] rfl ⟨rfl, rfl, trivial⟩ ?_
  exact k _ hB17 ((((ez_fr.refl (ez_one r) h).put (show Nat.beq r r = true from Nat.beq_refl r) _ _).put (show Nat.beq r r = true from Nat.beq_refl r) _ _).put (show Nat.beq r r = true from Nat.beq_refl r) _ _) (fun j j5 j6 j7 => by rw [ez_put_I (by omega), ez_put_I (by omega), ez_put_I (by omega)])

theorem rd_takeFact_b1 (hB : ez_B τ h) (t720 : τ 720 = 52) (hft : ∀ k, 0 ≤ k → k ≤ 6 → rz_f h k ≤ rz_t h k) (k0 : ¬ (∀ k, 4 ≤ k → k ≤ 6 → rz_f h k = rz_t h k ∨ rz_code (rz_b h) (rz_f h k) (rz_t h k) ≠ -1) → Q (.inl (some (ez_v (.inl (-1)))), h)) (k1 : (∀ k, 4 ≤ k → k ≤ 6 → rz_f h k = rz_t h k ∨ rz_code (rz_b h) (rz_f h k) (rz_t h k) ≠ -1) → ez_W (d + 3) cm_176 68 [(0, .inr (.inr (some (720)))), (1, .inr (.inr (some (r))))] [] h Q) : ez_W (d + 3) cm_176 41 [(0, .inr (.inr (some (720)))), (1, .inr (.inr (some (r))))] [] h Q := by
  refine ez_go (n := 2) (pc' := 43) (L' := [(0, .inr (.inr (some (720)))), (1, .inr (.inr (some (r))))]) (st' := [.inl (4), .inr (.inr (some (720)))]) rfl ?_
  refine ez_cv hB t720 rfl rfl rfl tq_52 rfl rfl rfl (rd_isCodeOrNothing hB t720 (by omega) (by omega) (hft 4 (by omega) (by omega)) (fun e1 => ez_K1 ?_) (fun e1 e1' => ez_K1 ?_))
  · skip
    refine ez_if rfl rfl ⟨by decide, by decide⟩ (fun (c2 : (1 : Int) = (0)) => absurd c2 (by decide)) (fun _ => ?_)
    refine ez_go (n := 2) (pc' := 51) (L' := [(0, .inr (.inr (some (720)))), (1, .inr (.inr (some (r))))]) (st' := [.inl (5), .inr (.inr (some (720)))]) rfl ?_
    refine ez_cv hB t720 rfl rfl rfl tq_52 rfl rfl rfl (rd_isCodeOrNothing hB t720 (by omega) (by omega) (hft 5 (by omega) (by omega)) (fun e3 => ez_K1 ?_) (fun e3 e3' => ez_K1 ?_))
    · skip
      refine ez_if rfl rfl ⟨by decide, by decide⟩ (fun (c4 : (1 : Int) = (0)) => absurd c4 (by decide)) (fun _ => ?_)
      refine ez_go (n := 2) (pc' := 60) (L' := [(0, .inr (.inr (some (720)))), (1, .inr (.inr (some (r))))]) (st' := [.inl (6), .inr (.inr (some (720)))]) rfl ?_
      refine ez_cv hB t720 rfl rfl rfl tq_52 rfl rfl rfl (rd_isCodeOrNothing hB t720 (by omega) (by omega) (hft 6 (by omega) (by omega)) (fun e5 => ez_K1 ?_) (fun e5 e5' => ez_K1 ?_))
      · skip
        refine ez_if rfl rfl ⟨by decide, by decide⟩ (fun _ => ?_) (fun (c6 : ¬((1 : Int) ≠ (0))) => absurd c6 (by decide))
        refine ez_less [(0, .inr (.inr (some (720)))), (1, .inr (.inr (some (r))))] rfl ⟨rfl, rfl, trivial⟩ ?_
        exact k1 (fun k hk4 hk6 => by rcases (by omega : k = 4 ∨ k = 5 ∨ k = 6) with w | w | w; (· rw [w]; exact e1); (· rw [w]; exact e3); (· rw [w]; exact e5))
      · skip
        refine ez_if rfl rfl ⟨by decide, by decide⟩ (fun (c7 : (0 : Int) ≠ (0)) => absurd c7 (by decide)) (fun _ => ?_)
        refine ez_go (n := 1) (pc' := 67) (L' := [(0, .inr (.inr (some (720)))), (1, .inr (.inr (some (r))))]) (st' := [.inl (-1)]) rfl ?_
        exact ez_retI rfl rfl (k0 (fun w => by rcases w 6 (by omega) (by omega) with w | w; (· exact e5 w); (· exact w e5')))
    · skip
      refine ez_if rfl rfl ⟨by decide, by decide⟩ (fun _ => ?_) (fun (c8 : ¬((0 : Int) = (0))) => absurd c8 (by decide))
      refine ez_go (n := 1) (pc' := 67) (L' := [(0, .inr (.inr (some (720)))), (1, .inr (.inr (some (r))))]) (st' := [.inl (-1)]) rfl ?_
      exact ez_retI rfl rfl (k0 (fun w => by rcases w 5 (by omega) (by omega) with w | w; (· exact e3 w); (· exact w e3')))
  · skip
    refine ez_if rfl rfl ⟨by decide, by decide⟩ (fun _ => ?_) (fun (c9 : ¬((0 : Int) = (0))) => absurd c9 (by decide))
    refine ez_go (n := 1) (pc' := 67) (L' := [(0, .inr (.inr (some (720)))), (1, .inr (.inr (some (r))))]) (st' := [.inl (-1)]) rfl ?_
    exact ez_retI rfl rfl (k0 (fun w => by rcases w 4 (by omega) (by omega) with w | w; (· exact e1 w); (· exact w e1')))

end EzTk
/-! The reader of the class: takeFact, all of it. (Written by wip/p2/py/pv16.py.) -/
theorem ez_xr.bft {τ τ' : Nat → Nat} {h g : cz_H} {dc ds : Nat} (hx : ez_xr τ h τ' g 720 dc ds) (t193 : τ 193 = 45) (t721 : τ 721 = 53) (t722 : τ 722 = 54) : rz_b g = rz_b h ∧ rz_f g = rz_f h ∧ rz_t g = rz_t h :=
  ⟨funext fun i => hx.I (by rw [t193]; decide) (by decide) _, funext fun i => hx.I (by rw [t721]; decide) (by decide) _, funext fun i => hx.I (by rw [t722]; decide) (by decide) _⟩
theorem ez_xr_new {τ : Nat → Nat} {h : cz_H} (hB : ez_B τ h) {t n x dc ds : Nat} {c : cz_C} (hd : 1 ≤ dc) (hn : n ≤ ds) : ez_xr τ h (dz_tn τ h.1 t) (cz_push h n c) x dc ds :=
  have x0 := ez_xt_new (t := t) (c := c) hB hd hn (ez_fr.refl _ _)
  ⟨fun q hq => ⟨(x0.1 q hq).1, fun _ => (x0.1 q hq).2⟩, x0.2⟩
/-- a Fact's decomposition -/
def rz_D (τ : Nat → Nat) (h : cz_H) (r : Nat) (dec : Option (Int × List Int)) : Prop := match dec with
  | none => qz_I h r 3 = 0
  | some (cp, vs) => ∃ p : Nat, τ p = 5 ∧ qz_I h r 3 = (p : Int) + 1 ∧ qz_I h r 4 = cp ∧ qz_N h p = (vs.length : Int) ∧ ∀ (j : Nat) v, vs[j]? = some v → qz_I h p j = v
theorem rz_db_cp {b : Int → Int} {s t cp bg : Int} (h : rz_db b s t = some (cp, bg)) : cp = 0 ∨ cp = 1 := by
  unfold rz_db at h
  split at h
  · split at h
    · cases h
    · cases h; exact Or.inr rfl
  · cases h; exact Or.inl rfl
theorem rz_rw_len {b : Int → Int} {m s t : Int} {vs : List Int} (h : rz_rw b m s t = some vs) : vs.length = rz_ct b s (t - s).toNat s := by
  unfold rz_rw at h
  split at h
  · exact rz_row_len b _ _ _ _ h
  · cases h
/-- the same at another heap -/
theorem rz_D_fr {τ : Nat → Nat} {h g : cz_H} {r : Nat} {dec : Option (Int × List Int)} (hD : rz_D τ h r dec) (e3 : qz_I g r 3 = qz_I h r 3) (e4 : qz_I g r 4 = qz_I h r 4) (ep : ∀ p, τ p = 5 → g.2.2 p = h.2.2 p) : rz_D τ g r dec := by
  match dec with
  | none => exact e3.trans hD
  | some (cp, vs) =>
    obtain ⟨p, p1, p2, p3, p4, p5⟩ := hD
    exact ⟨p, p1, e3.trans p2, e4.trans p3, by unfold qz_N; rw [ep p p1]; exact p4, fun j v hj => by unfold qz_I; rw [ep p p1]; exact p5 j v hj⟩
section EzTl
variable {d : Nat} {h : cz_H} {τ : Nat → Nat} {Q : cz_F → Prop} {r : Nat}
theorem rd_takeFact_s {τ0 : Nat → Nat} {h0 : cz_H} {first last cls : Int} {dec : Option (Int × List Int)} (hB0 : ez_B τ0 h0) (u193 : τ0 193 = 45) (u202 : τ0 202 = 48) (u203 : τ0 203 = 49) (u720 : τ0 720 = 52) (u721 : τ0 721 = 53) (u722 : τ0 722 = 54) (hs : sz_ok h0) (hinj : sz_inj h0) (hft : ∀ k, 0 ≤ k → k ≤ 6 → rz_f h0 k ≤ rz_t h0 k) (hn : qz_I h0 202 1 + 2 ≤ 513) (hB : ez_B τ h) (hx : ez_xr τ0 h0 τ h 720 2 31) (r0 : τ0 r = 0) (tr : τ r = 3) (hr : (r : Int) + 1 ≤ 1000000) (e4 : qz_I h 720 4 = first) (e5 : qz_I h 720 5 = last) (ef : first = rz_first (rz_b h0) (rz_f h0 0) (rz_t h0 0)) (el : last = rz_last (rz_b h0) (rz_f h0 0) (rz_t h0 0)) (f1 : first ≠ -1) (fl : first ≤ last) (hcat : rz_cat (rz_b h0) (rz_f h0 1) (rz_t h0 1)) (hcl : (1 ≤ rz_t h0 2 - rz_f h0 2 ∧ rz_t h0 2 - rz_f h0 2 ≤ 3) ∧ (0 ≤ cls ∧ cls ≤ 254) ∧ cls = rz_dec (rz_b h0) (rz_t h0 2 - rz_f h0 2).toNat (rz_f h0 2) 0) (hdec : (rz_f h0 3 = rz_t h0 3 ∧ dec = none) ∨ (rz_f h0 3 ≠ rz_t h0 3 ∧ ∃ cp bg vs, rz_db (rz_b h0) (rz_f h0 3) (rz_t h0 3) = some (cp, bg) ∧ rz_rw (rz_b h0) 18 bg (rz_t h0 3) = some vs ∧ dec = some (cp, vs))) (e2 : qz_I h r 2 = cls) (hD : rz_D τ h r dec) (kN : ∀ g τ1, ez_B τ1 g → ez_xr τ0 h0 τ1 g 720 2 31 → ¬(∃ first last cls dec, rz_F (rz_b h0) (rz_f h0) (rz_t h0) first last cls dec) → Q (.inl (some (ez_v (.inl (-1)))), g)) (kS : ∀ g h1 τ1 first last cls dec, ez_B τ1 g → ez_B τ1 h1 → ez_xr τ0 h0 τ1 h1 720 2 31 → τ1 r = 3 → rz_F (rz_b h0) (rz_f h0) (rz_t h0) first last cls dec → qz_I h1 r 0 = first → qz_I h1 r 2 = cls → rz_D τ1 h1 r dec → sz_told τ1 h1 g first last r → Q (.inl (some (ez_v (.inl (last - first + 1)))), g)) : ez_W (d + 3) cm_176 41 [(0, .inr (.inr (some (720)))), (1, .inr (.inr (some (r))))] [] h Q := by
  have t720 := hx.t u720 rfl
  have t721 := hx.t u721 rfl
  have t722 := hx.t u722 rfl
  have t202 := hx.t u202 rfl
  have t203 := hx.t u203 rfl
  obtain ⟨xb, xf, xt⟩ := hx.bft u193 u721 u722
  have bl : -1 ≤ last ∧ last ≤ 1114111 := by
    rw [el]; unfold rz_last rz_first
    split
    · split
      · exact rz_code_bd _ _ _
      · omega
    · exact rz_code_bd _ _ _
  have bf : -1 ≤ first ∧ first ≤ 1114111 := by rw [ef]; unfold rz_first; exact rz_code_bd _ _ _
  refine rd_takeFact_b1 hB t720 (by rw [xf, xt]; exact hft) (fun hno => kN h τ hB hx (fun ⟨_, _, _, _, w⟩ => hno (by rw [xb, xf, xt]; exact w.2.2.2.2.1))) (fun hok => ?_)
  rw [xb, xf, xt] at hok
  refine rd_takeFact_b2 hB t720 t721 t722 tr (by rw [xf, xt]; exact hft) (fun g hB1 hf1 hk1 => ?_)
  have hx1 := hx.fr hf1 (Or.inl r0)
  obtain ⟨-, xf1, xt1⟩ := hx1.bft u193 u721 u722
  have v4 : qz_I g 720 4 = first := (hf1.I (rz_ne t720 tr rfl) 4).trans e4
  have v5 : qz_I g 720 5 = last := (hf1.I (rz_ne t720 tr rfl) 5).trans e5
  refine rd_takeFact_c hB1 t720 (fun hlt hno => kN g τ hB1 hx1 (fun ⟨_, _, _, _, w⟩ => hno (by rw [xf1, xt1]; refine w.2.2.2.2.2 ?_; rw [w.1.1, w.1.2.1, ← ef, ← el]; omega))) (fun hem => ?_)
  rw [xf1, xt1] at hem
  obtain ⟨hs1, hi1⟩ := sz_same_ok hB0 u203 u202 ((hx1.1 202 (by rw [u202]; decide)).2 (by decide)) ((hx1.1 203 (by rw [u203]; decide)).2 (by decide)) (fun q hq => (hx1.1 q (by rw [hq]; decide)).2 (fun e => by rw [e, u720] at hq; cases hq)) hs hinj
  have c1 : qz_I g 202 1 = qz_I h0 202 1 := hx1.I (by rw [u202]; decide) (by decide) 1
  refine rd_takeFact_d hB1 t720 t202 t203 tr hr hs1 hi1 v4 v5 (by omega) fl bl.2 (by omega) (fun g2 h1 hB2 hBh hf2 a0 aj htl => ?_)
  refine kS g2 h1 τ first last cls dec hB2 hBh (hx1.fr hf2 (Or.inl r0)) tr ⟨⟨ef, el, f1, fl⟩, hcat, hcl, hdec, hok, fun hlt => hem (by omega)⟩ a0 (by rw [aj 2 (by decide), hk1 2 (by decide) (by decide) (by decide)]; exact e2) ?_ htl
  refine rz_D_fr hD (by rw [aj 3 (by decide), hk1 3 (by decide) (by decide) (by decide)]) (by rw [aj 4 (by decide), hk1 4 (by decide) (by decide) (by decide)]) (fun p hp => ?_)
  have hpr : ez_one r p = false := dz_beq_ne (fun e => by rw [e, tr] at hp; cases hp)
  rw [hf2.2.2 p hpr, hf1.2.2 p hpr]
theorem rd_takeFact_a {τ0 : Nat → Nat} {h0 : cz_H} (hB0 : ez_B τ0 h0) (u193 : τ0 193 = 45) (u202 : τ0 202 = 48) (u203 : τ0 203 = 49) (u720 : τ0 720 = 52) (u721 : τ0 721 = 53) (u722 : τ0 722 = 54) (hs : sz_ok h0) (hinj : sz_inj h0) (hft : ∀ k, 0 ≤ k → k ≤ 6 → rz_f h0 k ≤ rz_t h0 k) (hn : qz_I h0 202 1 + 2 ≤ 513) (hB : ez_B τ h) (hx : ez_xr τ0 h0 τ h 720 1 13) (r0 : τ0 r = 0) (tr : τ r = 3) (hz : ∀ j, qz_I h r j = 0) (hr : (r : Int) + 1 ≤ 1000000) (hr1 : h0.1 + 2 ≤ 600192) (hr2 : h0.2.1 + 31 ≤ 7302232) (kN : ∀ g τ1, ez_B τ1 g → ez_xr τ0 h0 τ1 g 720 2 31 → ¬(∃ first last cls dec, rz_F (rz_b h0) (rz_f h0) (rz_t h0) first last cls dec) → Q (.inl (some (ez_v (.inl (-1)))), g)) (kS : ∀ g h1 τ1 first last cls dec, ez_B τ1 g → ez_B τ1 h1 → ez_xr τ0 h0 τ1 h1 720 2 31 → τ1 r = 3 → rz_F (rz_b h0) (rz_f h0) (rz_t h0) first last cls dec → qz_I h1 r 0 = first → qz_I h1 r 2 = cls → rz_D τ1 h1 r dec → sz_told τ1 h1 g first last r → Q (.inl (some (ez_v (.inl (last - first + 1)))), g)) : ez_W (d + 4) cm_176 4 [(0, .inr (.inr (some (720))))] [.inr (.inr (some (r))), .inr (.inr (some (r)))] h Q := by
  have t720 := hx.t u720 rfl
  have t721 := hx.t u721 rfl
  have t722 := hx.t u722 rfl
  have t193 := hx.t u193 rfl
  have t202 := hx.t u202 rfl
  have t203 := hx.t u203 rfl
  have hxc := hx.2
  refine ez_ci hB.2.1 rfl rfl rfl rfl rfl rfl (rd_Fact_init hB tr (fun g1 hB1 x1 z1 => ez_K0 ?_))
  have hx1 := hx.fr x1 (Or.inl r0)
  obtain ⟨b1, f1, t1⟩ := hx1.bft u193 u721 u722
  have q0 := hft 0 (by omega) (by omega)
  have n721 : 7 ≤ qz_N h0 721 ∧ qz_N h0 721 ≤ 7 := ez_len hB0 u721 tq_53 rfl
  have n722 : 7 ≤ qz_N h0 722 ∧ qz_N h0 722 ≤ 7 := ez_len hB0 u722 tq_54 rfl
  have q1 : 0 ≤ rz_f h0 0 ∧ rz_f h0 0 ≤ 4096 := ez_aB (i := 0) hB0 u721 tq_53 rfl rfl (by decide) (by omega) (by omega)
  have q2 : 0 ≤ rz_t h0 0 ∧ rz_t h0 0 ≤ 4096 := ez_aB (i := 0) hB0 u722 tq_54 rfl rfl (by decide) (by omega) (by omega)
  refine ez_go (n := 2) (pc' := 9) (L' := [(1, .inr (.inr (some (r)))), (0, .inr (.inr (some (720))))]) (st' := [.inr (.inr (some (720)))]) rfl ?_
  refine ez_cv hB1 t720 rfl rfl rfl tq_52 rfl rfl rfl (rd_readCodes hB1 t720 (congrFun f1 0) (congrFun t1 0) (by omega) (by omega) (by omega) (fun g2 hB2 x2 v4 v5 y1 y2 => ez_K1 ?_) (fun g2 hB2 x2 y1 => ez_K1 ?_))
  · skip
    rw [b1] at v4 v5 y1 y2
    have hx2 := hx1.fr x2 (Or.inr rfl)
    obtain ⟨b2, f2, t2⟩ := hx2.bft u193 u721 u722
    have z2 : ∀ j, qz_I g2 r j = qz_I g1 r j := fun j => x2.I (rz_ne tr t720 rfl) j
    refine ez_if rfl rfl ⟨by decide, by decide⟩ (fun (c1 : (1 : Int) = (0)) => absurd c1 (by decide)) (fun _ => ?_)
    refine ez_go (n := 2) (pc' := 17) (L' := [(1, .inr (.inr (some (r)))), (0, .inr (.inr (some (720))))]) (st' := [.inr (.inr (some (r))), .inr (.inr (some (720)))]) rfl ?_
    refine ez_cv hB2 t720 rfl rfl rfl tq_52 rfl rfl rfl (rd_readCategory hB2 t720 tr (fun g3 hB3 x3 z3 y3 => ez_K1 ?_) (fun g3 hB3 x3 z3 y3 => ez_K1 ?_))
    · skip
      rw [b2, f2, t2] at y3
      have hx3 := hx2.fr x3 (Or.inl r0)
      obtain ⟨b3, f3, t3⟩ := hx3.bft u193 u721 u722
      have w3 : ∀ j, qz_I g3 720 j = qz_I g2 720 j := fun j => x3.I (rz_ne t720 tr rfl) j
      refine ez_if rfl rfl ⟨by decide, by decide⟩ (fun (c2 : (1 : Int) = (0)) => absurd c2 (by decide)) (fun _ => ?_)
      refine ez_go (n := 2) (pc' := 25) (L' := [(1, .inr (.inr (some (r)))), (0, .inr (.inr (some (720))))]) (st' := [.inr (.inr (some (r))), .inr (.inr (some (720)))]) rfl ?_
      refine ez_cv hB3 t720 rfl rfl rfl tq_52 rfl rfl rfl (rd_readClass hB3 t720 tr (fun g4 hB4 x4 z4 y4 y5 y6 y7 y8 => ez_K1 ?_) (fun g4 hB4 x4 z4 y4 => ez_K1 ?_))
      · skip
        rw [f3, t3, b3] at y4 y7 y8
        rw [f3, t3] at y5 y6
        have hx4 := hx3.fr x4 (Or.inl r0)
        obtain ⟨b4, f4, t4⟩ := hx4.bft u193 u721 u722
        have w4 : ∀ j, qz_I g4 720 j = qz_I g3 720 j := fun j => x4.I (rz_ne t720 tr rfl) j
        refine ez_if rfl rfl ⟨by decide, by decide⟩ (fun (c3 : (1 : Int) = (0)) => absurd c3 (by decide)) (fun _ => ?_)
        refine ez_go (n := 2) (pc' := 33) (L' := [(1, .inr (.inr (some (r)))), (0, .inr (.inr (some (720))))]) (st' := [.inr (.inr (some (r))), .inr (.inr (some (720)))]) rfl ?_
        have hx4c := hx4.2
        refine ez_cv hB4 t720 rfl rfl rfl tq_52 rfl rfl rfl (rd_readDecomposition hB4 t720 t722 tr (by rw [f4, t4]; exact hft 3 (by omega) (by omega)) (by omega) (by omega) (fun ye => ez_K1 ?_) (fun g5 τ5 vs cp bg p ye yd hB5 x5 t5 yr yN yv ar3 ar4 arj => ez_K1 ?_) (fun g5 τ5 hB5 x5 ye yn => ez_K1 ?_))
        · skip
          rw [f4, t4] at ye
          refine ez_if rfl rfl ⟨by decide, by decide⟩ (fun _ => ?_) (fun (c4 : ¬((1 : Int) ≠ (0))) => absurd c4 (by decide))
          refine ez_less [(0, .inr (.inr (some (720)))), (1, .inr (.inr (some (r))))] rfl ⟨rfl, rfl, trivial⟩ ?_
          exact rd_takeFact_s hB0 u193 u202 u203 u720 u721 u722 hs hinj hft hn hB4 (hx4.mono (by omega) (by omega)) r0 tr hr (by rw [w4, w3]; exact v4) (by rw [w4, w3]; exact v5) rfl rfl y1 y2 y3 ⟨⟨y5, y6⟩, ⟨y7, y8⟩, rfl⟩ (Or.inl ⟨ye, rfl⟩) y4 (show qz_I g4 r 3 = 0 by rw [z4 3 (by decide), z3 3 (by decide), z2, z1 3 (by decide) (by decide) (by decide) (by decide)]; exact hz 3) kN kS
        · skip
          rw [f4, t4] at ye
          rw [b4, f4, t4] at yd
          rw [b4, t4] at yr
          rw [b4, t4] at yN
          have hx5 := hx4.xr x5 r0
          refine ez_if rfl rfl ⟨by decide, by decide⟩ (fun _ => ?_) (fun (c5 : ¬((1 : Int) ≠ (0))) => absurd c5 (by decide))
          refine ez_less [(0, .inr (.inr (some (720)))), (1, .inr (.inr (some (r))))] rfl ⟨rfl, rfl, trivial⟩ ?_
          have w5 : ∀ j, qz_I g5 720 j = qz_I g4 720 j := fun j => x5.I (by rw [t720]; decide) (fun e => by rw [← e, t720] at tr; cases tr) j
          exact rd_takeFact_s hB0 u193 u202 u203 u720 u721 u722 hs hinj hft hn hB5 (hx5.mono (by omega) (by omega)) r0 (x5.t tr rfl) hr (by rw [w5, w4, w3]; exact v4) (by rw [w5, w4, w3]; exact v5) rfl rfl y1 y2 y3 ⟨⟨y5, y6⟩, ⟨y7, y8⟩, rfl⟩ (Or.inr ⟨ye, cp, bg, vs, yd, yr, rfl⟩) (by rw [arj 2 (by decide) (by decide)]; exact y4) ⟨p, t5, ar3, (by rw [ar4]; rcases rz_db_cp yd with w | w; (· rw [if_neg (by omega), z4 4 (by decide), z3 4 (by decide), z2, z1 4 (by decide) (by decide) (by decide) (by decide), hz 4]; exact w.symm); (· rw [if_pos w]; exact w.symm)), (by rw [yN, rz_rw_len yr]), yv⟩ kN kS
        · skip
          rw [f4, t4] at ye
          rw [b4, f4, t4] at yn
          have hx5 := hx4.xr x5 r0
          refine ez_if rfl rfl ⟨by decide, by decide⟩ (fun (c6 : (0 : Int) ≠ (0)) => absurd c6 (by decide)) (fun _ => ?_)
          refine ez_go (n := 1) (pc' := 40) (L' := [(1, .inr (.inr (some (r)))), (0, .inr (.inr (some (720))))]) (st' := [.inl (-1)]) rfl ?_
          exact ez_retI rfl rfl (kN g5 τ5 hB5 (hx5.mono (by omega) (by omega)) (fun ⟨_, _, _, _, w⟩ => by rcases w.2.2.2.1 with w | w; (· exact ye w.1); (· obtain ⟨-, cp, bg, vs, w1, w2, -⟩ := w; rcases yn with yn | ⟨cp2, bg2, yn1, yn2⟩; (· rw [yn] at w1; cases w1); (· rw [w1] at yn1; cases yn1; rw [w2] at yn2; cases yn2))))
      · skip
        rw [f3, t3, b3] at y4
        have hx4 := hx3.fr x4 (Or.inl r0)
        obtain ⟨b4, f4, t4⟩ := hx4.bft u193 u721 u722
        refine ez_if rfl rfl ⟨by decide, by decide⟩ (fun _ => ?_) (fun (c7 : ¬((0 : Int) = (0))) => absurd c7 (by decide))
        refine ez_go (n := 1) (pc' := 40) (L' := [(1, .inr (.inr (some (r)))), (0, .inr (.inr (some (720))))]) (st' := [.inl (-1)]) rfl ?_
        exact ez_retI rfl rfl (kN g4 τ hB4 (hx4.mono (by omega) (by omega)) (fun ⟨_, _, _, _, w⟩ => y4 ⟨w.2.2.1.1, by rw [← w.2.2.1.2.2]; exact w.2.2.1.2.1⟩))
    · skip
      rw [b2, f2, t2] at y3
      have hx3 := hx2.fr x3 (Or.inl r0)
      obtain ⟨b3, f3, t3⟩ := hx3.bft u193 u721 u722
      refine ez_if rfl rfl ⟨by decide, by decide⟩ (fun _ => ?_) (fun (c8 : ¬((0 : Int) = (0))) => absurd c8 (by decide))
      refine ez_go (n := 1) (pc' := 40) (L' := [(1, .inr (.inr (some (r)))), (0, .inr (.inr (some (720))))]) (st' := [.inl (-1)]) rfl ?_
      exact ez_retI rfl rfl (kN g3 τ hB3 (hx3.mono (by omega) (by omega)) (fun ⟨_, _, _, _, w⟩ => y3 w.2.1))
  · skip
    rw [b1] at y1
    have hx2 := hx1.fr x2 (Or.inr rfl)
    obtain ⟨b2, f2, t2⟩ := hx2.bft u193 u721 u722
    refine ez_if rfl rfl ⟨by decide, by decide⟩ (fun _ => ?_) (fun (c9 : ¬((0 : Int) = (0))) => absurd c9 (by decide))
    refine ez_go (n := 1) (pc' := 40) (L' := [(1, .inr (.inr (some (r)))), (0, .inr (.inr (some (720))))]) (st' := [.inl (-1)]) rfl ?_
    exact ez_retI rfl rfl (kN g2 τ hB2 (hx2.mono (by omega) (by omega)) (fun ⟨_, _, _, _, w⟩ => y1 (by rw [← w.1.1]; exact w.1.2.2.1) (by rw [← w.1.1, ← w.1.2.1]; exact w.1.2.2.2)))

theorem rd_takeFact {τ0 : Nat → Nat} {h0 : cz_H} (hB0 : ez_B τ0 h0) (u193 : τ0 193 = 45) (u202 : τ0 202 = 48) (u203 : τ0 203 = 49) (u720 : τ0 720 = 52) (u721 : τ0 721 = 53) (u722 : τ0 722 = 54) (hs : sz_ok h0) (hinj : sz_inj h0) (hft : ∀ k, 0 ≤ k → k ≤ 6 → rz_f h0 k ≤ rz_t h0 k) (hn : qz_I h0 202 1 + 2 ≤ 513) (hr1 : h0.1 + 2 ≤ 600192) (hr2 : h0.2.1 + 31 ≤ 7302232) (kN : ∀ g τ1, ez_B τ1 g → ez_xr τ0 h0 τ1 g 720 2 31 → ¬(∃ first last cls dec, rz_F (rz_b h0) (rz_f h0) (rz_t h0) first last cls dec) → Q (.inl (some (ez_v (.inl (-1)))), g)) (kS : ∀ g h1 τ1 first last cls dec, ez_B τ1 g → ez_B τ1 h1 → ez_xr τ0 h0 τ1 h1 720 2 31 → τ1 h0.1 = 3 → rz_F (rz_b h0) (rz_f h0) (rz_t h0) first last cls dec → qz_I h1 h0.1 0 = first → qz_I h1 h0.1 2 = cls → rz_D τ1 h1 h0.1 dec → sz_told τ1 h1 g first last h0.1 → Q (.inl (some (ez_v (.inl (last - first + 1)))), g)) : ez_W (d + 4) cm_176 0 [(0, .inr (.inr (some (720))))] [] h0 Q := by
  refine ez_nw (t := 3) hB0 rfl rfl rfl tq_3 rfl rfl (by omega) (by show h0.2.1 + 13 ≤ 7302232; omega) (fun hB1 hz => ?_)
  refine ez_go (n := 1) (pc' := 4) (L' := [(0, .inr (.inr (some (720))))]) (st' := [.inr (.inr (some h0.1)), .inr (.inr (some h0.1))]) rfl ?_
  exact rd_takeFact_a hB0 u193 u202 u203 u720 u721 u722 hs hinj hft hn hB1 (ez_xr_new hB0 (Nat.le_refl _) (show 13 ≤ 13 from Nat.le_refl _)) (ez_fresh hB0) (by unfold dz_tn; simp) hz (by omega) hr1 hr2 kN kS
end EzTl
