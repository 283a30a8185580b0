/-! The reader of the class: takeFact. (Written by wip/p2/py/pv15.py.) -/
theorem ez_xr.fr {τ τ' : Nat → Nat} {h g g' : cz_H} {x r dc ds : Nat} (hx : ez_xr τ h τ' g x dc ds) (hf : ez_fr (ez_one r) g g') (hr : τ r = 0 ∨ r = x) : ez_xr τ h τ' g' x dc ds := by
  refine ⟨fun q hq => ⟨(hx.1 q hq).1, fun hqx => ?_⟩, ?_, ?_⟩
  · rw [hf.2.2 q (dz_beq_ne (fun e => by rcases hr with w | w; (· rw [e] at hq; exact hq w); (· exact hqx (e.trans w)))), (hx.1 q hq).2 hqx]
  · rw [hf.1]; exact hx.2.1
  · rw [hf.2.1]; exact hx.2.2
theorem ez_xr.xr {τ τ' τ2 : Nat → Nat} {h g g' : cz_H} {x r dc ds dc' ds' : Nat} (hx : ez_xr τ h τ' g x dc ds) (hf : ez_xr τ' g τ2 g' r dc' ds') (hr : τ r = 0) : ez_xr τ h τ2 g' x (dc + dc') (ds + ds') := by
  have h1 := hx.2
  have h2 := hf.2
  refine ⟨fun q hq => ⟨?_, fun hqx => ?_⟩, by omega, by omega⟩
  · rw [(hf.1 q (by rw [(hx.1 q hq).1]; exact hq)).1, (hx.1 q hq).1]
  · rw [(hf.1 q (by rw [(hx.1 q hq).1]; exact hq)).2 (fun e => by rw [e] at hq; exact hq hr), (hx.1 q hq).2 hqx]
theorem ez_xr.mono {τ τ' : Nat → Nat} {h g : cz_H} {x dc ds dc' ds' : Nat} (hx : ez_xr τ h τ' g x dc ds) (h1 : dc ≤ dc') (h2 : ds ≤ ds') : ez_xr τ h τ' g x dc' ds' := by
  have := hx.2
  exact ⟨hx.1, by omega, by omega⟩
theorem ez_xr.t {τ τ' : Nat → Nat} {h g : cz_H} {x dc ds : Nat} (hx : ez_xr τ h τ' g x dc ds) {q t : Nat} (hq : τ q = t) (ht : Nat.beq t 0 = false) : τ' q = t := (hx.1 q (fun e => by rw [hq] at e; rw [e] at ht; cases ht)).1.trans hq
theorem ez_fresh {τ : Nat → Nat} {h : cz_H} (hB : ez_B τ h) : τ h.1 = 0 := Classical.byContradiction fun e => Nat.lt_irrefl _ (dz_here_lt (hB.1 h.1 e).1)
/-- spans are as they were where their cells are -/
theorem sz_same {τ : Nat → Nat} {h g : cz_H} (hB : ez_B τ h) (t203 : τ 203 = 49) (t202 : τ 202 = 48) (e2 : g.2.2 202 = h.2.2 202) (e3 : g.2.2 203 = h.2.2 203) (e4 : ∀ q, τ q = 4 → g.2.2 q = h.2.2 q) : (∀ k, sz_p g k = sz_p h k) ∧ (∀ k, 0 ≤ k → k < 513 → ∀ j, qz_I g (sz_p g k) j = qz_I h (sz_p h k) j) ∧ (∀ j, qz_I g 202 j = qz_I h 202 j) := by
  have hp : ∀ k, sz_p g k = sz_p h k := fun k => by unfold sz_p qz_P qz_I; rw [e3]
  refine ⟨hp, fun k k0 k1 j => ?_, fun j => by unfold qz_I; rw [e2]⟩
  rw [hp]
  have ht : τ (sz_p h k) = 4 := by
    have n : 513 ≤ qz_N h 203 ∧ qz_N h 203 ≤ 513 := ez_len hB t203 tq_49 rfl
    have y : 1 ≤ qz_I h 203 k.toNat ∧ qz_I h 203 k.toNat ≤ 1000000 := ez_aB hB t203 tq_49 rfl rfl (by decide) k0 (by omega)
    obtain ⟨n, f, o1, o2, o3, o4, -, o6⟩ := ez_arr hB t203 tq_49 rfl rfl
    obtain ⟨g1, g2⟩ := o6 k.toNat (by omega)
    exact (ez_slR g1 g2 rfl (by decide) y.1).2.1
  unfold qz_I
  rw [e4 _ ht]
theorem sz_same_ok {τ : Nat → Nat} {h g : cz_H} (hB : ez_B τ h) (t203 : τ 203 = 49) (t202 : τ 202 = 48) (e2 : g.2.2 202 = h.2.2 202) (e3 : g.2.2 203 = h.2.2 203) (e4 : ∀ q, τ q = 4 → g.2.2 q = h.2.2 q) (hs : sz_ok h) (hi : sz_inj h) : sz_ok g ∧ sz_inj g := by
  obtain ⟨a, b, c⟩ := sz_same hB t203 t202 e2 e3 e4
  have n1 : 1 ≤ qz_I h 202 1 ∧ qz_I h 202 1 ≤ 513 := ez_fB (cl := 2) hB t202 tq_48 rfl rfl (by decide)
  refine ⟨⟨(b 0 (by omega) (by omega) 0).trans hs.1, fun i j i0 ij jn => ?_⟩, fun i j i0 i1 j0 j1 e => hi i j i0 i1 j0 j1 ?_⟩
  · rw [c] at jn
    have := hs.2 i j i0 ij jn
    unfold sz_f at *
    rw [b i i0 (by omega), b j (by omega) (by omega)]
    exact this
  · rw [a, a] at e; exact e
/-- what a LINE 0 says: first, last, class, decomposition -/
def rz_F (b : Int → Int) (f t : Int → Int) (first last cls : Int) (dec : Option (Int × List Int)) : Prop :=
  (first = rz_first b (f 0) (t 0) ∧ last = rz_last b (f 0) (t 0) ∧ first ≠ -1 ∧ first ≤ last) ∧ rz_cat b (f 1) (t 1) ∧ ((1 ≤ t 2 - f 2 ∧ t 2 - f 2 ≤ 3) ∧ (0 ≤ cls ∧ cls ≤ 254) ∧ cls = rz_dec b (t 2 - f 2).toNat (f 2) 0) ∧ ((f 3 = t 3 ∧ dec = none) ∨ (f 3 ≠ t 3 ∧ ∃ cp bg vs, rz_db b (f 3) (t 3) = some (cp, bg) ∧ rz_rw b 18 bg (t 3) = some vs ∧ dec = some (cp, vs))) ∧ (∀ k, 4 ≤ k → k ≤ 6 → f k = t k ∨ rz_code b (f k) (t k) ≠ -1) ∧ (first < last → ∀ k, 3 ≤ k → k ≤ 6 → f k = t k)
section EzTk
variable {d : Nat} {h : cz_H} {τ : Nat → Nat} {Q : cz_F → Prop} {r : Nat}
theorem rd_takeFact_d {first last : Int} (hB : ez_B τ h) (t720 : τ 720 = 52) (t202 : τ 202 = 48) (t203 : τ 203 = 49) (tr : τ r = 3) (hr : (r : Int) + 1 ≤ 1000000) (hs : sz_ok h) (hinj : sz_inj h) (e4 : qz_I h 720 4 = first) (e5 : qz_I h 720 5 = last) (f0 : 0 ≤ first) (fl : first ≤ last) (l1 : last ≤ 1114111) (hn : qz_I h 202 1 + 2 ≤ 513) (k : ∀ g h1, ez_B τ g → ez_B τ h1 → ez_fr (ez_one r) h h1 → qz_I h1 r 0 = first → (∀ j, j ≠ 0 → qz_I h1 r j = qz_I h r j) → sz_told τ h1 g first last r → Q (.inl (some (ez_v (.inl (last - first + 1)))), g)) : ez_W (d + 3) cm_176 176 [(0, .inr (.inr (some (720)))), (1, .inr (.inr (some (r))))] [] h Q := by
  refine ez_go (n := 2) (pc' := 178) (L' := [(0, .inr (.inr (some (720)))), (1, .inr (.inr (some (r))))]) (st' := [.inr (.inr (some (720))), .inr (.inr (some (r)))]) rfl ?_
  refine ez_gI hB t720 rfl rfl tq_52 rfl rfl (fun (b1 : -2147483648 ≤ qz_I h 720 4) (b1' : qz_I h 720 4 ≤ 2147483647) => ?_)
  refine ez_pf hB tr rfl rfl tq_3 rfl rfl rfl rfl (ez_vdI rfl rfl (by omega) (by omega)) (fun hB2 w3 => ?_)
  refine ez_go (n := 1) (pc' := 185) (L' := [(0, .inr (.inr (some (720)))), (1, .inr (.inr (some (r))))]) (st' := [.inr (.inr (some (720)))]) rfl ?_
  refine ez_gC (p := 202) (tg := 48) hB2 t720 rfl rfl tq_52 rfl rfl (fun (t202 : _ = 48) => ?_)
  refine ez_go (n := 1) (pc' := 189) (L' := [(0, .inr (.inr (some (720)))), (1, .inr (.inr (some (r))))]) (st' := [.inr (.inr (some (720))), .inr (.inr (some (202)))]) rfl ?_
  refine ez_gI hB2 t720 rfl rfl tq_52 rfl rfl (fun (b4 : -2147483648 ≤ qz_I (dz_put h r 0 (ez_v (.inl (qz_I h 720 4)))) 720 4) (b4' : qz_I (dz_put h r 0 (ez_v (.inl (qz_I h 720 4)))) 720 4 ≤ 2147483647) => ?_)
  refine ez_go (n := 1) (pc' := 193) (L' := [(0, .inr (.inr (some (720)))), (1, .inr (.inr (some (r))))]) (st' := [.inr (.inr (some (720))), .inl (qz_I (dz_put h r 0 (ez_v (.inl (qz_I h 720 4)))) 720 4), .inr (.inr (some (202)))]) rfl ?_
  refine ez_gI hB2 t720 rfl rfl tq_52 rfl rfl (fun (b5 : -2147483648 ≤ qz_I (dz_put h r 0 (ez_v (.inl (qz_I h 720 4)))) 720 5) (b5' : qz_I (dz_put h r 0 (ez_v (.inl (qz_I h 720 4)))) 720 5 ≤ 2147483647) => ?_)
  refine ez_go (n := 1) (pc' := 197) (L' := [(0, .inr (.inr (some (720)))), (1, .inr (.inr (some (r))))]) (st' := [.inr (.inr (some (r))), .inl (qz_I (dz_put h r 0 (ez_v (.inl (qz_I h 720 4)))) 720 5), .inl (qz_I (dz_put h r 0 (ez_v (.inl (qz_I h 720 4)))) 720 4), .inr (.inr (some (202)))]) rfl ?_
  have hf1 : ez_fr (ez_one r) h (dz_put h r 0 (ez_v (.inl (qz_I h 720 4)))) := (ez_fr.refl (ez_one r) h).put (show Nat.beq r r = true from Nat.beq_refl r) _ _
  have n2 : ∀ q, τ q ≠ 3 → ((dz_put h r 0 (ez_v (.inl (qz_I h 720 4))))).2.2 q = h.2.2 q := fun q hq => hf1.2.2 q (dz_beq_ne (fun e => hq (by rw [e]; exact tr)))
  obtain ⟨hs1, hi1⟩ := sz_same_ok hB t203 t202 (n2 202 (by rw [t202]; decide)) (n2 203 (by rw [t203]; decide)) (fun q hq => n2 q (by rw [hq]; decide)) hs hinj
  have f4 : qz_I (dz_put h r 0 (ez_v (.inl (qz_I h 720 4)))) 720 4 = first := (hf1.I (rz_ne t720 tr rfl) 4).trans e4
  have f5 : qz_I (dz_put h r 0 (ez_v (.inl (qz_I h 720 4)))) 720 5 = last := (hf1.I (rz_ne t720 tr rfl) 5).trans e5
  have g1 : qz_I (dz_put h r 0 (ez_v (.inl (qz_I h 720 4)))) 202 1 = qz_I h 202 1 := hf1.I (rz_ne t202 tr rfl) 1
  refine ez_cv hB2 t202 rfl rfl rfl tq_48 rfl rfl rfl (rd_tellFact hB2 t202 t203 tr hr hs1 hi1 (by omega) (by omega) (by omega) (by omega) (fun g hB9 ht => ez_K0 ?_))
  rw [f4, f5] at ht
  have p720 : sz_PS τ 720 = false := by unfold sz_PS; rw [t720]; rfl
  have v4 : qz_I g 720 4 = first := (ht.2.2.1.I p720 4).trans f4
  have v5 : qz_I g 720 5 = last := (ht.2.2.1.I p720 5).trans f5
  refine ez_go (n := 1) (pc' := 201) (L' := [(0, .inr (.inr (some (720)))), (1, .inr (.inr (some (r))))]) (st' := [.inr (.inr (some (720)))]) rfl ?_
  refine ez_gI hB9 t720 rfl rfl tq_52 rfl rfl (fun (b6 : -2147483648 ≤ qz_I g 720 5) (b6' : qz_I g 720 5 ≤ 2147483647) => ?_)
  refine ez_go (n := 1) (pc' := 205) (L' := [(0, .inr (.inr (some (720)))), (1, .inr (.inr (some (r))))]) (st' := [.inr (.inr (some (720))), .inl (qz_I g 720 5)]) rfl ?_
  refine ez_gI hB9 t720 rfl rfl tq_52 rfl rfl (fun (b7 : -2147483648 ≤ qz_I g 720 4) (b7' : qz_I g 720 4 ≤ 2147483647) => ?_)
  refine ez_go (n := 3) (pc' := 211) (L' := [(0, .inr (.inr (some (720)))), (1, .inr (.inr (some (r))))]) (st' := [.inl (((qz_I g 720 5) - (qz_I g 720 4)) + (1))]) rfl ?_
  rw [v4, v5]
  exact ez_retI rfl rfl (k g _ hB9 hB2 hf1 (by rw [w3, rz_rd ⟨by omega, by omega⟩]; exact e4) (fun j hj => ez_put_I (fun w => hj w.2)) ht)

theorem rd_takeFact_c (hB : ez_B τ h) (t720 : τ 720 = 52) (k0 : qz_I h 720 4 < qz_I h 720 5 → ¬ (∀ k, 3 ≤ k → k ≤ 6 → rz_f h k = rz_t h k) → Q (.inl (some (ez_v (.inl (-1)))), h)) (k1 : (qz_I h 720 4 < qz_I h 720 5 → ∀ k, 3 ≤ k → k ≤ 6 → rz_f h k = rz_t h k) → ez_W (d + 3) cm_176 176 [(0, .inr (.inr (some (720)))), (1, .inr (.inr (some (r))))] [] h Q) : ez_W (d + 3) cm_176 130 [(0, .inr (.inr (some (720)))), (1, .inr (.inr (some (r))))] [] h Q := by
  refine ez_go (n := 1) (pc' := 131) (L' := [(0, .inr (.inr (some (720)))), (1, .inr (.inr (some (r))))]) (st' := [.inr (.inr (some (720)))]) rfl ?_
  refine ez_gI hB t720 rfl rfl tq_52 rfl rfl (fun (b1 : -2147483648 ≤ qz_I h 720 4) (b1' : qz_I h 720 4 ≤ 2147483647) => ?_)
  refine ez_go (n := 1) (pc' := 135) (L' := [(0, .inr (.inr (some (720)))), (1, .inr (.inr (some (r))))]) (st' := [.inr (.inr (some (720))), .inl (qz_I h 720 4)]) rfl ?_
  refine ez_gI hB t720 rfl rfl tq_52 rfl rfl (fun (b2 : -2147483648 ≤ qz_I h 720 5) (b2' : qz_I h 720 5 ≤ 2147483647) => ?_)
  refine ez_icmp rfl rfl ⟨by first | omega | exact (sz_i32 _).1, by first | omega | exact (sz_i32 _).2⟩ ⟨by first | omega | exact (sz_i32 _).1, by first | omega | exact (sz_i32 _).2⟩ (fun (c3 : (qz_I h 720 5) ≤ (qz_I h 720 4)) => ?_) (fun (c3 : ¬((qz_I h 720 5) ≤ (qz_I h 720 4))) => ?_)
  · skip
    refine ez_less [(0, .inr (.inr (some (720)))), (1, .inr (.inr (some (r))))] rfl ⟨rfl, rfl, trivial⟩ ?_
    exact k1 (fun hlt k hk3 hk6 => by first | (exfalso; omega) | (rcases (by omega : k = 3 ∨ k = 4 ∨ k = 5 ∨ k = 6) with w | w | w | w <;> (rw [w]; assumption)))
  · skip
    refine ez_go (n := 2) (pc' := 143) (L' := [(0, .inr (.inr (some (720)))), (1, .inr (.inr (some (r))))]) (st' := [.inl (3), .inr (.inr (some (720)))]) rfl ?_
    refine ez_cv hB t720 rfl rfl rfl tq_52 rfl rfl rfl (rd_isEmptyField hB t720 (by omega) (by omega) (fun (e4 : rz_f h 3 = rz_t h 3) => ez_K1 ?_) (fun (e4 : ¬ rz_f h 3 = rz_t h 3) => ez_K1 ?_))
    · skip
      refine ez_if rfl rfl ⟨by decide, by decide⟩ (fun (c5 : (1 : Int) = (0)) => absurd c5 (by decide)) (fun _ => ?_)
      refine ez_go (n := 2) (pc' := 151) (L' := [(0, .inr (.inr (some (720)))), (1, .inr (.inr (some (r))))]) (st' := [.inl (4), .inr (.inr (some (720)))]) rfl ?_
      refine ez_cv hB t720 rfl rfl rfl tq_52 rfl rfl rfl (rd_isEmptyField hB t720 (by omega) (by omega) (fun (e6 : rz_f h 4 = rz_t h 4) => ez_K1 ?_) (fun (e6 : ¬ rz_f h 4 = rz_t h 4) => ez_K1 ?_))
      · skip
        refine ez_if rfl rfl ⟨by decide, by decide⟩ (fun (c7 : (1 : Int) = (0)) => absurd c7 (by decide)) (fun _ => ?_)
        refine ez_go (n := 2) (pc' := 159) (L' := [(0, .inr (.inr (some (720)))), (1, .inr (.inr (some (r))))]) (st' := [.inl (5), .inr (.inr (some (720)))]) rfl ?_
        refine ez_cv hB t720 rfl rfl rfl tq_52 rfl rfl rfl (rd_isEmptyField hB t720 (by omega) (by omega) (fun (e8 : rz_f h 5 = rz_t h 5) => ez_K1 ?_) (fun (e8 : ¬ rz_f h 5 = rz_t h 5) => ez_K1 ?_))
        · skip
          refine ez_if rfl rfl ⟨by decide, by decide⟩ (fun (c9 : (1 : Int) = (0)) => absurd c9 (by decide)) (fun _ => ?_)
          refine ez_go (n := 2) (pc' := 168) (L' := [(0, .inr (.inr (some (720)))), (1, .inr (.inr (some (r))))]) (st' := [.inl (6), .inr (.inr (some (720)))]) rfl ?_
          refine ez_cv hB t720 rfl rfl rfl tq_52 rfl rfl rfl (rd_isEmptyField hB t720 (by omega) (by omega) (fun (e10 : rz_f h 6 = rz_t h 6) => ez_K1 ?_) (fun (e10 : ¬ rz_f h 6 = rz_t h 6) => ez_K1 ?_))
          · skip
            refine ez_if rfl rfl ⟨by decide, by decide⟩ (fun _ => ?_) (fun (c11 : ¬((1 : Int) ≠ (0))) => absurd c11 (by decide))
            refine ez_less [(0, .inr (.inr (some (720)))), (1, .inr (.inr (some (r))))] rfl ⟨rfl, rfl, trivial⟩ ?_
            exact k1 (fun hlt k hk3 hk6 => by first | (exfalso; omega) | (rcases (by omega : k = 3 ∨ k = 4 ∨ k = 5 ∨ k = 6) with w | w | w | w <;> (rw [w]; assumption)))
          · skip
            refine ez_if rfl rfl ⟨by decide, by decide⟩ (fun (c12 : (0 : Int) ≠ (0)) => absurd c12 (by decide)) (fun _ => ?_)
            refine ez_go (n := 1) (pc' := 175) (L' := [(0, .inr (.inr (some (720)))), (1, .inr (.inr (some (r))))]) (st' := [.inl (-1)]) rfl ?_
            exact ez_retI rfl rfl (k0 (by omega) (fun w => by have w3 := w 3 (by omega) (by omega); have w4 := w 4 (by omega) (by omega); have w5 := w 5 (by omega) (by omega); have w6 := w 6 (by omega) (by omega); first | exact absurd w3 (by assumption) | exact absurd w4 (by assumption) | exact absurd w5 (by assumption) | exact absurd w6 (by assumption)))
        · skip
          refine ez_if rfl rfl ⟨by decide, by decide⟩ (fun _ => ?_) (fun (c13 : ¬((0 : Int) = (0))) => absurd c13 (by decide))
          refine ez_go (n := 1) (pc' := 175) (L' := [(0, .inr (.inr (some (720)))), (1, .inr (.inr (some (r))))]) (st' := [.inl (-1)]) rfl ?_
          exact ez_retI rfl rfl (k0 (by omega) (fun w => by have w3 := w 3 (by omega) (by omega); have w4 := w 4 (by omega) (by omega); have w5 := w 5 (by omega) (by omega); have w6 := w 6 (by omega) (by omega); first | exact absurd w3 (by assumption) | exact absurd w4 (by assumption) | exact absurd w5 (by assumption) | exact absurd w6 (by assumption)))
      · skip
        refine ez_if rfl rfl ⟨by decide, by decide⟩ (fun _ => ?_) (fun (c14 : ¬((0 : Int) = (0))) => absurd c14 (by decide))
        refine ez_go (n := 1) (pc' := 175) (L' := [(0, .inr (.inr (some (720)))), (1, .inr (.inr (some (r))))]) (st' := [.inl (-1)]) rfl ?_
        exact ez_retI rfl rfl (k0 (by omega) (fun w => by have w3 := w 3 (by omega) (by omega); have w4 := w 4 (by omega) (by omega); have w5 := w 5 (by omega) (by omega); have w6 := w 6 (by omega) (by omega); first | exact absurd w3 (by assumption) | exact absurd w4 (by assumption) | exact absurd w5 (by assumption) | exact absurd w6 (by assumption)))
    · skip
      refine ez_if rfl rfl ⟨by decide, by decide⟩ (fun _ => ?_) (fun (c15 : ¬((0 : Int) = (0))) => absurd c15 (by decide))
      refine ez_go (n := 1) (pc' := 175) (L' := [(0, .inr (.inr (some (720)))), (1, .inr (.inr (some (r))))]) (st' := [.inl (-1)]) rfl ?_
      exact ez_retI rfl rfl (k0 (by omega) (fun w => by have w3 := w 3 (by omega) (by omega); have w4 := w 4 (by omega) (by omega); have w5 := w 5 (by omega) (by omega); have w6 := w 6 (by omega) (by omega); first | exact absurd w3 (by assumption) | exact absurd w4 (by assumption) | exact absurd w5 (by assumption) | exact absurd w6 (by assumption)))

theorem rd_takeFact_b2 (hB : ez_B τ h) (t193 : τ 193 = 45) (t720 : τ 720 = 52) (t721 : τ 721 = 53) (t722 : τ 722 = 54) (tr : τ r = 3) (hft : ∀ k, 0 ≤ k → k ≤ 6 → rz_f h k ≤ rz_t h k) (k : ∀ g, ez_B τ g → ez_fr (ez_one r) h g → (∀ j, j ≠ 5 → j ≠ 6 → j ≠ 7 → qz_I g r j = qz_I h r j) → qz_I g r 5 = rz_code (rz_b h) (rz_f h 4) (rz_t h 4) → qz_I g r 6 = rz_code (rz_b h) (rz_f h 5) (rz_t h 5) → qz_I g r 7 = rz_code (rz_b h) (rz_f h 6) (rz_t h 6) → ez_W (d + 3) cm_176 130 [(0, .inr (.inr (some (720)))), (1, .inr (.inr (some (r))))] [] g Q) : ez_W (d + 3) cm_176 68 [(0, .inr (.inr (some (720)))), (1, .inr (.inr (some (r))))] [] h Q := by
  refine ez_go (n := 3) (pc' := 71) (L' := [(0, .inr (.inr (some (720)))), (1, .inr (.inr (some (r))))]) (st' := [.inr (.inr (some (720))), .inr (.inr (some (720))), .inr (.inr (some (r)))]) rfl ?_
  refine ez_gC (p := 721) (tg := 53) hB t720 rfl rfl tq_52 rfl rfl (fun (t721 : _ = 53) => ?_)
  refine ez_go (n := 1) (pc' := 75) (L' := [(0, .inr (.inr (some (720)))), (1, .inr (.inr (some (r))))]) (st' := [.inl (4), .inr (.inr (some (721))), .inr (.inr (some (720))), .inr (.inr (some (r)))]) rfl ?_
  have n2 : 7 ≤ qz_N h 721 ∧ qz_N h 721 ≤ 7 := ez_len hB t721 tq_53 rfl
  refine ez_aI hB t721 rfl tq_53 rfl rfl (by omega) (by omega) (fun (b1 : 0 ≤ qz_I h 721 (4 : Int).toNat) (b1' : qz_I h 721 (4 : Int).toNat ≤ 4096) => ?_)
  refine ez_go (n := 1) (pc' := 77) (L' := [(0, .inr (.inr (some (720)))), (1, .inr (.inr (some (r))))]) (st' := [.inr (.inr (some (720))), .inl (qz_I h 721 (4 : Int).toNat), .inr (.inr (some (720))), .inr (.inr (some (r)))]) rfl ?_
  refine ez_gC (p := 722) (tg := 54) hB t720 rfl rfl tq_52 rfl rfl (fun (t722 : _ = 54) => ?_)
  refine ez_go (n := 1) (pc' := 81) (L' := [(0, .inr (.inr (some (720)))), (1, .inr (.inr (some (r))))]) (st' := [.inl (4), .inr (.inr (some (722))), .inl (qz_I h 721 (4 : Int).toNat), .inr (.inr (some (720))), .inr (.inr (some (r)))]) rfl ?_
  have n4 : 7 ≤ qz_N h 722 ∧ qz_N h 722 ≤ 7 := ez_len hB t722 tq_54 rfl
  refine ez_aI hB t722 rfl tq_54 rfl rfl (by omega) (by omega) (fun (b3 : 0 ≤ qz_I h 722 (4 : Int).toNat) (b3' : qz_I h 722 (4 : Int).toNat ≤ 4096) => ?_)
  have xf4 : qz_I h 721 (4 : Int).toNat = rz_f h 4 := rfl
  have xt4 : qz_I h 722 (4 : Int).toNat = rz_t h 4 := rfl
  have xl4 := hft 4 (by omega) (by omega)
  have xb4 := rz_code_bd (rz_b h) (qz_I h 721 (4 : Int).toNat) (qz_I h 722 (4 : Int).toNat)
  refine ez_cv hB t720 rfl rfl rfl tq_52 rfl rfl rfl (rd_readCode hB t720 (by omega) (by omega) (by omega) (ez_K1 ?_))
  refine ez_pf hB tr rfl rfl tq_3 rfl rfl rfl rfl (ez_vdI rfl rfl (by omega) (by omega)) (fun hB5 w6 => ?_)
  refine ez_go (n := 3) (pc' := 91) (L' := [(0, .inr (.inr (some (720)))), (1, .inr (.inr (some (r))))]) (st' := [.inr (.inr (some (720))), .inr (.inr (some (720))), .inr (.inr (some (r)))]) rfl ?_
  refine ez_gC (p := 721) (tg := 53) hB5 t720 rfl rfl tq_52 rfl rfl (fun (t721 : _ = 53) => ?_)
  refine ez_go (n := 1) (pc' := 95) (L' := [(0, .inr (.inr (some (720)))), (1, .inr (.inr (some (r))))]) (st' := [.inl (5), .inr (.inr (some (721))), .inr (.inr (some (720))), .inr (.inr (some (r)))]) rfl ?_
  have n8 : 7 ≤ qz_N (dz_put h r 5 (ez_v (.inl (rz_code (rz_b h) (qz_I h 721 (4 : Int).toNat) (qz_I h 722 (4 : Int).toNat))))) 721 ∧ qz_N (dz_put h r 5 (ez_v (.inl (rz_code (rz_b h) (qz_I h 721 (4 : Int).toNat) (qz_I h 722 (4 : Int).toNat))))) 721 ≤ 7 := ez_len hB5 t721 tq_53 rfl
  refine ez_aI hB5 t721 rfl tq_53 rfl rfl (by omega) (by omega) (fun (b7 : 0 ≤ qz_I (dz_put h r 5 (ez_v (.inl (rz_code (rz_b h) (qz_I h 721 (4 : Int).toNat) (qz_I h 722 (4 : Int).toNat))))) 721 (5 : Int).toNat) (b7' : qz_I (dz_put h r 5 (ez_v (.inl (rz_code (rz_b h) (qz_I h 721 (4 : Int).toNat) (qz_I h 722 (4 : Int).toNat))))) 721 (5 : Int).toNat ≤ 4096) => ?_)
  refine ez_go (n := 1) (pc' := 97) (L' := [(0, .inr (.inr (some (720)))), (1, .inr (.inr (some (r))))]) (st' := [.inr (.inr (some (720))), .inl (qz_I (dz_put h r 5 (ez_v (.inl (rz_code (rz_b h) (qz_I h 721 (4 : Int).toNat) (qz_I h 722 (4 : Int).toNat))))) 721 (5 : Int).toNat), .inr (.inr (some (720))), .inr (.inr (some (r)))]) rfl ?_
  refine ez_gC (p := 722) (tg := 54) hB5 t720 rfl rfl tq_52 rfl rfl (fun (t722 : _ = 54) => ?_)
  refine ez_go (n := 1) (pc' := 101) (L' := [(0, .inr (.inr (some (720)))), (1, .inr (.inr (some (r))))]) (st' := [.inl (5), .inr (.inr (some (722))), .inl (qz_I (dz_put h r 5 (ez_v (.inl (rz_code (rz_b h) (qz_I h 721 (4 : Int).toNat) (qz_I h 722 (4 : Int).toNat))))) 721 (5 : Int).toNat), .inr (.inr (some (720))), .inr (.inr (some (r)))]) rfl ?_
  have n10 : 7 ≤ qz_N (dz_put h r 5 (ez_v (.inl (rz_code (rz_b h) (qz_I h 721 (4 : Int).toNat) (qz_I h 722 (4 : Int).toNat))))) 722 ∧ qz_N (dz_put h r 5 (ez_v (.inl (rz_code (rz_b h) (qz_I h 721 (4 : Int).toNat) (qz_I h 722 (4 : Int).toNat))))) 722 ≤ 7 := ez_len hB5 t722 tq_54 rfl
  refine ez_aI hB5 t722 rfl tq_54 rfl rfl (by omega) (by omega) (fun (b9 : 0 ≤ qz_I (dz_put h r 5 (ez_v (.inl (rz_code (rz_b h) (qz_I h 721 (4 : Int).toNat) (qz_I h 722 (4 : Int).toNat))))) 722 (5 : Int).toNat) (b9' : qz_I (dz_put h r 5 (ez_v (.inl (rz_code (rz_b h) (qz_I h 721 (4 : Int).toNat) (qz_I h 722 (4 : Int).toNat))))) 722 (5 : Int).toNat ≤ 4096) => ?_)
  have fr5 : ez_fr (ez_one r) h (dz_put h r 5 (ez_v (.inl (rz_code (rz_b h) (qz_I h 721 (4 : Int).toNat) (qz_I h 722 (4 : Int).toNat))))) := (ez_fr.refl (ez_one r) h).put (show Nat.beq r r = true from Nat.beq_refl r) _ _
  have xf5 : qz_I (dz_put h r 5 (ez_v (.inl (rz_code (rz_b h) (qz_I h 721 (4 : Int).toNat) (qz_I h 722 (4 : Int).toNat))))) 721 (5 : Int).toNat = rz_f h 5 := fr5.I (rz_ne t721 tr rfl) _
  have xt5 : qz_I (dz_put h r 5 (ez_v (.inl (rz_code (rz_b h) (qz_I h 721 (4 : Int).toNat) (qz_I h 722 (4 : Int).toNat))))) 722 (5 : Int).toNat = rz_t h 5 := fr5.I (rz_ne t722 tr rfl) _
  have xl5 := hft 5 (by omega) (by omega)
  have xb5 := rz_code_bd (rz_b (dz_put h r 5 (ez_v (.inl (rz_code (rz_b h) (qz_I h 721 (4 : Int).toNat) (qz_I h 722 (4 : Int).toNat)))))) (qz_I (dz_put h r 5 (ez_v (.inl (rz_code (rz_b h) (qz_I h 721 (4 : Int).toNat) (qz_I h 722 (4 : Int).toNat))))) 721 (5 : Int).toNat) (qz_I (dz_put h r 5 (ez_v (.inl (rz_code (rz_b h) (qz_I h 721 (4 : Int).toNat) (qz_I h 722 (4 : Int).toNat))))) 722 (5 : Int).toNat)
  refine ez_cv hB5 t720 rfl rfl rfl tq_52 rfl rfl rfl (rd_readCode hB5 t720 (by omega) (by omega) (by omega) (ez_K1 ?_))
  refine ez_pf hB5 tr rfl rfl tq_3 rfl rfl rfl rfl (ez_vdI rfl rfl (by omega) (by omega)) (fun hB11 w12 => ?_)
  refine ez_go (n := 3) (pc' := 111) (L' := [(0, .inr (.inr (some (720)))), (1, .inr (.inr (some (r))))]) (st' := [.inr (.inr (some (720))), .inr (.inr (some (720))), .inr (.inr (some (r)))]) rfl ?_
  refine ez_gC (p := 721) (tg := 53) hB11 t720 rfl rfl tq_52 rfl rfl (fun (t721 : _ = 53) => ?_)
  refine ez_go (n := 1) (pc' := 116) (L' := [(0, .inr (.inr (some (720)))), (1, .inr (.inr (some (r))))]) (st' := [.inl (6), .inr (.inr (some (721))), .inr (.inr (some (720))), .inr (.inr (some (r)))]) rfl ?_
  have n14 : 7 ≤ qz_N (dz_put (dz_put h r 5 (ez_v (.inl (rz_code (rz_b h) (qz_I h 721 (4 : Int).toNat) (qz_I h 722 (4 : Int).toNat))))) r 6 (ez_v (.inl (rz_code (rz_b (dz_put h r 5 (ez_v (.inl (rz_code (rz_b h) (qz_I h 721 (4 : Int).toNat) (qz_I h 722 (4 : Int).toNat)))))) (qz_I (dz_put h r 5 (ez_v (.inl (rz_code (rz_b h) (qz_I h 721 (4 : Int).toNat) (qz_I h 722 (4 : Int).toNat))))) 721 (5 : Int).toNat) (qz_I (dz_put h r 5 (ez_v (.inl (rz_code (rz_b h) (qz_I h 721 (4 : Int).toNat) (qz_I h 722 (4 : Int).toNat))))) 722 (5 : Int).toNat))))) 721 ∧ qz_N (dz_put (dz_put h r 5 (ez_v (.inl (rz_code (rz_b h) (qz_I h 721 (4 : Int).toNat) (qz_I h 722 (4 : Int).toNat))))) r 6 (ez_v (.inl (rz_code (rz_b (dz_put h r 5 (ez_v (.inl (rz_code (rz_b h) (qz_I h 721 (4 : Int).toNat) (qz_I h 722 (4 : Int).toNat)))))) (qz_I (dz_put h r 5 (ez_v (.inl (rz_code (rz_b h) (qz_I h 721 (4 : Int).toNat) (qz_I h 722 (4 : Int).toNat))))) 721 (5 : Int).toNat) (qz_I (dz_put h r 5 (ez_v (.inl (rz_code (rz_b h) (qz_I h 721 (4 : Int).toNat) (qz_I h 722 (4 : Int).toNat))))) 722 (5 : Int).toNat))))) 721 ≤ 7 := ez_len hB11 t721 tq_53 rfl
  refine ez_aI hB11 t721 rfl tq_53 rfl rfl (by omega) (by omega) (fun (b13 : 0 ≤ qz_I (dz_put (dz_put h r 5 (ez_v (.inl (rz_code (rz_b h) (qz_I h 721 (4 : Int).toNat) (qz_I h 722 (4 : Int).toNat))))) r 6 (ez_v (.inl (rz_code (rz_b (dz_put h r 5 (ez_v (.inl (rz_code (rz_b h) (qz_I h 721 (4 : Int).toNat) (qz_I h 722 (4 : Int).toNat)))))) (qz_I (dz_put h r 5 (ez_v (.inl (rz_code (rz_b h) (qz_I h 721 (4 : Int).toNat) (qz_I h 722 (4 : Int).toNat))))) 721 (5 : Int).toNat) (qz_I (dz_put h r 5 (ez_v (.inl (rz_code (rz_b h) (qz_I h 721 (4 : Int).toNat) (qz_I h 722 (4 : Int).toNat))))) 722 (5 : Int).toNat))))) 721 (6 : Int).toNat) (b13' : qz_I (dz_put (dz_put h r 5 (ez_v (.inl (rz_code (rz_b h) (qz_I h 721 (4 : Int).toNat) (qz_I h 722 (4 : Int).toNat))))) r 6 (ez_v (.inl (rz_code (rz_b (dz_put h r 5 (ez_v (.inl (rz_code (rz_b h) (qz_I h 721 (4 : Int).toNat) (qz_I h 722 (4 : Int).toNat)))))) (qz_I (dz_put h r 5 (ez_v (.inl (rz_code (rz_b h) (qz_I h 721 (4 : Int).toNat) (qz_I h 722 (4 : Int).toNat))))) 721 (5 : Int).toNat) (qz_I (dz_put h r 5 (ez_v (.inl (rz_code (rz_b h) (qz_I h 721 (4 : Int).toNat) (qz_I h 722 (4 : Int).toNat))))) 722 (5 : Int).toNat))))) 721 (6 : Int).toNat ≤ 4096) => ?_)
  refine ez_go (n := 1) (pc' := 118) (L' := [(0, .inr (.inr (some (720)))), (1, .inr (.inr (some (r))))]) (st' := [.inr (.inr (some (720))), .inl (qz_I (dz_put (dz_put h r 5 (ez_v (.inl (rz_code (rz_b h) (qz_I h 721 (4 : Int).toNat) (qz_I h 722 (4 : Int).toNat))))) r 6 (ez_v (.inl (rz_code (rz_b (dz_put h r 5 (ez_v (.inl (rz_code (rz_b h) (qz_I h 721 (4 : Int).toNat) (qz_I h 722 (4 : Int).toNat)))))) (qz_I (dz_put h r 5 (ez_v (.inl (rz_code (rz_b h) (qz_I h 721 (4 : Int).toNat) (qz_I h 722 (4 : Int).toNat))))) 721 (5 : Int).toNat) (qz_I (dz_put h r 5 (ez_v (.inl (rz_code (rz_b h) (qz_I h 721 (4 : Int).toNat) (qz_I h 722 (4 : Int).toNat))))) 722 (5 : Int).toNat))))) 721 (6 : Int).toNat), .inr (.inr (some (720))), .inr (.inr (some (r)))]) rfl ?_
  refine ez_gC (p := 722) (tg := 54) hB11 t720 rfl rfl tq_52 rfl rfl (fun (t722 : _ = 54) => ?_)
  refine ez_go (n := 1) (pc' := 123) (L' := [(0, .inr (.inr (some (720)))), (1, .inr (.inr (some (r))))]) (st' := [.inl (6), .inr (.inr (some (722))), .inl (qz_I (dz_put (dz_put h r 5 (ez_v (.inl (rz_code (rz_b h) (qz_I h 721 (4 : Int).toNat) (qz_I h 722 (4 : Int).toNat))))) r 6 (ez_v (.inl (rz_code (rz_b (dz_put h r 5 (ez_v (.inl (rz_code (rz_b h) (qz_I h 721 (4 : Int).toNat) (qz_I h 722 (4 : Int).toNat)))))) (qz_I (dz_put h r 5 (ez_v (.inl (rz_code (rz_b h) (qz_I h 721 (4 : Int).toNat) (qz_I h 722 (4 : Int).toNat))))) 721 (5 : Int).toNat) (qz_I (dz_put h r 5 (ez_v (.inl (rz_code (rz_b h) (qz_I h 721 (4 : Int).toNat) (qz_I h 722 (4 : Int).toNat))))) 722 (5 : Int).toNat))))) 721 (6 : Int).toNat), .inr (.inr (some (720))), .inr (.inr (some (r)))]) rfl ?_
  have n16 : 7 ≤ qz_N (dz_put (dz_put h r 5 (ez_v (.inl (rz_code (rz_b h) (qz_I h 721 (4 : Int).toNat) (qz_I h 722 (4 : Int).toNat))))) r 6 (ez_v (.inl (rz_code (rz_b (dz_put h r 5 (ez_v (.inl (rz_code (rz_b h) (qz_I h 721 (4 : Int).toNat) (qz_I h 722 (4 : Int).toNat)))))) (qz_I (dz_put h r 5 (ez_v (.inl (rz_code (rz_b h) (qz_I h 721 (4 : Int).toNat) (qz_I h 722 (4 : Int).toNat))))) 721 (5 : Int).toNat) (qz_I (dz_put h r 5 (ez_v (.inl (rz_code (rz_b h) (qz_I h 721 (4 : Int).toNat) (qz_I h 722 (4 : Int).toNat))))) 722 (5 : Int).toNat))))) 722 ∧ qz_N (dz_put (dz_put h r 5 (ez_v (.inl (rz_code (rz_b h) (qz_I h 721 (4 : Int).toNat) (qz_I h 722 (4 : Int).toNat))))) r 6 (ez_v (.inl (rz_code (rz_b (dz_put h r 5 (ez_v (.inl (rz_code (rz_b h) (qz_I h 721 (4 : Int).toNat) (qz_I h 722 (4 : Int).toNat)))))) (qz_I (dz_put h r 5 (ez_v (.inl (rz_code (rz_b h) (qz_I h 721 (4 : Int).toNat) (qz_I h 722 (4 : Int).toNat))))) 721 (5 : Int).toNat) (qz_I (dz_put h r 5 (ez_v (.inl (rz_code (rz_b h) (qz_I h 721 (4 : Int).toNat) (qz_I h 722 (4 : Int).toNat))))) 722 (5 : Int).toNat))))) 722 ≤ 7 := ez_len hB11 t722 tq_54 rfl
  refine ez_aI hB11 t722 rfl tq_54 rfl rfl (by omega) (by omega) (fun (b15 : 0 ≤ qz_I (dz_put (dz_put h r 5 (ez_v (.inl (rz_code (rz_b h) (qz_I h 721 (4 : Int).toNat) (qz_I h 722 (4 : Int).toNat))))) r 6 (ez_v (.inl (rz_code (rz_b (dz_put h r 5 (ez_v (.inl (rz_code (rz_b h) (qz_I h 721 (4 : Int).toNat) (qz_I h 722 (4 : Int).toNat)))))) (qz_I (dz_put h r 5 (ez_v (.inl (rz_code (rz_b h) (qz_I h 721 (4 : Int).toNat) (qz_I h 722 (4 : Int).toNat))))) 721 (5 : Int).toNat) (qz_I (dz_put h r 5 (ez_v (.inl (rz_code (rz_b h) (qz_I h 721 (4 : Int).toNat) (qz_I h 722 (4 : Int).toNat))))) 722 (5 : Int).toNat))))) 722 (6 : Int).toNat) (b15' : qz_I (dz_put (dz_put h r 5 (ez_v (.inl (rz_code (rz_b h) (qz_I h 721 (4 : Int).toNat) (qz_I h 722 (4 : Int).toNat))))) r 6 (ez_v (.inl (rz_code (rz_b (dz_put h r 5 (ez_v (.inl (rz_code (rz_b h) (qz_I h 721 (4 : Int).toNat) (qz_I h 722 (4 : Int).toNat)))))) (qz_I (dz_put h r 5 (ez_v (.inl (rz_code (rz_b h) (qz_I h 721 (4 : Int).toNat) (qz_I h 722 (4 : Int).toNat))))) 721 (5 : Int).toNat) (qz_I (dz_put h r 5 (ez_v (.inl (rz_code (rz_b h) (qz_I h 721 (4 : Int).toNat) (qz_I h 722 (4 : Int).toNat))))) 722 (5 : Int).toNat))))) 722 (6 : Int).toNat ≤ 4096) => ?_)
  have fr6 : ez_fr (ez_one r) h (dz_put (dz_put h r 5 (ez_v (.inl (rz_code (rz_b h) (qz_I h 721 (4 : Int).toNat) (qz_I h 722 (4 : Int).toNat))))) r 6 (ez_v (.inl (rz_code (rz_b (dz_put h r 5 (ez_v (.inl (rz_code (rz_b h) (qz_I h 721 (4 : Int).toNat) (qz_I h 722 (4 : Int).toNat)))))) (qz_I (dz_put h r 5 (ez_v (.inl (rz_code (rz_b h) (qz_I h 721 (4 : Int).toNat) (qz_I h 722 (4 : Int).toNat))))) 721 (5 : Int).toNat) (qz_I (dz_put h r 5 (ez_v (.inl (rz_code (rz_b h) (qz_I h 721 (4 : Int).toNat) (qz_I h 722 (4 : Int).toNat))))) 722 (5 : Int).toNat))))) := ((ez_fr.refl (ez_one r) h).put (show Nat.beq r r = true from Nat.beq_refl r) _ _).put (show Nat.beq r r = true from Nat.beq_refl r) _ _
  have xf6 : qz_I (dz_put (dz_put h r 5 (ez_v (.inl (rz_code (rz_b h) (qz_I h 721 (4 : Int).toNat) (qz_I h 722 (4 : Int).toNat))))) r 6 (ez_v (.inl (rz_code (rz_b (dz_put h r 5 (ez_v (.inl (rz_code (rz_b h) (qz_I h 721 (4 : Int).toNat) (qz_I h 722 (4 : Int).toNat)))))) (qz_I (dz_put h r 5 (ez_v (.inl (rz_code (rz_b h) (qz_I h 721 (4 : Int).toNat) (qz_I h 722 (4 : Int).toNat))))) 721 (5 : Int).toNat) (qz_I (dz_put h r 5 (ez_v (.inl (rz_code (rz_b h) (qz_I h 721 (4 : Int).toNat) (qz_I h 722 (4 : Int).toNat))))) 722 (5 : Int).toNat))))) 721 (6 : Int).toNat = rz_f h 6 := fr6.I (rz_ne t721 tr rfl) _
  have xt6 : qz_I (dz_put (dz_put h r 5 (ez_v (.inl (rz_code (rz_b h) (qz_I h 721 (4 : Int).toNat) (qz_I h 722 (4 : Int).toNat))))) r 6 (ez_v (.inl (rz_code (rz_b (dz_put h r 5 (ez_v (.inl (rz_code (rz_b h) (qz_I h 721 (4 : Int).toNat) (qz_I h 722 (4 : Int).toNat)))))) (qz_I (dz_put h r 5 (ez_v (.inl (rz_code (rz_b h) (qz_I h 721 (4 : Int).toNat) (qz_I h 722 (4 : Int).toNat))))) 721 (5 : Int).toNat) (qz_I (dz_put h r 5 (ez_v (.inl (rz_code (rz_b h) (qz_I h 721 (4 : Int).toNat) (qz_I h 722 (4 : Int).toNat))))) 722 (5 : Int).toNat))))) 722 (6 : Int).toNat = rz_t h 6 := fr6.I (rz_ne t722 tr rfl) _
  have xl6 := hft 6 (by omega) (by omega)
  have xb6 := rz_code_bd (rz_b (dz_put (dz_put h r 5 (ez_v (.inl (rz_code (rz_b h) (qz_I h 721 (4 : Int).toNat) (qz_I h 722 (4 : Int).toNat))))) r 6 (ez_v (.inl (rz_code (rz_b (dz_put h r 5 (ez_v (.inl (rz_code (rz_b h) (qz_I h 721 (4 : Int).toNat) (qz_I h 722 (4 : Int).toNat)))))) (qz_I (dz_put h r 5 (ez_v (.inl (rz_code (rz_b h) (qz_I h 721 (4 : Int).toNat) (qz_I h 722 (4 : Int).toNat))))) 721 (5 : Int).toNat) (qz_I (dz_put h r 5 (ez_v (.inl (rz_code (rz_b h) (qz_I h 721 (4 : Int).toNat) (qz_I h 722 (4 : Int).toNat))))) 722 (5 : Int).toNat)))))) (qz_I (dz_put (dz_put h r 5 (ez_v (.inl (rz_code (rz_b h) (qz_I h 721 (4 : Int).toNat) (qz_I h 722 (4 : Int).toNat))))) r 6 (ez_v (.inl (rz_code (rz_b (dz_put h r 5 (ez_v (.inl (rz_code (rz_b h) (qz_I h 721 (4 : Int).toNat) (qz_I h 722 (4 : Int).toNat)))))) (qz_I (dz_put h r 5 (ez_v (.inl (rz_code (rz_b h) (qz_I h 721 (4 : Int).toNat) (qz_I h 722 (4 : Int).toNat))))) 721 (5 : Int).toNat) (qz_I (dz_put h r 5 (ez_v (.inl (rz_code (rz_b h) (qz_I h 721 (4 : Int).toNat) (qz_I h 722 (4 : Int).toNat))))) 722 (5 : Int).toNat))))) 721 (6 : Int).toNat) (qz_I (dz_put (dz_put h r 5 (ez_v (.inl (rz_code (rz_b h) (qz_I h 721 (4 : Int).toNat) (qz_I h 722 (4 : Int).toNat))))) r 6 (ez_v (.inl (rz_code (rz_b (dz_put h r 5 (ez_v (.inl (rz_code (rz_b h) (qz_I h 721 (4 : Int).toNat) (qz_I h 722 (4 : Int).toNat)))))) (qz_I (dz_put h r 5 (ez_v (.inl (rz_code (rz_b h) (qz_I h 721 (4 : Int).toNat) (qz_I h 722 (4 : Int).toNat))))) 721 (5 : Int).toNat) (qz_I (dz_put h r 5 (ez_v (.inl (rz_code (rz_b h) (qz_I h 721 (4 : Int).toNat) (qz_I h 722 (4 : Int).toNat))))) 722 (5 : Int).toNat))))) 722 (6 : Int).toNat)
  refine ez_cv hB11 t720 rfl rfl rfl tq_52 rfl rfl rfl (rd_readCode hB11 t720 (by omega) (by omega) (by omega) (ez_K1 ?_))
  refine ez_pf hB11 tr rfl rfl tq_3 rfl rfl rfl rfl (ez_vdI rfl rfl (by omega) (by omega)) (fun hB17 w18 => ?_)
  refine ez_less [(0, .inr (.inr (some (720)))), (1, .inr (.inr (some (r))))] rfl ⟨rfl, rfl, trivial⟩ ?_
  have e5 : qz_I (dz_put (dz_put (dz_put h r 5 (ez_v (.inl (rz_code (rz_b h) (qz_I h 721 (4 : Int).toNat) (qz_I h 722 (4 : Int).toNat))))) r 6 (ez_v (.inl (rz_code (rz_b (dz_put h r 5 (ez_v (.inl (rz_code (rz_b h) (qz_I h 721 (4 : Int).toNat) (qz_I h 722 (4 : Int).toNat)))))) (qz_I (dz_put h r 5 (ez_v (.inl (rz_code (rz_b h) (qz_I h 721 (4 : Int).toNat) (qz_I h 722 (4 : Int).toNat))))) 721 (5 : Int).toNat) (qz_I (dz_put h r 5 (ez_v (.inl (rz_code (rz_b h) (qz_I h 721 (4 : Int).toNat) (qz_I h 722 (4 : Int).toNat))))) 722 (5 : Int).toNat))))) r 7 (ez_v (.inl (rz_code (rz_b (dz_put (dz_put h r 5 (ez_v (.inl (rz_code (rz_b h) (qz_I h 721 (4 : Int).toNat) (qz_I h 722 (4 : Int).toNat))))) r 6 (ez_v (.inl (rz_code (rz_b (dz_put h r 5 (ez_v (.inl (rz_code (rz_b h) (qz_I h 721 (4 : Int).toNat) (qz_I h 722 (4 : Int).toNat)))))) (qz_I (dz_put h r 5 (ez_v (.inl (rz_code (rz_b h) (qz_I h 721 (4 : Int).toNat) (qz_I h 722 (4 : Int).toNat))))) 721 (5 : Int).toNat) (qz_I (dz_put h r 5 (ez_v (.inl (rz_code (rz_b h) (qz_I h 721 (4 : Int).toNat) (qz_I h 722 (4 : Int).toNat))))) 722 (5 : Int).toNat)))))) (qz_I (dz_put (dz_put h r 5 (ez_v (.inl (rz_code (rz_b h) (qz_I h 721 (4 : Int).toNat) (qz_I h 722 (4 : Int).toNat))))) r 6 (ez_v (.inl (rz_code (rz_b (dz_put h r 5 (ez_v (.inl (rz_code (rz_b h) (qz_I h 721 (4 : Int).toNat) (qz_I h 722 (4 : Int).toNat)))))) (qz_I (dz_put h r 5 (ez_v (.inl (rz_code (rz_b h) (qz_I h 721 (4 : Int).toNat) (qz_I h 722 (4 : Int).toNat))))) 721 (5 : Int).toNat) (qz_I (dz_put h r 5 (ez_v (.inl (rz_code (rz_b h) (qz_I h 721 (4 : Int).toNat) (qz_I h 722 (4 : Int).toNat))))) 722 (5 : Int).toNat))))) 721 (6 : Int).toNat) (qz_I (dz_put (dz_put h r 5 (ez_v (.inl (rz_code (rz_b h) (qz_I h 721 (4 : Int).toNat) (qz_I h 722 (4 : Int).toNat))))) r 6 (ez_v (.inl (rz_code (rz_b (dz_put h r 5 (ez_v (.inl (rz_code (rz_b h) (qz_I h 721 (4 : Int).toNat) (qz_I h 722 (4 : Int).toNat)))))) (qz_I (dz_put h r 5 (ez_v (.inl (rz_code (rz_b h) (qz_I h 721 (4 : Int).toNat) (qz_I h 722 (4 : Int).toNat))))) 721 (5 : Int).toNat) (qz_I (dz_put h r 5 (ez_v (.inl (rz_code (rz_b h) (qz_I h 721 (4 : Int).toNat) (qz_I h 722 (4 : Int).toNat))))) 722 (5 : Int).toNat))))) 722 (6 : Int).toNat))))) r 5 = rz_code (rz_b h) (rz_f h 4) (rz_t h 4) := by rw [ez_put_I (by omega), ez_put_I (by omega), w6, rz_rd ⟨by omega, by omega⟩]; rfl
  have b5 : rz_b (dz_put h r 5 (ez_v (.inl (rz_code (rz_b h) (qz_I h 721 (4 : Int).toNat) (qz_I h 722 (4 : Int).toNat))))) = rz_b h := rz_b_fr fr5 (rz_ne t193 tr rfl)
  have b6 : rz_b (dz_put (dz_put h r 5 (ez_v (.inl (rz_code (rz_b h) (qz_I h 721 (4 : Int).toNat) (qz_I h 722 (4 : Int).toNat))))) r 6 (ez_v (.inl (rz_code (rz_b (dz_put h r 5 (ez_v (.inl (rz_code (rz_b h) (qz_I h 721 (4 : Int).toNat) (qz_I h 722 (4 : Int).toNat)))))) (qz_I (dz_put h r 5 (ez_v (.inl (rz_code (rz_b h) (qz_I h 721 (4 : Int).toNat) (qz_I h 722 (4 : Int).toNat))))) 721 (5 : Int).toNat) (qz_I (dz_put h r 5 (ez_v (.inl (rz_code (rz_b h) (qz_I h 721 (4 : Int).toNat) (qz_I h 722 (4 : Int).toNat))))) 722 (5 : Int).toNat))))) = rz_b h := rz_b_fr fr6 (rz_ne t193 tr rfl)
  have e6 : qz_I (dz_put (dz_put (dz_put h r 5 (ez_v (.inl (rz_code (rz_b h) (qz_I h 721 (4 : Int).toNat) (qz_I h 722 (4 : Int).toNat))))) r 6 (ez_v (.inl (rz_code (rz_b (dz_put h r 5 (ez_v (.inl (rz_code (rz_b h) (qz_I h 721 (4 : Int).toNat) (qz_I h 722 (4 : Int).toNat)))))) (qz_I (dz_put h r 5 (ez_v (.inl (rz_code (rz_b h) (qz_I h 721 (4 : Int).toNat) (qz_I h 722 (4 : Int).toNat))))) 721 (5 : Int).toNat) (qz_I (dz_put h r 5 (ez_v (.inl (rz_code (rz_b h) (qz_I h 721 (4 : Int).toNat) (qz_I h 722 (4 : Int).toNat))))) 722 (5 : Int).toNat))))) r 7 (ez_v (.inl (rz_code (rz_b (dz_put (dz_put h r 5 (ez_v (.inl (rz_code (rz_b h) (qz_I h 721 (4 : Int).toNat) (qz_I h 722 (4 : Int).toNat))))) r 6 (ez_v (.inl (rz_code (rz_b (dz_put h r 5 (ez_v (.inl (rz_code (rz_b h) (qz_I h 721 (4 : Int).toNat) (qz_I h 722 (4 : Int).toNat)))))) (qz_I (dz_put h r 5 (ez_v (.inl (rz_code (rz_b h) (qz_I h 721 (4 : Int).toNat) (qz_I h 722 (4 : Int).toNat))))) 721 (5 : Int).toNat) (qz_I (dz_put h r 5 (ez_v (.inl (rz_code (rz_b h) (qz_I h 721 (4 : Int).toNat) (qz_I h 722 (4 : Int).toNat))))) 722 (5 : Int).toNat)))))) (qz_I (dz_put (dz_put h r 5 (ez_v (.inl (rz_code (rz_b h) (qz_I h 721 (4 : Int).toNat) (qz_I h 722 (4 : Int).toNat))))) r 6 (ez_v (.inl (rz_code (rz_b (dz_put h r 5 (ez_v (.inl (rz_code (rz_b h) (qz_I h 721 (4 : Int).toNat) (qz_I h 722 (4 : Int).toNat)))))) (qz_I (dz_put h r 5 (ez_v (.inl (rz_code (rz_b h) (qz_I h 721 (4 : Int).toNat) (qz_I h 722 (4 : Int).toNat))))) 721 (5 : Int).toNat) (qz_I (dz_put h r 5 (ez_v (.inl (rz_code (rz_b h) (qz_I h 721 (4 : Int).toNat) (qz_I h 722 (4 : Int).toNat))))) 722 (5 : Int).toNat))))) 721 (6 : Int).toNat) (qz_I (dz_put (dz_put h r 5 (ez_v (.inl (rz_code (rz_b h) (qz_I h 721 (4 : Int).toNat) (qz_I h 722 (4 : Int).toNat))))) r 6 (ez_v (.inl (rz_code (rz_b (dz_put h r 5 (ez_v (.inl (rz_code (rz_b h) (qz_I h 721 (4 : Int).toNat) (qz_I h 722 (4 : Int).toNat)))))) (qz_I (dz_put h r 5 (ez_v (.inl (rz_code (rz_b h) (qz_I h 721 (4 : Int).toNat) (qz_I h 722 (4 : Int).toNat))))) 721 (5 : Int).toNat) (qz_I (dz_put h r 5 (ez_v (.inl (rz_code (rz_b h) (qz_I h 721 (4 : Int).toNat) (qz_I h 722 (4 : Int).toNat))))) 722 (5 : Int).toNat))))) 722 (6 : Int).toNat))))) r 6 = rz_code (rz_b h) (rz_f h 5) (rz_t h 5) := by rw [ez_put_I (by omega), w12, rz_rd ⟨by omega, by omega⟩, b5, xf5, xt5]
  have e7 : qz_I (dz_put (dz_put (dz_put h r 5 (ez_v (.inl (rz_code (rz_b h) (qz_I h 721 (4 : Int).toNat) (qz_I h 722 (4 : Int).toNat))))) r 6 (ez_v (.inl (rz_code (rz_b (dz_put h r 5 (ez_v (.inl (rz_code (rz_b h) (qz_I h 721 (4 : Int).toNat) (qz_I h 722 (4 : Int).toNat)))))) (qz_I (dz_put h r 5 (ez_v (.inl (rz_code (rz_b h) (qz_I h 721 (4 : Int).toNat) (qz_I h 722 (4 : Int).toNat))))) 721 (5 : Int).toNat) (qz_I (dz_put h r 5 (ez_v (.inl (rz_code (rz_b h) (qz_I h 721 (4 : Int).toNat) (qz_I h 722 (4 : Int).toNat))))) 722 (5 : Int).toNat))))) r 7 (ez_v (.inl (rz_code (rz_b (dz_put (dz_put h r 5 (ez_v (.inl (rz_code (rz_b h) (qz_I h 721 (4 : Int).toNat) (qz_I h 722 (4 : Int).toNat))))) r 6 (ez_v (.inl (rz_code (rz_b (dz_put h r 5 (ez_v (.inl (rz_code (rz_b h) (qz_I h 721 (4 : Int).toNat) (qz_I h 722 (4 : Int).toNat)))))) (qz_I (dz_put h r 5 (ez_v (.inl (rz_code (rz_b h) (qz_I h 721 (4 : Int).toNat) (qz_I h 722 (4 : Int).toNat))))) 721 (5 : Int).toNat) (qz_I (dz_put h r 5 (ez_v (.inl (rz_code (rz_b h) (qz_I h 721 (4 : Int).toNat) (qz_I h 722 (4 : Int).toNat))))) 722 (5 : Int).toNat)))))) (qz_I (dz_put (dz_put h r 5 (ez_v (.inl (rz_code (rz_b h) (qz_I h 721 (4 : Int).toNat) (qz_I h 722 (4 : Int).toNat))))) r 6 (ez_v (.inl (rz_code (rz_b (dz_put h r 5 (ez_v (.inl (rz_code (rz_b h) (qz_I h 721 (4 : Int).toNat) (qz_I h 722 (4 : Int).toNat)))))) (qz_I (dz_put h r 5 (ez_v (.inl (rz_code (rz_b h) (qz_I h 721 (4 : Int).toNat) (qz_I h 722 (4 : Int).toNat))))) 721 (5 : Int).toNat) (qz_I (dz_put h r 5 (ez_v (.inl (rz_code (rz_b h) (qz_I h 721 (4 : Int).toNat) (qz_I h 722 (4 : Int).toNat))))) 722 (5 : Int).toNat))))) 721 (6 : Int).toNat) (qz_I (dz_put (dz_put h r 5 (ez_v (.inl (rz_code (rz_b h) (qz_I h 721 (4 : Int).toNat) (qz_I h 722 (4 : Int).toNat))))) r 6 (ez_v (.inl (rz_code (rz_b (dz_put h r 5 (ez_v (.inl (rz_code (rz_b h) (qz_I h 721 (4 : Int).toNat) (qz_I h 722 (4 : Int).toNat)))))) (qz_I (dz_put h r 5 (ez_v (.inl (rz_code (rz_b h) (qz_I h 721 (4 : Int).toNat) (qz_I h 722 (4 : Int).toNat))))) 721 (5 : Int).toNat) (qz_I (dz_put h r 5 (ez_v (.inl (rz_code (rz_b h) (qz_I h 721 (4 : Int).toNat) (qz_I h 722 (4 : Int).toNat))))) 722 (5 : Int).toNat))))) 722 (6 : Int).toNat))))) r 7 = rz_code (rz_b h) (rz_f h 6) (rz_t h 6) := by rw [w18, rz_rd ⟨by omega, by omega⟩, b6, xf6, xt6]
  exact k _ hB17 ((((ez_fr.refl (ez_one r) h).put (show Nat.beq r r = true from Nat.beq_refl r) _ _).put (show Nat.beq r r = true from Nat.beq_refl r) _ _).put (show Nat.beq r r = true from Nat.beq_refl r) _ _) (fun j j5 j6 j7 => by rw [ez_put_I (by omega), ez_put_I (by omega), ez_put_I (by omega)]) e5 e6 e7

theorem rd_takeFact_b1 (hB : ez_B τ h) (t720 : τ 720 = 52) (hft : ∀ k, 0 ≤ k → k ≤ 6 → rz_f h k ≤ rz_t h k) (k0 : ¬ (∀ k, 4 ≤ k → k ≤ 6 → rz_f h k = rz_t h k ∨ rz_code (rz_b h) (rz_f h k) (rz_t h k) ≠ -1) → Q (.inl (some (ez_v (.inl (-1)))), h)) (k1 : (∀ k, 4 ≤ k → k ≤ 6 → rz_f h k = rz_t h k ∨ rz_code (rz_b h) (rz_f h k) (rz_t h k) ≠ -1) → ez_W (d + 3) cm_176 68 [(0, .inr (.inr (some (720)))), (1, .inr (.inr (some (r))))] [] h Q) : ez_W (d + 3) cm_176 41 [(0, .inr (.inr (some (720)))), (1, .inr (.inr (some (r))))] [] h Q := by
  refine ez_go (n := 2) (pc' := 43) (L' := [(0, .inr (.inr (some (720)))), (1, .inr (.inr (some (r))))]) (st' := [.inl (4), .inr (.inr (some (720)))]) rfl ?_
  refine ez_cv hB t720 rfl rfl rfl tq_52 rfl rfl rfl (rd_isCodeOrNothing hB t720 (by omega) (by omega) (hft 4 (by omega) (by omega)) (fun e1 => ez_K1 ?_) (fun e1 e1' => ez_K1 ?_))
  · skip
    refine ez_if rfl rfl ⟨by decide, by decide⟩ (fun (c2 : (1 : Int) = (0)) => absurd c2 (by decide)) (fun _ => ?_)
    refine ez_go (n := 2) (pc' := 51) (L' := [(0, .inr (.inr (some (720)))), (1, .inr (.inr (some (r))))]) (st' := [.inl (5), .inr (.inr (some (720)))]) rfl ?_
    refine ez_cv hB t720 rfl rfl rfl tq_52 rfl rfl rfl (rd_isCodeOrNothing hB t720 (by omega) (by omega) (hft 5 (by omega) (by omega)) (fun e3 => ez_K1 ?_) (fun e3 e3' => ez_K1 ?_))
    · skip
      refine ez_if rfl rfl ⟨by decide, by decide⟩ (fun (c4 : (1 : Int) = (0)) => absurd c4 (by decide)) (fun _ => ?_)
      refine ez_go (n := 2) (pc' := 60) (L' := [(0, .inr (.inr (some (720)))), (1, .inr (.inr (some (r))))]) (st' := [.inl (6), .inr (.inr (some (720)))]) rfl ?_
      refine ez_cv hB t720 rfl rfl rfl tq_52 rfl rfl rfl (rd_isCodeOrNothing hB t720 (by omega) (by omega) (hft 6 (by omega) (by omega)) (fun e5 => ez_K1 ?_) (fun e5 e5' => ez_K1 ?_))
      · skip
        refine ez_if rfl rfl ⟨by decide, by decide⟩ (fun _ => ?_) (fun (c6 : ¬((1 : Int) ≠ (0))) => absurd c6 (by decide))
        refine ez_less [(0, .inr (.inr (some (720)))), (1, .inr (.inr (some (r))))] rfl ⟨rfl, rfl, trivial⟩ ?_
        exact k1 (fun k hk4 hk6 => by rcases (by omega : k = 4 ∨ k = 5 ∨ k = 6) with w | w | w; (· rw [w]; exact e1); (· rw [w]; exact e3); (· rw [w]; exact e5))
      · skip
        refine ez_if rfl rfl ⟨by decide, by decide⟩ (fun (c7 : (0 : Int) ≠ (0)) => absurd c7 (by decide)) (fun _ => ?_)
        refine ez_go (n := 1) (pc' := 67) (L' := [(0, .inr (.inr (some (720)))), (1, .inr (.inr (some (r))))]) (st' := [.inl (-1)]) rfl ?_
        exact ez_retI rfl rfl (k0 (fun w => by rcases w 6 (by omega) (by omega) with w | w; (· exact e5 w); (· exact w e5')))
    · skip
      refine ez_if rfl rfl ⟨by decide, by decide⟩ (fun _ => ?_) (fun (c8 : ¬((0 : Int) = (0))) => absurd c8 (by decide))
      refine ez_go (n := 1) (pc' := 67) (L' := [(0, .inr (.inr (some (720)))), (1, .inr (.inr (some (r))))]) (st' := [.inl (-1)]) rfl ?_
      exact ez_retI rfl rfl (k0 (fun w => by rcases w 5 (by omega) (by omega) with w | w; (· exact e3 w); (· exact w e3')))
  · skip
    refine ez_if rfl rfl ⟨by decide, by decide⟩ (fun _ => ?_) (fun (c9 : ¬((0 : Int) = (0))) => absurd c9 (by decide))
    refine ez_go (n := 1) (pc' := 67) (L' := [(0, .inr (.inr (some (720)))), (1, .inr (.inr (some (r))))]) (st' := [.inl (-1)]) rfl ?_
    exact ez_retI rfl rfl (k0 (fun w => by rcases w 4 (by omega) (by omega) with w | w; (· exact e1 w); (· exact w e1')))

end EzTk
/-! The reader of the class: takeFact, all of it. (Written by wip/p2/py/pv16.py.) -/
theorem ez_xr.bft {τ τ' : Nat → Nat} {h g : cz_H} {dc ds : Nat} (hx : ez_xr τ h τ' g 720 dc ds) (t193 : τ 193 = 45) (t721 : τ 721 = 53) (t722 : τ 722 = 54) : rz_b g = rz_b h ∧ rz_f g = rz_f h ∧ rz_t g = rz_t h :=
  ⟨funext fun i => hx.I (by rw [t193]; decide) (by decide) _, funext fun i => hx.I (by rw [t721]; decide) (by decide) _, funext fun i => hx.I (by rw [t722]; decide) (by decide) _⟩
theorem ez_xr_new {τ : Nat → Nat} {h : cz_H} (hB : ez_B τ h) {t n x dc ds : Nat} {c : cz_C} (hd : 1 ≤ dc) (hn : n ≤ ds) : ez_xr τ h (dz_tn τ h.1 t) (cz_push h n c) x dc ds :=
  have x0 := ez_xt_new (t := t) (c := c) hB hd hn (ez_fr.refl _ _)
  ⟨fun q hq => ⟨(x0.1 q hq).1, fun _ => (x0.1 q hq).2⟩, x0.2⟩
/-- a Fact's decomposition -/
def rz_D (τ : Nat → Nat) (h : cz_H) (r : Nat) (dec : Option (Int × List Int)) : Prop := match dec with
  | none => qz_I h r 3 = 0
  | some (cp, vs) => ∃ p : Nat, τ p = 5 ∧ qz_I h r 3 = (p : Int) + 1 ∧ qz_I h r 4 = cp ∧ qz_N h p = (vs.length : Int) ∧ ∀ (j : Nat) v, vs[j]? = some v → qz_I h p j = v
theorem rz_db_cp {b : Int → Int} {s t cp bg : Int} (h : rz_db b s t = some (cp, bg)) : cp = 0 ∨ cp = 1 := by
  unfold rz_db at h
  split at h
  · split at h
    · cases h
    · cases h; exact Or.inr rfl
  · cases h; exact Or.inl rfl
theorem rz_rw_len {b : Int → Int} {m s t : Int} {vs : List Int} (h : rz_rw b m s t = some vs) : vs.length = rz_ct b s (t - s).toNat s := by
  unfold rz_rw at h
  split at h
  · exact rz_row_len b _ _ _ _ h
  · cases h
/-- the same at another heap -/
theorem rz_D_fr {τ : Nat → Nat} {h g : cz_H} {r : Nat} {dec : Option (Int × List Int)} (hD : rz_D τ h r dec) (e3 : qz_I g r 3 = qz_I h r 3) (e4 : qz_I g r 4 = qz_I h r 4) (ep : ∀ p, τ p = 5 → g.2.2 p = h.2.2 p) : rz_D τ g r dec := by
  match dec with
  | none => exact e3.trans hD
  | some (cp, vs) =>
    obtain ⟨p, p1, p2, p3, p4, p5⟩ := hD
    exact ⟨p, p1, e3.trans p2, e4.trans p3, by unfold qz_N; rw [ep p p1]; exact p4, fun j v hj => by unfold qz_I; rw [ep p p1]; exact p5 j v hj⟩
/-- a Fact's category and cases -/
def rz_E (b f t : Int → Int) (h : cz_H) (r : Nat) : Prop := qz_I h r 1 = b (f 1) * 256 + b (f 1 + 1) ∧ qz_I h r 5 = rz_code b (f 4) (t 4) ∧ qz_I h r 6 = rz_code b (f 5) (t 5) ∧ qz_I h r 7 = rz_code b (f 6) (t 6)
section EzTl
variable {d : Nat} {h : cz_H} {τ : Nat → Nat} {Q : cz_F → Prop} {r : Nat}
theorem rd_takeFact_s {τ0 : Nat → Nat} {h0 : cz_H} {first last cls : Int} {dec : Option (Int × List Int)} (hB0 : ez_B τ0 h0) (u193 : τ0 193 = 45) (u202 : τ0 202 = 48) (u203 : τ0 203 = 49) (u720 : τ0 720 = 52) (u721 : τ0 721 = 53) (u722 : τ0 722 = 54) (hs : sz_ok h0) (hinj : sz_inj h0) (hft : ∀ k, 0 ≤ k → k ≤ 6 → rz_f h0 k ≤ rz_t h0 k) (hn : qz_I h0 202 1 + 2 ≤ 513) (hB : ez_B τ h) (hx : ez_xr τ0 h0 τ h 720 2 31) (r0 : τ0 r = 0) (tr : τ r = 3) (hr : (r : Int) + 1 ≤ 1000000) (e4 : qz_I h 720 4 = first) (e5 : qz_I h 720 5 = last) (ef : first = rz_first (rz_b h0) (rz_f h0 0) (rz_t h0 0)) (el : last = rz_last (rz_b h0) (rz_f h0 0) (rz_t h0 0)) (f1 : first ≠ -1) (fl : first ≤ last) (hcat : rz_cat (rz_b h0) (rz_f h0 1) (rz_t h0 1)) (hcl : (1 ≤ rz_t h0 2 - rz_f h0 2 ∧ rz_t h0 2 - rz_f h0 2 ≤ 3) ∧ (0 ≤ cls ∧ cls ≤ 254) ∧ cls = rz_dec (rz_b h0) (rz_t h0 2 - rz_f h0 2).toNat (rz_f h0 2) 0) (hdec : (rz_f h0 3 = rz_t h0 3 ∧ dec = none) ∨ (rz_f h0 3 ≠ rz_t h0 3 ∧ ∃ cp bg vs, rz_db (rz_b h0) (rz_f h0 3) (rz_t h0 3) = some (cp, bg) ∧ rz_rw (rz_b h0) 18 bg (rz_t h0 3) = some vs ∧ dec = some (cp, vs))) (e2 : qz_I h r 2 = cls) (hD : rz_D τ h r dec) (ecat : qz_I h r 1 = rz_b h0 (rz_f h0 1) * 256 + rz_b h0 (rz_f h0 1 + 1)) (kN : ∀ g τ1, ez_B τ1 g → ez_xr τ0 h0 τ1 g 720 2 31 → ¬(∃ first last cls dec, rz_F (rz_b h0) (rz_f h0) (rz_t h0) first last cls dec) → Q (.inl (some (ez_v (.inl (-1)))), g)) (kS : ∀ g h1 τ1 first last cls dec, ez_B τ1 g → ez_B τ1 h1 → ez_xr τ0 h0 τ1 h1 720 2 31 → τ1 r = 3 → rz_F (rz_b h0) (rz_f h0) (rz_t h0) first last cls dec → qz_I h1 r 0 = first → qz_I h1 r 2 = cls → rz_D τ1 h1 r dec → rz_E (rz_b h0) (rz_f h0) (rz_t h0) h1 r → sz_told τ1 h1 g first last r → Q (.inl (some (ez_v (.inl (last - first + 1)))), g)) : ez_W (d + 3) cm_176 41 [(0, .inr (.inr (some (720)))), (1, .inr (.inr (some (r))))] [] h Q := by
  have t720 := hx.t u720 rfl
  have t721 := hx.t u721 rfl
  have t722 := hx.t u722 rfl
  have t202 := hx.t u202 rfl
  have t203 := hx.t u203 rfl
  obtain ⟨xb, xf, xt⟩ := hx.bft u193 u721 u722
  have bl : -1 ≤ last ∧ last ≤ 1114111 := by
    rw [el]; unfold rz_last rz_first
    split
    · split
      · exact rz_code_bd _ _ _
      · omega
    · exact rz_code_bd _ _ _
  have bf : -1 ≤ first ∧ first ≤ 1114111 := by rw [ef]; unfold rz_first; exact rz_code_bd _ _ _
  refine rd_takeFact_b1 hB t720 (by rw [xf, xt]; exact hft) (fun hno => kN h τ hB hx (fun ⟨_, _, _, _, w⟩ => hno (by rw [xb, xf, xt]; exact w.2.2.2.2.1))) (fun hok => ?_)
  rw [xb, xf, xt] at hok
  refine rd_takeFact_b2 hB (hx.t u193 rfl) t720 t721 t722 tr (by rw [xf, xt]; exact hft) (fun g hB1 hf1 hk1 ev5 ev6 ev7 => ?_)
  rw [xb, xf, xt] at ev5 ev6 ev7
  have hx1 := hx.fr hf1 (Or.inl r0)
  obtain ⟨-, xf1, xt1⟩ := hx1.bft u193 u721 u722
  have v4 : qz_I g 720 4 = first := (hf1.I (rz_ne t720 tr rfl) 4).trans e4
  have v5 : qz_I g 720 5 = last := (hf1.I (rz_ne t720 tr rfl) 5).trans e5
  refine rd_takeFact_c hB1 t720 (fun hlt hno => kN g τ hB1 hx1 (fun ⟨_, _, _, _, w⟩ => hno (by rw [xf1, xt1]; refine w.2.2.2.2.2 ?_; rw [w.1.1, w.1.2.1, ← ef, ← el]; omega))) (fun hem => ?_)
  rw [xf1, xt1] at hem
  obtain ⟨hs1, hi1⟩ := sz_same_ok hB0 u203 u202 ((hx1.1 202 (by rw [u202]; decide)).2 (by decide)) ((hx1.1 203 (by rw [u203]; decide)).2 (by decide)) (fun q hq => (hx1.1 q (by rw [hq]; decide)).2 (fun e => by rw [e, u720] at hq; cases hq)) hs hinj
  have c1 : qz_I g 202 1 = qz_I h0 202 1 := hx1.I (by rw [u202]; decide) (by decide) 1
  refine rd_takeFact_d hB1 t720 t202 t203 tr hr hs1 hi1 v4 v5 (by omega) fl bl.2 (by omega) (fun g2 h1 hB2 hBh hf2 a0 aj htl => ?_)
  refine kS g2 h1 τ first last cls dec hB2 hBh (hx1.fr hf2 (Or.inl r0)) tr ⟨⟨ef, el, f1, fl⟩, hcat, hcl, hdec, hok, fun hlt => hem (by omega)⟩ a0 (by rw [aj 2 (by decide), hk1 2 (by decide) (by decide) (by decide)]; exact e2) ?_ ⟨by rw [aj 1 (by decide), hk1 1 (by decide) (by decide) (by decide)]; exact ecat, by rw [aj 5 (by decide)]; exact ev5, by rw [aj 6 (by decide)]; exact ev6, by rw [aj 7 (by decide)]; exact ev7⟩ htl
  refine rz_D_fr hD (by rw [aj 3 (by decide), hk1 3 (by decide) (by decide) (by decide)]) (by rw [aj 4 (by decide), hk1 4 (by decide) (by decide) (by decide)]) (fun p hp => ?_)
  have hpr : ez_one r p = false := dz_beq_ne (fun e => by rw [e, tr] at hp; cases hp)
  rw [hf2.2.2 p hpr, hf1.2.2 p hpr]
theorem rd_takeFact_a {τ0 : Nat → Nat} {h0 : cz_H} (hB0 : ez_B τ0 h0) (u193 : τ0 193 = 45) (u202 : τ0 202 = 48) (u203 : τ0 203 = 49) (u720 : τ0 720 = 52) (u721 : τ0 721 = 53) (u722 : τ0 722 = 54) (hs : sz_ok h0) (hinj : sz_inj h0) (hft : ∀ k, 0 ≤ k → k ≤ 6 → rz_f h0 k ≤ rz_t h0 k) (hn : qz_I h0 202 1 + 2 ≤ 513) (hB : ez_B τ h) (hx : ez_xr τ0 h0 τ h 720 1 13) (r0 : τ0 r = 0) (tr : τ r = 3) (hz : ∀ j, qz_I h r j = 0) (hr : (r : Int) + 1 ≤ 1000000) (hr1 : h0.1 + 2 ≤ 600192) (hr2 : h0.2.1 + 31 ≤ 7302232) (kN : ∀ g τ1, ez_B τ1 g → ez_xr τ0 h0 τ1 g 720 2 31 → ¬(∃ first last cls dec, rz_F (rz_b h0) (rz_f h0) (rz_t h0) first last cls dec) → Q (.inl (some (ez_v (.inl (-1)))), g)) (kS : ∀ g h1 τ1 first last cls dec, ez_B τ1 g → ez_B τ1 h1 → ez_xr τ0 h0 τ1 h1 720 2 31 → τ1 r = 3 → rz_F (rz_b h0) (rz_f h0) (rz_t h0) first last cls dec → qz_I h1 r 0 = first → qz_I h1 r 2 = cls → rz_D τ1 h1 r dec → rz_E (rz_b h0) (rz_f h0) (rz_t h0) h1 r → sz_told τ1 h1 g first last r → Q (.inl (some (ez_v (.inl (last - first + 1)))), g)) : ez_W (d + 4) cm_176 4 [(0, .inr (.inr (some (720))))] [.inr (.inr (some (r))), .inr (.inr (some (r)))] h Q := by
  have t720 := hx.t u720 rfl
  have t721 := hx.t u721 rfl
  have t722 := hx.t u722 rfl
  have t193 := hx.t u193 rfl
  have t202 := hx.t u202 rfl
  have t203 := hx.t u203 rfl
  have hxc := hx.2
  refine ez_ci hB.2.1 rfl rfl rfl rfl rfl rfl (rd_Fact_init hB tr (fun g1 hB1 x1 z1 => ez_K0 ?_))
  have hx1 := hx.fr x1 (Or.inl r0)
  obtain ⟨b1, f1, t1⟩ := hx1.bft u193 u721 u722
  have q0 := hft 0 (by omega) (by omega)
  have n721 : 7 ≤ qz_N h0 721 ∧ qz_N h0 721 ≤ 7 := ez_len hB0 u721 tq_53 rfl
  have n722 : 7 ≤ qz_N h0 722 ∧ qz_N h0 722 ≤ 7 := ez_len hB0 u722 tq_54 rfl
  have q1 : 0 ≤ rz_f h0 0 ∧ rz_f h0 0 ≤ 4096 := ez_aB (i := 0) hB0 u721 tq_53 rfl rfl (by decide) (by omega) (by omega)
  have q2 : 0 ≤ rz_t h0 0 ∧ rz_t h0 0 ≤ 4096 := ez_aB (i := 0) hB0 u722 tq_54 rfl rfl (by decide) (by omega) (by omega)
  refine ez_go (n := 2) (pc' := 9) (L' := [(1, .inr (.inr (some (r)))), (0, .inr (.inr (some (720))))]) (st' := [.inr (.inr (some (720)))]) rfl ?_
  refine ez_cv hB1 t720 rfl rfl rfl tq_52 rfl rfl rfl (rd_readCodes hB1 t720 (congrFun f1 0) (congrFun t1 0) (by omega) (by omega) (by omega) (fun g2 hB2 x2 v4 v5 y1 y2 => ez_K1 ?_) (fun g2 hB2 x2 y1 => ez_K1 ?_))
  · skip
    rw [b1] at v4 v5 y1 y2
    have hx2 := hx1.fr x2 (Or.inr rfl)
    obtain ⟨b2, f2, t2⟩ := hx2.bft u193 u721 u722
    have z2 : ∀ j, qz_I g2 r j = qz_I g1 r j := fun j => x2.I (rz_ne tr t720 rfl) j
    refine ez_if rfl rfl ⟨by decide, by decide⟩ (fun (c1 : (1 : Int) = (0)) => absurd c1 (by decide)) (fun _ => ?_)
    refine ez_go (n := 2) (pc' := 17) (L' := [(1, .inr (.inr (some (r)))), (0, .inr (.inr (some (720))))]) (st' := [.inr (.inr (some (r))), .inr (.inr (some (720)))]) rfl ?_
    refine ez_cv hB2 t720 rfl rfl rfl tq_52 rfl rfl rfl (rd_readCategory hB2 t720 tr (fun g3 hB3 x3 z3 yc y3 => ez_K1 ?_) (fun g3 hB3 x3 z3 y3 => ez_K1 ?_))
    · skip
      rw [b2, f2, t2] at y3
      rw [b2, f2] at yc
      have hx3 := hx2.fr x3 (Or.inl r0)
      obtain ⟨b3, f3, t3⟩ := hx3.bft u193 u721 u722
      have w3 : ∀ j, qz_I g3 720 j = qz_I g2 720 j := fun j => x3.I (rz_ne t720 tr rfl) j
      refine ez_if rfl rfl ⟨by decide, by decide⟩ (fun (c2 : (1 : Int) = (0)) => absurd c2 (by decide)) (fun _ => ?_)
      refine ez_go (n := 2) (pc' := 25) (L' := [(1, .inr (.inr (some (r)))), (0, .inr (.inr (some (720))))]) (st' := [.inr (.inr (some (r))), .inr (.inr (some (720)))]) rfl ?_
      refine ez_cv hB3 t720 rfl rfl rfl tq_52 rfl rfl rfl (rd_readClass hB3 t720 tr (fun g4 hB4 x4 z4 y4 y5 y6 y7 y8 => ez_K1 ?_) (fun g4 hB4 x4 z4 y4 => ez_K1 ?_))
      · skip
        rw [f3, t3, b3] at y4 y7 y8
        rw [f3, t3] at y5 y6
        have hx4 := hx3.fr x4 (Or.inl r0)
        obtain ⟨b4, f4, t4⟩ := hx4.bft u193 u721 u722
        have w4 : ∀ j, qz_I g4 720 j = qz_I g3 720 j := fun j => x4.I (rz_ne t720 tr rfl) j
        refine ez_if rfl rfl ⟨by decide, by decide⟩ (fun (c3 : (1 : Int) = (0)) => absurd c3 (by decide)) (fun _ => ?_)
        refine ez_go (n := 2) (pc' := 33) (L' := [(1, .inr (.inr (some (r)))), (0, .inr (.inr (some (720))))]) (st' := [.inr (.inr (some (r))), .inr (.inr (some (720)))]) rfl ?_
        have hx4c := hx4.2
        refine ez_cv hB4 t720 rfl rfl rfl tq_52 rfl rfl rfl (rd_readDecomposition hB4 t720 t722 tr (by rw [f4, t4]; exact hft 3 (by omega) (by omega)) (by omega) (by omega) (fun ye => ez_K1 ?_) (fun g5 τ5 vs cp bg p ye yd hB5 x5 t5 yr yN yv ar3 ar4 arj => ez_K1 ?_) (fun g5 τ5 hB5 x5 ye yn => ez_K1 ?_))
        · skip
          rw [f4, t4] at ye
          refine ez_if rfl rfl ⟨by decide, by decide⟩ (fun _ => ?_) (fun (c4 : ¬((1 : Int) ≠ (0))) => absurd c4 (by decide))
          refine ez_less [(0, .inr (.inr (some (720)))), (1, .inr (.inr (some (r))))] rfl ⟨rfl, rfl, trivial⟩ ?_
          exact rd_takeFact_s hB0 u193 u202 u203 u720 u721 u722 hs hinj hft hn hB4 (hx4.mono (by omega) (by omega)) r0 tr hr (by rw [w4, w3]; exact v4) (by rw [w4, w3]; exact v5) rfl rfl y1 y2 y3 ⟨⟨y5, y6⟩, ⟨y7, y8⟩, rfl⟩ (Or.inl ⟨ye, rfl⟩) y4 (show qz_I g4 r 3 = 0 by rw [z4 3 (by decide), z3 3 (by decide), z2, z1 3 (by decide) (by decide) (by decide) (by decide)]; exact hz 3) (by rw [z4 1 (by decide)]; exact yc) kN kS
        · skip
          rw [f4, t4] at ye
          rw [b4, f4, t4] at yd
          rw [b4, t4] at yr
          rw [b4, t4] at yN
          have hx5 := hx4.xr x5 r0
          refine ez_if rfl rfl ⟨by decide, by decide⟩ (fun _ => ?_) (fun (c5 : ¬((1 : Int) ≠ (0))) => absurd c5 (by decide))
          refine ez_less [(0, .inr (.inr (some (720)))), (1, .inr (.inr (some (r))))] rfl ⟨rfl, rfl, trivial⟩ ?_
          have w5 : ∀ j, qz_I g5 720 j = qz_I g4 720 j := fun j => x5.I (by rw [t720]; decide) (fun e => by rw [← e, t720] at tr; cases tr) j
          exact rd_takeFact_s hB0 u193 u202 u203 u720 u721 u722 hs hinj hft hn hB5 (hx5.mono (by omega) (by omega)) r0 (x5.t tr rfl) hr (by rw [w5, w4, w3]; exact v4) (by rw [w5, w4, w3]; exact v5) rfl rfl y1 y2 y3 ⟨⟨y5, y6⟩, ⟨y7, y8⟩, rfl⟩ (Or.inr ⟨ye, cp, bg, vs, yd, yr, rfl⟩) (by rw [arj 2 (by decide) (by decide)]; exact y4) ⟨p, t5, ar3, (by rw [ar4]; rcases rz_db_cp yd with w | w; (· rw [if_neg (by omega), z4 4 (by decide), z3 4 (by decide), z2, z1 4 (by decide) (by decide) (by decide) (by decide), hz 4]; exact w.symm); (· rw [if_pos w]; exact w.symm)), (by rw [yN, rz_rw_len yr]), yv⟩ (by rw [arj 1 (by decide) (by decide), z4 1 (by decide)]; exact yc) kN kS
        · skip
          rw [f4, t4] at ye
          rw [b4, f4, t4] at yn
          have hx5 := hx4.xr x5 r0
          refine ez_if rfl rfl ⟨by decide, by decide⟩ (fun (c6 : (0 : Int) ≠ (0)) => absurd c6 (by decide)) (fun _ => ?_)
          refine ez_go (n := 1) (pc' := 40) (L' := [(1, .inr (.inr (some (r)))), (0, .inr (.inr (some (720))))]) (st' := [.inl (-1)]) rfl ?_
          exact ez_retI rfl rfl (kN g5 τ5 hB5 (hx5.mono (by omega) (by omega)) (fun ⟨_, _, _, _, w⟩ => by rcases w.2.2.2.1 with w | w; (· exact ye w.1); (· obtain ⟨-, cp, bg, vs, w1, w2, -⟩ := w; rcases yn with yn | ⟨cp2, bg2, yn1, yn2⟩; (· rw [yn] at w1; cases w1); (· rw [w1] at yn1; cases yn1; rw [w2] at yn2; cases yn2))))
      · skip
        rw [f3, t3, b3] at y4
        have hx4 := hx3.fr x4 (Or.inl r0)
        obtain ⟨b4, f4, t4⟩ := hx4.bft u193 u721 u722
        refine ez_if rfl rfl ⟨by decide, by decide⟩ (fun _ => ?_) (fun (c7 : ¬((0 : Int) = (0))) => absurd c7 (by decide))
        refine ez_go (n := 1) (pc' := 40) (L' := [(1, .inr (.inr (some (r)))), (0, .inr (.inr (some (720))))]) (st' := [.inl (-1)]) rfl ?_
        exact ez_retI rfl rfl (kN g4 τ hB4 (hx4.mono (by omega) (by omega)) (fun ⟨_, _, _, _, w⟩ => y4 ⟨w.2.2.1.1, by rw [← w.2.2.1.2.2]; exact w.2.2.1.2.1⟩))
    · skip
      rw [b2, f2, t2] at y3
      have hx3 := hx2.fr x3 (Or.inl r0)
      refine ez_if rfl rfl ⟨by decide, by decide⟩ (fun _ => ?_) (fun (c8 : ¬((0 : Int) = (0))) => absurd c8 (by decide))
      refine ez_go (n := 1) (pc' := 40) (L' := [(1, .inr (.inr (some (r)))), (0, .inr (.inr (some (720))))]) (st' := [.inl (-1)]) rfl ?_
      exact ez_retI rfl rfl (kN g3 τ hB3 (hx3.mono (by omega) (by omega)) (fun ⟨_, _, _, _, w⟩ => y3 w.2.1))
  · skip
    rw [b1] at y1
    have hx2 := hx1.fr x2 (Or.inr rfl)
    obtain ⟨b2, f2, t2⟩ := hx2.bft u193 u721 u722
    refine ez_if rfl rfl ⟨by decide, by decide⟩ (fun _ => ?_) (fun (c9 : ¬((0 : Int) = (0))) => absurd c9 (by decide))
    refine ez_go (n := 1) (pc' := 40) (L' := [(1, .inr (.inr (some (r)))), (0, .inr (.inr (some (720))))]) (st' := [.inl (-1)]) rfl ?_
    exact ez_retI rfl rfl (kN g2 τ hB2 (hx2.mono (by omega) (by omega)) (fun ⟨_, _, _, _, w⟩ => y1 (by rw [← w.1.1]; exact w.1.2.2.1) (by rw [← w.1.1, ← w.1.2.1]; exact w.1.2.2.2)))

theorem rd_takeFact {τ0 : Nat → Nat} {h0 : cz_H} (hB0 : ez_B τ0 h0) (u193 : τ0 193 = 45) (u202 : τ0 202 = 48) (u203 : τ0 203 = 49) (u720 : τ0 720 = 52) (u721 : τ0 721 = 53) (u722 : τ0 722 = 54) (hs : sz_ok h0) (hinj : sz_inj h0) (hft : ∀ k, 0 ≤ k → k ≤ 6 → rz_f h0 k ≤ rz_t h0 k) (hn : qz_I h0 202 1 + 2 ≤ 513) (hr1 : h0.1 + 2 ≤ 600192) (hr2 : h0.2.1 + 31 ≤ 7302232) (kN : ∀ g τ1, ez_B τ1 g → ez_xr τ0 h0 τ1 g 720 2 31 → ¬(∃ first last cls dec, rz_F (rz_b h0) (rz_f h0) (rz_t h0) first last cls dec) → Q (.inl (some (ez_v (.inl (-1)))), g)) (kS : ∀ g h1 τ1 first last cls dec, ez_B τ1 g → ez_B τ1 h1 → ez_xr τ0 h0 τ1 h1 720 2 31 → τ1 h0.1 = 3 → rz_F (rz_b h0) (rz_f h0) (rz_t h0) first last cls dec → qz_I h1 h0.1 0 = first → qz_I h1 h0.1 2 = cls → rz_D τ1 h1 h0.1 dec → rz_E (rz_b h0) (rz_f h0) (rz_t h0) h1 h0.1 → sz_told τ1 h1 g first last h0.1 → Q (.inl (some (ez_v (.inl (last - first + 1)))), g)) : ez_W (d + 4) cm_176 0 [(0, .inr (.inr (some (720))))] [] h0 Q := by
  refine ez_nw (t := 3) hB0 rfl rfl rfl tq_3 rfl rfl (by omega) (by show h0.2.1 + 13 ≤ 7302232; omega) (fun hB1 hz => ?_)
  refine ez_go (n := 1) (pc' := 4) (L' := [(0, .inr (.inr (some (720))))]) (st' := [.inr (.inr (some h0.1)), .inr (.inr (some h0.1))]) rfl ?_
  exact rd_takeFact_a hB0 u193 u202 u203 u720 u721 u722 hs hinj hft hn hB1 (ez_xr_new hB0 (Nat.le_refl _) (show 13 ≤ 13 from Nat.le_refl _)) (ez_fresh hB0) (by unfold dz_tn; simp) hz (by omega) hr1 hr2 kN kS
end EzTl
/-! Strings: length, charAt; the reader of the class: reads, startsWith, nameIndex. (Written by wip/p2/py/pv17.py.) -/
section EzStr
variable {d : Nat} {M : cz_M} {pc : Nat} {L : List (Nat × ez_V)} {st : List ez_V} {h : cz_H} {Q : cz_F → Prop}
theorem ez_gs {x a b z : Nat} (n : Int) (hc : cz_code M pc = some (.getstatic x, 3)) (hq : cz_lk M x = some (16, a, b, z)) (hn : (a : Int) = n) (kk : ez_W d M (pc + 3) L (.inl n :: st) h Q) : ez_W d M pc L st h Q := by
  refine dz_wp_hp (q := (pc + 3, ez_v (.inl n) :: st.map ez_v, h)) hc rfl rfl rfl rfl rfl ?_ kk
  show cz_hgs M x pc (st.map ez_v) h = _
  unfold cz_hgs
  simp only [hq, show Nat.beq 16 16 = true from rfl, cond_true]
  rw [← hn]
  rfl
theorem ez_ck {x a b z : Nat} {n i : Int} (hR : cz_room h 0 0 = true) (hc : cz_code M pc = some (.invokestatic x, 3)) (hq : cz_lk M x = some (18, a, b, z)) (h0 : 0 ≤ i) (h1 : i < n) (hi : ez_rg i) (hn : ez_rg n) (hs : Nat.ble st.length 20 = true) (kk : ez_W (d + 2) M (pc + 3) L st h Q) : ez_W (d + 2) M pc L (.inl n :: .inl i :: st) h Q := by
  refine dz_wp_hp (q := (pc + 3, st.map ez_v, h)) hc rfl rfl rfl rfl rfl ?_ kk
  have e : cz_hcpy M (d + 2) x pc (.inl (Int32.ofInt n) :: .inl (Int32.ofInt i) :: st.map ez_v) h = none := by
    unfold cz_hcpy
    split
    · simp only [hq]; rfl
    · rfl
  show (match cz_hcpy M (d + 2) x pc (.inl (Int32.ofInt n) :: .inl (Int32.ofInt i) :: st.map ez_v) h with
    | some q => some q
    | none => cz_hci M (d + 2) x pc (.inl (Int32.ofInt n) :: .inl (Int32.ofInt i) :: st.map ez_v) h) = _
  rw [e]
  show cz_hci M (d + 2) x pc (.inl (Int32.ofInt n) :: .inl (Int32.ofInt i) :: st.map ez_v) h = _
  unfold cz_hci
  have e1 : Nat.ble (st.map ez_v).length 20 = true := by rw [List.length_map]; exact hs
  simp only [hq, hR, e1, hi.v, hn.v, h0, h1, decide_true, show Nat.beq 18 18 = true from rfl, show Nat.blt 1 (d + 2) = true from Nat.blt_eq.mpr (by omega), Bool.and_self, cond_true]
theorem ez_retB {a : Int} (hc : cz_code M pc = some (.ireturn, 1)) (ht : M.2.1.2.2.1 = some .byte) (h0 : a = 0) (k : Q (.inl (some (ez_v (.inl a))), h)) : ez_W d M pc L [.inl a] h Q := by
  subst h0
  exact dz_wp_ret (v := some (.inl (Int32.ofInt 0))) hc rfl rfl rfl (by rw [ht]; rfl) k
theorem nz_chk : ∀ n, n < 128 → (Int32.ofInt (n : Nat)).toUInt32.toUInt16.toUInt32.toInt32 = Int32.ofInt (n : Nat) := by decide
theorem ez_retC {a : Int} (hc : cz_code M pc = some (.ireturn, 1)) (ht : M.2.1.2.2.1 = some .char) (h0 : 0 ≤ a) (h1 : a ≤ 127) (k : Q (.inl (some (ez_v (.inl a))), h)) : ez_W d M pc L [.inl a] h Q := by
  refine dz_wp_ret (v := some (.inl (Int32.ofInt a))) hc rfl rfl rfl ?_ k
  rw [ht]
  have e := nz_chk a.toNat (by omega)
  rw [Int.toNat_of_nonneg h0] at e
  show (bif decide ((Int32.ofInt a).toUInt32.toUInt16.toUInt32.toInt32 = Int32.ofInt a) then _ else _) = _
  rw [e, decide_eq_true rfl]
  rfl
end EzStr
theorem nz_ch0 : ∀ n, n < 128 → ((Int32.ofInt (Int32.ofInt (n : Nat) &&& Int32.ofInt 255).toInt).toUInt32 % 65536).toInt32.toInt = (n : Nat) := by decide
theorem nz_ch {v : Int} (h0 : 0 ≤ v) (h1 : v ≤ 127) : ((Int32.ofInt (Int32.ofInt v &&& Int32.ofInt 255).toInt).toUInt32 % 65536).toInt32.toInt = v := by
  have e := nz_ch0 v.toNat (by omega)
  rw [Int.toNat_of_nonneg h0] at e
  exact e
theorem nz_sh {n c : Int} (hc : c = 0) (h0 : 0 ≤ n) (h1 : n ≤ 2147483647) : (Int32.ofInt n >>> (Int32.ofInt c &&& 31)).toInt = n := by
  subst hc
  have e : Int32.ofInt 0 &&& 31 = 0 := by decide
  rw [e, Int32.shiftRight_zero]
  exact ez_rg.v ⟨by omega, h1⟩
/-- a string's bytes -/
def nz_S (h : cz_H) (s : Nat) (l : List Int) : Prop := qz_N h (qz_P h s 0) = (l.length : Int) ∧ ∀ (j : Nat) v, l[j]? = some v → qz_I h (qz_P h s 0) j = v ∧ 0 ≤ v ∧ v ≤ 127
section EzSt2
variable {d : Nat} {h : cz_H} {τ : Nat → Nat} {Q : cz_F → Prop} {s : Nat} {l : List Int}
theorem rd_coder0 (hB : ez_B τ h) (ts : τ s = 27) (k : Q (.inl (some (ez_v (.inl 0))), h)) : ez_W d cm_326 0 [(0, .inr (.inr (some (s))))] [] h Q := by
  refine ez_gs (1) rfl rfl rfl ?_
  refine ez_if rfl rfl ⟨by decide, by decide⟩ (fun (c1 : (1 : Int) = (0)) => absurd c1 (by decide)) (fun _ => ?_)
  refine ez_go (n := 1) (pc' := 7) (L' := [(0, .inr (.inr (some (s))))]) (st' := [.inr (.inr (some (s)))]) rfl ?_
  refine ez_gI hB ts rfl rfl tq_27 rfl rfl (fun (b2 : 0 ≤ qz_I h s 1) (b2' : qz_I h s 1 ≤ 0) => ?_)
  refine ez_go (n := 1) (pc' := 14) (L' := [(0, .inr (.inr (some (s))))]) (st' := [.inl (qz_I h s 1)]) rfl ?_
  exact ez_retB rfl rfl (by omega) (by rw [show qz_I h s 1 = 0 by omega]; exact k)

theorem rd_isLat0 (hB : ez_B τ h) (ts : τ s = 27) (k : Q (.inl (some (ez_v (.inl 1))), h)) : ez_W d cm_327 0 [(0, .inr (.inr (some (s))))] [] h Q := by
  refine ez_gs (1) rfl rfl rfl ?_
  refine ez_if rfl rfl ⟨by decide, by decide⟩ (fun (c1 : (1 : Int) = (0)) => absurd c1 (by decide)) (fun _ => ?_)
  refine ez_go (n := 1) (pc' := 7) (L' := [(0, .inr (.inr (some (s))))]) (st' := [.inr (.inr (some (s)))]) rfl ?_
  refine ez_gI hB ts rfl rfl tq_27 rfl rfl (fun (b2 : 0 ≤ qz_I h s 1) (b2' : qz_I h s 1 ≤ 0) => ?_)
  refine ez_if rfl rfl ⟨by first | omega | exact (sz_i32 _).1, by first | omega | exact (sz_i32 _).2⟩ (fun (c3 : (qz_I h s 1) ≠ (0)) => ?_) (fun (c3 : ¬((qz_I h s 1) ≠ (0))) => ?_)
  · skip
    refine ez_go (n := 1) (pc' := 18) (L' := [(0, .inr (.inr (some (s))))]) (st' := [.inl (0)]) rfl ?_
    exfalso; omega
  · skip
    refine ez_go (n := 2) (pc' := 18) (L' := [(0, .inr (.inr (some (s))))]) (st' := [.inl (1)]) rfl ?_
    exact ez_retZ rfl rfl (by decide) k

theorem rd_ch0 {p : Nat} {i : Int} (hB : ez_B τ h) (tp : τ p = 28) (hN : qz_N h p = (l.length : Int)) (hS : ∀ (j : Nat) v, l[j]? = some v → qz_I h p j = v ∧ 0 ≤ v ∧ v ≤ 127) (i0 : 0 ≤ i) (i1 : i < (l.length : Int)) (k : ∀ v, l[i.toNat]? = some v → 0 ≤ v → v ≤ 127 → Q (.inl (some (ez_v (.inl v))), h)) : ez_W (d + 2) cm_334 0 [(0, .inr (.inr (some (p)))), (1, .inl (i))] [] h Q := by
  refine ez_go (n := 2) (pc' := 2) (L' := [(0, .inr (.inr (some (p)))), (1, .inl (i))]) (st' := [.inr (.inr (some (p))), .inl (i)]) rfl ?_
  refine ez_al hB tp rfl tq_28 rfl (fun (b1 : 0 ≤ qz_N h p) (b1' : qz_N h p ≤ 200) => ?_)
  refine ez_ck hB.2.1 rfl rfl (by omega) (by omega) ⟨by omega, by omega⟩ ⟨by omega, by omega⟩ rfl ?_
  refine ez_go (n := 2) (pc' := 8) (L' := [(0, .inr (.inr (some (p)))), (1, .inl (i))]) (st' := [.inl (i), .inr (.inr (some (p)))]) rfl ?_
  have n3 : 0 ≤ qz_N h p ∧ qz_N h p ≤ 200 := ez_len hB tp tq_28 rfl
  refine ez_aI hB tp rfl tq_28 rfl rfl (by omega) (by omega) (fun (b2 : -128 ≤ qz_I h p (i).toNat) (b2' : qz_I h p (i).toNat ≤ 127) => ?_)
  refine ez_go (n := 3) (pc' := 14) (L' := [(0, .inr (.inr (some (p)))), (1, .inl (i))]) (st' := [.inl (((Int32.ofInt ((Int32.ofInt (qz_I h p (i).toNat) &&& Int32.ofInt (255)).toInt)).toUInt32 % 65536).toInt32.toInt)]) rfl ?_
  obtain ⟨v, hv⟩ : ∃ v, l[i.toNat]? = some v := ⟨_, List.getElem?_eq_getElem (by omega)⟩
  obtain ⟨a1, a2, a3⟩ := hS _ _ hv
  rw [a1, nz_ch a2 a3]
  exact ez_retC rfl rfl a2 a3 (k v hv a2 a3)

theorem rd_slen0 (hB : ez_B τ h) (ts : τ s = 27) (hS : nz_S h s l) (k : Q (.inl (some (ez_v (.inl (l.length : Int)))), h)) : ez_W (d + 1) cm_328 0 [(0, .inr (.inr (some (s))))] [] h Q := by
  refine ez_go (n := 1) (pc' := 1) (L' := [(0, .inr (.inr (some (s))))]) (st' := [.inr (.inr (some (s)))]) rfl ?_
  refine ez_gR hB ts rfl rfl tq_27 rfl rfl (fun (t1 : _ = 28) (t1' : 1 ≤ qz_I h s 0) => ?_)
  refine ez_al hB t1 rfl tq_28 rfl (fun (b2 : 0 ≤ qz_N h (qz_P h s 0)) (b2' : qz_N h (qz_P h s 0) ≤ 200) => ?_)
  refine ez_go (n := 1) (pc' := 6) (L' := [(0, .inr (.inr (some (s))))]) (st' := [.inr (.inr (some (s))), .inl (qz_N h (qz_P h s 0))]) rfl ?_
  refine ez_cv hB ts rfl rfl rfl tq_27 rfl rfl rfl (rd_coder0 hB ts (ez_K1 ?_))
  refine ez_go (n := 1) (pc' := 10) (L' := [(0, .inr (.inr (some (s))))]) (st' := [.inl ((Int32.ofInt (qz_N h (qz_P h s 0)) >>> (Int32.ofInt (0) &&& 31)).toInt)]) rfl ?_
  rw [nz_sh rfl (by omega) (by omega), hS.1]
  exact ez_retI rfl rfl k

theorem rd_charAt0 {i : Int} (hB : ez_B τ h) (ts : τ s = 27) (hS : nz_S h s l) (i0 : 0 ≤ i) (i1 : i < (l.length : Int)) (k : ∀ v, l[i.toNat]? = some v → 0 ≤ v → v ≤ 127 → Q (.inl (some (ez_v (.inl v))), h)) : ez_W (d + 3) cm_325 0 [(0, .inr (.inr (some (s)))), (1, .inl (i))] [] h Q := by
  refine ez_go (n := 1) (pc' := 1) (L' := [(0, .inr (.inr (some (s)))), (1, .inl (i))]) (st' := [.inr (.inr (some (s)))]) rfl ?_
  refine ez_cv hB ts rfl rfl rfl tq_27 rfl rfl rfl (rd_isLat0 hB ts (ez_K1 ?_))
  refine ez_if rfl rfl ⟨by decide, by decide⟩ (fun (c1 : (1 : Int) = (0)) => absurd c1 (by decide)) (fun _ => ?_)
  refine ez_go (n := 1) (pc' := 8) (L' := [(0, .inr (.inr (some (s)))), (1, .inl (i))]) (st' := [.inr (.inr (some (s)))]) rfl ?_
  refine ez_gR hB ts rfl rfl tq_27 rfl rfl (fun (t2 : _ = 28) (t2' : 1 ≤ qz_I h s 0) => ?_)
  refine ez_go (n := 1) (pc' := 12) (L' := [(0, .inr (.inr (some (s)))), (1, .inl (i))]) (st' := [.inl (i), .inr (.inr (some (qz_P h s 0)))]) rfl ?_
  refine ez_cs hB.2.1 rfl rfl rfl rfl rfl (rd_ch0 hB t2 hS.1 hS.2 i0 i1 (fun v v1 v2 v3 => ez_K1 ?_))
  exact ez_retC rfl rfl v2 v3 (k v v1 v2 v3)

theorem rd_coderD (hB : ez_B τ h) (ts : τ s = 33) (k : Q (.inl (some (ez_v (.inl 0))), h)) : ez_W d cm_326 0 [(0, .inr (.inr (some (s))))] [] h Q := by
  refine ez_gs (1) rfl rfl rfl ?_
  refine ez_if rfl rfl ⟨by decide, by decide⟩ (fun (c1 : (1 : Int) = (0)) => absurd c1 (by decide)) (fun _ => ?_)
  refine ez_go (n := 1) (pc' := 7) (L' := [(0, .inr (.inr (some (s))))]) (st' := [.inr (.inr (some (s)))]) rfl ?_
  refine ez_gI hB ts rfl rfl tq_33 rfl rfl (fun (b2 : 0 ≤ qz_I h s 1) (b2' : qz_I h s 1 ≤ 0) => ?_)
  refine ez_go (n := 1) (pc' := 14) (L' := [(0, .inr (.inr (some (s))))]) (st' := [.inl (qz_I h s 1)]) rfl ?_
  exact ez_retB rfl rfl (by omega) (by rw [show qz_I h s 1 = 0 by omega]; exact k)

theorem rd_isLatD (hB : ez_B τ h) (ts : τ s = 33) (k : Q (.inl (some (ez_v (.inl 1))), h)) : ez_W d cm_327 0 [(0, .inr (.inr (some (s))))] [] h Q := by
  refine ez_gs (1) rfl rfl rfl ?_
  refine ez_if rfl rfl ⟨by decide, by decide⟩ (fun (c1 : (1 : Int) = (0)) => absurd c1 (by decide)) (fun _ => ?_)
  refine ez_go (n := 1) (pc' := 7) (L' := [(0, .inr (.inr (some (s))))]) (st' := [.inr (.inr (some (s)))]) rfl ?_
  refine ez_gI hB ts rfl rfl tq_33 rfl rfl (fun (b2 : 0 ≤ qz_I h s 1) (b2' : qz_I h s 1 ≤ 0) => ?_)
  refine ez_if rfl rfl ⟨by first | omega | exact (sz_i32 _).1, by first | omega | exact (sz_i32 _).2⟩ (fun (c3 : (qz_I h s 1) ≠ (0)) => ?_) (fun (c3 : ¬((qz_I h s 1) ≠ (0))) => ?_)
  · skip
    refine ez_go (n := 1) (pc' := 18) (L' := [(0, .inr (.inr (some (s))))]) (st' := [.inl (0)]) rfl ?_
    exfalso; omega
  · skip
    refine ez_go (n := 2) (pc' := 18) (L' := [(0, .inr (.inr (some (s))))]) (st' := [.inl (1)]) rfl ?_
    exact ez_retZ rfl rfl (by decide) k

theorem rd_chD {p : Nat} {i : Int} (hB : ez_B τ h) (tp : τ p = 31) (hN : qz_N h p = (l.length : Int)) (hS : ∀ (j : Nat) v, l[j]? = some v → qz_I h p j = v ∧ 0 ≤ v ∧ v ≤ 127) (i0 : 0 ≤ i) (i1 : i < (l.length : Int)) (k : ∀ v, l[i.toNat]? = some v → 0 ≤ v → v ≤ 127 → Q (.inl (some (ez_v (.inl v))), h)) : ez_W (d + 2) cm_334 0 [(0, .inr (.inr (some (p)))), (1, .inl (i))] [] h Q := by
  refine ez_go (n := 2) (pc' := 2) (L' := [(0, .inr (.inr (some (p)))), (1, .inl (i))]) (st' := [.inr (.inr (some (p))), .inl (i)]) rfl ?_
  refine ez_al hB tp rfl tq_31 rfl (fun (b1 : 0 ≤ qz_N h p) (b1' : qz_N h p ≤ 200000) => ?_)
  refine ez_ck hB.2.1 rfl rfl (by omega) (by omega) ⟨by omega, by omega⟩ ⟨by omega, by omega⟩ rfl ?_
  refine ez_go (n := 2) (pc' := 8) (L' := [(0, .inr (.inr (some (p)))), (1, .inl (i))]) (st' := [.inl (i), .inr (.inr (some (p)))]) rfl ?_
  have n3 : 0 ≤ qz_N h p ∧ qz_N h p ≤ 200000 := ez_len hB tp tq_31 rfl
  refine ez_aI hB tp rfl tq_31 rfl rfl (by omega) (by omega) (fun (b2 : -128 ≤ qz_I h p (i).toNat) (b2' : qz_I h p (i).toNat ≤ 127) => ?_)
  refine ez_go (n := 3) (pc' := 14) (L' := [(0, .inr (.inr (some (p)))), (1, .inl (i))]) (st' := [.inl (((Int32.ofInt ((Int32.ofInt (qz_I h p (i).toNat) &&& Int32.ofInt (255)).toInt)).toUInt32 % 65536).toInt32.toInt)]) rfl ?_
  obtain ⟨v, hv⟩ : ∃ v, l[i.toNat]? = some v := ⟨_, List.getElem?_eq_getElem (by omega)⟩
  obtain ⟨a1, a2, a3⟩ := hS _ _ hv
  rw [a1, nz_ch a2 a3]
  exact ez_retC rfl rfl a2 a3 (k v hv a2 a3)

theorem rd_slenD (hB : ez_B τ h) (ts : τ s = 33) (hS : nz_S h s l) (k : Q (.inl (some (ez_v (.inl (l.length : Int)))), h)) : ez_W (d + 1) cm_328 0 [(0, .inr (.inr (some (s))))] [] h Q := by
  refine ez_go (n := 1) (pc' := 1) (L' := [(0, .inr (.inr (some (s))))]) (st' := [.inr (.inr (some (s)))]) rfl ?_
  refine ez_gR hB ts rfl rfl tq_33 rfl rfl (fun (t1 : _ = 31) (t1' : 1 ≤ qz_I h s 0) => ?_)
  refine ez_al hB t1 rfl tq_31 rfl (fun (b2 : 0 ≤ qz_N h (qz_P h s 0)) (b2' : qz_N h (qz_P h s 0) ≤ 200000) => ?_)
  refine ez_go (n := 1) (pc' := 6) (L' := [(0, .inr (.inr (some (s))))]) (st' := [.inr (.inr (some (s))), .inl (qz_N h (qz_P h s 0))]) rfl ?_
  refine ez_cv hB ts rfl rfl rfl tq_33 rfl rfl rfl (rd_coderD hB ts (ez_K1 ?_))
  refine ez_go (n := 1) (pc' := 10) (L' := [(0, .inr (.inr (some (s))))]) (st' := [.inl ((Int32.ofInt (qz_N h (qz_P h s 0)) >>> (Int32.ofInt (0) &&& 31)).toInt)]) rfl ?_
  rw [nz_sh rfl (by omega) (by omega), hS.1]
  exact ez_retI rfl rfl k

theorem rd_charAtD {i : Int} (hB : ez_B τ h) (ts : τ s = 33) (hS : nz_S h s l) (i0 : 0 ≤ i) (i1 : i < (l.length : Int)) (k : ∀ v, l[i.toNat]? = some v → 0 ≤ v → v ≤ 127 → Q (.inl (some (ez_v (.inl v))), h)) : ez_W (d + 3) cm_325 0 [(0, .inr (.inr (some (s)))), (1, .inl (i))] [] h Q := by
  refine ez_go (n := 1) (pc' := 1) (L' := [(0, .inr (.inr (some (s)))), (1, .inl (i))]) (st' := [.inr (.inr (some (s)))]) rfl ?_
  refine ez_cv hB ts rfl rfl rfl tq_33 rfl rfl rfl (rd_isLatD hB ts (ez_K1 ?_))
  refine ez_if rfl rfl ⟨by decide, by decide⟩ (fun (c1 : (1 : Int) = (0)) => absurd c1 (by decide)) (fun _ => ?_)
  refine ez_go (n := 1) (pc' := 8) (L' := [(0, .inr (.inr (some (s)))), (1, .inl (i))]) (st' := [.inr (.inr (some (s)))]) rfl ?_
  refine ez_gR hB ts rfl rfl tq_33 rfl rfl (fun (t2 : _ = 31) (t2' : 1 ≤ qz_I h s 0) => ?_)
  refine ez_go (n := 1) (pc' := 12) (L' := [(0, .inr (.inr (some (s)))), (1, .inl (i))]) (st' := [.inl (i), .inr (.inr (some (qz_P h s 0)))]) rfl ?_
  refine ez_cs hB.2.1 rfl rfl rfl rfl rfl (rd_chD hB t2 hS.1 hS.2 i0 i1 (fun v v1 v2 v3 => ez_K1 ?_))
  exact ez_retC rfl rfl v2 v3 (k v v1 v2 v3)

/-- the string's part from st on, of the length n, stands on the tape at bg -/
def nz_rd (b : Int → Int) (l : List Int) (st bg n : Int) : Prop := ∀ j : Int, 0 ≤ j → j < n → l[(st + j).toNat]? = some (b (bg + j))
theorem rd_reads_l {st fi bg en : Int} (hB : ez_B τ h) (t720 : τ 720 = 52) (ts : τ s = 27) (hS : nz_S h s l) (s0 : 0 ≤ st) (s1 : st ≤ fi) (f1 : fi ≤ (l.length : Int)) (b0 : 0 ≤ bg) (e1 : en ≤ 4096) (he : fi - st = en - bg) (k1 : nz_rd (rz_b h) l st bg (en - bg) → Q (.inl (some (ez_v (.inl 1))), h)) (k0 : ¬ nz_rd (rz_b h) l st bg (en - bg) → Q (.inl (some (ez_v (.inl 0))), h)) : ∀ (n : Nat) (m : Int), 0 ≤ m → m ≤ en - bg → n = (en - bg - m).toNat → nz_rd (rz_b h) l st bg m → ez_W (d + 4) cm_168 16 [(6, .inl (m)), (0, .inr (.inr (some (720)))), (1, .inr (.inr (some (s)))), (2, .inl (st)), (3, .inl (fi)), (4, .inl (bg)), (5, .inl (en))] [] h Q := by
  intro n
  induction n with
  | zero =>
    intro m m0 m1 hm hv
    refine ez_go (n := 4) (pc' := 23) (L' := [(6, .inl (m)), (0, .inr (.inr (some (720)))), (1, .inr (.inr (some (s)))), (2, .inl (st)), (3, .inl (fi)), (4, .inl (bg)), (5, .inl (en))]) (st' := [.inl ((en) - (bg)), .inl (m)]) rfl ?_
    refine ez_icmp rfl rfl ⟨by first | omega | exact (sz_i32 _).1, by first | omega | exact (sz_i32 _).2⟩ ⟨by first | omega | exact (sz_i32 _).1, by first | omega | exact (sz_i32 _).2⟩ (fun (c1 : ((en) - (bg)) ≤ (m)) => ?_) (fun (c1 : ¬(((en) - (bg)) ≤ (m))) => ?_)
    · skip
      refine ez_go (n := 1) (pc' := 56) (L' := [(6, .inl (m)), (0, .inr (.inr (some (720)))), (1, .inr (.inr (some (s)))), (2, .inl (st)), (3, .inl (fi)), (4, .inl (bg)), (5, .inl (en))]) (st' := [.inl (1)]) rfl ?_
      exact ez_retZ rfl rfl (by decide) (k1 (fun j j0 j1 => hv j j0 (by omega)))
    · exfalso; omega
  | succ n ih =>
    intro m m0 m1 hm hv
    refine ez_go (n := 4) (pc' := 23) (L' := [(6, .inl (m)), (0, .inr (.inr (some (720)))), (1, .inr (.inr (some (s)))), (2, .inl (st)), (3, .inl (fi)), (4, .inl (bg)), (5, .inl (en))]) (st' := [.inl ((en) - (bg)), .inl (m)]) rfl ?_
    refine ez_icmp rfl rfl ⟨by first | omega | exact (sz_i32 _).1, by first | omega | exact (sz_i32 _).2⟩ ⟨by first | omega | exact (sz_i32 _).1, by first | omega | exact (sz_i32 _).2⟩ (fun (c1 : ((en) - (bg)) ≤ (m)) => ?_) (fun (c1 : ¬(((en) - (bg)) ≤ (m))) => ?_)
    · exfalso; omega
    · skip
      refine ez_go (n := 4) (pc' := 31) (L' := [(6, .inl (m)), (0, .inr (.inr (some (720)))), (1, .inr (.inr (some (s)))), (2, .inl (st)), (3, .inl (fi)), (4, .inl (bg)), (5, .inl (en))]) (st' := [.inl ((st) + (m)), .inr (.inr (some (s)))]) rfl ?_
      refine ez_cv hB ts rfl rfl rfl tq_27 rfl rfl rfl (rd_charAt0 hB ts hS (by omega) (by omega) (fun v v1 v2 v3 => ez_K1 ?_))
      refine ez_go (n := 1) (pc' := 35) (L' := [(6, .inl (m)), (0, .inr (.inr (some (720)))), (1, .inr (.inr (some (s)))), (2, .inl (st)), (3, .inl (fi)), (4, .inl (bg)), (5, .inl (en))]) (st' := [.inr (.inr (some (720))), .inl (v)]) rfl ?_
      refine ez_gC (p := 193) (tg := 45) hB t720 rfl rfl tq_52 rfl rfl (fun (t193 : _ = 45) => ?_)
      refine ez_go (n := 3) (pc' := 43) (L' := [(6, .inl (m)), (0, .inr (.inr (some (720)))), (1, .inr (.inr (some (s)))), (2, .inl (st)), (3, .inl (fi)), (4, .inl (bg)), (5, .inl (en))]) (st' := [.inl ((bg) + (m)), .inr (.inr (some (193))), .inl (v)]) rfl ?_
      have n3 : 4096 ≤ qz_N h 193 ∧ qz_N h 193 ≤ 4096 := ez_len hB t193 tq_45 rfl
      refine ez_aI hB t193 rfl tq_45 rfl rfl (by omega) (by omega) (fun (b2 : -128 ≤ qz_I h 193 ((bg) + (m)).toNat) (b2' : qz_I h 193 ((bg) + (m)).toNat ≤ 127) => ?_)
      refine ez_icmp rfl rfl ⟨by first | omega | exact (sz_i32 _).1, by first | omega | exact (sz_i32 _).2⟩ ⟨by first | omega | exact (sz_i32 _).1, by first | omega | exact (sz_i32 _).2⟩ (fun (c4 : (v) = (qz_I h 193 ((bg) + (m)).toNat)) => ?_) (fun (c4 : ¬((v) = (qz_I h 193 ((bg) + (m)).toNat))) => ?_)
      · skip
        refine ez_go (n := 2) (pc' := 16) (L' := [(6, .inl (m + 1)), (0, .inr (.inr (some (720)))), (1, .inr (.inr (some (s)))), (2, .inl (st)), (3, .inl (fi)), (4, .inl (bg)), (5, .inl (en))]) (st' := []) rfl ?_
        refine ez_less [(6, .inl (m + 1)), (0, .inr (.inr (some (720)))), (1, .inr (.inr (some (s)))), (2, .inl (st)), (3, .inl (fi)), (4, .inl (bg)), (5, .inl (en))] rfl ⟨rfl, rfl, rfl, rfl, rfl, rfl, rfl, trivial⟩ ?_
        refine ih (m + 1) (by omega) (by omega) (by omega) (fun j j0 j1 => ?_)
        by_cases e : j = m
        · rw [e, v1]; exact congrArg some c4
        · exact hv j j0 (by omega)
      · skip
        refine ez_go (n := 1) (pc' := 48) (L' := [(6, .inl (m)), (0, .inr (.inr (some (720)))), (1, .inr (.inr (some (s)))), (2, .inl (st)), (3, .inl (fi)), (4, .inl (bg)), (5, .inl (en))]) (st' := [.inl (0)]) rfl ?_
        exact ez_retZ rfl rfl (by decide) (k0 (fun w => by have w1 := w m m0 (by omega); rw [show (st + m).toNat = ((st) + (m)).toNat from rfl, v1] at w1; cases w1; exact absurd rfl c4))
theorem rd_reads {st fi bg en : Int} (hB : ez_B τ h) (t720 : τ 720 = 52) (ts : τ s = 27) (hS : nz_S h s l) (s0 : 0 ≤ st) (s1 : st ≤ fi) (f1 : fi ≤ (l.length : Int)) (b0 : 0 ≤ bg) (e1 : en ≤ 4096) (be : bg ≤ en) (hl : l.length ≤ 1000) (k1 : (fi - st = en - bg ∧ nz_rd (rz_b h) l st bg (en - bg)) → Q (.inl (some (ez_v (.inl 1))), h)) (k0 : ¬ (fi - st = en - bg ∧ nz_rd (rz_b h) l st bg (en - bg)) → Q (.inl (some (ez_v (.inl 0))), h)) : ez_W (d + 4) cm_168 0 [(0, .inr (.inr (some (720)))), (1, .inr (.inr (some (s)))), (2, .inl (st)), (3, .inl (fi)), (4, .inl (bg)), (5, .inl (en))] [] h Q := by
  refine ez_go (n := 6) (pc' := 8) (L' := [(0, .inr (.inr (some (720)))), (1, .inr (.inr (some (s)))), (2, .inl (st)), (3, .inl (fi)), (4, .inl (bg)), (5, .inl (en))]) (st' := [.inl ((en) - (bg)), .inl ((fi) - (st))]) rfl ?_
  refine ez_icmp rfl rfl ⟨by first | omega | exact (sz_i32 _).1, by first | omega | exact (sz_i32 _).2⟩ ⟨by first | omega | exact (sz_i32 _).1, by first | omega | exact (sz_i32 _).2⟩ (fun (c1 : ((fi) - (st)) = ((en) - (bg))) => ?_) (fun (c1 : ¬(((fi) - (st)) = ((en) - (bg)))) => ?_)
  · skip
    refine ez_go (n := 2) (pc' := 16) (L' := [(6, .inl (0)), (0, .inr (.inr (some (720)))), (1, .inr (.inr (some (s)))), (2, .inl (st)), (3, .inl (fi)), (4, .inl (bg)), (5, .inl (en))]) (st' := []) rfl ?_
    refine ez_less [(6, .inl (0)), (0, .inr (.inr (some (720)))), (1, .inr (.inr (some (s)))), (2, .inl (st)), (3, .inl (fi)), (4, .inl (bg)), (5, .inl (en))] rfl ⟨rfl, rfl, rfl, rfl, rfl, rfl, rfl, trivial⟩ ?_
    exact rd_reads_l hB t720 ts hS s0 s1 f1 b0 e1 (by omega) (fun w => k1 ⟨by omega, w⟩) (fun w => k0 (fun v => w v.2)) _ 0 (by omega) (by omega) rfl (fun j j0 j1 => by omega)
  · skip
    refine ez_go (n := 1) (pc' := 12) (L' := [(0, .inr (.inr (some (720)))), (1, .inr (.inr (some (s)))), (2, .inl (st)), (3, .inl (fi)), (4, .inl (bg)), (5, .inl (en))]) (st' := [.inl (0)]) rfl ?_
    exact ez_retZ rfl rfl (by decide) (k0 (fun w => absurd w.1 (by omega)))

end EzSt2
/-! The reader of the class: startsWith, nameIndex. (Written by wip/p2/py/pv18.py.) -/
theorem nz_cnt1 {l : List Int} {i : Nat} (h : l[i]? = some 32) : (l.take (i + 1)).count 32 = (l.take i).count 32 + 1 := by
  rw [List.take_add_one, h, List.count_append]
  rfl
theorem nz_cnt0 {l : List Int} {i : Nat} {v : Int} (h : l[i]? = some v) (hv : v ≠ 32) : (l.take (i + 1)).count 32 = (l.take i).count 32 := by
  rw [List.take_add_one, h, List.count_append]
  show _ + List.count 32 [v] = _
  rw [List.count_cons_of_ne (Ne.symm (fun e => hv e.symm))]
  rfl
theorem nz_cntle (l : List Int) (i : Nat) : (l.take i).count 32 ≤ l.count 32 := (List.take_sublist i l).count_le 32
/-- a name of the list stands from s to e -/
def nz_nm (l : List Int) (s e : Int) : Prop := 0 ≤ s ∧ s ≤ e ∧ e ≤ (l.length : Int) ∧ (s = 0 ∨ l[(s - 1).toNat]? = some 32) ∧ (e = (l.length : Int) ∨ l[e.toNat]? = some 32) ∧ ∀ j, s ≤ j → j < e → l[j.toNat]? ≠ some 32
/-- which name it is -/
def nz_ni (l : List Int) (b : Int → Int) (bg en v : Int) : Prop := (v = -1 ∧ ∀ s e, nz_nm l s e → ¬ (e - s = en - bg ∧ nz_rd b l s bg (en - bg))) ∨ (0 ≤ v ∧ ∃ s e, nz_nm l s e ∧ v = ((l.take s.toNat).count 32 : Int) ∧ e - s = en - bg ∧ nz_rd b l s bg (en - bg))
def nz_iv (l : List Int) (b : Int → Int) (bg en st i : Int) : Prop := (st = 0 ∨ l[(st - 1).toNat]? = some 32) ∧ (∀ j, st ≤ j → j < i → l[j.toNat]? ≠ some 32) ∧ ∀ s e, nz_nm l s e → s < st → ¬ (e - s = en - bg ∧ nz_rd b l s bg (en - bg))
theorem nz_cnt2 {l : List Int} {a : Nat} : ∀ n, a + n ≤ l.length → (∀ j, a ≤ j → j < a + n → l[j]? ≠ some 32) → (l.take (a + n)).count 32 = (l.take a).count 32
  | 0, _, _ => rfl
  | n + 1, hl, h => by
    have ih := nz_cnt2 n (by omega) (fun j h1 h2 => h j h1 (by omega))
    have hv : l[a + n]? = some l[a + n] := List.getElem?_eq_getElem (by omega)
    rw [← ih, ← Nat.add_assoc]
    exact nz_cnt0 hv (fun e => h (a + n) (by omega) (by omega) (by rw [hv, e]))
theorem nz_iv_hit {l : List Int} {b : Int → Int} {bg en st i ix : Int} (h : nz_iv l b bg en st i) (s0 : 0 ≤ st) (s1 : st ≤ i) (i1 : i ≤ (l.length : Int)) (he : i = (l.length : Int) ∨ l[i.toNat]? = some 32) (hm : i - st = en - bg ∧ nz_rd b l st bg (en - bg)) (hx : ix = ((l.take i.toNat).count 32 : Int)) : nz_ni l b bg en ix := by
  have := nz_cnt2 (l := l) (a := st.toNat) (i.toNat - st.toNat) (by omega) (fun j h1 h2 => by have := h.2.1 j (by omega) (by omega); rw [Int.toNat_natCast] at this; exact this)
  rw [show st.toNat + (i.toNat - st.toNat) = i.toNat by omega] at this
  exact Or.inr ⟨by omega, st, i, ⟨s0, s1, i1, h.1, he, h.2.1⟩, by rw [hx, this], hm⟩
theorem nz_iv_no {l : List Int} {b : Int → Int} {bg en st i : Int} (h : nz_iv l b bg en st i) (s0 : 0 ≤ st) (s1 : st ≤ i) (i1 : i ≤ (l.length : Int)) (he : i = (l.length : Int) ∨ l[i.toNat]? = some 32) (hm : ¬ (i - st = en - bg ∧ nz_rd b l st bg (en - bg))) : ∀ s e, nz_nm l s e → s < i + 1 → ¬ (e - s = en - bg ∧ nz_rd b l s bg (en - bg)) := fun s e hn hs => by
  obtain ⟨n1, n2, n3, n4, n5, n6⟩ := hn
  by_cases e1 : s < st
  · exact h.2.2 s e ⟨n1, n2, n3, n4, n5, n6⟩ e1
  · by_cases e2 : s = st
    · have ei : e = i := by
        by_cases e3 : e < i
        · rcases n5 with w | w
          · omega
          · exact absurd w (h.2.1 e (by omega) e3)
        · by_cases e4 : i < e
          · rcases he with w | w
            · omega
            · exact absurd w (n6 i (by omega) e4)
          · omega
      rw [e2, ei]; exact hm
    · rcases n4 with w | w
      · omega
      · exact absurd w (h.2.1 (s - 1) (by omega) (by omega))
theorem nz_iv_next {l : List Int} {b : Int → Int} {bg en st i : Int} (h : nz_iv l b bg en st i) (s0 : 0 ≤ st) (s1 : st ≤ i) (i1 : i ≤ (l.length : Int)) (he : l[i.toNat]? = some 32) (hm : ¬ (i - st = en - bg ∧ nz_rd b l st bg (en - bg))) : nz_iv l b bg en (i + 1) (i + 1) :=
  ⟨Or.inr (by rw [show i + 1 - 1 = i by omega]; exact he), fun j h1 h2 => by omega, nz_iv_no h s0 s1 i1 (Or.inr he) hm⟩
theorem nz_iv_step {l : List Int} {b : Int → Int} {bg en st i v : Int} (h : nz_iv l b bg en st i) (hv : l[i.toNat]? = some v) (h32 : v ≠ 32) : nz_iv l b bg en st (i + 1) :=
  ⟨h.1, fun j h1 h2 => by
    by_cases e : j = i
    · rw [e, hv]; intro w; cases w; exact h32 rfl
    · exact h.2.1 j h1 (by omega), h.2.2⟩
section EzNi
variable {d : Nat} {h : cz_H} {τ : Nat → Nat} {Q : cz_F → Prop} {s : Nat} {l : List Int}
theorem rd_startsWith {bg en : Int} (hB : ez_B τ h) (t720 : τ 720 = 52) (ts : τ s = 27) (hS : nz_S h s l) (hl : l.length ≤ 1000) (b0 : 0 ≤ bg) (be : bg ≤ en) (e1 : en ≤ 4096) (k1 : (bg + (l.length : Int) ≤ en ∧ nz_rd (rz_b h) l 0 bg (l.length : Int)) → Q (.inl (some (ez_v (.inl 1))), h)) (k0 : ¬ (bg + (l.length : Int) ≤ en ∧ nz_rd (rz_b h) l 0 bg (l.length : Int)) → Q (.inl (some (ez_v (.inl 0))), h)) : ez_W (d + 5) cm_173 0 [(0, .inr (.inr (some (720)))), (1, .inr (.inr (some (s)))), (2, .inl (bg)), (3, .inl (en))] [] h Q := by
  refine ez_go (n := 2) (pc' := 2) (L' := [(0, .inr (.inr (some (720)))), (1, .inr (.inr (some (s)))), (2, .inl (bg)), (3, .inl (en))]) (st' := [.inr (.inr (some (s))), .inl (bg)]) rfl ?_
  refine ez_cv hB ts rfl rfl rfl tq_27 rfl rfl rfl (rd_slen0 hB ts hS (ez_K1 ?_))
  refine ez_go (n := 4) (pc' := 11) (L' := [(4, .inl ((bg) + ((l.length : Int)))), (0, .inr (.inr (some (720)))), (1, .inr (.inr (some (s)))), (2, .inl (bg)), (3, .inl (en))]) (st' := [.inl (en), .inl ((bg) + ((l.length : Int)))]) rfl ?_
  refine ez_icmp rfl rfl ⟨by first | omega | exact (sz_i32 _).1, by first | omega | exact (sz_i32 _).2⟩ ⟨by first | omega | exact (sz_i32 _).1, by first | omega | exact (sz_i32 _).2⟩ (fun (c1 : (en) < ((bg) + ((l.length : Int)))) => ?_) (fun (c1 : ¬((en) < ((bg) + ((l.length : Int))))) => ?_)
  · skip
    refine ez_go (n := 1) (pc' := 35) (L' := [(4, .inl ((bg) + ((l.length : Int)))), (0, .inr (.inr (some (720)))), (1, .inr (.inr (some (s)))), (2, .inl (bg)), (3, .inl (en))]) (st' := [.inl (0)]) rfl ?_
    exact ez_retZ rfl rfl (by decide) (k0 (fun w => by first | omega | exact e ⟨by omega, by rw [show bg + (l.length : Int) - bg = (l.length : Int) by omega]; exact w.2⟩))
  · skip
    refine ez_go (n := 4) (pc' := 18) (L' := [(4, .inl ((bg) + ((l.length : Int)))), (0, .inr (.inr (some (720)))), (1, .inr (.inr (some (s)))), (2, .inl (bg)), (3, .inl (en))]) (st' := [.inr (.inr (some (s))), .inl (0), .inr (.inr (some (s))), .inr (.inr (some (720)))]) rfl ?_
    refine ez_cv hB ts rfl rfl rfl tq_27 rfl rfl rfl (rd_slen0 hB ts hS (ez_K1 ?_))
    refine ez_go (n := 2) (pc' := 24) (L' := [(4, .inl ((bg) + ((l.length : Int)))), (0, .inr (.inr (some (720)))), (1, .inr (.inr (some (s)))), (2, .inl (bg)), (3, .inl (en))]) (st' := [.inl ((bg) + ((l.length : Int))), .inl (bg), .inl ((l.length : Int)), .inl (0), .inr (.inr (some (s))), .inr (.inr (some (720)))]) rfl ?_
    refine ez_cv hB t720 rfl rfl rfl tq_52 rfl rfl rfl (rd_reads hB t720 ts hS (by omega) (by omega) (by omega) (by omega) (by omega) (by omega) hl (fun e => ez_K1 ?_) (fun e => ez_K1 ?_))
    · skip
      refine ez_if rfl rfl ⟨by decide, by decide⟩ (fun (c2 : (1 : Int) = (0)) => absurd c2 (by decide)) (fun _ => ?_)
      refine ez_go (n := 2) (pc' := 35) (L' := [(4, .inl ((bg) + ((l.length : Int)))), (0, .inr (.inr (some (720)))), (1, .inr (.inr (some (s)))), (2, .inl (bg)), (3, .inl (en))]) (st' := [.inl (1)]) rfl ?_
      exact ez_retZ rfl rfl (by decide) (k1 ⟨by omega, by have e2 := e.2; rw [show bg + (l.length : Int) - bg = (l.length : Int) by omega] at e2; exact e2⟩)
    · skip
      refine ez_if rfl rfl ⟨by decide, by decide⟩ (fun _ => ?_) (fun (c3 : ¬((0 : Int) = (0))) => absurd c3 (by decide))
      refine ez_go (n := 1) (pc' := 35) (L' := [(4, .inl ((bg) + ((l.length : Int)))), (0, .inr (.inr (some (720)))), (1, .inr (.inr (some (s)))), (2, .inl (bg)), (3, .inl (en))]) (st' := [.inl (0)]) rfl ?_
      exact ez_retZ rfl rfl (by decide) (k0 (fun w => by first | omega | exact e ⟨by omega, by rw [show bg + (l.length : Int) - bg = (l.length : Int) by omega]; exact w.2⟩))

theorem rd_nameIndex_e {bg en n0 i st ix : Int} (hB : ez_B τ h) (t720 : τ 720 = 52) (ts : τ s = 27) (hS : nz_S h s l) (hl : l.length ≤ 1000) (b0 : 0 ≤ bg) (be : bg ≤ en) (e1 : en ≤ 4096) (hi : i = (l.length : Int)) (k : ∀ v : Int, -1 ≤ v → v ≤ (l.count 32 : Int) → (v = 0 ↔ (n0 = en - bg ∧ nz_rd (rz_b h) l 0 bg n0)) → nz_ni l (rz_b h) bg en v → Q (.inl (some (ez_v (.inl v))), h)) (hno : ¬ (n0 = en - bg ∧ nz_rd (rz_b h) l 0 bg n0)) (hnn : ∀ s e, nz_nm l s e → ¬ (e - s = en - bg ∧ nz_rd (rz_b h) l s bg (en - bg))) : ez_W (d + 5) cm_156 9 [(6, .inl (i + 1)), (5, .inl (st)), (4, .inl (ix)), (0, .inr (.inr (some (720)))), (1, .inr (.inr (some (s)))), (2, .inl (bg)), (3, .inl (en))] [] h Q := by
  refine ez_go (n := 2) (pc' := 12) (L' := [(6, .inl (i + 1)), (5, .inl (st)), (4, .inl (ix)), (0, .inr (.inr (some (720)))), (1, .inr (.inr (some (s)))), (2, .inl (bg)), (3, .inl (en))]) (st' := [.inr (.inr (some (s))), .inl (i + 1)]) rfl ?_
  refine ez_cv hB ts rfl rfl rfl tq_27 rfl rfl rfl (rd_slen0 hB ts hS (ez_K1 ?_))
  refine ez_icmp rfl rfl ⟨by first | omega | exact (sz_i32 _).1, by first | omega | exact (sz_i32 _).2⟩ ⟨by first | omega | exact (sz_i32 _).1, by first | omega | exact (sz_i32 _).2⟩ (fun (c1 : ((l.length : Int)) < (i + 1)) => ?_) (fun (c1 : ¬(((l.length : Int)) < (i + 1))) => ?_)
  · skip
    refine ez_go (n := 1) (pc' := 71) (L' := [(6, .inl (i + 1)), (5, .inl (st)), (4, .inl (ix)), (0, .inr (.inr (some (720)))), (1, .inr (.inr (some (s)))), (2, .inl (bg)), (3, .inl (en))]) (st' := [.inl (-1)]) rfl ?_
    exact ez_retI rfl rfl (k (-1) (by omega) (by omega) ⟨fun w => absurd w (by decide), fun w => absurd w hno⟩ (Or.inl ⟨rfl, hnn⟩))
  · exfalso; omega

theorem rd_nameIndex_l {bg en n0 : Int} (hB : ez_B τ h) (t720 : τ 720 = 52) (ts : τ s = 27) (hS : nz_S h s l) (hl : l.length ≤ 1000) (b0 : 0 ≤ bg) (be : bg ≤ en) (e1 : en ≤ 4096) (h0 : 0 ≤ n0) (h1 : n0 ≤ (l.length : Int)) (hn1 : ∀ j : Int, 0 ≤ j → j < n0 → ¬ l[j.toNat]? = some 32) (hn2 : n0 = (l.length : Int) ∨ l[n0.toNat]? = some 32) (k : ∀ v : Int, -1 ≤ v → v ≤ (l.count 32 : Int) → (v = 0 ↔ (n0 = en - bg ∧ nz_rd (rz_b h) l 0 bg n0)) → nz_ni l (rz_b h) bg en v → Q (.inl (some (ez_v (.inl v))), h)) : ∀ (n : Nat) (i st ix : Int), n = ((l.length : Int) - i).toNat → 0 ≤ i → i ≤ (l.length : Int) → 0 ≤ st → st ≤ i → ix = ((l.take i.toNat).count 32 : Int) → (ix = 0 → st = 0 ∧ i ≤ n0) → (ix ≠ 0 → ¬ (n0 = en - bg ∧ nz_rd (rz_b h) l 0 bg n0)) → nz_iv l (rz_b h) bg en st i → ez_W (d + 5) cm_156 9 [(6, .inl (i)), (5, .inl (st)), (4, .inl (ix)), (0, .inr (.inr (some (720)))), (1, .inr (.inr (some (s)))), (2, .inl (bg)), (3, .inl (en))] [] h Q := by
  intro n
  induction n with
  | zero =>
    intro i st ix hm i0 i1 s0 s1 hix hz hp hv9
    have hc := nz_cntle l i.toNat
    have hcl := l.count_le_length (a := 32)
    have hz0 : ix = 0 → i = n0 := fun w => by have w2 := hz w; omega
    refine ez_go (n := 2) (pc' := 12) (L' := [(6, .inl (i)), (5, .inl (st)), (4, .inl (ix)), (0, .inr (.inr (some (720)))), (1, .inr (.inr (some (s)))), (2, .inl (bg)), (3, .inl (en))]) (st' := [.inr (.inr (some (s))), .inl (i)]) rfl ?_
    refine ez_cv hB ts rfl rfl rfl tq_27 rfl rfl rfl (rd_slen0 hB ts hS (ez_K1 ?_))
    refine ez_icmp rfl rfl ⟨by first | omega | exact (sz_i32 _).1, by first | omega | exact (sz_i32 _).2⟩ ⟨by first | omega | exact (sz_i32 _).1, by first | omega | exact (sz_i32 _).2⟩ (fun (c1 : ((l.length : Int)) < (i)) => ?_) (fun (c1 : ¬(((l.length : Int)) < (i))) => ?_)
    · exfalso; omega
    · skip
      refine ez_go (n := 2) (pc' := 21) (L' := [(6, .inl (i)), (5, .inl (st)), (4, .inl (ix)), (0, .inr (.inr (some (720)))), (1, .inr (.inr (some (s)))), (2, .inl (bg)), (3, .inl (en))]) (st' := [.inr (.inr (some (s))), .inl (i)]) rfl ?_
      refine ez_cv hB ts rfl rfl rfl tq_27 rfl rfl rfl (rd_slen0 hB ts hS (ez_K1 ?_))
      refine ez_icmp rfl rfl ⟨by first | omega | exact (sz_i32 _).1, by first | omega | exact (sz_i32 _).2⟩ ⟨by first | omega | exact (sz_i32 _).1, by first | omega | exact (sz_i32 _).2⟩ (fun (c2 : (i) = ((l.length : Int))) => ?_) (fun (c2 : ¬((i) = ((l.length : Int)))) => ?_)
      · skip
        refine ez_go (n := 6) (pc' := 46) (L' := [(6, .inl (i)), (5, .inl (st)), (4, .inl (ix)), (0, .inr (.inr (some (720)))), (1, .inr (.inr (some (s)))), (2, .inl (bg)), (3, .inl (en))]) (st' := [.inl (en), .inl (bg), .inl (i), .inl (st), .inr (.inr (some (s))), .inr (.inr (some (720)))]) rfl ?_
        refine ez_cv hB t720 rfl rfl rfl tq_52 rfl rfl rfl (rd_reads hB t720 ts hS (by omega) (by omega) (by omega) (by omega) (by omega) (by omega) hl (fun e => ez_K1 ?_) (fun e => ez_K1 ?_))
        · skip
          refine ez_if rfl rfl ⟨by decide, by decide⟩ (fun (c3 : (1 : Int) = (0)) => absurd c3 (by decide)) (fun _ => ?_)
          refine ez_go (n := 1) (pc' := 54) (L' := [(6, .inl (i)), (5, .inl (st)), (4, .inl (ix)), (0, .inr (.inr (some (720)))), (1, .inr (.inr (some (s)))), (2, .inl (bg)), (3, .inl (en))]) (st' := [.inl (ix)]) rfl ?_
          have en0 := hz0
          exact ez_retI rfl rfl (k ix (by omega) (by omega) ⟨fun w => by have w1 := en0 w; have w2 := hz w; exact ⟨by omega, by rw [show n0 = en - bg by omega, ← w2.1]; exact e.2⟩, fun w => by
            by_cases w1 : ix = 0
            · exact w1
            · exact absurd w (hp w1)⟩ (nz_iv_hit hv9 s0 s1 i1 (Or.inl (by omega)) ⟨by omega, e.2⟩ hix))
        · skip
          refine ez_if rfl rfl ⟨by decide, by decide⟩ (fun _ => ?_) (fun (c4 : ¬((0 : Int) = (0))) => absurd c4 (by decide))
          refine ez_go (n := 7) (pc' := 9) (L' := [(6, .inl (i + 1)), (5, .inl ((i) + (1))), (4, .inl (ix + 1)), (0, .inr (.inr (some (720)))), (1, .inr (.inr (some (s)))), (2, .inl (bg)), (3, .inl (en))]) (st' := []) rfl ?_
          refine ez_less [(6, .inl (i + 1)), (5, .inl ((i) + (1))), (4, .inl (ix + 1)), (0, .inr (.inr (some (720)))), (1, .inr (.inr (some (s)))), (2, .inl (bg)), (3, .inl (en))] rfl ⟨rfl, rfl, rfl, rfl, rfl, rfl, rfl, trivial⟩ ?_
          exact rd_nameIndex_e hB t720 ts hS hl (by omega) (by omega) (by omega) (by omega) k (fun w => by by_cases w1 : ix = 0; (· have w2 := hz w1; have w3 := hz0 w1; exact e ⟨by omega, by rw [← w.1, w2.1]; exact w.2⟩); (· exact hp w1 w)) (fun s9 e9 n9 => nz_iv_no hv9 s0 s1 i1 (Or.inl (by omega)) (fun w => e ⟨by omega, w.2⟩) s9 e9 n9 (by have := n9.2.1; have := n9.2.2.1; omega))
      · exfalso; omega
  | succ n ih =>
    intro i st ix hm i0 i1 s0 s1 hix hz hp hv9
    have hc := nz_cntle l i.toNat
    have hcl := l.count_le_length (a := 32)
    refine ez_go (n := 2) (pc' := 12) (L' := [(6, .inl (i)), (5, .inl (st)), (4, .inl (ix)), (0, .inr (.inr (some (720)))), (1, .inr (.inr (some (s)))), (2, .inl (bg)), (3, .inl (en))]) (st' := [.inr (.inr (some (s))), .inl (i)]) rfl ?_
    refine ez_cv hB ts rfl rfl rfl tq_27 rfl rfl rfl (rd_slen0 hB ts hS (ez_K1 ?_))
    refine ez_icmp rfl rfl ⟨by first | omega | exact (sz_i32 _).1, by first | omega | exact (sz_i32 _).2⟩ ⟨by first | omega | exact (sz_i32 _).1, by first | omega | exact (sz_i32 _).2⟩ (fun (c1 : ((l.length : Int)) < (i)) => ?_) (fun (c1 : ¬(((l.length : Int)) < (i))) => ?_)
    · exfalso; omega
    · skip
      refine ez_go (n := 2) (pc' := 21) (L' := [(6, .inl (i)), (5, .inl (st)), (4, .inl (ix)), (0, .inr (.inr (some (720)))), (1, .inr (.inr (some (s)))), (2, .inl (bg)), (3, .inl (en))]) (st' := [.inr (.inr (some (s))), .inl (i)]) rfl ?_
      refine ez_cv hB ts rfl rfl rfl tq_27 rfl rfl rfl (rd_slen0 hB ts hS (ez_K1 ?_))
      refine ez_icmp rfl rfl ⟨by first | omega | exact (sz_i32 _).1, by first | omega | exact (sz_i32 _).2⟩ ⟨by first | omega | exact (sz_i32 _).1, by first | omega | exact (sz_i32 _).2⟩ (fun (c2 : (i) = ((l.length : Int))) => ?_) (fun (c2 : ¬((i) = ((l.length : Int)))) => ?_)
      · exfalso; omega
      · skip
        refine ez_go (n := 2) (pc' := 30) (L' := [(6, .inl (i)), (5, .inl (st)), (4, .inl (ix)), (0, .inr (.inr (some (720)))), (1, .inr (.inr (some (s)))), (2, .inl (bg)), (3, .inl (en))]) (st' := [.inl (i), .inr (.inr (some (s)))]) rfl ?_
        refine ez_cv hB ts rfl rfl rfl tq_27 rfl rfl rfl (rd_charAt0 hB ts hS (by omega) (by omega) (fun v v1 v2 v3 => ez_K1 ?_))
        refine ez_go (n := 1) (pc' := 35) (L' := [(6, .inl (i)), (5, .inl (st)), (4, .inl (ix)), (0, .inr (.inr (some (720)))), (1, .inr (.inr (some (s)))), (2, .inl (bg)), (3, .inl (en))]) (st' := [.inl (32), .inl (v)]) rfl ?_
        refine ez_icmp rfl rfl ⟨by first | omega | exact (sz_i32 _).1, by first | omega | exact (sz_i32 _).2⟩ ⟨by first | omega | exact (sz_i32 _).1, by first | omega | exact (sz_i32 _).2⟩ (fun (c3 : (v) ≠ (32)) => ?_) (fun (c3 : ¬((v) ≠ (32))) => ?_)
        · skip
          refine ez_go (n := 2) (pc' := 9) (L' := [(6, .inl (i + 1)), (5, .inl (st)), (4, .inl (ix)), (0, .inr (.inr (some (720)))), (1, .inr (.inr (some (s)))), (2, .inl (bg)), (3, .inl (en))]) (st' := []) rfl ?_
          refine ez_less [(6, .inl (i + 1)), (5, .inl (st)), (4, .inl (ix)), (0, .inr (.inr (some (720)))), (1, .inr (.inr (some (s)))), (2, .inl (bg)), (3, .inl (en))] rfl ⟨rfl, rfl, rfl, rfl, rfl, rfl, rfl, trivial⟩ ?_
          have hc1 := nz_cnt0 v1 (by omega)
          refine ih _ _ _ (by omega) (by omega) (by omega) s0 (by omega) (by rw [show (i + 1).toNat = i.toNat + 1 by omega, hc1]; exact hix) (fun w => ?_) hp (nz_iv_step hv9 v1 (by omega))
          have w2 := hz w
          refine ⟨w2.1, ?_⟩
          by_cases e9 : i = n0
          · exfalso; rcases hn2 with q | q
            · omega
            · rw [← e9, v1] at q; cases q; omega
          · omega
        · skip
          refine ez_go (n := 6) (pc' := 46) (L' := [(6, .inl (i)), (5, .inl (st)), (4, .inl (ix)), (0, .inr (.inr (some (720)))), (1, .inr (.inr (some (s)))), (2, .inl (bg)), (3, .inl (en))]) (st' := [.inl (en), .inl (bg), .inl (i), .inl (st), .inr (.inr (some (s))), .inr (.inr (some (720)))]) rfl ?_
          refine ez_cv hB t720 rfl rfl rfl tq_52 rfl rfl rfl (rd_reads hB t720 ts hS (by omega) (by omega) (by omega) (by omega) (by omega) (by omega) hl (fun e => ez_K1 ?_) (fun e => ez_K1 ?_))
          · skip
            refine ez_if rfl rfl ⟨by decide, by decide⟩ (fun (c4 : (1 : Int) = (0)) => absurd c4 (by decide)) (fun _ => ?_)
            refine ez_go (n := 1) (pc' := 54) (L' := [(6, .inl (i)), (5, .inl (st)), (4, .inl (ix)), (0, .inr (.inr (some (720)))), (1, .inr (.inr (some (s)))), (2, .inl (bg)), (3, .inl (en))]) (st' := [.inl (ix)]) rfl ?_
            have v1 : l[i.toNat]? = some 32 := by rw [v1]; congr 1; omega
            have en0 : ix = 0 → i = n0 := fun w => by
              have w2 := hz w
              by_cases e9 : i = n0
              · exact e9
              · exact absurd v1 (hn1 i i0 (by omega))
            exact ez_retI rfl rfl (k ix (by omega) (by omega) ⟨fun w => by have w1 := en0 w; have w2 := hz w; exact ⟨by omega, by rw [show n0 = en - bg by omega, ← w2.1]; exact e.2⟩, fun w => by
              by_cases w1 : ix = 0
              · exact w1
              · exact absurd w (hp w1)⟩ (nz_iv_hit hv9 s0 s1 i1 (Or.inr v1) ⟨by omega, e.2⟩ hix))
          · skip
            refine ez_if rfl rfl ⟨by decide, by decide⟩ (fun _ => ?_) (fun (c5 : ¬((0 : Int) = (0))) => absurd c5 (by decide))
            refine ez_go (n := 7) (pc' := 9) (L' := [(6, .inl (i + 1)), (5, .inl ((i) + (1))), (4, .inl (ix + 1)), (0, .inr (.inr (some (720)))), (1, .inr (.inr (some (s)))), (2, .inl (bg)), (3, .inl (en))]) (st' := []) rfl ?_
            refine ez_less [(6, .inl (i + 1)), (5, .inl ((i) + (1))), (4, .inl (ix + 1)), (0, .inr (.inr (some (720)))), (1, .inr (.inr (some (s)))), (2, .inl (bg)), (3, .inl (en))] rfl ⟨rfl, rfl, rfl, rfl, rfl, rfl, rfl, trivial⟩ ?_
            have v1 : l[i.toNat]? = some 32 := by rw [v1]; congr 1; omega
            have hni : ix = 0 → i = n0 := fun w => by
              have w2 := hz w
              by_cases e9 : i = n0
              · exact e9
              · exact absurd v1 (hn1 i i0 (by omega))
            have hc1 := nz_cnt1 v1
            refine ih _ _ _ (by omega) (by omega) (by omega) (by omega) (by omega) (by rw [show (i + 1).toNat = i.toNat + 1 by omega, hc1]; omega) (fun w => by omega) (fun _ w => ?_) (nz_iv_next hv9 s0 s1 i1 v1 (fun w => e ⟨by omega, w.2⟩))
            by_cases w1 : ix = 0
            · have w2 := hz w1; have w3 := hni w1; exact e ⟨by omega, by rw [← w.1, w2.1]; exact w.2⟩
            · exact hp w1 w
theorem rd_nameIndex {bg en : Int} (n0 : Int) (hB : ez_B τ h) (t720 : τ 720 = 52) (ts : τ s = 27) (hS : nz_S h s l) (hl : l.length ≤ 1000) (b0 : 0 ≤ bg) (be : bg ≤ en) (e1 : en ≤ 4096) (h0 : 0 ≤ n0) (h1 : n0 ≤ (l.length : Int)) (hn1 : ∀ j : Int, 0 ≤ j → j < n0 → ¬ l[j.toNat]? = some 32) (hn2 : n0 = (l.length : Int) ∨ l[n0.toNat]? = some 32) (k : ∀ v : Int, -1 ≤ v → v ≤ (l.count 32 : Int) → (v = 0 ↔ (n0 = en - bg ∧ nz_rd (rz_b h) l 0 bg n0)) → nz_ni l (rz_b h) bg en v → Q (.inl (some (ez_v (.inl v))), h)) : ez_W (d + 5) cm_156 0 [(0, .inr (.inr (some (720)))), (1, .inr (.inr (some (s)))), (2, .inl (bg)), (3, .inl (en))] [] h Q := by
  refine ez_go (n := 6) (pc' := 9) (L' := [(6, .inl (0)), (5, .inl (0)), (4, .inl (0)), (0, .inr (.inr (some (720)))), (1, .inr (.inr (some (s)))), (2, .inl (bg)), (3, .inl (en))]) (st' := []) rfl ?_
  refine ez_less [(6, .inl (0)), (5, .inl (0)), (4, .inl (0)), (0, .inr (.inr (some (720)))), (1, .inr (.inr (some (s)))), (2, .inl (bg)), (3, .inl (en))] rfl ⟨rfl, rfl, rfl, rfl, rfl, rfl, rfl, trivial⟩ ?_
  exact rd_nameIndex_l hB t720 ts hS hl b0 be e1 h0 h1 hn1 hn2 k _ 0 0 0 rfl (by omega) (by omega) (by omega) (by omega) rfl (fun _ => ⟨rfl, h0⟩) (fun w => absurd rfl w) ⟨Or.inl rfl, fun j h1 h2 => by omega, fun s e n9 h9 => by have := n9.1; omega⟩

end EzNi
/-! Spans: what is told of some, in general; setProperty, tellProperty. (Written by wip/p2/py/pv19.py.) -/
/-- what telling does of the points from first to last, by a relation of each slot of a span before and behind it -/
def sz_toldR (τ : Nat → Nat) (h g : cz_H) (first last : Int) (Rl : Prop → Nat → Int → Int → Prop) : Prop := sz_ok g ∧ sz_inj g ∧ ez_fr (sz_PS τ) h g ∧ (∀ j, j ≠ 1 → qz_I g 202 j = qz_I h 202 j) ∧ qz_I g 202 1 ≤ qz_I h 202 1 + 2 ∧ ∀ x k, 0 ≤ x → x ≤ 1114111 → sz_at g x k → ∃ k', sz_at h x k' ∧ ∀ j, 1 ≤ j → j ≤ 8 → Rl (first ≤ x ∧ x ≤ last) j (qz_I h (sz_p h k') j) (qz_I g (sz_p g k) j)
theorem sz_tellR {τ : Nat → Nat} {h g1 g2 g3 : cz_H} {first last a b : Int} {Rl : Prop → Nat → Int → Int → Prop} (hR0 : ∀ P u v, Rl P 0 u v → v = u) (t202 : τ 202 = 48) (t203 : τ 203 = 49) (f0 : 0 ≤ first) (fl : first ≤ last) (l1 : last ≤ 1114111) (hn : qz_I h 202 1 + 2 ≤ 513)
    (x1 : ez_fr (sz_PS τ) h g1) (x2 : ∀ j, j ≠ 1 → qz_I g1 202 j = qz_I h 202 j) (x4 : qz_I g1 202 1 ≤ qz_I h 202 1 + 1) (x5 : ∀ x k, sz_at g1 x k → ∃ k', sz_at h x k' ∧ ∀ j, 1 ≤ j → j ≤ 8 → qz_I g1 (sz_p g1 k) j = qz_I h (sz_p h k') j) (x6 : 0 ≤ a ∧ a < qz_I g1 202 1 ∧ sz_f g1 a = first)
    (y0 : sz_ok g2) (yi : sz_inj g2) (y1 : ez_fr (sz_PS τ) g1 g2) (y2 : ∀ j, j ≠ 1 → qz_I g2 202 j = qz_I g1 202 j) (y3 : qz_I g1 202 1 ≤ qz_I g2 202 1) (y4 : qz_I g2 202 1 ≤ qz_I g1 202 1 + 1) (y5 : ∀ x k, sz_at g2 x k → ∃ k', sz_at g1 x k' ∧ ∀ j, 1 ≤ j → j ≤ 8 → qz_I g2 (sz_p g2 k) j = qz_I g1 (sz_p g1 k') j) (y6 : ∀ k, 0 ≤ k → k < qz_I g1 202 1 → sz_f g1 k ≤ last + 1 → sz_f g2 k = sz_f g1 k) (y7 : 1114111 < last + 1 → b = qz_I g2 202 1) (y8 : last + 1 ≤ 1114111 → qz_I g1 202 1 < 513 → 0 ≤ b ∧ b < qz_I g2 202 1 ∧ sz_f g2 b = last + 1)
    (z1 : ez_fr (sz_P4 τ) g2 g3) (z2 : ∀ (k : Int) (j : Nat), 0 ≤ k → k < 513 → j ≤ 8 → Rl (a ≤ k ∧ k < b) j (qz_I g2 (sz_p g2 k) j) (qz_I g3 (sz_p g2 k) j)) : sz_toldR τ h g3 first last Rl := by
  have n3 : ∀ j, qz_I g3 202 j = qz_I g2 202 j := fun j => sz_P4_n z1 t202 j
  have p3 : ∀ k, sz_p g3 k = sz_p g2 k := fun k => sz_P4_p z1 t203 k
  have f3 : ∀ k, 0 ≤ k → k < 513 → sz_f g3 k = sz_f g2 k := fun k k0 k1 => by
    unfold sz_f
    rw [p3]
    exact hR0 _ _ _ (z2 k 0 k0 k1 (by omega))
  have fa : sz_f g2 a = first := by rw [y6 a x6.1 x6.2.1 (by omega)]; exact x6.2.2
  refine ⟨⟨?_, ?_⟩, ?_, (x1.trans y1).trans (sz_P4_S z1), fun j hj => ((n3 j).trans (y2 j hj)).trans (x2 j hj), by rw [n3]; omega, ?_⟩
  · rw [f3 0 (by omega) (by omega)]; exact y0.1
  · intro i j i0 ij jn
    rw [n3] at jn
    rw [f3 i i0 (by omega), f3 j (by omega) (by omega)]
    exact y0.2 i j i0 ij jn
  · intro i j i0 i1 j0 j1 e
    rw [p3, p3] at e
    exact yi i j i0 i1 j0 j1 e
  · intro x k v0 v1 hk
    obtain ⟨k0, k1, k2, k3⟩ := hk
    rw [n3] at k1 k3
    rw [f3 k k0 (by omega)] at k2
    have k3 : k + 1 < qz_I g2 202 1 → x < sz_f g2 (k + 1) := fun w => by have := k3 w; rw [f3 (k + 1) (by omega) (by omega)] at this; exact this
    obtain ⟨k', w1, w2⟩ := y5 x k ⟨k0, k1, k2, k3⟩
    obtain ⟨k'', u1, u2⟩ := x5 x k' w1
    have ha : a ≤ k ↔ first ≤ x := by
      constructor
      · intro w
        have := sz_mono y0 x6.1 w k1
        omega
      · intro w
        by_cases e : a ≤ k
        · exact e
        · exfalso
          have q1 := k3 (by omega)
          have q2 := sz_mono y0 (i := k + 1) (j := a) (by omega) (by omega) (by omega)
          omega
    have hb : k < b ↔ x ≤ last := by
      by_cases e : 1114111 < last + 1
      · have := y7 e
        constructor
        · intro _; omega
        · intro _; omega
      · obtain ⟨b0, b1, b2⟩ := y8 (by omega) (by omega)
        constructor
        · intro w
          have q1 := k3 (by omega)
          have q2 := sz_mono y0 (i := k + 1) (j := b) (by omega) (by omega) b1
          omega
        · intro w
          by_cases e2 : k < b
          · exact e2
          · exfalso
            have q2 := sz_mono y0 (i := b) (j := k) b0 (by omega) k1
            omega
    have hab : (a ≤ k ∧ k < b) = (first ≤ x ∧ x ≤ last) := by rw [propext ha, propext hb]
    refine ⟨k'', u1, fun j j1 j8 => ?_⟩
    have := z2 k j k0 (by omega) j8
    rw [hab, w2 j j1 j8, u2 j j1 j8] at this
    rw [p3]
    exact this
theorem sz_R_n1 {τ : Nat → Nat} {h : cz_H} (hB : ez_B τ h) (t202 : τ 202 = 48) : 1 ≤ qz_I h 202 1 ∧ qz_I h 202 1 ≤ 513 := ez_fB (cl := 2) hB t202 tq_48 rfl rfl (by decide)
/-- what setProperty makes of a slot -/
def sz_set (group name : Int) (j : Nat) (v : Int) : Int := if j = 2 ∧ group = 2 then (Int32.ofInt v ||| Int32.ofInt (Int32.ofInt 1 <<< (Int32.ofInt name &&& 31)).toInt).toInt else if j = 3 ∧ group = 0 then name else if j = 4 ∧ group ≠ 2 ∧ group ≠ 0 then name else v
theorem sz_i32 (x : Int32) : -2147483648 ≤ x.toInt ∧ x.toInt ≤ 2147483647 := by
  have h1 := Int32.le_toInt x
  have h2 := Int32.toInt_lt x
  exact ⟨by omega, by omega⟩
section EzTp
variable {d : Nat} {h : cz_H} {τ : Nat → Nat} {Q : cz_F → Prop} {r : Nat}
theorem sz_rdn {n : Int} (h : -2147483648 ≤ n ∧ n ≤ 2147483647) : dz_n (ez_v (.inl n)) = n := rz_rd h
theorem rd_setProperty {z : Nat} {group name : Int} (hB : ez_B τ h) (tz : τ z = 4) (g0 : 0 ≤ group) (g2 : group ≤ 2) (n0 : 0 ≤ name) (n1 : name ≤ 1000) (k : ∀ g, ez_B τ g → ez_fr (ez_one z) h g → (∀ j, qz_I g z j = sz_set group name j (qz_I h z j)) → Q (.inl none, g)) : ez_W d cm_185 0 [(0, .inr (.inr (some (z)))), (1, .inl (group)), (2, .inl (name))] [] h Q := by
  refine ez_go (n := 2) (pc' := 2) (L' := [(0, .inr (.inr (some (z)))), (1, .inl (group)), (2, .inl (name))]) (st' := [.inl (2), .inl (group)]) rfl ?_
  refine ez_icmp rfl rfl ⟨by first | omega | exact (sz_i32 _).1, by first | omega | exact (sz_i32 _).2⟩ ⟨by first | omega | exact (sz_i32 _).1, by first | omega | exact (sz_i32 _).2⟩ (fun (c1 : (group) ≠ (2)) => ?_) (fun (c1 : ¬((group) ≠ (2))) => ?_)
  · skip
    refine ez_go (n := 1) (pc' := 21) (L' := [(0, .inr (.inr (some (z)))), (1, .inl (group)), (2, .inl (name))]) (st' := [.inl (group)]) rfl ?_
    refine ez_if rfl rfl ⟨by first | omega | exact (sz_i32 _).1, by first | omega | exact (sz_i32 _).2⟩ (fun (c2 : (group) ≠ (0)) => ?_) (fun (c2 : ¬((group) ≠ (0))) => ?_)
    · skip
      refine ez_go (n := 2) (pc' := 34) (L' := [(0, .inr (.inr (some (z)))), (1, .inl (group)), (2, .inl (name))]) (st' := [.inl (name), .inr (.inr (some (z)))]) rfl ?_
      refine ez_pf hB tz rfl rfl tq_4 rfl rfl rfl rfl (ez_vdI rfl rfl (by first | exact (sz_i32 _).1 | omega) (by first | exact (sz_i32 _).2 | omega)) (fun hB3 w4 => ?_)
      refine ez_ret0 rfl rfl (k _ hB3 ((ez_fr.refl (ez_one z) h).put (show Nat.beq z z = true from Nat.beq_refl z) _ _) (fun j => ?_))
      by_cases e : j = 4
      · subst e; rw [w4]; unfold sz_set; rw [if_neg (by omega), if_neg (by omega), if_pos (by omega)]; exact (sz_rdn ⟨by omega, by omega⟩)
      · rw [ez_put_I (fun w => e w.2)]; unfold sz_set; rw [if_neg (by omega), if_neg (by omega), if_neg (by omega)]
    · skip
      refine ez_go (n := 2) (pc' := 26) (L' := [(0, .inr (.inr (some (z)))), (1, .inl (group)), (2, .inl (name))]) (st' := [.inl (name), .inr (.inr (some (z)))]) rfl ?_
      refine ez_pf hB tz rfl rfl tq_4 rfl rfl rfl rfl (ez_vdI rfl rfl (by first | exact (sz_i32 _).1 | omega) (by first | exact (sz_i32 _).2 | omega)) (fun hB5 w6 => ?_)
      refine ez_go (n := 1) (pc' := 37) (L' := [(0, .inr (.inr (some (z)))), (1, .inl (group)), (2, .inl (name))]) (st' := []) rfl ?_
      refine ez_ret0 rfl rfl (k _ hB5 ((ez_fr.refl (ez_one z) h).put (show Nat.beq z z = true from Nat.beq_refl z) _ _) (fun j => ?_))
      by_cases e : j = 3
      · subst e; rw [w6]; unfold sz_set; rw [if_neg (by omega), if_pos (by omega)]; exact (sz_rdn ⟨by omega, by omega⟩)
      · rw [ez_put_I (fun w => e w.2)]; unfold sz_set; rw [if_neg (by omega), if_neg (by omega), if_neg (by omega)]
  · skip
    refine ez_go (n := 2) (pc' := 7) (L' := [(0, .inr (.inr (some (z)))), (1, .inl (group)), (2, .inl (name))]) (st' := [.inr (.inr (some (z))), .inr (.inr (some (z)))]) rfl ?_
    refine ez_gI hB tz rfl rfl tq_4 rfl rfl (fun (b7 : -2147483648 ≤ qz_I h z 2) (b7' : qz_I h z 2 ≤ 2147483647) => ?_)
    refine ez_go (n := 4) (pc' := 14) (L' := [(0, .inr (.inr (some (z)))), (1, .inl (group)), (2, .inl (name))]) (st' := [.inl ((Int32.ofInt (qz_I h z 2) ||| Int32.ofInt ((Int32.ofInt (1) <<< (Int32.ofInt (name) &&& 31)).toInt)).toInt), .inr (.inr (some (z)))]) rfl ?_
    refine ez_pf hB tz rfl rfl tq_4 rfl rfl rfl rfl (ez_vdI rfl rfl (by first | exact (sz_i32 _).1 | omega) (by first | exact (sz_i32 _).2 | omega)) (fun hB8 w9 => ?_)
    refine ez_go (n := 1) (pc' := 37) (L' := [(0, .inr (.inr (some (z)))), (1, .inl (group)), (2, .inl (name))]) (st' := []) rfl ?_
    refine ez_ret0 rfl rfl (k _ hB8 ((ez_fr.refl (ez_one z) h).put (show Nat.beq z z = true from Nat.beq_refl z) _ _) (fun j => ?_))
    by_cases e : j = 2
    · subst e; rw [w9]; unfold sz_set; rw [if_pos (by omega)]; exact (sz_rdn (sz_i32 _))
    · rw [ez_put_I (fun w => e w.2)]; unfold sz_set; rw [if_neg (by omega), if_neg (by omega), if_neg (by omega)]

theorem rd_tellProperty_l {a b first last group name : Int} (t202 : τ 202 = 48) (t203 : τ 203 = 49) (g0 : 0 ≤ group) (g2 : group ≤ 2) (n0 : 0 ≤ name) (n1 : name ≤ 1000) (hinj : sz_inj h) (a0 : 0 ≤ a) (b1 : b ≤ 513) (kx : ∀ g, ez_B τ g → ez_fr (sz_P4 τ) h g → (∀ (k : Int) (j : Nat), 0 ≤ k → k < 513 → qz_I g (sz_p h k) j = if a ≤ k ∧ k < b then sz_set group name j (qz_I h (sz_p h k) j) else qz_I h (sz_p h k) j) → Q (.inl none, g)) : ∀ (m : Nat) (i : Int) (g : cz_H), m = (b - i).toNat → a ≤ i → i ≤ b → ez_B τ g → ez_fr (sz_P4 τ) h g → (∀ (k : Int) (j : Nat), 0 ≤ k → k < 513 → qz_I g (sz_p h k) j = if a ≤ k ∧ k < i then sz_set group name j (qz_I h (sz_p h k) j) else qz_I h (sz_p h k) j) → ez_W (d + 1) cm_107 20 [(7, .inl (i)), (6, .inl (b)), (5, .inl (a)), (0, .inr (.inr (some (202)))), (1, .inl (first)), (2, .inl (last)), (3, .inl (group)), (4, .inl (name))] [] g Q := by
  intro m
  induction m with
  | zero =>
    intro i g hm a1 a2 hB hf hv
    refine ez_go (n := 2) (pc' := 24) (L' := [(7, .inl (i)), (6, .inl (b)), (5, .inl (a)), (0, .inr (.inr (some (202)))), (1, .inl (first)), (2, .inl (last)), (3, .inl (group)), (4, .inl (name))]) (st' := [.inl (b), .inl (i)]) rfl ?_
    refine ez_icmp rfl rfl ⟨by first | omega | exact (sz_i32 _).1, by first | omega | exact (sz_i32 _).2⟩ ⟨by first | omega | exact (sz_i32 _).1, by first | omega | exact (sz_i32 _).2⟩ (fun (c1 : (b) ≤ (i)) => ?_) (fun (c1 : ¬((b) ≤ (i))) => ?_)
    · skip
      exact ez_ret0 rfl rfl (kx g hB hf (by rw [show b = i by omega]; exact hv))
    · exfalso; omega
  | succ m ih =>
    intro i g hm a1 a2 hB hf hv
    refine ez_go (n := 2) (pc' := 24) (L' := [(7, .inl (i)), (6, .inl (b)), (5, .inl (a)), (0, .inr (.inr (some (202)))), (1, .inl (first)), (2, .inl (last)), (3, .inl (group)), (4, .inl (name))]) (st' := [.inl (b), .inl (i)]) rfl ?_
    refine ez_icmp rfl rfl ⟨by first | omega | exact (sz_i32 _).1, by first | omega | exact (sz_i32 _).2⟩ ⟨by first | omega | exact (sz_i32 _).1, by first | omega | exact (sz_i32 _).2⟩ (fun (c1 : (b) ≤ (i)) => ?_) (fun (c1 : ¬((b) ≤ (i))) => ?_)
    · exfalso; omega
    · skip
      refine ez_go (n := 1) (pc' := 28) (L' := [(7, .inl (i)), (6, .inl (b)), (5, .inl (a)), (0, .inr (.inr (some (202)))), (1, .inl (first)), (2, .inl (last)), (3, .inl (group)), (4, .inl (name))]) (st' := [.inr (.inr (some (202)))]) rfl ?_
      refine ez_gC (p := 203) (tg := 49) hB t202 rfl rfl tq_48 rfl rfl (fun (t203 : _ = 49) => ?_)
      refine ez_go (n := 1) (pc' := 33) (L' := [(7, .inl (i)), (6, .inl (b)), (5, .inl (a)), (0, .inr (.inr (some (202)))), (1, .inl (first)), (2, .inl (last)), (3, .inl (group)), (4, .inl (name))]) (st' := [.inl (i), .inr (.inr (some (203)))]) rfl ?_
      have n3 : 513 ≤ qz_N g 203 ∧ qz_N g 203 ≤ 513 := ez_len hB t203 tq_49 rfl
      have y4 : 1 ≤ qz_I g 203 (i).toNat ∧ qz_I g 203 (i).toNat ≤ 1000000 := ez_aB hB t203 tq_49 rfl rfl (by decide) (by omega) (by omega)
      have y4' : ((qz_P g 203 (i).toNat : Nat) : Int) + 1 = qz_I g 203 (i).toNat := by unfold qz_P; omega
      refine ez_aR hB t203 rfl tq_49 rfl rfl (by omega) (by omega) (by omega) (fun (t2 : _ = 4) => ?_)
      refine ez_go (n := 2) (pc' := 37) (L' := [(7, .inl (i)), (6, .inl (b)), (5, .inl (a)), (0, .inr (.inr (some (202)))), (1, .inl (first)), (2, .inl (last)), (3, .inl (group)), (4, .inl (name))]) (st' := [.inl (name), .inl (group), .inr (.inr (some (qz_P g 203 (i).toNat)))]) rfl ?_
      have hz : qz_P g 203 (i).toNat = sz_p h i := sz_P4_p hf t203 i
      have tz : τ (qz_P g 203 (i).toNat) = 4 := t2
      refine ez_cv hB t2 rfl rfl rfl tq_4 rfl rfl rfl (rd_setProperty hB tz g0 g2 n0 n1 (fun g1 hB1 x1 v1 => ez_K0 ?_))
      rw [hz] at v1 x1 tz
      refine ez_go (n := 2) (pc' := 20) (L' := [(7, .inl (i + 1)), (6, .inl (b)), (5, .inl (a)), (0, .inr (.inr (some (202)))), (1, .inl (first)), (2, .inl (last)), (3, .inl (group)), (4, .inl (name))]) (st' := []) rfl ?_
      refine ez_less [(7, .inl (i + 1)), (6, .inl (b)), (5, .inl (a)), (0, .inr (.inr (some (202)))), (1, .inl (first)), (2, .inl (last)), (3, .inl (group)), (4, .inl (name))] rfl ⟨rfl, rfl, rfl, rfl, rfl, rfl, rfl, rfl, trivial⟩ ?_
      refine ih _ _ (by omega) (by omega) (by omega) hB1 (hf.trans ⟨x1.1, x1.2.1, fun q hq => x1.2.2 q (dz_beq_ne (fun e => by rw [e] at hq; unfold sz_P4 at hq; rw [tz] at hq; cases hq))⟩) (fun k j k0 k1 => ?_)
      by_cases e : k = i
      · subst e; rw [if_pos (by omega), v1 j, hv k j k0 k1, if_neg (by omega)]
      · rw [x1.I (dz_beq_ne (fun w => e (hinj k i k0 k1 (by omega) (by omega) w))), hv k j k0 k1]
        by_cases e2 : a ≤ k ∧ k < i
        · rw [if_pos e2, if_pos (by omega)]
        · rw [if_neg e2, if_neg (by omega)]
def sz_RP (group name : Int) (P : Prop) (j : Nat) (u v : Int) : Prop := (P → v = sz_set group name j u) ∧ (¬ P → v = u)
theorem rd_tellProperty {first last group name : Int} (hB : ez_B τ h) (t202 : τ 202 = 48) (t203 : τ 203 = 49) (hs : sz_ok h) (hinj : sz_inj h) (f0 : 0 ≤ first) (fl : first ≤ last) (l1 : last ≤ 1114111) (g0 : 0 ≤ group) (g2' : group ≤ 2) (n0 : 0 ≤ name) (n1 : name ≤ 1000) (hn : qz_I h 202 1 + 2 ≤ 513) (k : ∀ g, ez_B τ g → sz_toldR τ h g first last (sz_RP group name) → Q (.inl none, g)) : ez_W (d + 2) cm_107 0 [(0, .inr (.inr (some (202)))), (1, .inl (first)), (2, .inl (last)), (3, .inl (group)), (4, .inl (name))] [] h Q := by
  refine ez_go (n := 2) (pc' := 2) (L' := [(0, .inr (.inr (some (202)))), (1, .inl (first)), (2, .inl (last)), (3, .inl (group)), (4, .inl (name))]) (st' := [.inl (first), .inr (.inr (some (202)))]) rfl ?_
  refine ez_cv hB t202 rfl rfl rfl tq_48 rfl rfl rfl (rd_cutP hB t202 t203 hs hinj (by omega) (by omega) (fun g1 a hB1 s1 i1 x1 x2 x3 x4 x5 x55 x6 x7 x8 => ez_K1 ?_))
  refine ez_go (n := 5) (pc' := 11) (L' := [(5, .inl (a)), (0, .inr (.inr (some (202)))), (1, .inl (first)), (2, .inl (last)), (3, .inl (group)), (4, .inl (name))]) (st' := [.inl ((last) + (1)), .inr (.inr (some (202)))]) rfl ?_
  refine ez_cv hB1 t202 rfl rfl rfl tq_48 rfl rfl rfl (rd_cutP hB1 t202 t203 s1 i1 (by omega) (by omega) (fun g2 b hB2 s2 i2 y1 y2 y3 y4 y5 y6 y7 y8 y9 => ez_K1 ?_))
  refine ez_go (n := 3) (pc' := 20) (L' := [(7, .inl (a)), (6, .inl (b)), (5, .inl (a)), (0, .inr (.inr (some (202)))), (1, .inl (first)), (2, .inl (last)), (3, .inl (group)), (4, .inl (name))]) (st' := []) rfl ?_
  refine ez_less [(7, .inl (a)), (6, .inl (b)), (5, .inl (a)), (0, .inr (.inr (some (202)))), (1, .inl (first)), (2, .inl (last)), (3, .inl (group)), (4, .inl (name))] rfl ⟨rfl, rfl, rfl, rfl, rfl, rfl, rfl, rfl, trivial⟩ ?_
  have x7 := x7 (by omega) (by omega)
  have fa : sz_f g2 a = first := by rw [y6 a x7.1 x7.2.1 (by omega)]; exact x7.2.2
  have hab : a ≤ b := by
    by_cases e : 1114111 < last + 1
    · have := y7 e; omega
    · obtain ⟨b0, b1, b2⟩ := y8 (by omega) (by omega)
      by_cases e2 : a ≤ b
      · exact e2
      · exfalso
        have := sz_mono s2 (i := b) (j := a) b0 (by omega) (by omega)
        omega
  refine rd_tellProperty_l t202 t203 g0 g2' n0 n1 i2 x7.1 y9.2 (fun g3 hB3 z1 z2 => k g3 hB3 (sz_tellR (fun P u v w => ?_) t202 t203 f0 fl l1 hn x1 x2 x4 x5 x7 s2 i2 y1 y2 y3 y4 y5 y6 y7 y8 z1 (fun k j k0 k1 j8 => ?_))) _ _ g2 rfl (by omega) hab hB2 (ez_fr.refl _ _) (fun k j _ _ => by rw [if_neg (by omega)])
  · by_cases hP : P; (· have := w.1 hP; unfold sz_set at this; rw [if_neg (by omega), if_neg (by omega), if_neg (by omega)] at this; exact this); (· exact w.2 hP)
  · exact ⟨fun e => by rw [z2 k j k0 k1, if_pos e], fun e => by rw [z2 k j k0 k1, if_neg e]⟩

end EzTp
/-! The given strings; takeProperty. (Written by wip/p2/py/pv20.py.) -/
def nzs_1 : List Int := [116, 114, 32, 97, 122, 32, 108, 116, 32, 70, 105, 110, 97, 108, 95, 83, 105, 103, 109, 97, 32, 65, 102, 116, 101, 114, 95, 83, 111, 102, 116, 95, 68, 111, 116, 116, 101, 100, 32, 77, 111, 114, 101, 95, 65, 98, 111, 118, 101, 32, 66, 101, 102, 111, 114, 101, 95, 68, 111, 116, 32, 78, 111, 116, 95, 66, 101, 102, 111, 114, 101, 95, 68, 111, 116, 32, 65, 102, 116, 101, 114, 95, 73]
def nzs_2 : List Int := [67, 111, 109, 112, 111, 115, 105, 116, 105, 111, 110, 95, 69, 120, 99, 108, 117, 115, 105, 111, 110, 32, 67, 97, 115, 101, 95, 73, 103, 110, 111, 114, 97, 98, 108, 101, 32, 67, 97, 115, 101, 100, 32, 83, 111, 102, 116, 95, 68, 111, 116, 116, 101, 100, 32, 69, 120, 116, 101, 110, 100, 101, 100, 95, 80, 105, 99, 116, 111, 103, 114, 97, 112, 104, 105, 99, 32, 85, 110, 105, 102, 105, 101, 100, 95, 73, 100, 101, 111, 103, 114, 97, 112, 104]
def nzs_3 : List Int := [71, 67, 66, 61]
def nzs_4 : List Int := [79, 116, 104, 101, 114, 32, 67, 82, 32, 76, 70, 32, 67, 111, 110, 116, 114, 111, 108, 32, 69, 120, 116, 101, 110, 100, 32, 90, 87, 74, 32, 82, 101, 103, 105, 111, 110, 97, 108, 95, 73, 110, 100, 105, 99, 97, 116, 111, 114, 32, 80, 114, 101, 112, 101, 110, 100, 32, 83, 112, 97, 99, 105, 110, 103, 77, 97, 114, 107, 32, 76, 32, 86, 32, 84, 32, 76, 86, 32, 76, 86, 84]
def nzs_5 : List Int := [87, 66, 61]
def nzs_6 : List Int := [79, 116, 104, 101, 114, 32, 67, 82, 32, 76, 70, 32, 78, 101, 119, 108, 105, 110, 101, 32, 69, 120, 116, 101, 110, 100, 32, 90, 87, 74, 32, 82, 101, 103, 105, 111, 110, 97, 108, 95, 73, 110, 100, 105, 99, 97, 116, 111, 114, 32, 70, 111, 114, 109, 97, 116, 32, 75, 97, 116, 97, 107, 97, 110, 97, 32, 72, 101, 98, 114, 101, 119, 95, 76, 101, 116, 116, 101, 114, 32, 65, 76, 101, 116, 116, 101, 114, 32, 77, 105, 100, 76, 101, 116, 116, 101, 114, 32, 77, 105, 100, 78, 117, 109, 32, 77, 105, 100, 78, 117, 109, 76, 101, 116, 32, 83, 105, 110, 103, 108, 101, 95, 81, 117, 111, 116, 101, 32, 68, 111, 117, 98, 108, 101, 95, 81, 117, 111, 116, 101, 32, 78, 117, 109, 101, 114, 105, 99, 32, 69, 120, 116, 101, 110, 100, 78, 117, 109, 76, 101, 116, 32, 87, 83, 101, 103, 83, 112, 97, 99, 101]
def nzs_7 : List Int := [116, 114]
def nzs_8 : List Int := [97, 122]
def nzs_9 : List Int := [108, 116]
def nzs_10 : List Int := [70, 105, 110, 97, 108, 95, 83, 105, 103, 109, 97]
def nzs_11 : List Int := [65, 102, 116, 101, 114, 95, 83, 111, 102, 116, 95, 68, 111, 116, 116, 101, 100]
def nzs_12 : List Int := [77, 111, 114, 101, 95, 65, 98, 111, 118, 101]
def nzs_13 : List Int := [66, 101, 102, 111, 114, 101, 95, 68, 111, 116]
def nzs_14 : List Int := [78, 111, 116, 95, 66, 101, 102, 111, 114, 101, 95, 68, 111, 116]
def nzs_15 : List Int := [65, 102, 116, 101, 114, 95, 73]
def nzs_16 : List Int := [67, 111, 109, 112, 111, 115, 105, 116, 105, 111, 110, 95, 69, 120, 99, 108, 117, 115, 105, 111, 110]
def nzs_17 : List Int := [67, 97, 115, 101, 95, 73, 103, 110, 111, 114, 97, 98, 108, 101]
def nzs_18 : List Int := [67, 97, 115, 101, 100]
def nzs_19 : List Int := [83, 111, 102, 116, 95, 68, 111, 116, 116, 101, 100]
def nzs_20 : List Int := [69, 120, 116, 101, 110, 100, 101, 100, 95, 80, 105, 99, 116, 111, 103, 114, 97, 112, 104, 105, 99]
def nzs_21 : List Int := [85, 110, 105, 102, 105, 101, 100, 95, 73, 100, 101, 111, 103, 114, 97, 112, 104]
def nzs_22 : List Int := [79, 116, 104, 101, 114]
def nzs_23 : List Int := [67, 82]
def nzs_24 : List Int := [76, 70]
def nzs_25 : List Int := [67, 111, 110, 116, 114, 111, 108]
def nzs_26 : List Int := [69, 120, 116, 101, 110, 100]
def nzs_27 : List Int := [90, 87, 74]
def nzs_28 : List Int := [82, 101, 103, 105, 111, 110, 97, 108, 95, 73, 110, 100, 105, 99, 97, 116, 111, 114]
def nzs_29 : List Int := [80, 114, 101, 112, 101, 110, 100]
def nzs_30 : List Int := [83, 112, 97, 99, 105, 110, 103, 77, 97, 114, 107]
def nzs_31 : List Int := [76]
def nzs_32 : List Int := [86]
def nzs_33 : List Int := [84]
def nzs_34 : List Int := [76, 86]
def nzs_35 : List Int := [76, 86, 84]
def nzs_36 : List Int := [78, 101, 119, 108, 105, 110, 101]
def nzs_37 : List Int := [70, 111, 114, 109, 97, 116]
def nzs_38 : List Int := [75, 97, 116, 97, 107, 97, 110, 97]
def nzs_39 : List Int := [72, 101, 98, 114, 101, 119, 95, 76, 101, 116, 116, 101, 114]
def nzs_40 : List Int := [65, 76, 101, 116, 116, 101, 114]
def nzs_41 : List Int := [77, 105, 100, 76, 101, 116, 116, 101, 114]
def nzs_42 : List Int := [77, 105, 100, 78, 117, 109]
def nzs_43 : List Int := [77, 105, 100, 78, 117, 109, 76, 101, 116]
def nzs_44 : List Int := [83, 105, 110, 103, 108, 101, 95, 81, 117, 111, 116, 101]
def nzs_45 : List Int := [68, 111, 117, 98, 108, 101, 95, 81, 117, 111, 116, 101]
def nzs_46 : List Int := [78, 117, 109, 101, 114, 105, 99]
def nzs_47 : List Int := [69, 120, 116, 101, 110, 100, 78, 117, 109, 76, 101, 116]
def nzs_48 : List Int := [87, 83, 101, 103, 83, 112, 97, 99, 101]
def nzs_49 : List Int := [71, 67, 66, 61]
def nzs_50 : List Int := [87, 66, 61]
/-- the given strings -/
def nzL (s : Nat) : Option (List Int) := match s with
  | 1 => some nzs_1
  | 2 => some nzs_2
  | 3 => some nzs_3
  | 4 => some nzs_4
  | 5 => some nzs_5
  | 6 => some nzs_6
  | 7 => some nzs_7
  | 8 => some nzs_8
  | 9 => some nzs_9
  | 10 => some nzs_10
  | 11 => some nzs_11
  | 12 => some nzs_12
  | 13 => some nzs_13
  | 14 => some nzs_14
  | 15 => some nzs_15
  | 16 => some nzs_16
  | 17 => some nzs_17
  | 18 => some nzs_18
  | 19 => some nzs_19
  | 20 => some nzs_20
  | 21 => some nzs_21
  | 22 => some nzs_22
  | 23 => some nzs_23
  | 24 => some nzs_24
  | 25 => some nzs_25
  | 26 => some nzs_26
  | 27 => some nzs_27
  | 28 => some nzs_28
  | 29 => some nzs_29
  | 30 => some nzs_30
  | 31 => some nzs_31
  | 32 => some nzs_32
  | 33 => some nzs_33
  | 34 => some nzs_34
  | 35 => some nzs_35
  | 36 => some nzs_36
  | 37 => some nzs_37
  | 38 => some nzs_38
  | 39 => some nzs_39
  | 40 => some nzs_40
  | 41 => some nzs_41
  | 42 => some nzs_42
  | 43 => some nzs_43
  | 44 => some nzs_44
  | 45 => some nzs_45
  | 46 => some nzs_46
  | 47 => some nzs_47
  | 48 => some nzs_48
  | 49 => some nzs_49
  | 50 => some nzs_50
  | _ => none
/-- n octets from a on -/
def nz_w (b : Int → Int) (a : Int) (n : Nat) : List Int := (List.range n).map (fun j : Nat => b (a + (j : Int)))
theorem nz_w_len (b : Int → Int) (a : Int) (n : Nat) : (nz_w b a n).length = n := by unfold nz_w; simp
theorem nz_w_get (b : Int → Int) (a : Int) (n i : Nat) (hi : i < n) : (nz_w b a n)[i]? = some (b (a + (i : Int))) := by
  unfold nz_w
  rw [List.getElem?_map, List.getElem?_range hi]
  rfl
/-- which of the names it is, or -1 -/
def nz_ix : List (List Int) → List Int → Int
  | [], _ => -1
  | x :: xs, w => if x = w then 0 else if nz_ix xs w = -1 then -1 else nz_ix xs w + 1
theorem nz_ix_bd (w : List Int) : ∀ xs, -1 ≤ nz_ix xs w ∧ nz_ix xs w < (xs.length : Int)
  | [] => by simp [nz_ix]
  | x :: xs => by
    have := nz_ix_bd w xs
    unfold nz_ix
    simp only [List.length_cons]
    split
    · omega
    · split <;> omega
theorem nz_ix_none {w : List Int} : ∀ {xs : List (List Int)}, (∀ k : Nat, xs[k]? ≠ some w) → nz_ix xs w = -1
  | [], _ => rfl
  | x :: xs, h => by
    have := nz_ix_none (xs := xs) (fun k => by have := h (k + 1); rw [List.getElem?_cons_succ] at this; exact this)
    unfold nz_ix
    rw [if_neg (fun e => h 0 (by rw [e]; rfl)), if_pos this]
theorem nz_ix_some {w : List Int} : ∀ {xs : List (List Int)} {k : Nat}, xs[k]? = some w → (∀ i, i < k → xs[i]? ≠ some w) → nz_ix xs w = (k : Int)
  | [], k, h, _ => by simp at h
  | x :: xs, 0, h, _ => by
    have : x = w := by simpa using h
    unfold nz_ix; rw [if_pos this]; rfl
  | x :: xs, k + 1, h, hf => by
    rw [List.getElem?_cons_succ] at h
    have := nz_ix_some (xs := xs) h (fun i hi => by have := hf (i + 1) (by omega); rw [List.getElem?_cons_succ] at this; exact this)
    unfold nz_ix
    rw [if_neg (fun e => hf 0 (by omega) (by rw [e]; rfl)), this, if_neg (by omega)]
    omega
theorem nz_ix_mem {w : List Int} : ∀ {xs : List (List Int)}, nz_ix xs w ≠ -1 → w ∈ xs
  | [], h => absurd rfl h
  | x :: xs, h => by
    unfold nz_ix at h
    by_cases e : x = w
    · rw [e]; exact List.mem_cons_self
    · rw [if_neg e] at h
      by_cases e2 : nz_ix xs w = -1
      · rw [if_pos e2] at h; exact absurd rfl h
      · exact List.mem_cons_of_mem _ (nz_ix_mem e2)
/-- the names of a list, and where they begin -/
def nz_nmN (l : List Int) (s e : Nat) : Prop := s ≤ e ∧ e ≤ l.length ∧ (s = 0 ∨ l[s - 1]? = some 32) ∧ (e = l.length ∨ l[e]? = some 32) ∧ ∀ j, j < e → s ≤ j → l[j]? ≠ some 32
def nz_tb (l : List Int) (NT : List (List Int)) (ST : List Nat) : Prop := (∀ s, s < l.length + 1 → (s = 0 ∨ l[s - 1]? = some 32) → s ∈ ST) ∧ (∀ k, k < ST.length → nz_nmN l (ST.getD k 0) (ST.getD k 0 + (NT.getD k []).length) ∧ (l.drop (ST.getD k 0)).take (NT.getD k []).length = NT.getD k [] ∧ (l.take (ST.getD k 0)).count 32 = k) ∧ ST.length = NT.length ∧ ∀ k, k < NT.length → ∀ j, j < k → NT.getD j [] ≠ NT.getD k []
theorem nz_nm_e {l : List Int} {s e e2 : Int} (a : nz_nm l s e) (b : nz_nm l s e2) : e = e2 := by
  obtain ⟨a1, a2, a3, a4, a5, a6⟩ := a
  obtain ⟨b1, b2, b3, b4, b5, b6⟩ := b
  by_cases h1 : e < e2
  · rcases a5 with w | w
    · omega
    · exact absurd w (b6 e a2 h1)
  · by_cases h2 : e2 < e
    · rcases b5 with w | w
      · omega
      · exact absurd w (a6 e2 b2 h2)
    · omega
theorem nz_nm_N {l : List Int} {s e : Nat} (a : nz_nmN l s e) : nz_nm l s e := by
  obtain ⟨a1, a2, a3, a4, a5⟩ := a
  refine ⟨by omega, by omega, by omega, ?_, ?_, fun j h1 h2 => a5 j.toNat (by omega) (by omega)⟩
  · rcases a3 with w | w
    · exact Or.inl (by omega)
    · exact Or.inr (by rw [show ((s : Int) - 1).toNat = s - 1 by omega]; exact w)
  · rcases a4 with w | w
    · exact Or.inl (by omega)
    · exact Or.inr w
theorem nz_rd_w {l : List Int} {b : Int → Int} {s e bg en : Int} (s0 : 0 ≤ s) (se : s ≤ e) (el : e ≤ (l.length : Int)) (h : e - s = en - bg) : nz_rd b l s bg (en - bg) ↔ (l.drop s.toNat).take (e - s).toNat = nz_w b bg (en - bg).toNat := by
  have gt : ∀ i, i < (e - s).toNat → ((l.drop s.toNat).take (e - s).toNat)[i]? = l[s.toNat + i]? := fun i hi => by rw [List.getElem?_take, if_pos hi, List.getElem?_drop]
  refine ⟨fun w => List.ext_getElem? (fun i => ?_), fun w j j0 j1 => ?_⟩
  · by_cases hi : i < (e - s).toNat
    · rw [gt i hi, nz_w_get _ _ _ _ (by omega)]
      have := w i (by omega) (by omega)
      rw [show (s + (i : Int)).toNat = s.toNat + i by omega] at this
      exact this
    · rw [List.getElem?_eq_none (by rw [List.length_take]; omega), List.getElem?_eq_none (by rw [nz_w_len]; omega)]
  · have := gt j.toNat (by omega)
    rw [w, nz_w_get _ _ _ _ (by omega)] at this
    rw [show (s + j).toNat = s.toNat + j.toNat by omega, ← this]
    congr 2
    omega
theorem nz_ni_ix {l : List Int} {NT : List (List Int)} {ST : List Nat} {b : Int → Int} {bg en v : Int} (hT : nz_tb l NT ST) (be : bg ≤ en) (h : nz_ni l b bg en v) : v = nz_ix NT (nz_w b bg (en - bg).toNat) := by
  obtain ⟨t1, t2, t3, t4⟩ := hT
  have gd : ∀ k, k < NT.length → NT[k]? = some (NT.getD k []) := fun k hk => by rw [List.getD_eq_getElem?_getD, List.getElem?_eq_getElem hk]; rfl
  rcases h with ⟨h1, h2⟩ | ⟨h0, s, e, hn, hv, he, hr⟩
  · rw [h1]
    refine (nz_ix_none (fun k hk => ?_)).symm
    have hkl : k < NT.length := by
      by_cases hkl : k < NT.length
      · exact hkl
      · rw [List.getElem?_eq_none (by omega)] at hk; cases hk
    obtain ⟨u1, u2, u3⟩ := t2 k (by omega)
    rw [gd k hkl] at hk
    have hk : NT.getD k [] = nz_w b bg (en - bg).toNat := Option.some.inj hk
    have hl : ((NT.getD k []).length : Int) = en - bg := by rw [hk, nz_w_len]; omega
    refine h2 ((ST.getD k 0 : Nat) : Int) ((ST.getD k 0 + (NT.getD k []).length : Nat) : Int) (nz_nm_N u1) ⟨by omega, (nz_rd_w (s := ((ST.getD k 0 : Nat) : Int)) (e := ((ST.getD k 0 + (NT.getD k []).length : Nat) : Int)) (by omega) (by omega) (by have := u1.2.1; omega) (by omega)).mpr ?_⟩
    rw [Int.toNat_natCast, show (((ST.getD k 0 + (NT.getD k []).length : Nat) : Int) - ((ST.getD k 0 : Nat) : Int)).toNat = (NT.getD k []).length by omega, u2]
    exact hk
  · obtain ⟨n1, n2, n3, n4, n5, n6⟩ := id hn
    have hm := t1 s.toNat (by omega) (by
      rcases n4 with w | w
      · exact Or.inl (by omega)
      · by_cases w2 : s = 0
        · exact Or.inl (by omega)
        · exact Or.inr (by rw [show s.toNat - 1 = (s - 1).toNat by omega]; exact w))
    obtain ⟨k, hk, ek⟩ := List.getElem_of_mem hm
    have eD : ST.getD k 0 = s.toNat := by rw [List.getD_eq_getElem?_getD, List.getElem?_eq_getElem hk, ek]; rfl
    obtain ⟨u1, u2, u3⟩ := t2 k hk
    rw [eD] at u1 u2 u3
    have n9 := nz_nm_N u1
    rw [Int.toNat_of_nonneg n1] at n9
    have ee := nz_nm_e hn n9
    have hw : NT.getD k [] = nz_w b bg (en - bg).toNat := by
      rw [← (nz_rd_w n1 n2 n3 he).mp hr, ← u2]
      congr 1
      omega
    rw [hv, u3]
    refine (nz_ix_some (by rw [gd k (by omega), hw]) (fun i hi w => ?_)).symm
    rw [gd i (by omega)] at w
    exact t4 k (by omega) i hi ((Option.some.inj w).trans hw.symm)

def nzN_1 : List (List Int) := [nzs_7, nzs_8, nzs_9, nzs_10, nzs_11, nzs_12, nzs_13, nzs_14, nzs_15]
theorem nzT_1 : nz_tb nzs_1 nzN_1 [0, 3, 6, 9, 21, 39, 50, 61, 76] := by
  refine ⟨by decide +kernel, fun k hk => ⟨?_, ?_⟩, by decide +kernel, by decide +kernel⟩
  · revert k; unfold nz_nmN; decide +kernel
  · revert k; decide +kernel
theorem nzB_1 : ∀ x ∈ nzN_1, ∀ c ∈ x, c ≠ 32 ∧ c ≠ 9 := by decide +kernel
def nzN_2 : List (List Int) := [nzs_16, nzs_17, nzs_18, nzs_19, nzs_20, nzs_21]
theorem nzT_2 : nz_tb nzs_2 nzN_2 [0, 22, 37, 43, 55, 77] := by
  refine ⟨by decide +kernel, fun k hk => ⟨?_, ?_⟩, by decide +kernel, by decide +kernel⟩
  · revert k; unfold nz_nmN; decide +kernel
  · revert k; decide +kernel
theorem nzB_2 : ∀ x ∈ nzN_2, ∀ c ∈ x, c ≠ 32 ∧ c ≠ 9 := by decide +kernel
def nzN_4 : List (List Int) := [nzs_22, nzs_23, nzs_24, nzs_25, nzs_26, nzs_27, nzs_28, nzs_29, nzs_30, nzs_31, nzs_32, nzs_33, nzs_34, nzs_35]
theorem nzT_4 : nz_tb nzs_4 nzN_4 [0, 6, 9, 12, 20, 27, 31, 50, 58, 70, 72, 74, 76, 79] := by
  refine ⟨by decide +kernel, fun k hk => ⟨?_, ?_⟩, by decide +kernel, by decide +kernel⟩
  · revert k; unfold nz_nmN; decide +kernel
  · revert k; decide +kernel
theorem nzB_4 : ∀ x ∈ nzN_4, ∀ c ∈ x, c ≠ 32 ∧ c ≠ 9 := by decide +kernel
def nzN_6 : List (List Int) := [nzs_22, nzs_23, nzs_24, nzs_36, nzs_26, nzs_27, nzs_28, nzs_37, nzs_38, nzs_39, nzs_40, nzs_41, nzs_42, nzs_43, nzs_44, nzs_45, nzs_46, nzs_47, nzs_48]
theorem nzT_6 : nz_tb nzs_6 nzN_6 [0, 6, 9, 12, 20, 27, 31, 50, 57, 66, 80, 88, 98, 105, 115, 128, 141, 149, 162] := by
  refine ⟨by decide +kernel, fun k hk => ⟨?_, ?_⟩, by decide +kernel, by decide +kernel⟩
  · revert k; unfold nz_nmN; decide +kernel
  · revert k; decide +kernel
theorem nzB_6 : ∀ x ∈ nzN_6, ∀ c ∈ x, c ≠ 32 ∧ c ≠ 9 := by decide +kernel
set_option maxRecDepth 4096 in
theorem nzl_2 : nzs_2.length = 94 ∧ nzs_2.count 32 = 5 := by decide
set_option maxRecDepth 4096 in
theorem nzl_4 : nzs_4.length = 82 ∧ nzs_4.count 32 = 13 := by decide
set_option maxRecDepth 4096 in
theorem nzl_6 : nzs_6.length = 171 ∧ nzs_6.count 32 = 18 := by decide
def nz_Z (h : cz_H) : Prop := ∀ s l, nzL s = some l → nz_S h s l ∧ s < 192 ∧ qz_P h s 0 < 192
theorem nz_Z_same {h g : cz_H} (hZ : nz_Z h) (e : ∀ q, q < 192 → g.2.2 q = h.2.2 q) : nz_Z g := by
  intro s l hl
  obtain ⟨a, b, c⟩ := hZ s l hl
  have e1 := e s b
  have e2 := e _ c
  have e3 : qz_P g s 0 = qz_P h s 0 := by unfold qz_P qz_I; rw [e1]
  refine ⟨?_, b, by rw [e3]; exact c⟩
  unfold nz_S at *
  rw [e3]
  unfold qz_N qz_I at *
  rw [e2]
  exact a
theorem nz_fst {l : List Int} {n : Nat} (h : ∀ j, j < n → ¬ l[j]? = some 32) : ∀ j : Int, 0 ≤ j → j < (n : Int) → ¬ l[j.toNat]? = some 32 := fun j j0 j1 => h j.toNat (by omega)
/-- the second field of a LINE 3 -/
def rz_sw (b : Int → Int) (l : List Int) (s t : Int) : Prop := s + (l.length : Int) ≤ t ∧ nz_rd b l 0 s (l.length : Int)
def rz_PK (b : Int → Int) (s t : Int) : Prop := (rz_sw b nzs_3 s t ∧ nz_ix nzN_4 (nz_w b (s + 4) (t - (s + 4)).toNat) ≠ -1) ∨ (¬ rz_sw b nzs_3 s t ∧ rz_sw b nzs_5 s t ∧ nz_ix nzN_6 (nz_w b (s + 3) (t - (s + 3)).toNat) ≠ -1) ∨ (¬ rz_sw b nzs_3 s t ∧ ¬ rz_sw b nzs_5 s t ∧ nz_ix nzN_2 (nz_w b s (t - s).toNat) ≠ -1)
/-- the name in the second field is Composition_Exclusion -/
def rz_CE (b : Int → Int) (s t : Int) : Prop := 21 = t - s ∧ nz_rd b nzs_2 0 s 21
/-- the group and the number of the name in the second field -/
def rz_PV (b : Int → Int) (s t gr nm : Int) : Prop := (rz_sw b nzs_3 s t ∧ gr = 0 ∧ nm = nz_ix nzN_4 (nz_w b (s + 4) (t - (s + 4)).toNat)) ∨ (¬ rz_sw b nzs_3 s t ∧ rz_sw b nzs_5 s t ∧ gr = 1 ∧ nm = nz_ix nzN_6 (nz_w b (s + 3) (t - (s + 3)).toNat)) ∨ (¬ rz_sw b nzs_3 s t ∧ ¬ rz_sw b nzs_5 s t ∧ gr = 2 ∧ nm = nz_ix nzN_2 (nz_w b s (t - s).toNat))
theorem nz_and_or (a b c : Int32) : (a ||| b) &&& c = (a &&& c) ||| (b &&& c) := by
  apply Int32.toBitVec_inj.mp
  rw [Int32.toBitVec_and, Int32.toBitVec_or, Int32.toBitVec_or, Int32.toBitVec_and, Int32.toBitVec_and]
  ext i hi
  simp only [BitVec.getElem_and, BitVec.getElem_or, Bool.and_or_distrib_right]
/-- Composition_Exclusion of a span's traits -/
def sz_t0 (v : Int) : Prop := (Int32.ofInt v &&& Int32.ofInt 1).toInt ≠ 0
theorem nz_bits : ∀ n, n < 32 → 0 < n → Int32.ofInt (Int32.ofInt 1 <<< (Int32.ofInt (n : Nat) &&& 31)).toInt &&& Int32.ofInt 1 = 0 := by decide
theorem sz_t0_set {group name : Int} (n0 : 0 ≤ name) (n1 : name < 32) (v : Int) : sz_t0 (sz_set group name 2 v) ↔ (sz_t0 v ∨ (group = 2 ∧ name = 0)) := by
  unfold sz_set
  by_cases hg : group = 2
  · rw [if_pos ⟨rfl, hg⟩]
    unfold sz_t0
    rw [Int32.ofInt_toInt, nz_and_or]
    by_cases hn : name = 0
    · subst hn
      refine ⟨fun _ => Or.inr ⟨hg, rfl⟩, fun _ => ?_⟩
      have e : Int32.ofInt (Int32.ofInt 1 <<< (Int32.ofInt 0 &&& 31)).toInt &&& Int32.ofInt 1 = Int32.ofInt 1 := by decide
      rw [e]
      intro w
      have w1 : (Int32.ofInt v &&& Int32.ofInt 1 ||| Int32.ofInt 1) &&& Int32.ofInt 1 = 0 := by
        rw [Int32.toInt_inj.mp (show (Int32.ofInt v &&& Int32.ofInt 1 ||| Int32.ofInt 1).toInt = (0 : Int32).toInt from w)]
        decide
      rw [nz_and_or] at w1
      have w2 : (Int32.ofInt v &&& Int32.ofInt 1 &&& Int32.ofInt 1 ||| Int32.ofInt 1 &&& Int32.ofInt 1).toBitVec.getLsbD 0 = (0 : Int32).toBitVec.getLsbD 0 := by rw [w1]
      rw [Int32.toBitVec_or, BitVec.getLsbD_or] at w2
      rw [show (Int32.ofInt 1 &&& Int32.ofInt 1).toBitVec.getLsbD 0 = true by decide, Bool.or_true] at w2
      exact absurd w2 (by decide)
    · have e := nz_bits name.toNat (by omega) (by omega)
      rw [Int.toNat_of_nonneg n0] at e
      rw [e, Int32.or_zero]
      exact ⟨Or.inl, fun w => w.elim id (fun w => absurd w.2 hn)⟩
  · rw [if_neg (fun w => hg w.2), if_neg (by omega), if_neg (by omega)]
    exact ⟨Or.inl, fun w => w.elim id (fun w => absurd w.1 hg)⟩
section EzTpp
variable {d : Nat} {h : cz_H} {τ : Nat → Nat} {Q : cz_F → Prop}
theorem rz_last_bd (b : Int → Int) (s t : Int) : -1 ≤ rz_last b s t ∧ rz_last b s t ≤ 1114111 := by
  unfold rz_last rz_first
  split
  · split
    · exact rz_code_bd _ _ _
    · omega
  · exact rz_code_bd _ _ _
/-- what a LINE 3 does: facts stay, Composition_Exclusion is told where it is named -/
def sz_RC (ce P : Prop) (j : Nat) (u v : Int) : Prop := (j = 1 → v = u) ∧ (j = 2 → (sz_t0 v ↔ (sz_t0 u ∨ (P ∧ ce))))
theorem sz_told_CE {τ : Nat → Nat} {h g : cz_H} {first last group name : Int} {ce : Prop} (n0 : 0 ≤ name) (n1 : name < 32) (hce : (group = 2 ∧ name = 0) ↔ ce) (ht : sz_toldR τ h g first last (sz_RP group name)) : sz_toldR τ h g first last (sz_RC ce) := by
  refine ⟨ht.1, ht.2.1, ht.2.2.1, ht.2.2.2.1, ht.2.2.2.2.1, fun x k x0 x1 hk => ?_⟩
  obtain ⟨k', w1, w2⟩ := ht.2.2.2.2.2 x k x0 x1 hk
  refine ⟨k', w1, fun j j1 j8 => ?_⟩
  have q := w2 j j1 j8
  refine ⟨fun e => ?_, fun e => ?_⟩
  · subst e
    by_cases hP : first ≤ x ∧ x ≤ last
    · rw [q.1 hP]; unfold sz_set; rw [if_neg (by omega), if_neg (by omega), if_neg (by omega)]
    · exact q.2 hP
  · subst e
    by_cases hP : first ≤ x ∧ x ≤ last
    · rw [q.1 hP, sz_t0_set n0 n1, hce]
      exact ⟨fun w => w.elim Or.inl (fun w => Or.inr ⟨hP, w⟩), fun w => w.elim Or.inl (fun w => Or.inr w.2)⟩
    · rw [q.2 hP]
      exact ⟨Or.inl, fun w => w.elim id (fun w => absurd w.1 hP)⟩
theorem rd_takeProperty (hB : ez_B τ h) (hZ : nz_Z h) (ts2 : τ 2 = 27) (ts3 : τ 3 = 27) (ts4 : τ 4 = 27) (ts5 : τ 5 = 27) (ts6 : τ 6 = 27) (t193 : τ 193 = 45) (t202 : τ 202 = 48) (t203 : τ 203 = 49) (t720 : τ 720 = 52) (t721 : τ 721 = 53) (t722 : τ 722 = 54) (hs : sz_ok h) (hinj : sz_inj h) (hft : ∀ k, 0 ≤ k → k ≤ 1 → rz_f h k ≤ rz_t h k) (hn : qz_I h 202 1 + 2 ≤ 513) (kN : ∀ g, ez_B τ g → ez_fr (ez_one 720) h g → ¬ ((rz_first (rz_b h) (rz_f h 0) (rz_t h 0) ≠ -1 ∧ rz_first (rz_b h) (rz_f h 0) (rz_t h 0) ≤ rz_last (rz_b h) (rz_f h 0) (rz_t h 0)) ∧ rz_CE (rz_b h) (rz_f h 1) (rz_t h 1)) → ¬ ((rz_first (rz_b h) (rz_f h 0) (rz_t h 0) ≠ -1 ∧ rz_first (rz_b h) (rz_f h 0) (rz_t h 0) ≤ rz_last (rz_b h) (rz_f h 0) (rz_t h 0)) ∧ rz_PK (rz_b h) (rz_f h 1) (rz_t h 1)) → Q (.inl (some (ez_v (.inl (-1)))), g)) (kS : ∀ g h1 first last, ez_B τ g → ez_B τ h1 → ez_fr (ez_one 720) h h1 → first = rz_first (rz_b h) (rz_f h 0) (rz_t h 0) → last = rz_last (rz_b h) (rz_f h 0) (rz_t h 0) → first ≠ -1 → first ≤ last → sz_toldR τ h1 g first last (sz_RC (rz_CE (rz_b h) (rz_f h 1) (rz_t h 1))) → rz_PK (rz_b h) (rz_f h 1) (rz_t h 1) → ∀ gr nm, rz_PV (rz_b h) (rz_f h 1) (rz_t h 1) gr nm → 0 ≤ nm → nm < 32 → sz_toldR τ h1 g first last (sz_RP gr nm) → Q (.inl (some (ez_v (.inl (last - first + 1)))), g)) : ez_W (d + 6) cm_178 0 [(0, .inr (.inr (some (720))))] [] h Q := by
  have n721 : 7 ≤ qz_N h 721 ∧ qz_N h 721 ≤ 7 := ez_len hB t721 tq_53 rfl
  have n722 : 7 ≤ qz_N h 722 ∧ qz_N h 722 ≤ 7 := ez_len hB t722 tq_54 rfl
  have q0 := hft 0 (by omega) (by omega)
  have q9 := hft 1 (by omega) (by omega)
  have q1 : 0 ≤ rz_f h 0 ∧ rz_f h 0 ≤ 4096 := ez_aB (i := 0) hB t721 tq_53 rfl rfl (by decide) (by omega) (by omega)
  have q2 : 0 ≤ rz_t h 0 ∧ rz_t h 0 ≤ 4096 := ez_aB (i := 0) hB t722 tq_54 rfl rfl (by decide) (by omega) (by omega)
  have q3 : 0 ≤ rz_f h 1 ∧ rz_f h 1 ≤ 4096 := ez_aB (i := 1) hB t721 tq_53 rfl rfl (by decide) (by omega) (by omega)
  have q4 : 0 ≤ rz_t h 1 ∧ rz_t h 1 ≤ 4096 := ez_aB (i := 1) hB t722 tq_54 rfl rfl (by decide) (by omega) (by omega)
  refine ez_go (n := 1) (pc' := 1) (L' := [(0, .inr (.inr (some (720))))]) (st' := [.inr (.inr (some (720)))]) rfl ?_
  refine ez_cv hB t720 rfl rfl rfl tq_52 rfl rfl rfl (rd_readCodes hB t720 rfl rfl (by omega) (by omega) (by omega) (fun g hB1 x1 v4 v5 y1 y2 => ez_K1 ?_) (fun g hB1 x1 y1 => ez_K1 ?_))
  · skip
    have hZ1 : nz_Z g := nz_Z_same hZ (fun q hq => x1.2.2 q (dz_beq_ne (by omega)))
    have bg : rz_b g = rz_b h := rz_b_fr x1 (rz_ne t193 t720 rfl)
    have ef : qz_I g 721 (1 : Int).toNat = rz_f h 1 := x1.I (rz_ne t721 t720 rfl) _
    have et : qz_I g 722 (1 : Int).toNat = rz_t h 1 := x1.I (rz_ne t722 t720 rfl) _
    have bl : -1 ≤ rz_last (rz_b h) (rz_f h 0) (rz_t h 0) ∧ rz_last (rz_b h) (rz_f h 0) (rz_t h 0) ≤ 1114111 := rz_last_bd _ _ _
    have bf : -1 ≤ rz_first (rz_b h) (rz_f h 0) (rz_t h 0) ∧ rz_first (rz_b h) (rz_f h 0) (rz_t h 0) ≤ 1114111 := rz_code_bd _ _ _
    have c1 : qz_I g 202 1 = qz_I h 202 1 := x1.I (rz_ne t202 t720 rfl) 1
    obtain ⟨hs1, hi1⟩ := sz_same_ok hB t203 t202 (x1.2.2 202 (by decide)) (x1.2.2 203 (by decide)) (fun q hq => x1.2.2 q (rz_ne hq t720 rfl)) hs hinj
    refine ez_if rfl rfl ⟨by decide, by decide⟩ (fun _ => ?_) (fun (c1 : ¬((1 : Int) ≠ (0))) => absurd c1 (by decide))
    refine ez_go (n := 3) (pc' := 12) (L' := [(1, .inl (2)), (0, .inr (.inr (some (720))))]) (st' := [.inr (.inr (some (720)))]) rfl ?_
    refine ez_ldcS rfl rfl ?_
    refine ez_go (n := 1) (pc' := 15) (L' := [(1, .inl (2)), (0, .inr (.inr (some (720))))]) (st' := [.inr (.inr (some (720))), .inr (.inr (some (2))), .inr (.inr (some (720)))]) rfl ?_
    refine ez_gC (p := 721) (tg := 53) hB1 t720 rfl rfl tq_52 rfl rfl (fun (t721 : _ = 53) => ?_)
    refine ez_go (n := 1) (pc' := 19) (L' := [(1, .inl (2)), (0, .inr (.inr (some (720))))]) (st' := [.inl (1), .inr (.inr (some (721))), .inr (.inr (some (2))), .inr (.inr (some (720)))]) rfl ?_
    have n3 : 7 ≤ qz_N g 721 ∧ qz_N g 721 ≤ 7 := ez_len hB1 t721 tq_53 rfl
    refine ez_aI hB1 t721 rfl tq_53 rfl rfl (by omega) (by omega) (fun (b2 : 0 ≤ qz_I g 721 (1 : Int).toNat) (b2' : qz_I g 721 (1 : Int).toNat ≤ 4096) => ?_)
    refine ez_go (n := 1) (pc' := 21) (L' := [(1, .inl (2)), (0, .inr (.inr (some (720))))]) (st' := [.inr (.inr (some (720))), .inl (qz_I g 721 (1 : Int).toNat), .inr (.inr (some (2))), .inr (.inr (some (720)))]) rfl ?_
    refine ez_gC (p := 722) (tg := 54) hB1 t720 rfl rfl tq_52 rfl rfl (fun (t722 : _ = 54) => ?_)
    refine ez_go (n := 1) (pc' := 25) (L' := [(1, .inl (2)), (0, .inr (.inr (some (720))))]) (st' := [.inl (1), .inr (.inr (some (722))), .inl (qz_I g 721 (1 : Int).toNat), .inr (.inr (some (2))), .inr (.inr (some (720)))]) rfl ?_
    have n5 : 7 ≤ qz_N g 722 ∧ qz_N g 722 ≤ 7 := ez_len hB1 t722 tq_54 rfl
    refine ez_aI hB1 t722 rfl tq_54 rfl rfl (by omega) (by omega) (fun (b4 : 0 ≤ qz_I g 722 (1 : Int).toNat) (b4' : qz_I g 722 (1 : Int).toNat ≤ 4096) => ?_)
    have hl2 := nzl_2
    refine ez_cv hB1 t720 rfl rfl rfl tq_52 rfl rfl rfl (rd_nameIndex (l := nzs_2) 21 hB1 t720 ts2 (hZ1 2 nzs_2 rfl).1 (by omega) (by omega) (by omega) (by omega) (by omega) (by omega) (nz_fst (n := 21) (by decide)) (Or.inr (by decide)) (fun nm2 w0 w1 wv wn => ez_K1 ?_))
    have wi2 := nz_ni_ix nzT_2 (by omega) wn
    rw [bg, ef, et] at wi2
    rw [hl2.2] at w1
    rw [bg, ef, et] at wv
    refine ez_go (n := 2) (pc' := 31) (L' := [(2, .inl (nm2)), (1, .inl (2)), (0, .inr (.inr (some (720))))]) (st' := [.inr (.inr (some (720)))]) rfl ?_
    refine ez_ldcS rfl rfl ?_
    refine ez_go (n := 1) (pc' := 34) (L' := [(2, .inl (nm2)), (1, .inl (2)), (0, .inr (.inr (some (720))))]) (st' := [.inr (.inr (some (720))), .inr (.inr (some (3))), .inr (.inr (some (720)))]) rfl ?_
    refine ez_gC (p := 721) (tg := 53) hB1 t720 rfl rfl tq_52 rfl rfl (fun (t721 : _ = 53) => ?_)
    refine ez_go (n := 1) (pc' := 38) (L' := [(2, .inl (nm2)), (1, .inl (2)), (0, .inr (.inr (some (720))))]) (st' := [.inl (1), .inr (.inr (some (721))), .inr (.inr (some (3))), .inr (.inr (some (720)))]) rfl ?_
    have n7 : 7 ≤ qz_N g 721 ∧ qz_N g 721 ≤ 7 := ez_len hB1 t721 tq_53 rfl
    refine ez_aI hB1 t721 rfl tq_53 rfl rfl (by omega) (by omega) (fun (b6 : 0 ≤ qz_I g 721 (1 : Int).toNat) (b6' : qz_I g 721 (1 : Int).toNat ≤ 4096) => ?_)
    refine ez_go (n := 1) (pc' := 40) (L' := [(2, .inl (nm2)), (1, .inl (2)), (0, .inr (.inr (some (720))))]) (st' := [.inr (.inr (some (720))), .inl (qz_I g 721 (1 : Int).toNat), .inr (.inr (some (3))), .inr (.inr (some (720)))]) rfl ?_
    refine ez_gC (p := 722) (tg := 54) hB1 t720 rfl rfl tq_52 rfl rfl (fun (t722 : _ = 54) => ?_)
    refine ez_go (n := 1) (pc' := 44) (L' := [(2, .inl (nm2)), (1, .inl (2)), (0, .inr (.inr (some (720))))]) (st' := [.inl (1), .inr (.inr (some (722))), .inl (qz_I g 721 (1 : Int).toNat), .inr (.inr (some (3))), .inr (.inr (some (720)))]) rfl ?_
    have n9 : 7 ≤ qz_N g 722 ∧ qz_N g 722 ≤ 7 := ez_len hB1 t722 tq_54 rfl
    refine ez_aI hB1 t722 rfl tq_54 rfl rfl (by omega) (by omega) (fun (b8 : 0 ≤ qz_I g 722 (1 : Int).toNat) (b8' : qz_I g 722 (1 : Int).toNat ≤ 4096) => ?_)
    have hm3 : nzs_3.length = 4 := by decide
    refine ez_cv hB1 t720 rfl rfl rfl tq_52 rfl rfl rfl (rd_startsWith (l := nzs_3) hB1 t720 ts3 (hZ1 3 nzs_3 rfl).1 (by omega) (by omega) (by omega) (by omega) (fun e3 => ez_K1 ?_) (fun e3 => ez_K1 ?_))
    · skip
      have sw3 : rz_sw (rz_b h) nzs_3 (rz_f h 1) (rz_t h 1) := by have := e3; rw [bg, ef, et] at this; exact this
      rw [hm3] at e3
      have hno : ¬ rz_CE (rz_b h) (rz_f h 1) (rz_t h 1) := fun w => by have q1 := w.2 0 (by omega) (by omega); have q2 := e3.2 0 (by omega) (by omega); rw [bg, ef] at q2; rw [← q2] at q1; exact absurd q1 (by decide)
      refine ez_if rfl rfl ⟨by decide, by decide⟩ (fun (c10 : (1 : Int) = (0)) => absurd c10 (by decide)) (fun _ => ?_)
      refine ez_go (n := 3) (pc' := 54) (L' := [(1, .inl (0)), (2, .inl (nm2)), (0, .inr (.inr (some (720))))]) (st' := [.inr (.inr (some (720)))]) rfl ?_
      refine ez_ldcS rfl rfl ?_
      refine ez_go (n := 1) (pc' := 57) (L' := [(1, .inl (0)), (2, .inl (nm2)), (0, .inr (.inr (some (720))))]) (st' := [.inr (.inr (some (720))), .inr (.inr (some (4))), .inr (.inr (some (720)))]) rfl ?_
      refine ez_gC (p := 721) (tg := 53) hB1 t720 rfl rfl tq_52 rfl rfl (fun (t721 : _ = 53) => ?_)
      refine ez_go (n := 1) (pc' := 61) (L' := [(1, .inl (0)), (2, .inl (nm2)), (0, .inr (.inr (some (720))))]) (st' := [.inl (1), .inr (.inr (some (721))), .inr (.inr (some (4))), .inr (.inr (some (720)))]) rfl ?_
      have n12 : 7 ≤ qz_N g 721 ∧ qz_N g 721 ≤ 7 := ez_len hB1 t721 tq_53 rfl
      refine ez_aI hB1 t721 rfl tq_53 rfl rfl (by omega) (by omega) (fun (b11 : 0 ≤ qz_I g 721 (1 : Int).toNat) (b11' : qz_I g 721 (1 : Int).toNat ≤ 4096) => ?_)
      refine ez_go (n := 3) (pc' := 65) (L' := [(1, .inl (0)), (2, .inl (nm2)), (0, .inr (.inr (some (720))))]) (st' := [.inr (.inr (some (720))), .inl ((qz_I g 721 (1 : Int).toNat) + (4)), .inr (.inr (some (4))), .inr (.inr (some (720)))]) rfl ?_
      refine ez_gC (p := 722) (tg := 54) hB1 t720 rfl rfl tq_52 rfl rfl (fun (t722 : _ = 54) => ?_)
      refine ez_go (n := 1) (pc' := 69) (L' := [(1, .inl (0)), (2, .inl (nm2)), (0, .inr (.inr (some (720))))]) (st' := [.inl (1), .inr (.inr (some (722))), .inl ((qz_I g 721 (1 : Int).toNat) + (4)), .inr (.inr (some (4))), .inr (.inr (some (720)))]) rfl ?_
      have n14 : 7 ≤ qz_N g 722 ∧ qz_N g 722 ≤ 7 := ez_len hB1 t722 tq_54 rfl
      refine ez_aI hB1 t722 rfl tq_54 rfl rfl (by omega) (by omega) (fun (b13 : 0 ≤ qz_I g 722 (1 : Int).toNat) (b13' : qz_I g 722 (1 : Int).toNat ≤ 4096) => ?_)
      have hl4 := nzl_4
      refine ez_cv hB1 t720 rfl rfl rfl tq_52 rfl rfl rfl (rd_nameIndex (l := nzs_4) 5 hB1 t720 ts4 (hZ1 4 nzs_4 rfl).1 (by omega) (by omega) (by omega) (by omega) (by omega) (by omega) (nz_fst (n := 5) (by decide)) (Or.inr (by decide)) (fun nm4 w0 w1 wv wn => ez_K1 ?_))
      have wi4 := nz_ni_ix nzT_4 (by omega) wn
      rw [bg, ef, et] at wi4
      rw [hl4.2] at w1
      refine ez_go (n := 4) (pc' := 123) (L' := [(2, .inl (nm4)), (1, .inl (0)), (0, .inr (.inr (some (720))))]) (st' := [.inl (-1), .inl (nm4)]) rfl ?_
      refine ez_icmp rfl rfl ⟨by first | omega | exact (sz_i32 _).1, by first | omega | exact (sz_i32 _).2⟩ ⟨by first | omega | exact (sz_i32 _).1, by first | omega | exact (sz_i32 _).2⟩ (fun (c15 : (nm4) ≠ (-1)) => ?_) (fun (c15 : ¬((nm4) ≠ (-1))) => ?_)
      · skip
        refine ez_go (n := 1) (pc' := 129) (L' := [(2, .inl (nm4)), (1, .inl (0)), (0, .inr (.inr (some (720))))]) (st' := [.inr (.inr (some (720)))]) rfl ?_
        refine ez_gC (p := 202) (tg := 48) hB1 t720 rfl rfl tq_52 rfl rfl (fun (t202 : _ = 48) => ?_)
        refine ez_go (n := 1) (pc' := 133) (L' := [(2, .inl (nm4)), (1, .inl (0)), (0, .inr (.inr (some (720))))]) (st' := [.inr (.inr (some (720))), .inr (.inr (some (202)))]) rfl ?_
        refine ez_gI hB1 t720 rfl rfl tq_52 rfl rfl (fun (b16 : -2147483648 ≤ qz_I g 720 4) (b16' : qz_I g 720 4 ≤ 2147483647) => ?_)
        refine ez_go (n := 1) (pc' := 137) (L' := [(2, .inl (nm4)), (1, .inl (0)), (0, .inr (.inr (some (720))))]) (st' := [.inr (.inr (some (720))), .inl (qz_I g 720 4), .inr (.inr (some (202)))]) rfl ?_
        refine ez_gI hB1 t720 rfl rfl tq_52 rfl rfl (fun (b17 : -2147483648 ≤ qz_I g 720 5) (b17' : qz_I g 720 5 ≤ 2147483647) => ?_)
        refine ez_go (n := 2) (pc' := 142) (L' := [(2, .inl (nm4)), (1, .inl (0)), (0, .inr (.inr (some (720))))]) (st' := [.inl (nm4), .inl (0), .inl (qz_I g 720 5), .inl (qz_I g 720 4), .inr (.inr (some (202)))]) rfl ?_
        refine ez_cv hB1 t202 rfl rfl rfl tq_48 rfl rfl rfl (rd_tellProperty hB1 t202 t203 hs1 hi1 (by omega) (by omega) (by omega) (by omega) (by omega) (by omega) (by omega) (by omega) (fun g2 hB2 ht => ez_K0 ?_))
        have p720 : sz_PS τ 720 = false := by unfold sz_PS; rw [t720]; rfl
        have u4 : qz_I g2 720 4 = qz_I g 720 4 := ht.2.2.1.I p720 4
        have u5 : qz_I g2 720 5 = qz_I g 720 5 := ht.2.2.1.I p720 5
        have hce : ((0 : Int) = 2 ∧ nm4 = 0) ↔ rz_CE (rz_b h) (rz_f h 1) (rz_t h 1) := ⟨fun w => absurd w.1 (by decide), fun w => absurd w hno⟩
        refine ez_go (n := 1) (pc' := 146) (L' := [(2, .inl (nm4)), (1, .inl (0)), (0, .inr (.inr (some (720))))]) (st' := [.inr (.inr (some (720)))]) rfl ?_
        refine ez_gI hB2 t720 rfl rfl tq_52 rfl rfl (fun (b18 : -2147483648 ≤ qz_I g2 720 5) (b18' : qz_I g2 720 5 ≤ 2147483647) => ?_)
        refine ez_go (n := 1) (pc' := 150) (L' := [(2, .inl (nm4)), (1, .inl (0)), (0, .inr (.inr (some (720))))]) (st' := [.inr (.inr (some (720))), .inl (qz_I g2 720 5)]) rfl ?_
        refine ez_gI hB2 t720 rfl rfl tq_52 rfl rfl (fun (b19 : -2147483648 ≤ qz_I g2 720 4) (b19' : qz_I g2 720 4 ≤ 2147483647) => ?_)
        refine ez_go (n := 3) (pc' := 156) (L' := [(2, .inl (nm4)), (1, .inl (0)), (0, .inr (.inr (some (720))))]) (st' := [.inl (((qz_I g2 720 5) - (qz_I g2 720 4)) + (1))]) rfl ?_
        rw [u4, u5, v4, v5]
        rw [v4, v5] at ht
        refine ez_retI rfl rfl (kS g2 g _ _ hB2 hB1 x1 rfl rfl y1 y2 (sz_told_CE (by omega) (by omega) hce ht) (Or.inl ⟨sw3, by omega⟩) 0 nm4 (Or.inl ⟨sw3, rfl, by omega⟩) (by omega) (by omega) ht)
      · skip
        refine ez_go (n := 1) (pc' := 127) (L' := [(2, .inl (nm4)), (1, .inl (0)), (0, .inr (.inr (some (720))))]) (st' := [.inl (-1)]) rfl ?_
        refine ez_retI rfl rfl (kN g hB1 x1 (fun w => by first | exact hno w.2 | (have q := wv.mpr w.2; omega)) (fun w => ?_))
        rcases w.2 with ⟨a1, a2⟩ | ⟨a1, a2, a3⟩ | ⟨a1, a2, a3⟩
        · exact a2 (by omega)
        · exact a1 sw3
        · exact a1 sw3
    · skip
      have sw3 : ¬ rz_sw (rz_b h) nzs_3 (rz_f h 1) (rz_t h 1) := by have := e3; rw [bg, ef, et] at this; exact this
      refine ez_if rfl rfl ⟨by decide, by decide⟩ (fun _ => ?_) (fun (c20 : ¬((0 : Int) = (0))) => absurd c20 (by decide))
      refine ez_go (n := 1) (pc' := 78) (L' := [(2, .inl (nm2)), (1, .inl (2)), (0, .inr (.inr (some (720))))]) (st' := [.inr (.inr (some (720)))]) rfl ?_
      refine ez_ldcS rfl rfl ?_
      refine ez_go (n := 1) (pc' := 81) (L' := [(2, .inl (nm2)), (1, .inl (2)), (0, .inr (.inr (some (720))))]) (st' := [.inr (.inr (some (720))), .inr (.inr (some (5))), .inr (.inr (some (720)))]) rfl ?_
      refine ez_gC (p := 721) (tg := 53) hB1 t720 rfl rfl tq_52 rfl rfl (fun (t721 : _ = 53) => ?_)
      refine ez_go (n := 1) (pc' := 85) (L' := [(2, .inl (nm2)), (1, .inl (2)), (0, .inr (.inr (some (720))))]) (st' := [.inl (1), .inr (.inr (some (721))), .inr (.inr (some (5))), .inr (.inr (some (720)))]) rfl ?_
      have n22 : 7 ≤ qz_N g 721 ∧ qz_N g 721 ≤ 7 := ez_len hB1 t721 tq_53 rfl
      refine ez_aI hB1 t721 rfl tq_53 rfl rfl (by omega) (by omega) (fun (b21 : 0 ≤ qz_I g 721 (1 : Int).toNat) (b21' : qz_I g 721 (1 : Int).toNat ≤ 4096) => ?_)
      refine ez_go (n := 1) (pc' := 87) (L' := [(2, .inl (nm2)), (1, .inl (2)), (0, .inr (.inr (some (720))))]) (st' := [.inr (.inr (some (720))), .inl (qz_I g 721 (1 : Int).toNat), .inr (.inr (some (5))), .inr (.inr (some (720)))]) rfl ?_
      refine ez_gC (p := 722) (tg := 54) hB1 t720 rfl rfl tq_52 rfl rfl (fun (t722 : _ = 54) => ?_)
      refine ez_go (n := 1) (pc' := 91) (L' := [(2, .inl (nm2)), (1, .inl (2)), (0, .inr (.inr (some (720))))]) (st' := [.inl (1), .inr (.inr (some (722))), .inl (qz_I g 721 (1 : Int).toNat), .inr (.inr (some (5))), .inr (.inr (some (720)))]) rfl ?_
      have n24 : 7 ≤ qz_N g 722 ∧ qz_N g 722 ≤ 7 := ez_len hB1 t722 tq_54 rfl
      refine ez_aI hB1 t722 rfl tq_54 rfl rfl (by omega) (by omega) (fun (b23 : 0 ≤ qz_I g 722 (1 : Int).toNat) (b23' : qz_I g 722 (1 : Int).toNat ≤ 4096) => ?_)
      have hm5 : nzs_5.length = 3 := by decide
      refine ez_cv hB1 t720 rfl rfl rfl tq_52 rfl rfl rfl (rd_startsWith (l := nzs_5) hB1 t720 ts5 (hZ1 5 nzs_5 rfl).1 (by omega) (by omega) (by omega) (by omega) (fun e5 => ez_K1 ?_) (fun e5 => ez_K1 ?_))
      · skip
        have sw5 : rz_sw (rz_b h) nzs_5 (rz_f h 1) (rz_t h 1) := by have := e5; rw [bg, ef, et] at this; exact this
        rw [hm5] at e5
        have hno : ¬ rz_CE (rz_b h) (rz_f h 1) (rz_t h 1) := fun w => by have q1 := w.2 0 (by omega) (by omega); have q2 := e5.2 0 (by omega) (by omega); rw [bg, ef] at q2; rw [← q2] at q1; exact absurd q1 (by decide)
        refine ez_if rfl rfl ⟨by decide, by decide⟩ (fun (c25 : (1 : Int) = (0)) => absurd c25 (by decide)) (fun _ => ?_)
        refine ez_go (n := 3) (pc' := 101) (L' := [(1, .inl (1)), (2, .inl (nm2)), (0, .inr (.inr (some (720))))]) (st' := [.inr (.inr (some (720)))]) rfl ?_
        refine ez_ldcS rfl rfl ?_
        refine ez_go (n := 1) (pc' := 104) (L' := [(1, .inl (1)), (2, .inl (nm2)), (0, .inr (.inr (some (720))))]) (st' := [.inr (.inr (some (720))), .inr (.inr (some (6))), .inr (.inr (some (720)))]) rfl ?_
        refine ez_gC (p := 721) (tg := 53) hB1 t720 rfl rfl tq_52 rfl rfl (fun (t721 : _ = 53) => ?_)
        refine ez_go (n := 1) (pc' := 108) (L' := [(1, .inl (1)), (2, .inl (nm2)), (0, .inr (.inr (some (720))))]) (st' := [.inl (1), .inr (.inr (some (721))), .inr (.inr (some (6))), .inr (.inr (some (720)))]) rfl ?_
        have n27 : 7 ≤ qz_N g 721 ∧ qz_N g 721 ≤ 7 := ez_len hB1 t721 tq_53 rfl
        refine ez_aI hB1 t721 rfl tq_53 rfl rfl (by omega) (by omega) (fun (b26 : 0 ≤ qz_I g 721 (1 : Int).toNat) (b26' : qz_I g 721 (1 : Int).toNat ≤ 4096) => ?_)
        refine ez_go (n := 3) (pc' := 112) (L' := [(1, .inl (1)), (2, .inl (nm2)), (0, .inr (.inr (some (720))))]) (st' := [.inr (.inr (some (720))), .inl ((qz_I g 721 (1 : Int).toNat) + (3)), .inr (.inr (some (6))), .inr (.inr (some (720)))]) rfl ?_
        refine ez_gC (p := 722) (tg := 54) hB1 t720 rfl rfl tq_52 rfl rfl (fun (t722 : _ = 54) => ?_)
        refine ez_go (n := 1) (pc' := 116) (L' := [(1, .inl (1)), (2, .inl (nm2)), (0, .inr (.inr (some (720))))]) (st' := [.inl (1), .inr (.inr (some (722))), .inl ((qz_I g 721 (1 : Int).toNat) + (3)), .inr (.inr (some (6))), .inr (.inr (some (720)))]) rfl ?_
        have n29 : 7 ≤ qz_N g 722 ∧ qz_N g 722 ≤ 7 := ez_len hB1 t722 tq_54 rfl
        refine ez_aI hB1 t722 rfl tq_54 rfl rfl (by omega) (by omega) (fun (b28 : 0 ≤ qz_I g 722 (1 : Int).toNat) (b28' : qz_I g 722 (1 : Int).toNat ≤ 4096) => ?_)
        have hl6 := nzl_6
        refine ez_cv hB1 t720 rfl rfl rfl tq_52 rfl rfl rfl (rd_nameIndex (l := nzs_6) 5 hB1 t720 ts6 (hZ1 6 nzs_6 rfl).1 (by omega) (by omega) (by omega) (by omega) (by omega) (by omega) (nz_fst (n := 5) (by decide)) (Or.inr (by decide)) (fun nm6 w0 w1 wv wn => ez_K1 ?_))
        have wi6 := nz_ni_ix nzT_6 (by omega) wn
        rw [bg, ef, et] at wi6
        rw [hl6.2] at w1
        refine ez_go (n := 3) (pc' := 123) (L' := [(2, .inl (nm6)), (1, .inl (1)), (0, .inr (.inr (some (720))))]) (st' := [.inl (-1), .inl (nm6)]) rfl ?_
        refine ez_icmp rfl rfl ⟨by first | omega | exact (sz_i32 _).1, by first | omega | exact (sz_i32 _).2⟩ ⟨by first | omega | exact (sz_i32 _).1, by first | omega | exact (sz_i32 _).2⟩ (fun (c30 : (nm6) ≠ (-1)) => ?_) (fun (c30 : ¬((nm6) ≠ (-1))) => ?_)
        · skip
          refine ez_go (n := 1) (pc' := 129) (L' := [(2, .inl (nm6)), (1, .inl (1)), (0, .inr (.inr (some (720))))]) (st' := [.inr (.inr (some (720)))]) rfl ?_
          refine ez_gC (p := 202) (tg := 48) hB1 t720 rfl rfl tq_52 rfl rfl (fun (t202 : _ = 48) => ?_)
          refine ez_go (n := 1) (pc' := 133) (L' := [(2, .inl (nm6)), (1, .inl (1)), (0, .inr (.inr (some (720))))]) (st' := [.inr (.inr (some (720))), .inr (.inr (some (202)))]) rfl ?_
          refine ez_gI hB1 t720 rfl rfl tq_52 rfl rfl (fun (b31 : -2147483648 ≤ qz_I g 720 4) (b31' : qz_I g 720 4 ≤ 2147483647) => ?_)
          refine ez_go (n := 1) (pc' := 137) (L' := [(2, .inl (nm6)), (1, .inl (1)), (0, .inr (.inr (some (720))))]) (st' := [.inr (.inr (some (720))), .inl (qz_I g 720 4), .inr (.inr (some (202)))]) rfl ?_
          refine ez_gI hB1 t720 rfl rfl tq_52 rfl rfl (fun (b32 : -2147483648 ≤ qz_I g 720 5) (b32' : qz_I g 720 5 ≤ 2147483647) => ?_)
          refine ez_go (n := 2) (pc' := 142) (L' := [(2, .inl (nm6)), (1, .inl (1)), (0, .inr (.inr (some (720))))]) (st' := [.inl (nm6), .inl (1), .inl (qz_I g 720 5), .inl (qz_I g 720 4), .inr (.inr (some (202)))]) rfl ?_
          refine ez_cv hB1 t202 rfl rfl rfl tq_48 rfl rfl rfl (rd_tellProperty hB1 t202 t203 hs1 hi1 (by omega) (by omega) (by omega) (by omega) (by omega) (by omega) (by omega) (by omega) (fun g2 hB2 ht => ez_K0 ?_))
          have p720 : sz_PS τ 720 = false := by unfold sz_PS; rw [t720]; rfl
          have u4 : qz_I g2 720 4 = qz_I g 720 4 := ht.2.2.1.I p720 4
          have u5 : qz_I g2 720 5 = qz_I g 720 5 := ht.2.2.1.I p720 5
          have hce : ((1 : Int) = 2 ∧ nm6 = 0) ↔ rz_CE (rz_b h) (rz_f h 1) (rz_t h 1) := ⟨fun w => absurd w.1 (by decide), fun w => absurd w hno⟩
          refine ez_go (n := 1) (pc' := 146) (L' := [(2, .inl (nm6)), (1, .inl (1)), (0, .inr (.inr (some (720))))]) (st' := [.inr (.inr (some (720)))]) rfl ?_
          refine ez_gI hB2 t720 rfl rfl tq_52 rfl rfl (fun (b33 : -2147483648 ≤ qz_I g2 720 5) (b33' : qz_I g2 720 5 ≤ 2147483647) => ?_)
          refine ez_go (n := 1) (pc' := 150) (L' := [(2, .inl (nm6)), (1, .inl (1)), (0, .inr (.inr (some (720))))]) (st' := [.inr (.inr (some (720))), .inl (qz_I g2 720 5)]) rfl ?_
          refine ez_gI hB2 t720 rfl rfl tq_52 rfl rfl (fun (b34 : -2147483648 ≤ qz_I g2 720 4) (b34' : qz_I g2 720 4 ≤ 2147483647) => ?_)
          refine ez_go (n := 3) (pc' := 156) (L' := [(2, .inl (nm6)), (1, .inl (1)), (0, .inr (.inr (some (720))))]) (st' := [.inl (((qz_I g2 720 5) - (qz_I g2 720 4)) + (1))]) rfl ?_
          rw [u4, u5, v4, v5]
          rw [v4, v5] at ht
          refine ez_retI rfl rfl (kS g2 g _ _ hB2 hB1 x1 rfl rfl y1 y2 (sz_told_CE (by omega) (by omega) hce ht) (Or.inr (Or.inl ⟨sw3, sw5, by omega⟩)) 1 nm6 (Or.inr (Or.inl ⟨sw3, sw5, rfl, by omega⟩)) (by omega) (by omega) ht)
        · skip
          refine ez_go (n := 1) (pc' := 127) (L' := [(2, .inl (nm6)), (1, .inl (1)), (0, .inr (.inr (some (720))))]) (st' := [.inl (-1)]) rfl ?_
          refine ez_retI rfl rfl (kN g hB1 x1 (fun w => by first | exact hno w.2 | (have q := wv.mpr w.2; omega)) (fun w => ?_))
          rcases w.2 with ⟨a1, a2⟩ | ⟨a1, a2, a3⟩ | ⟨a1, a2, a3⟩
          · exact sw3 a1
          · exact a3 (by omega)
          · exact a2 sw5
      · skip
        have sw5 : ¬ rz_sw (rz_b h) nzs_5 (rz_f h 1) (rz_t h 1) := by have := e5; rw [bg, ef, et] at this; exact this
        refine ez_if rfl rfl ⟨by decide, by decide⟩ (fun _ => ?_) (fun (c35 : ¬((0 : Int) = (0))) => absurd c35 (by decide))
        refine ez_go (n := 2) (pc' := 123) (L' := [(2, .inl (nm2)), (1, .inl (2)), (0, .inr (.inr (some (720))))]) (st' := [.inl (-1), .inl (nm2)]) rfl ?_
        refine ez_icmp rfl rfl ⟨by first | omega | exact (sz_i32 _).1, by first | omega | exact (sz_i32 _).2⟩ ⟨by first | omega | exact (sz_i32 _).1, by first | omega | exact (sz_i32 _).2⟩ (fun (c36 : (nm2) ≠ (-1)) => ?_) (fun (c36 : ¬((nm2) ≠ (-1))) => ?_)
        · skip
          refine ez_go (n := 1) (pc' := 129) (L' := [(2, .inl (nm2)), (1, .inl (2)), (0, .inr (.inr (some (720))))]) (st' := [.inr (.inr (some (720)))]) rfl ?_
          refine ez_gC (p := 202) (tg := 48) hB1 t720 rfl rfl tq_52 rfl rfl (fun (t202 : _ = 48) => ?_)
          refine ez_go (n := 1) (pc' := 133) (L' := [(2, .inl (nm2)), (1, .inl (2)), (0, .inr (.inr (some (720))))]) (st' := [.inr (.inr (some (720))), .inr (.inr (some (202)))]) rfl ?_
          refine ez_gI hB1 t720 rfl rfl tq_52 rfl rfl (fun (b37 : -2147483648 ≤ qz_I g 720 4) (b37' : qz_I g 720 4 ≤ 2147483647) => ?_)
          refine ez_go (n := 1) (pc' := 137) (L' := [(2, .inl (nm2)), (1, .inl (2)), (0, .inr (.inr (some (720))))]) (st' := [.inr (.inr (some (720))), .inl (qz_I g 720 4), .inr (.inr (some (202)))]) rfl ?_
          refine ez_gI hB1 t720 rfl rfl tq_52 rfl rfl (fun (b38 : -2147483648 ≤ qz_I g 720 5) (b38' : qz_I g 720 5 ≤ 2147483647) => ?_)
          refine ez_go (n := 2) (pc' := 142) (L' := [(2, .inl (nm2)), (1, .inl (2)), (0, .inr (.inr (some (720))))]) (st' := [.inl (nm2), .inl (2), .inl (qz_I g 720 5), .inl (qz_I g 720 4), .inr (.inr (some (202)))]) rfl ?_
          refine ez_cv hB1 t202 rfl rfl rfl tq_48 rfl rfl rfl (rd_tellProperty hB1 t202 t203 hs1 hi1 (by omega) (by omega) (by omega) (by omega) (by omega) (by omega) (by omega) (by omega) (fun g2 hB2 ht => ez_K0 ?_))
          have p720 : sz_PS τ 720 = false := by unfold sz_PS; rw [t720]; rfl
          have u4 : qz_I g2 720 4 = qz_I g 720 4 := ht.2.2.1.I p720 4
          have u5 : qz_I g2 720 5 = qz_I g 720 5 := ht.2.2.1.I p720 5
          have hce : ((2 : Int) = 2 ∧ nm2 = 0) ↔ rz_CE (rz_b h) (rz_f h 1) (rz_t h 1) := ⟨fun w => wv.mp w.2, fun w => ⟨rfl, wv.mpr w⟩⟩
          refine ez_go (n := 1) (pc' := 146) (L' := [(2, .inl (nm2)), (1, .inl (2)), (0, .inr (.inr (some (720))))]) (st' := [.inr (.inr (some (720)))]) rfl ?_
          refine ez_gI hB2 t720 rfl rfl tq_52 rfl rfl (fun (b39 : -2147483648 ≤ qz_I g2 720 5) (b39' : qz_I g2 720 5 ≤ 2147483647) => ?_)
          refine ez_go (n := 1) (pc' := 150) (L' := [(2, .inl (nm2)), (1, .inl (2)), (0, .inr (.inr (some (720))))]) (st' := [.inr (.inr (some (720))), .inl (qz_I g2 720 5)]) rfl ?_
          refine ez_gI hB2 t720 rfl rfl tq_52 rfl rfl (fun (b40 : -2147483648 ≤ qz_I g2 720 4) (b40' : qz_I g2 720 4 ≤ 2147483647) => ?_)
          refine ez_go (n := 3) (pc' := 156) (L' := [(2, .inl (nm2)), (1, .inl (2)), (0, .inr (.inr (some (720))))]) (st' := [.inl (((qz_I g2 720 5) - (qz_I g2 720 4)) + (1))]) rfl ?_
          rw [u4, u5, v4, v5]
          rw [v4, v5] at ht
          refine ez_retI rfl rfl (kS g2 g _ _ hB2 hB1 x1 rfl rfl y1 y2 (sz_told_CE (by omega) (by omega) hce ht) (Or.inr (Or.inr ⟨sw3, sw5, by omega⟩)) 2 nm2 (Or.inr (Or.inr ⟨sw3, sw5, rfl, by omega⟩)) (by omega) (by omega) ht)
        · skip
          refine ez_go (n := 1) (pc' := 127) (L' := [(2, .inl (nm2)), (1, .inl (2)), (0, .inr (.inr (some (720))))]) (st' := [.inl (-1)]) rfl ?_
          refine ez_retI rfl rfl (kN g hB1 x1 (fun w => by first | exact hno w.2 | (have q := wv.mpr w.2; omega)) (fun w => ?_))
          rcases w.2 with ⟨a1, a2⟩ | ⟨a1, a2, a3⟩ | ⟨a1, a2, a3⟩
          · exact sw3 a1
          · exact sw5 a2
          · exact a3 (by omega)
  · skip
    refine ez_if rfl rfl ⟨by decide, by decide⟩ (fun (c41 : (0 : Int) ≠ (0)) => absurd c41 (by decide)) (fun _ => ?_)
    refine ez_go (n := 1) (pc' := 8) (L' := [(0, .inr (.inr (some (720))))]) (st' := [.inl (-1)]) rfl ?_
    exact ez_retI rfl rfl (kN g hB1 x1 (fun w => absurd w.1.2 (y1 w.1.1)) (fun w => absurd w.1.2 (y1 w.1.1)))

end EzTpp
/-! L3, part 7: by hand: arrays of all kinds that are made, longs and booleans in arrays, tags that change. -/
section EzY
variable {d : Nat} {M : cz_M} {pc : Nat} {L : List (Nat × ez_V)} {st : List ez_V} {h : cz_H} {Q : cz_F → Prop} {τ : Nat → Nat}
theorem ez_dn (c : Nat) : dz_n (cz_dflt c) = 0 := by
  unfold cz_dflt
  split <;> rfl
/-- a new array's cell -/
theorem ez_newB {k c t : Nat} {n : Int} {ti : dz_I} {D : dz_D} (hB : ez_B τ h) (hti : tz_T t = some ti) (hD : dz_nth ti.2.2.2.2 0 = some D) (b1 : Nat.beq ti.1 1 = true) (b2 : Nat.beq ti.2.1 k = true) (b4 : dz_d0 D = true) (b5 : Nat.beq D.1 c = true) (h0 : 0 ≤ n) (hlo : ti.2.2.2.1.1 ≤ n) (hhi : n ≤ ti.2.2.2.1.2) (h1 : h.1 + 1 ≤ 600192) (h2 : h.2.1 + n.toNat ≤ 7302232) : ez_B (dz_tn τ h.1 t) (cz_push h n.toNat (.inl (k, n.toNat, fun _ => cz_dflt c))) ∧ qz_N (cz_push h n.toNat (.inl (k, n.toNat, fun _ => cz_dflt c))) h.1 = n ∧ (∀ j, qz_I (cz_push h n.toNat (.inl (k, n.toNat, fun _ => cz_dflt c))) h.1 j = 0) ∧ cz_room h 1 n.toNat = true := by
  have e0 := Nat.eq_of_beq_eq_true b1
  have e1 := Nat.eq_of_beq_eq_true b2
  have e5 := Nat.eq_of_beq_eq_true b5
  subst e5
  obtain ⟨r1, r2⟩ := ez_roomp (n := n.toNat) (c := .inl (k, n.toNat, fun _ => cz_dflt D.1)) h1 h2
  have hBn := dz_B_new (n := n.toNat) (c := .inl (k, n.toNat, fun _ => cz_dflt D.1)) hB (ez_t0 hti (by rw [e0]; rfl)) hti ⟨e0, e1.symm, by show _ ≤ (n.toNat : Int); omega, by show (n.toNat : Int) ≤ _; omega⟩ (fun i v hv => by
    have hv : (if i < n.toNat then some (cz_dflt D.1) else none) = some v := hv
    by_cases hi : i < n.toNat
    · rw [if_pos hi] at hv
      cases hv
      refine ⟨D, ?_, ?_⟩
      · unfold dz_ds; rw [e0]; exact hD
      · exact dz_vd0 b4
    · rw [if_neg hi] at hv; cases hv) r2
  have hcell : (cz_push h n.toNat (.inl (k, n.toNat, fun _ => cz_dflt D.1))).2.2 h.1 = .inl (k, n.toNat, fun _ => cz_dflt D.1) := by show (if h.1 = h.1 then _ else _) = _; rw [if_pos rfl]
  refine ⟨hBn.1, ?_, fun j => ?_, r1⟩
  · unfold qz_N
    rw [hcell]
    show (n.toNat : Int) = n
    omega
  · unfold qz_I
    rw [hcell]
    show (match (if j < n.toNat then some (cz_dflt D.1) else none) with | some v => dz_n v | none => 0) = 0
    by_cases hj : j < n.toNat
    · rw [if_pos hj]; exact ez_dn _
    · rw [if_neg hj]
theorem ez_nA {at_ : ArrayType} {k : Nat} {y : Nat × Nat} {t : Nat} {n : Int} {ti : dz_I} {D : dz_D} (hB : ez_B τ h) (hc : cz_code M pc = some (.newarray at_, 2)) (hk : cz_atn at_ = some k) (hy : cz_pg.2.2[k]? = some y) (hti : tz_T t = some ti) (hD : dz_nth ti.2.2.2.2 0 = some D) (hb : ((Nat.beq ti.1 1 && Nat.beq ti.2.1 k) && (dz_d0 D && Nat.beq D.1 y.1)) = true) (h0 : 0 ≤ n) (hlo : ti.2.2.2.1.1 ≤ n) (hhi : n ≤ ti.2.2.2.1.2) (h3 : n ≤ 67108864) (h1 : h.1 + 1 ≤ 600192) (h2 : h.2.1 + n.toNat ≤ 7302232) (kk : ez_B (dz_tn τ h.1 t) (cz_push h n.toNat (.inl (k, n.toNat, fun _ => cz_dflt y.1))) → qz_N (cz_push h n.toNat (.inl (k, n.toNat, fun _ => cz_dflt y.1))) h.1 = n → (∀ j, qz_I (cz_push h n.toNat (.inl (k, n.toNat, fun _ => cz_dflt y.1))) h.1 j = 0) → ez_W d M (pc + 2) L (.inr (.inr (some h.1)) :: st) (cz_push h n.toNat (.inl (k, n.toNat, fun _ => cz_dflt y.1))) Q) : ez_W d M pc L (.inl n :: st) h Q := by
  simp only [Bool.and_eq_true] at hb
  obtain ⟨⟨b1, b2⟩, b4, b5⟩ := hb
  obtain ⟨x1, x2, x3, r1⟩ := ez_newB (h := h) hB hti hD b1 b2 b4 b5 h0 hlo hhi h1 h2
  have en : (Int32.ofInt n).toInt = n := dz_toInt_i (by omega) (by omega)
  refine dz_wp_hp (q := (pc + 2, ez_v (.inr (.inr (some h.1))) :: st.map ez_v, cz_push h n.toNat (.inl (k, n.toNat, fun _ => cz_dflt y.1)))) hc rfl rfl rfl rfl rfl ?_ (kk x1 x2 x3)
  show cz_hna cz_pg at_ pc (.inl (Int32.ofInt n) :: st.map ez_v) h = _
  unfold cz_hna
  have h4 : Nat.ble (n.toNat * 8) 536870912 = true := Nat.ble_eq.mpr (by omega)
  simp only [hk, en, decide_eq_true h0, r1, h4, Bool.and_self, cond_true, hy]
  rfl
/-- a new array of references -/
theorem ez_nQ {x ty a b : Nat} {t : Nat} {n : Int} {ti : dz_I} {D : dz_D} (hB : ez_B τ h) (hc : cz_code M pc = some (.anewarray x, 3)) (hq : cz_lk M (x + 65536) = some (10, ty, a, b)) (hti : tz_T t = some ti) (hD : dz_nth ti.2.2.2.2 0 = some D) (hb : ((Nat.beq ti.1 1 && Nat.beq ti.2.1 ty) && (dz_d0 D && Nat.beq D.1 3)) = true) (h0 : 0 ≤ n) (hlo : ti.2.2.2.1.1 ≤ n) (hhi : n ≤ ti.2.2.2.1.2) (h3 : n ≤ 67108864) (h1 : h.1 + 1 ≤ 600192) (h2 : h.2.1 + n.toNat ≤ 7302232) (kk : ez_B (dz_tn τ h.1 t) (cz_push h n.toNat (.inl (ty, n.toNat, fun _ => cz_dflt 3))) → qz_N (cz_push h n.toNat (.inl (ty, n.toNat, fun _ => cz_dflt 3))) h.1 = n → (∀ j, qz_I (cz_push h n.toNat (.inl (ty, n.toNat, fun _ => cz_dflt 3))) h.1 j = 0) → ez_W d M (pc + 3) L (.inr (.inr (some h.1)) :: st) (cz_push h n.toNat (.inl (ty, n.toNat, fun _ => cz_dflt 3))) Q) : ez_W d M pc L (.inl n :: st) h Q := by
  simp only [Bool.and_eq_true] at hb
  obtain ⟨⟨b1, b2⟩, b4, b5⟩ := hb
  obtain ⟨x1, x2, x3, r1⟩ := ez_newB (h := h) hB hti hD b1 b2 b4 b5 h0 hlo hhi h1 h2
  have en : (Int32.ofInt n).toInt = n := dz_toInt_i (by omega) (by omega)
  refine dz_wp_hp (q := (pc + 3, ez_v (.inr (.inr (some h.1))) :: st.map ez_v, cz_push h n.toNat (.inl (ty, n.toNat, fun _ => cz_dflt 3)))) hc rfl rfl rfl rfl rfl ?_ (kk x1 x2 x3)
  show cz_hnq M x pc (.inl (Int32.ofInt n) :: st.map ez_v) h = _
  unfold cz_hnq
  have h4 : Nat.ble (n.toNat * 8) 536870912 = true := Nat.ble_eq.mpr (by omega)
  simp only [hq, en, decide_eq_true h0, r1, h4, show Nat.beq 10 10 = true from rfl, Bool.and_self, cond_true]
  rfl
/-- a long of an array -/
theorem ez_aL {r t : Nat} {ti : dz_I} {i lo hi : Int} {tg md : Nat} (hB : ez_B τ h) (hτ : τ r = t) (hc : cz_code M pc = some (.laload, 1)) (hti : tz_T t = some ti) (hD : dz_nth ti.2.2.2.2 0 = some (2, lo, hi, tg, md)) (hb : ((Nat.beq ti.1 1 && Nat.blt ti.2.1 11) && (Nat.beq ti.2.1 2 && dz_ile ti.2.2.2.1.2 2147483647)) = true) (h0 : 0 ≤ i) (h1 : i < qz_N h r) (kk : ez_W d M (pc + 1) L (.inr (.inl (Int64.ofInt (qz_I h r i.toNat))) :: st) h Q) : ez_W d M pc L (.inl i :: .inr (.inr (some r)) :: st) h Q := by
  rw [Bool.and_eq_true] at hb
  obtain ⟨b0, b1⟩ := hb
  simp only [Bool.and_eq_true] at b1
  obtain ⟨b1, b3⟩ := b1
  have b3 := dz_ile_ok b3
  obtain ⟨n, f, o1, o2, o3, o4, -, o6⟩ := ez_arr hB hτ hti b0 hD
  rw [o3] at h1 o4
  have hi : i.toNat < n := by omega
  obtain ⟨g1, g2⟩ := o6 _ hi
  have hx : ∃ x : Int64, f i.toNat = .inr (.inl x) := by
    have := g2.1
    revert this
    generalize f i.toNat = v
    intro this
    match v with
    | .inl _ => cases this
    | .inr (.inl x) => exact ⟨x, rfl⟩
    | .inr (.inr _) => cases this
  obtain ⟨x, hx⟩ := hx
  refine ez_alw (u := .inr (.inl (Int64.ofInt (qz_I h r i.toNat)))) hc b1 o1 (ez_ix h0 h1 (by omega)) ?_ kk
  rw [qz_I_of g1, hx]
  show (Sum.inr (Sum.inl x) : cz_V) = .inr (.inl (Int64.ofInt x.toInt))
  rw [Int64.ofInt_toInt]
/-- a boolean into an array -/
theorem ez_az {r t : Nat} {ti : dz_I} {D : dz_D} {i v : Int} (hB : ez_B τ h) (hτ : τ r = t) (hc : cz_code M pc = some (.bastore, 1)) (hti : tz_T t = some ti) (hD : dz_nth ti.2.2.2.2 0 = some D) (hb : ((Nat.beq ti.1 1 && Nat.blt ti.2.1 11) && (Nat.beq ti.2.1 3 && (Nat.beq ti.2.2.1 1 && dz_ile ti.2.2.2.1.2 2147483647))) = true) (h0 : 0 ≤ i) (h1 : i < qz_N h r) (hv01 : v = 0 ∨ v = 1) (hv : dz_vd τ r D (ez_v (.inl v))) (kk : ez_B τ (dz_put h r i.toNat (ez_v (.inl v))) → qz_I (dz_put h r i.toNat (ez_v (.inl v))) r i.toNat = dz_n (ez_v (.inl v)) → ez_W d M (pc + 1) L st (dz_put h r i.toNat (ez_v (.inl v))) Q) : ez_W d M pc L (.inl v :: .inl i :: .inr (.inr (some r)) :: st) h Q := by
  rw [Bool.and_eq_true] at hb
  obtain ⟨b0, b1⟩ := hb
  simp only [Bool.and_eq_true] at b1
  obtain ⟨b1, b2, b3⟩ := b1
  have b3 := dz_ile_ok b3
  obtain ⟨n, f, o1, o2, o3, o4, o5, o6⟩ := ez_arr hB hτ hti b0 hD
  rw [o3] at h1 o4
  have hi : i.toNat < n := by omega
  obtain ⟨g1, g2⟩ := o6 _ hi
  have hr : 192 ≤ r := by
    rcases o5 with w | w
    · rw [w] at b2; cases b2
    · exact w
  have b0' := b0
  rw [Bool.and_eq_true] at b0'
  have e0 := Nat.eq_of_beq_eq_true b0'.1
  have e3 := Nat.eq_of_beq_eq_true b1
  have hds : dz_ds ti i.toNat = some D := by unfold dz_ds; rw [e0]; exact hD
  obtain ⟨x1, x2⟩ := ez_ix h0 h1 (by omega)
  have kk := kk (ez_Bput hB (by rw [hτ]; exact hti) g1 hds hv) (qz_put_I0 g1)
  refine dz_wp_hp (q := (pc + 1, st.map ez_v, dz_put h r i.toNat (ez_v (.inl v)))) hc rfl rfl rfl rfl rfl ?_ kk
  show (match cz_arr h r with
      | some c => bif Nat.beq c.1 0 then cz_astore pc (st.map ez_v) h (Int32.ofInt i) r (.inl (Int32.ofInt v).toInt8.toInt32) (fun t => Nat.beq t 0) else bif decide (Int32.ofInt v = 0) || decide (Int32.ofInt v = 1) then cz_astore pc (st.map ez_v) h (Int32.ofInt i) r (.inl (Int32.ofInt v)) (fun t => Nat.beq t 3) else none
      | none => none) = _
  rw [o1]
  have e01 : (decide (Int32.ofInt v = 0) || decide (Int32.ofInt v = 1)) = true := by rcases hv01 with rfl | rfl <;> rfl
  simp only [e3, e01, show Nat.beq 3 0 = false from rfl, cond_true, cond_false]
  unfold cz_astore
  rw [e3] at o1
  simp only [o1, x1, show Nat.beq 3 3 = true from rfl, Nat.ble_eq.mpr hr, Bool.and_self, cond_true]
  show some (pc + 1, st.map ez_v, cz_setc h r (.inl (3, n, fun j => if j = (Int32.ofInt i).toInt.toNat then ez_v (.inl v) else f j))) = some (pc + 1, st.map ez_v, cz_setc h r (dz_set (h.2.2 r) i.toNat (ez_v (.inl v))))
  rw [o2, x2, e3]
  rfl
theorem ez_ldc2 {x a b z : Nat} (n : Int) (hc : cz_code M pc = some (.ldc2_w x, 3)) (hq : cz_lk M x = some (15, a, b, z)) (hn : (a : Int) - (b : Int) = n) (kk : ez_W d M (pc + 3) L (.inr (.inl (Int64.ofInt n)) :: st) h Q) : ez_W d M pc L st h Q := by
  refine dz_wp_hp (q := (pc + 3, ez_v (.inr (.inl (Int64.ofInt n))) :: st.map ez_v, h)) hc rfl rfl rfl rfl rfl ?_ kk
  show cz_hldc2 M x pc (st.map ez_v) h = _
  unfold cz_hldc2
  simp only [hq, show Nat.beq 15 15 = true from rfl, cond_true]
  rw [hn]
  rfl
theorem ez_vdR1 {r p : Nat} {lo hi : Int} {tg : Nat} (h0 : Nat.beq tg 0 = false) (hp : τ p = tg) (h1 : lo ≤ (p : Int) + 1) (h2 : (p : Int) + 1 ≤ hi) (hrp : r < p) : dz_vd τ r (3, lo, hi, tg, 1) (ez_v (.inr (.inr (some p)))) :=
  ⟨rfl, Or.inr ⟨h1, h2⟩, Or.inr (fun q hq => by cases hq; exact ⟨hp, fun e => by have e : tg = 0 := e; rw [e] at h0; cases h0⟩), Or.inr (Or.inr (by show (r : Int) + 1 < (p : Int) + 1; omega)), Or.inl (by show (1 : Nat) ≠ 3; decide), Or.inl (by show (1 : Nat) ≠ 4; decide)⟩
/-- a chain goes up -/
theorem ez_up (hB : ez_B τ h) {r t cl k : Nat} {ti : dz_I} {lo hi : Int} {tg : Nat} (hτ : τ r = t) (hti : tz_T t = some ti) (hk : (Nat.beq ti.1 0 && Nat.beq ti.2.1 cl) = true) (hD : dz_nth ti.2.2.2.2 k = some (3, lo, hi, tg, 1)) : qz_I h r k = 0 ∨ (r : Int) + 1 < qz_I h r k := by
  obtain ⟨vs, v, -, -, g1, g2, -⟩ := ez_fld hB hτ hti hk hD
  rw [qz_I_of g1]
  rcases g2.2.2.2.1 with w | w
  · exact absurd rfl w
  · exact w
/-- no tag points to t -/
theorem ez_no {t : Nat} (h : tz_I.all (fun ti => ti.2.2.2.2.all (fun D => !(Nat.beq D.2.2.2.1 t))) = true) : ∀ u tu i D, tz_T u = some tu → dz_ds tu i = some D → D.2.2.2.1 ≠ t := by
  intro u tu i D h1 h2 e
  unfold tz_T at h1
  rw [dz_nth_eq] at h1
  have m1 := List.mem_of_getElem? h1
  have a1 := List.all_eq_true.mp h tu m1
  have m2 : D ∈ tu.2.2.2.2 := by
    unfold dz_ds at h2
    split at h2
    · rw [dz_nth_eq] at h2; exact List.mem_of_getElem? h2
    · rw [dz_nth_eq] at h2; exact List.mem_of_getElem? h2
    · cases h2
  have a2 := List.all_eq_true.mp a1 D m2
  rw [e, Nat.beq_refl] at a2
  cases a2
/-- another tag for a cell that nothing points to -/
theorem ez_rt (hB : ez_B τ h) {r t t' : Nat} {ti' : dz_I} (hτ : τ r = t) (hti' : tz_T t' = some ti') (hno : ∀ u tu i D, tz_T u = some tu → dz_ds tu i = some D → D.2.2.2.1 ≠ t) (h0 : t ≠ 0) (hsh : dz_sh ti' (h.2.2 r)) (hw : ti'.2.2.1 = 0 ∨ 192 ≤ r) (hsl : ∀ i v, dz_get (h.2.2 r) i = some v → ∃ D, dz_ds ti' i = some D ∧ dz_vd τ r D v) : ez_B (dz_tn τ r t') h := by
  have hvd : ∀ {u tu i D q v}, tz_T u = some tu → dz_ds tu i = some D → dz_vd τ q D v → dz_vd (dz_tn τ r t') q D v := by
    intro u tu i D q v e1 e2 e3
    refine ⟨e3.1, e3.2.1, e3.2.2.1.imp id (fun e4 z hz => ?_), e3.2.2.2⟩
    obtain ⟨z1, z2⟩ := e4 z hz
    refine ⟨?_, z2⟩
    unfold dz_tn
    by_cases e : z = r
    · subst e
      rw [hτ] at z1
      exact absurd z1.symm (hno u tu i D e1 e2)
    · rw [if_neg e]; exact z1
  refine ⟨fun q hq => ?_, hB.2.1, hB.2.2⟩
  by_cases e : q = r
  · subst e
    refine ⟨(hB.1 q (by rw [hτ]; exact h0)).1, ti', ?_, hsh, hw, fun i v hv => ?_⟩
    · unfold dz_tn; rw [if_pos rfl]; exact hti'
    · obtain ⟨D, d1, d2⟩ := hsl i v hv
      exact ⟨D, d1, hvd hti' d1 d2⟩
  · have eq : dz_tn τ r t' q = τ q := by unfold dz_tn; rw [if_neg e]
    rw [eq] at hq
    obtain ⟨a1, ti, a2, a3, a4, a5⟩ := hB.1 q hq
    refine ⟨a1, ti, by rw [eq]; exact a2, a3, a4, fun i v hv => ?_⟩
    obtain ⟨D, d1, d2⟩ := a5 i v hv
    exact ⟨D, d1, hvd a2 d1 d2⟩
theorem ez_rtO (hB : ez_B τ h) {r t t' : Nat} {ti ti' : dz_I} (hτ : τ r = t) (hti : tz_T t = some ti) (hti' : tz_T t' = some ti') (hno : tz_I.all (fun ti => ti.2.2.2.2.all (fun D => !(Nat.beq D.2.2.2.1 t))) = true) (hk : ((Nat.beq ti.1 0 && Nat.beq ti'.1 0) && ((Nat.beq ti.2.1 ti'.2.1 && Nat.beq ti.2.2.1 ti'.2.2.1) && Nat.beq ti.2.2.2.2.length ti'.2.2.2.2.length)) = true) (hD : ∀ k D v, dz_nth ti.2.2.2.2 k = some D → dz_n v = qz_I h r k → dz_vd τ r D v → ∃ D', dz_nth ti'.2.2.2.2 k = some D' ∧ dz_vd τ r D' v) : ez_B (dz_tn τ r t') h := by
  simp only [Bool.and_eq_true] at hk
  obtain ⟨⟨k1, k2⟩, ⟨k3, k4⟩, k5⟩ := hk
  have k1 := Nat.eq_of_beq_eq_true k1
  have k2 := Nat.eq_of_beq_eq_true k2
  have k3 := Nat.eq_of_beq_eq_true k3
  have k4 := Nat.eq_of_beq_eq_true k4
  have k5 := Nat.eq_of_beq_eq_true k5
  have h0 : t ≠ 0 := ez_t0 hti (by rw [k1]; rfl)
  obtain ⟨a1, ti0, a2, a3, a4, a5⟩ := hB.1 r (by rw [hτ]; exact h0)
  rw [hτ, hti] at a2
  cases a2
  refine ez_rt hB hτ hti' (ez_no hno) h0 ?_ (by rw [← k4]; exact a4) (fun i v hv => ?_)
  · revert a3
    generalize h.2.2 r = c
    intro a3
    match c with
    | .inl q => exact absurd (k1.symm.trans a3.1) (by decide)
    | .inr (.inl q) => exact ⟨k2, a3.2.1.trans k3, a3.2.2.trans k5⟩
    | .inr (.inr k) => exact absurd (k1.symm.trans a3.1) (by decide)
  · obtain ⟨D, d1, d2⟩ := a5 i v hv
    have d1' : dz_nth ti.2.2.2.2 i = some D := by unfold dz_ds at d1; rw [k1] at d1; exact d1
    obtain ⟨D', e1, e2⟩ := hD i D v d1' (qz_I_of hv).symm d2
    refine ⟨D', ?_, e2⟩
    unfold dz_ds
    rw [k2]
    exact e1
theorem ez_tn_ne {τ : Nat → Nat} {r t q : Nat} (h : q ≠ r) : dz_tn τ r t q = τ q := by unfold dz_tn; rw [if_neg h]
theorem ez_tn_eq {τ : Nat → Nat} {r t : Nat} : dz_tn τ r t r = t := by unfold dz_tn; rw [if_pos rfl]
/-- an Entry whose elements are there -/
theorem ez_rtEntry (hB : ez_B τ h) {r : Nat} (hτ : τ r = 8) (h1 : 1 ≤ qz_I h r 1) : ez_B (dz_tn τ r 7) h := by
  refine ez_rtO hB hτ tq_8 tq_7 rfl rfl (fun k D v hD hn hv => ?_)
  match k with
  | 0 => exact ⟨D, hD, hv⟩
  | 1 =>
    cases hD
    refine ⟨_, rfl, hv.1, Or.inr ⟨?_, ?_⟩, hv.2.2.1, hv.2.2.2⟩
    · rw [hn]; exact h1
    · exact (hv.2.1.resolve_left (by decide)).2
  | k + 2 => cases hD
/-- a StringBuilder, a String whose bytes are there -/
theorem ez_rtSB (hB : ez_B τ h) {r : Nat} (hτ : τ r = 29) (h1 : 1 ≤ qz_I h r 0) : ez_B (dz_tn τ r 30) h := by
  refine ez_rtO hB hτ tq_29 tq_30 rfl rfl (fun k D v hD hn hv => ?_)
  match k with
  | 0 =>
    cases hD
    refine ⟨_, rfl, hv.1, Or.inr ⟨?_, ?_⟩, hv.2.2.1, hv.2.2.2⟩
    · rw [hn]; exact h1
    · exact (hv.2.1.resolve_left (by decide)).2
  | 1 => exact ⟨D, hD, hv⟩
  | 2 => exact ⟨D, hD, hv⟩
  | 3 => exact ⟨D, hD, hv⟩
  | k + 4 => cases hD
theorem ez_rtStr (hB : ez_B τ h) {r : Nat} (hτ : τ r = 32) (h1 : 1 ≤ qz_I h r 0) : ez_B (dz_tn τ r 33) h := by
  refine ez_rtO hB hτ tq_32 tq_33 rfl rfl (fun k D v hD hn hv => ?_)
  match k with
  | 0 =>
    cases hD
    refine ⟨_, rfl, hv.1, Or.inr ⟨?_, ?_⟩, hv.2.2.1, hv.2.2.2⟩
    · rw [hn]; exact h1
    · exact (hv.2.1.resolve_left (by decide)).2
  | 1 => exact ⟨D, hD, hv⟩
  | 2 => exact ⟨D, hD, hv⟩
  | 3 => exact ⟨D, hD, hv⟩
  | k + 4 => cases hD
/-- a Line whose rows are there -/
theorem ez_rtLine (hB : ez_B τ h) {r : Nat} (hτ : τ r = 14) (h7 : qz_I h r 7 = (r : Int) + 2) (h8 : qz_I h r 8 = (r : Int) + 3) : ez_B (dz_tn τ r 13) h := by
  refine ez_rtO hB hτ tq_14 tq_13 rfl rfl (fun k D v hD hn hv => ?_)
  match k with
  | 0 => exact ⟨D, hD, hv⟩
  | 1 => exact ⟨D, hD, hv⟩
  | 2 => exact ⟨D, hD, hv⟩
  | 3 => exact ⟨D, hD, hv⟩
  | 4 => exact ⟨D, hD, hv⟩
  | 5 => exact ⟨D, hD, hv⟩
  | 6 => exact ⟨D, hD, hv⟩
  | 7 =>
    cases hD
    refine ⟨_, rfl, hv.1, Or.inr ⟨?_, ?_⟩, Or.inr (hv.2.2.1.resolve_left (by decide)), Or.inl (by decide), Or.inr (by rw [hn]; exact h7), Or.inl (by decide)⟩
    · rw [hn, h7]; show (1 : Int) ≤ _; omega
    · exact (hv.2.1.resolve_left (by decide)).2
  | 8 =>
    cases hD
    refine ⟨_, rfl, hv.1, Or.inr ⟨?_, ?_⟩, Or.inr (hv.2.2.1.resolve_left (by decide)), Or.inl (by decide), Or.inl (by decide), Or.inr (by rw [hn]; exact h8)⟩
    · rw [hn, h8]; show (1 : Int) ≤ _; omega
    · exact (hv.2.1.resolve_left (by decide)).2
  | 9 => exact ⟨D, hD, hv⟩
  | 10 => exact ⟨D, hD, hv⟩
  | 11 => exact ⟨D, hD, hv⟩
  | 12 => exact ⟨D, hD, hv⟩
  | k + 13 => cases hD
theorem ez_vdJ {r : Nat} {x : Int64} : dz_vd τ r (2, 0, 0, 0, 0) (ez_v (.inr (.inl x))) := ⟨rfl, Or.inl rfl, Or.inr (fun q hq => (by cases hq)), ez_m40⟩
theorem ez_tn_xt (hB : ez_B τ h) {t n : Nat} {c : cz_C} : ez_xt τ h (dz_tn τ h.1 t) (cz_push h n c) 1 n ∧ (∀ q, q ≠ h.1 → dz_tn τ h.1 t q = τ q) ∧ dz_tn τ h.1 t h.1 = t ∧ τ h.1 = 0 :=
  ⟨ez_xt_new (t := t) (c := c) hB (Nat.le_refl _) (Nat.le_refl _) (ez_fr.refl _ _), fun _ hq => ez_tn_ne hq, ez_tn_eq, ez_fresh hB⟩
/-- the same, with names for what is new -/
theorem ez_nA' {at_ : ArrayType} {k : Nat} {y : Nat × Nat} {t : Nat} {n : Int} {ti : dz_I} {D : dz_D} (hB : ez_B τ h) (hc : cz_code M pc = some (.newarray at_, 2)) (hk : cz_atn at_ = some k) (hy : cz_pg.2.2[k]? = some y) (hti : tz_T t = some ti) (hD : dz_nth ti.2.2.2.2 0 = some D) (hb : ((Nat.beq ti.1 1 && Nat.beq ti.2.1 k) && (dz_d0 D && Nat.beq D.1 y.1)) = true) (h0 : 0 ≤ n) (hlo : ti.2.2.2.1.1 ≤ n) (hhi : n ≤ ti.2.2.2.1.2) (h3 : n ≤ 67108864) (h1 : h.1 + 1 ≤ 600192) (h2 : h.2.1 + n.toNat ≤ 7302232) (kk : ∀ g τ1 p, ez_B τ1 g → ez_xt τ h τ1 g 1 n.toNat → (∀ q, q ≠ p → τ1 q = τ q) → τ1 p = t → τ p = 0 → p = h.1 → qz_N g p = n → (∀ j, qz_I g p j = 0) → ez_W d M (pc + 2) L (.inr (.inr (some p)) :: st) g Q) : ez_W d M pc L (.inl n :: st) h Q :=
  ez_nA hB hc hk hy hti hD hb h0 hlo hhi h3 h1 h2 (fun a b c => kk _ _ _ a (ez_tn_xt hB).1 (ez_tn_xt (n := n.toNat) (c := .inl (k, n.toNat, fun _ => cz_dflt y.1)) hB).2.1 (ez_tn_xt (n := n.toNat) (c := .inl (k, n.toNat, fun _ => cz_dflt y.1)) hB).2.2.1 (ez_fresh hB) rfl b c)
theorem ez_nQ' {x ty a b : Nat} {t : Nat} {n : Int} {ti : dz_I} {D : dz_D} (hB : ez_B τ h) (hc : cz_code M pc = some (.anewarray x, 3)) (hq : cz_lk M (x + 65536) = some (10, ty, a, b)) (hti : tz_T t = some ti) (hD : dz_nth ti.2.2.2.2 0 = some D) (hb : ((Nat.beq ti.1 1 && Nat.beq ti.2.1 ty) && (dz_d0 D && Nat.beq D.1 3)) = true) (h0 : 0 ≤ n) (hlo : ti.2.2.2.1.1 ≤ n) (hhi : n ≤ ti.2.2.2.1.2) (h3 : n ≤ 67108864) (h1 : h.1 + 1 ≤ 600192) (h2 : h.2.1 + n.toNat ≤ 7302232) (kk : ∀ g τ1 p, ez_B τ1 g → ez_xt τ h τ1 g 1 n.toNat → (∀ q, q ≠ p → τ1 q = τ q) → τ1 p = t → τ p = 0 → p = h.1 → qz_N g p = n → (∀ j, qz_I g p j = 0) → ez_W d M (pc + 3) L (.inr (.inr (some p)) :: st) g Q) : ez_W d M pc L (.inl n :: st) h Q :=
  ez_nQ hB hc hq hti hD hb h0 hlo hhi h3 h1 h2 (fun a b c => kk _ _ _ a (ez_tn_xt hB).1 (ez_tn_xt (n := n.toNat) (c := .inl (ty, n.toNat, fun _ => cz_dflt 3)) hB).2.1 (ez_tn_xt (n := n.toNat) (c := .inl (ty, n.toNat, fun _ => cz_dflt 3)) hB).2.2.1 (ez_fresh hB) rfl b c)
theorem ez_nw' {x cl t z1 z2 : Nat} {ti : dz_I} {ks : List Nat} (hB : ez_B τ h) (hc : cz_code M pc = some (.new x, 3)) (hth : cz_throw M pc (.new x) = none) (hq : cz_lk M x = some (8, cl, z1, z2)) (hti : tz_T t = some ti) (hks : cz_pg.2.1[cl]? = some ks) (hb : ((Nat.beq ti.1 0 && Nat.beq ti.2.1 cl) && (Nat.beq ti.2.2.1 1 && dz_ke ks ti.2.2.2.2)) = true) (h1 : h.1 + 1 ≤ 600192) (h2 : h.2.1 + ks.length ≤ 7302232) (kk : ∀ g τ1 p, ez_B τ1 g → ez_xt τ h τ1 g 1 ks.length → (∀ q, q ≠ p → τ1 q = τ q) → τ1 p = t → τ p = 0 → p = h.1 → (∀ j, qz_I g p j = 0) → ez_W d M (pc + 3) L (.inr (.inr (some p)) :: st) g Q) : ez_W d M pc L st h Q :=
  ez_nw hB hc hth hq hti hks hb h1 h2 (fun a c => kk _ _ _ a (ez_tn_xt hB).1 (ez_tn_xt (n := ks.length) (c := .inr (.inl (cl, ks.map cz_dflt))) hB).2.1 (ez_tn_xt (n := ks.length) (c := .inr (.inl (cl, ks.map cz_dflt))) hB).2.2.1 (ez_fresh hB) rfl c)
/-- cells more, one behind the other -/
theorem ez_xt.trans {τ τ1 τ2 : Nat → Nat} {h g1 g2 : cz_H} {a b c e : Nat} (x : ez_xt τ h τ1 g1 a b) (y : ez_xt τ1 g1 τ2 g2 c e) : ez_xt τ h τ2 g2 (a + c) (b + e) := by
  have h1 := x.2
  have h2 := y.2
  refine ⟨fun q hq => ?_, by omega, by omega⟩
  have q1 := x.1 q hq
  have q2 := y.1 q (by rw [q1.1]; exact hq)
  exact ⟨q2.1.trans q1.1, q2.2.trans q1.2⟩
theorem ez_xt.mono {τ τ1 : Nat → Nat} {h g1 : cz_H} {a b c e : Nat} (x : ez_xt τ h τ1 g1 a b) (h1 : a ≤ c) (h2 : b ≤ e) : ez_xt τ h τ1 g1 c e := by
  have := x.2
  exact ⟨x.1, by omega, by omega⟩
theorem ez_xt.fr {τ τ1 : Nat → Nat} {h g g' : cz_H} {a b r : Nat} (x : ez_xt τ h τ1 g a b) (hf : ez_fr (ez_one r) g g') (hr : τ r = 0) : ez_xt τ h τ1 g' a b := by
  refine ⟨fun q hq => ⟨(x.1 q hq).1, ?_⟩, by rw [hf.1]; exact x.2.1, by rw [hf.2.1]; exact x.2.2⟩
  rw [hf.2.2 q (dz_beq_ne (fun e => by rw [e] at hq; exact hq hr)), (x.1 q hq).2]
theorem ez_xt.xr {τ τ1 : Nat → Nat} {h g : cz_H} {x a b : Nat} (y : ez_xt τ h τ1 g a b) : ez_xr τ h τ1 g x a b := ⟨fun q hq => ⟨(y.1 q hq).1, fun _ => (y.1 q hq).2⟩, y.2⟩
theorem ez_xt.N {τ τ' : Nat → Nat} {h g : cz_H} {dc ds : Nat} (hx : ez_xt τ h τ' g dc ds) {q : Nat} (hq : τ q ≠ 0) : qz_N g q = qz_N h q := by unfold qz_N; rw [(hx.1 q hq).2]
theorem ez_xt.bft {τ τ' : Nat → Nat} {h g : cz_H} {dc ds : Nat} (hx : ez_xt τ h τ' g dc ds) (t193 : τ 193 = 45) (t721 : τ 721 = 53) (t722 : τ 722 = 54) : rz_b g = rz_b h ∧ rz_f g = rz_f h ∧ rz_t g = rz_t h := (hx.xr (x := 720)).bft t193 t721 t722
end EzY
/-! The reader of the class: what LINES 1, 2, 4 need: rows, conditions, elements. (Written by wip/p2/py/pv21.py.) -/
/-- a row of points, where a reference leads -/
def rw5 (τ : Nat → Nat) (h : cz_H) (v : Int) (l : List Int) : Prop := ∃ p : Nat, v = (p : Int) + 1 ∧ τ p = 5 ∧ qz_N h p = (l.length : Int) ∧ ∀ (j : Nat) x, l[j]? = some x → qz_I h p j = x
theorem rw5.tr {τ τ1 : Nat → Nat} {h g : cz_H} {v : Int} {l : List Int} (a : rw5 τ h v l) (e : ∀ q, τ q = 5 → τ1 q = 5 ∧ g.2.2 q = h.2.2 q) : rw5 τ1 g v l := by
  obtain ⟨p, p1, p2, p3, p4⟩ := a
  obtain ⟨q1, q2⟩ := e p p2
  exact ⟨p, p1, q1, by unfold qz_N; rw [q2]; exact p3, fun j x hj => by unfold qz_I; rw [q2]; exact p4 j x hj⟩
/-- a field's row, or nothing -/
noncomputable def rz_rn (b : Int → Int) (s t : Int) : List Int := if s = t then [] else (rz_rw b 18 s t).getD []
theorem nz_ceq (a b : Int64) : (lg_cmp a b).toInt = 0 ↔ a = b := by
  unfold lg_cmp
  by_cases h1 : a > b
  · rw [if_pos h1]
    refine ⟨fun w => absurd w (by decide), fun w => ?_⟩
    have e1 := Int64.lt_iff_toInt_lt.mp h1
    rw [w] at e1
    omega
  · rw [if_neg h1]
    by_cases h2 : a = b
    · rw [if_pos h2]; exact ⟨fun _ => h2, fun _ => by decide⟩
    · rw [if_neg h2]; exact ⟨fun w => absurd w (by decide), fun w => absurd w h2⟩
/-- a row or nothing -/
def rz_ro (b : Int → Int) (s t : Int) : Prop := s = t ∨ rz_rw b 18 s t ≠ none
theorem rz_rn_n {b : Int → Int} {s t : Int} (e : s = t) : rz_rn b s t = [] := if_pos e
theorem rz_rn_s {b : Int → Int} {s t : Int} {vs : List Int} (e : ¬ s = t) (h : rz_rw b 18 s t = some vs) : rz_rn b s t = vs := by unfold rz_rn; rw [if_neg e, h]; rfl
theorem rz_rw_n {b : Int → Int} {m s t : Int} (h : ¬(1 ≤ rz_ct b s (t - s).toNat s ∧ (rz_ct b s (t - s).toNat s : Int) ≤ m) ∨ rz_row b (rz_ct b s (t - s).toNat s) s t = none) : rz_rw b m s t = none := by
  unfold rz_rw
  split
  · exact h.resolve_left (fun w => w (by assumption))
  · rfl
theorem rz_rw_s {b : Int → Int} {m s t : Int} {vs : List Int} (h1 : 1 ≤ rz_ct b s (t - s).toNat s) (h2 : (rz_ct b s (t - s).toNat s : Int) ≤ m) (h3 : rz_row b (rz_ct b s (t - s).toNat s) s t = some vs) : rz_rw b m s t = some vs := by
  unfold rz_rw
  rw [if_pos ⟨h1, h2⟩]; exact h3
/-- conditions: what is known so far, a token more -/
def cbit (c k : Int) : Int := (Int32.ofInt ((Int32.ofInt c >>> (Int32.ofInt k &&& 31)).toInt) &&& Int32.ofInt 1).toInt
def cset (c k : Int) : Int := (Int32.ofInt c ||| Int32.ofInt ((Int32.ofInt 1 <<< (Int32.ofInt k &&& 31)).toInt)).toInt
theorem cset_bd0 : ∀ k : Fin 9, ∀ c : Fin 512, 0 ≤ cset (c.val : Int) (k.val : Int) ∧ cset (c.val : Int) (k.val : Int) ≤ 511 := by unfold cset; decide +kernel
theorem cset_bd {c k : Int} (c0 : 0 ≤ c) (c1 : c ≤ 511) (k0 : 0 ≤ k) (k1 : k < 9) : 0 ≤ cset c k ∧ cset c k ≤ 511 := by
  have := cset_bd0 ⟨k.toNat, by omega⟩ ⟨c.toNat, by omega⟩
  rw [show (((⟨c.toNat, by omega⟩ : Fin 512).val : Nat) : Int) = c from Int.toNat_of_nonneg c0, show (((⟨k.toNat, by omega⟩ : Fin 9).val : Nat) : Int) = k from Int.toNat_of_nonneg k0] at this
  exact this
def nz_ck (b : Int → Int) (en a : Int) : Int := nz_ix nzN_1 (nz_w b a (rz_tok b (en - a).toNat a - a).toNat)
/-- m tokens from a on: -1 or all conditions -/
def nz_cd (b : Int → Int) (en : Int) : Nat → Int → Int → Int
  | 0, _, c => c
  | m + 1, a, c => if nz_ck b en a = -1 ∨ cbit c (nz_ck b en a) ≠ 0 then -1 else nz_cd b en m (rz_skip b (en - rz_tok b (en - a).toNat a).toNat (rz_tok b (en - a).toNat a)) (cset c (nz_ck b en a))
/-- an element stands at a -/
def nz_fr (b : Int → Int) (a : Int) : Prop := b a = 91 ∧ (b (a + 1) = 42 ∨ b (a + 1) = 46) ∧ b (a + 6) = 46 ∧ b (a + 11) = 46 ∧ b (a + 16) = 93
def nz_e1 (b : Int → Int) (a : Int) : Prop := nz_fr b a ∧ rz_hex b 4 (a + 2) 0 ≠ -1 ∧ rz_hex b 4 (a + 7) 0 ≠ -1 ∧ rz_hex b 4 (a + 12) 0 ≠ -1
theorem e_ne (A B C : Int64) (v : Int) (hv : v = 0 ∨ v = 1) : ((A <<< ((Int32.ofInt 48).toInt64 &&& 63) ||| B <<< ((Int32.ofInt 32).toInt64 &&& 63)) ||| C <<< ((Int32.ofInt 16).toInt64 &&& 63)) ||| (Int32.ofInt v).toInt64 ≠ Int64.ofInt (-1) := by
  intro h
  rw [show (Int32.ofInt 48).toInt64 &&& 63 = 48 by decide, show (Int32.ofInt 32).toInt64 &&& 63 = 32 by decide, show (Int32.ofInt 16).toInt64 &&& 63 = 16 by decide] at h
  have h1 := congrArg (fun x : Int64 => x.toBitVec.getLsbD 1) h
  have h2 : (Int64.ofInt (-1)).toBitVec.getLsbD 1 = true := by decide
  have h3 : (Int32.ofInt v).toInt64.toBitVec.getLsbD 1 = false := by rcases hv with e | e <;> subst e <;> decide
  have sh : ∀ (x : Int64) (n : Int64), (n = 48 ∨ n = 32 ∨ n = 16) → (x <<< n).toBitVec.getLsbD 1 = false := fun x n hn => by
    rcases hn with e | e | e <;> subst e
    · show (x.toBitVec <<< (48 : Nat)).getLsbD 1 = false; simp
    · show (x.toBitVec <<< (32 : Nat)).getLsbD 1 = false; simp
    · show (x.toBitVec <<< (16 : Nat)).getLsbD 1 = false; simp
  simp only [Int64.toBitVec_or, BitVec.getLsbD_or, sh A 48 (Or.inl rfl), sh B 32 (Or.inr (Or.inl rfl)), sh C 16 (Or.inr (Or.inr rfl)), h3, h2] at h1
  cases h1
section EzK1
variable {d : Nat} {h : cz_H} {τ : Nat → Nat} {Q : cz_F → Prop}
theorem rd_readRowOrNothing {f : Int} (hB : ez_B τ h) (t720 : τ 720 = 52) (t193 : τ 193 = 45) (f0 : 0 ≤ f) (f1 : f < 7) (hft : rz_f h f ≤ rz_t h f) (hr1 : h.1 + 1 ≤ 600192) (hr2 : h.2.1 + 18 ≤ 7302232) (k : ∀ o g τ1, ez_B τ1 g → ez_xt τ h τ1 g 1 18 → (∀ p, o = some p → τ1 p = 5 ∧ τ p = 0) → (o = none ↔ ¬ rz_ro (rz_b h) (rz_f h f) (rz_t h f)) → (∀ p : Nat, o = some p → rw5 τ1 g ((p : Int) + 1) (rz_rn (rz_b h) (rz_f h f) (rz_t h f))) → Q (.inl (some (.inr (.inr o))), g)) : ez_W (d + 3) cm_167 0 [(0, .inr (.inr (some (720)))), (1, .inl (f))] [] h Q := by
  refine ez_go (n := 2) (pc' := 2) (L' := [(0, .inr (.inr (some (720)))), (1, .inl (f))]) (st' := [.inl (f), .inr (.inr (some (720)))]) rfl ?_
  refine ez_cv hB t720 rfl rfl rfl tq_52 rfl rfl rfl (rd_isEmptyField hB t720 f0 (by omega) (fun e => ez_K1 ?_) (fun e => ez_K1 ?_))
  · skip
    refine ez_if rfl rfl ⟨by decide, by decide⟩ (fun (c1 : (1 : Int) = (0)) => absurd c1 (by decide)) (fun _ => ?_)
    refine ez_go (n := 1) (pc' := 9) (L' := [(0, .inr (.inr (some (720)))), (1, .inl (f))]) (st' := [.inl (0)]) rfl ?_
    refine ez_nA' (t := 5) hB rfl rfl rfl tq_5 rfl rfl (by omega) (by show (0 : Int) ≤ _; omega) (by show _ ≤ (18 : Int); omega) (by omega) (by omega) (by omega) (fun g2 τ2 p2 hB2 x2 o2 t2 z2 e2 N2 y2 => ?_)
    have c2 := x2.2
    have t720n2 := (x2.1 _ (by rw [t720]; decide)).1.trans t720
    refine ez_go (n := 1) (pc' := 32) (L' := [(0, .inr (.inr (some (720)))), (1, .inl (f))]) (st' := [.inr (.inr (some (p2)))]) rfl ?_
    exact ez_retA rfl rfl rfl (k (some p2) g2 τ2 hB2 (x2.mono (by omega) (by omega)) (fun p w => by cases w; exact ⟨t2, z2⟩) ⟨fun w => (by cases w), fun w => absurd (Or.inl e) w⟩ (fun p w => by cases w; refine ⟨_, rfl, t2, ?_, fun j x hj => ?_⟩; (· rw [rz_rn_n e]; exact N2); (· rw [rz_rn_n e] at hj; cases hj)))
  · skip
    refine ez_if rfl rfl ⟨by decide, by decide⟩ (fun _ => ?_) (fun (c3 : ¬((0 : Int) = (0))) => absurd c3 (by decide))
    refine ez_go (n := 2) (pc' := 16) (L' := [(0, .inr (.inr (some (720)))), (1, .inl (f))]) (st' := [.inr (.inr (some (720))), .inr (.inr (some (720)))]) rfl ?_
    refine ez_gC (p := 721) (tg := 53) hB t720 rfl rfl tq_52 rfl rfl (fun (t721 : _ = 53) => ?_)
    refine ez_go (n := 1) (pc' := 20) (L' := [(0, .inr (.inr (some (720)))), (1, .inl (f))]) (st' := [.inl (f), .inr (.inr (some (721))), .inr (.inr (some (720)))]) rfl ?_
    have n5 : 7 ≤ qz_N h 721 ∧ qz_N h 721 ≤ 7 := ez_len hB t721 tq_53 rfl
    refine ez_aI hB t721 rfl tq_53 rfl rfl (by omega) (by omega) (fun (b4 : 0 ≤ qz_I h 721 (f).toNat) (b4' : qz_I h 721 (f).toNat ≤ 4096) => ?_)
    refine ez_go (n := 1) (pc' := 22) (L' := [(0, .inr (.inr (some (720)))), (1, .inl (f))]) (st' := [.inr (.inr (some (720))), .inl (qz_I h 721 (f).toNat), .inr (.inr (some (720)))]) rfl ?_
    refine ez_gC (p := 722) (tg := 54) hB t720 rfl rfl tq_52 rfl rfl (fun (t722 : _ = 54) => ?_)
    refine ez_go (n := 1) (pc' := 26) (L' := [(0, .inr (.inr (some (720)))), (1, .inl (f))]) (st' := [.inl (f), .inr (.inr (some (722))), .inl (qz_I h 721 (f).toNat), .inr (.inr (some (720)))]) rfl ?_
    have n7 : 7 ≤ qz_N h 722 ∧ qz_N h 722 ≤ 7 := ez_len hB t722 tq_54 rfl
    refine ez_aI hB t722 rfl tq_54 rfl rfl (by omega) (by omega) (fun (b6 : 0 ≤ qz_I h 722 (f).toNat) (b6' : qz_I h 722 (f).toNat ≤ 4096) => ?_)
    refine ez_go (n := 1) (pc' := 29) (L' := [(0, .inr (.inr (some (720)))), (1, .inl (f))]) (st' := [.inl (18), .inl (qz_I h 722 (f).toNat), .inl (qz_I h 721 (f).toNat), .inr (.inr (some (720)))]) rfl ?_
    refine ez_cv hB t720 rfl rfl rfl tq_52 rfl rfl rfl (rd_readRow hB t720 t193 (by omega) (by unfold rz_f rz_t at hft; omega) (by omega) (by omega) (by omega) (by omega) (by omega) (fun g τ1 hB1 hx hn => ez_KA ?_) (fun g τ1 vs hB1 hx up hc1 hc2 hrow hN hel => ez_KA ?_))
    · skip
      have hx := hx
      exact ez_retA rfl rfl rfl (k none g τ1 hB1 hx (fun p w => by cases w) ⟨fun _ w => w.elim (fun w => e w) (fun w => w (rz_rw_n hn)), fun _ => rfl⟩ (fun p w => by cases w))
    · skip
      have hx := hx
      exact ez_retA rfl rfl rfl (k (some h.1) g τ1 hB1 hx (fun p w => by cases w; exact ⟨up, ez_fresh hB⟩) ⟨fun w => (by cases w), fun w => absurd (Or.inr (fun w2 => by rw [show rz_rw (rz_b h) 18 (rz_f h f) (rz_t h f) = some vs from rz_rw_s hc1 hc2 hrow] at w2; cases w2)) w⟩ (fun p w => by cases w; refine ⟨h.1, rfl, up, ?_, fun j x hj => ?_⟩; (· rw [rz_rn_s e (rz_rw_s hc1 hc2 hrow), hN, rz_rw_len (rz_rw_s hc1 hc2 hrow)]); (· rw [rz_rn_s e (rz_rw_s hc1 hc2 hrow)] at hj; exact hel j x hj)))

set_option maxRecDepth 4096 in
theorem nzl_1 : nzs_1.length = 83 ∧ nzs_1.count 32 = 8 := by decide
theorem rd_readConditions_l {bg en many : Int} (hB : ez_B τ h) (hZ : nz_Z h) (ts1 : τ 1 = 27) (t720 : τ 720 = 52) (b0 : 0 ≤ bg) (be : bg ≤ en) (e1 : en ≤ 4096) (m0 : 0 ≤ many) (m1 : many ≤ 4096) : ∀ (n : Nat) (k a c : Int), n = (many - k).toNat → bg ≤ a → a ≤ en → 0 ≤ c → c ≤ 511 → 0 ≤ k → k ≤ many → Q (.inl (some (ez_v (.inl (nz_cd (rz_b h) en n a c)))), h) → ez_W (d + 6) cm_161 16 [(6, .inl (k)), (5, .inl (a)), (4, .inl (c)), (3, .inl (many)), (0, .inr (.inr (some (720)))), (1, .inl (bg)), (2, .inl (en))] [] h Q := by
  intro n
  induction n with
  | zero =>
    intro k a c hm a0 a1 cc0 cc1 k0 k1 kk
    refine ez_go (n := 2) (pc' := 19) (L' := [(6, .inl (k)), (5, .inl (a)), (4, .inl (c)), (3, .inl (many)), (0, .inr (.inr (some (720)))), (1, .inl (bg)), (2, .inl (en))]) (st' := [.inl (many), .inl (k)]) rfl ?_
    refine ez_icmp rfl rfl ⟨by first | omega | exact (sz_i32 _).1, by first | omega | exact (sz_i32 _).2⟩ ⟨by first | omega | exact (sz_i32 _).1, by first | omega | exact (sz_i32 _).2⟩ (fun (c1 : (many) ≤ (k)) => ?_) (fun (c1 : ¬((many) ≤ (k))) => ?_)
    · skip
      refine ez_go (n := 1) (pc' := 87) (L' := [(6, .inl (k)), (5, .inl (a)), (4, .inl (c)), (3, .inl (many)), (0, .inr (.inr (some (720)))), (1, .inl (bg)), (2, .inl (en))]) (st' := [.inl (c)]) rfl ?_
      exact ez_retI rfl rfl kk
    · exfalso; omega
  | succ n ih =>
    intro k a c hm a0 a1 cc0 cc1 k0 k1 kk
    refine ez_go (n := 2) (pc' := 19) (L' := [(6, .inl (k)), (5, .inl (a)), (4, .inl (c)), (3, .inl (many)), (0, .inr (.inr (some (720)))), (1, .inl (bg)), (2, .inl (en))]) (st' := [.inl (many), .inl (k)]) rfl ?_
    refine ez_icmp rfl rfl ⟨by first | omega | exact (sz_i32 _).1, by first | omega | exact (sz_i32 _).2⟩ ⟨by first | omega | exact (sz_i32 _).1, by first | omega | exact (sz_i32 _).2⟩ (fun (c1 : (many) ≤ (k)) => ?_) (fun (c1 : ¬((many) ≤ (k))) => ?_)
    · exfalso; omega
    · skip
      refine ez_go (n := 3) (pc' := 26) (L' := [(6, .inl (k)), (5, .inl (a)), (4, .inl (c)), (3, .inl (many)), (0, .inr (.inr (some (720)))), (1, .inl (bg)), (2, .inl (en))]) (st' := [.inl (en), .inl (a), .inr (.inr (some (720)))]) rfl ?_
      have xt := rz_tok_le (rz_b h) (en - a).toNat a
      refine ez_cv hB t720 rfl rfl rfl tq_52 rfl rfl rfl (rd_skipToken hB t720 (by omega) (by omega) (by omega) (ez_K1 ?_))
      obtain ⟨ts, ets⟩ : ∃ ts, ts = rz_tok (rz_b h) (en - a).toNat a := ⟨_, rfl⟩
      rw [← ets] at xt ⊢
      refine ez_go (n := 2) (pc' := 32) (L' := [(7, .inl (ts)), (6, .inl (k)), (5, .inl (a)), (4, .inl (c)), (3, .inl (many)), (0, .inr (.inr (some (720)))), (1, .inl (bg)), (2, .inl (en))]) (st' := [.inr (.inr (some (720)))]) rfl ?_
      refine ez_ldcS rfl rfl ?_
      refine ez_go (n := 2) (pc' := 38) (L' := [(7, .inl (ts)), (6, .inl (k)), (5, .inl (a)), (4, .inl (c)), (3, .inl (many)), (0, .inr (.inr (some (720)))), (1, .inl (bg)), (2, .inl (en))]) (st' := [.inl (ts), .inl (a), .inr (.inr (some (1))), .inr (.inr (some (720)))]) rfl ?_
      refine ez_cv hB t720 rfl rfl rfl tq_52 rfl rfl rfl (rd_nameIndex (l := nzs_1) 2 hB t720 ts1 (hZ 1 nzs_1 rfl).1 (by rw [nzl_1.1]; omega) (by omega) (by omega) (by omega) (by omega) (by rw [nzl_1.1]; omega) (nz_fst (n := 2) (by decide)) (Or.inr (by decide)) (fun v w0 w1 wv wn => ez_K1 ?_))
      rw [nzl_1.2] at w1
      have wi : v = nz_ck (rz_b h) en a := by unfold nz_ck; rw [← ets]; exact nz_ni_ix nzT_1 (by omega) wn
      refine ez_go (n := 3) (pc' := 46) (L' := [(8, .inl (v)), (7, .inl (ts)), (6, .inl (k)), (5, .inl (a)), (4, .inl (c)), (3, .inl (many)), (0, .inr (.inr (some (720)))), (1, .inl (bg)), (2, .inl (en))]) (st' := [.inl (-1), .inl (v)]) rfl ?_
      refine ez_icmp rfl rfl ⟨by first | omega | exact (sz_i32 _).1, by first | omega | exact (sz_i32 _).2⟩ ⟨by first | omega | exact (sz_i32 _).1, by first | omega | exact (sz_i32 _).2⟩ (fun (c2 : (v) = (-1)) => ?_) (fun (c2 : ¬((v) = (-1))) => ?_)
      · skip
        refine ez_go (n := 1) (pc' := 60) (L' := [(8, .inl (v)), (7, .inl (ts)), (6, .inl (k)), (5, .inl (a)), (4, .inl (c)), (3, .inl (many)), (0, .inr (.inr (some (720)))), (1, .inl (bg)), (2, .inl (en))]) (st' := [.inl (-1)]) rfl ?_
        refine ez_retI rfl rfl ?_
        have : nz_cd (rz_b h) en (n + 1) a c = -1 := by unfold nz_cd; rw [if_pos (by rw [← wi]; first | exact Or.inl (by omega) | (right; assumption))]
        rw [this] at kk; exact kk
      · skip
        refine ez_go (n := 5) (pc' := 56) (L' := [(8, .inl (v)), (7, .inl (ts)), (6, .inl (k)), (5, .inl (a)), (4, .inl (c)), (3, .inl (many)), (0, .inr (.inr (some (720)))), (1, .inl (bg)), (2, .inl (en))]) (st' := [.inl ((Int32.ofInt ((Int32.ofInt (c) >>> (Int32.ofInt (v) &&& 31)).toInt) &&& Int32.ofInt (1)).toInt)]) rfl ?_
        refine ez_if rfl rfl ⟨by first | omega | exact (sz_i32 _).1, by first | omega | exact (sz_i32 _).2⟩ (fun (c3 : ((Int32.ofInt ((Int32.ofInt (c) >>> (Int32.ofInt (v) &&& 31)).toInt) &&& Int32.ofInt (1)).toInt) = (0)) => ?_) (fun (c3 : ¬(((Int32.ofInt ((Int32.ofInt (c) >>> (Int32.ofInt (v) &&& 31)).toInt) &&& Int32.ofInt (1)).toInt) = (0))) => ?_)
        · skip
          refine ez_go (n := 9) (pc' := 74) (L' := [(4, .inl ((Int32.ofInt (c) ||| Int32.ofInt ((Int32.ofInt (1) <<< (Int32.ofInt (v) &&& 31)).toInt)).toInt)), (8, .inl (v)), (7, .inl (ts)), (6, .inl (k)), (5, .inl (a)), (3, .inl (many)), (0, .inr (.inr (some (720)))), (1, .inl (bg)), (2, .inl (en))]) (st' := [.inl (en), .inl (ts), .inr (.inr (some (720)))]) rfl ?_
          have xs := rz_skip_le (rz_b h) (en - ts).toNat ts
          refine ez_cv hB t720 rfl rfl rfl tq_52 rfl rfl rfl (rd_skipBlanks hB t720 (by omega) (by omega) (by omega) (ez_K1 ?_))
          refine ez_go (n := 3) (pc' := 16) (L' := [(6, .inl (k + 1)), (5, .inl (rz_skip (rz_b h) (en - ts).toNat ts)), (4, .inl ((Int32.ofInt (c) ||| Int32.ofInt ((Int32.ofInt (1) <<< (Int32.ofInt (v) &&& 31)).toInt)).toInt)), (8, .inl (v)), (7, .inl (ts)), (3, .inl (many)), (0, .inr (.inr (some (720)))), (1, .inl (bg)), (2, .inl (en))]) (st' := []) rfl ?_
          refine ez_less [(6, .inl (k + 1)), (5, .inl (rz_skip (rz_b h) (en - ts).toNat ts)), (4, .inl ((Int32.ofInt (c) ||| Int32.ofInt ((Int32.ofInt (1) <<< (Int32.ofInt (v) &&& 31)).toInt)).toInt)), (3, .inl (many)), (0, .inr (.inr (some (720)))), (1, .inl (bg)), (2, .inl (en))] rfl ⟨rfl, rfl, rfl, rfl, rfl, rfl, rfl, trivial⟩ ?_
          have cs9 := cset_bd cc0 cc1 (k := v) (by omega) (by omega)
          refine ih _ _ _ (by omega) (by omega) (by omega) cs9.1 cs9.2 (by omega) (by omega) ?_
          have : nz_cd (rz_b h) en (n + 1) a c = nz_cd (rz_b h) en n (rz_skip (rz_b h) (en - ts).toNat ts) (cset c v) := by
            show (if nz_ck (rz_b h) en a = -1 ∨ cbit c (nz_ck (rz_b h) en a) ≠ 0 then -1 else nz_cd (rz_b h) en n (rz_skip (rz_b h) (en - rz_tok (rz_b h) (en - a).toNat a).toNat (rz_tok (rz_b h) (en - a).toNat a)) (cset c (nz_ck (rz_b h) en a))) = _
            rw [← wi, ← ets, if_neg (fun w => by rcases w with w | w; (· omega); (· first | exact w (by assumption) | (exact absurd w (by assumption))))]
          rw [this] at kk; exact kk
        · skip
          refine ez_go (n := 1) (pc' := 60) (L' := [(8, .inl (v)), (7, .inl (ts)), (6, .inl (k)), (5, .inl (a)), (4, .inl (c)), (3, .inl (many)), (0, .inr (.inr (some (720)))), (1, .inl (bg)), (2, .inl (en))]) (st' := [.inl (-1)]) rfl ?_
          refine ez_retI rfl rfl ?_
          have : nz_cd (rz_b h) en (n + 1) a c = -1 := by unfold nz_cd; rw [if_pos (by rw [← wi]; first | exact Or.inl (by omega) | (right; assumption))]
          rw [this] at kk; exact kk
theorem rd_readConditions {bg en : Int} (hB : ez_B τ h) (hZ : nz_Z h) (ts1 : τ 1 = 27) (t720 : τ 720 = 52) (b0 : 0 ≤ bg) (be : bg ≤ en) (e1 : en ≤ 4096) (kk : Q (.inl (some (ez_v (.inl (nz_cd (rz_b h) en (rz_ct (rz_b h) bg (en - bg).toNat bg) bg 0)))), h)) : ez_W (d + 6) cm_161 0 [(0, .inr (.inr (some (720)))), (1, .inl (bg)), (2, .inl (en))] [] h Q := by
  refine ez_go (n := 3) (pc' := 3) (L' := [(0, .inr (.inr (some (720)))), (1, .inl (bg)), (2, .inl (en))]) (st' := [.inl (en), .inl (bg), .inr (.inr (some (720)))]) rfl ?_
  have xc := rz_ct_le (rz_b h) bg (en - bg).toNat bg
  refine ez_cv hB t720 rfl rfl rfl tq_52 rfl rfl rfl (rd_countTokens hB t720 (by omega) (by omega) (by omega) (ez_K1 ?_))
  refine ez_go (n := 7) (pc' := 16) (L' := [(6, .inl (0)), (5, .inl (bg)), (4, .inl (0)), (3, .inl (((rz_ct (rz_b h) bg (en - bg).toNat bg : Nat) : Int))), (0, .inr (.inr (some (720)))), (1, .inl (bg)), (2, .inl (en))]) (st' := []) rfl ?_
  refine ez_less [(6, .inl (0)), (5, .inl (bg)), (4, .inl (0)), (3, .inl (((rz_ct (rz_b h) bg (en - bg).toNat bg : Nat) : Int))), (0, .inr (.inr (some (720)))), (1, .inl (bg)), (2, .inl (en))] rfl ⟨rfl, rfl, rfl, rfl, rfl, rfl, rfl, trivial⟩ ?_
  exact rd_readConditions_l hB hZ ts1 t720 b0 be e1 (by omega) (by omega) _ 0 bg 0 (by omega) (by omega) (by omega) (by omega) (by omega) (by omega) (by omega) kk

theorem rd_readElement_b {a va fr : Int} (hB : ez_B τ h) (t720 : τ 720 = 52) (a0 : 0 ≤ a) (a1 : a + 17 ≤ 4096) (v01 : va = 0 ∨ va = 1) (f01 : fr = 0 ∨ fr = 1) (hfr : fr = 1 ↔ nz_fr (rz_b h) a) (k : ∀ x : Int64, (x = Int64.ofInt (-1) ↔ ¬ nz_e1 (rz_b h) a) → Q (.inl (some (.inr (.inl x))), h)) : ez_W (d + 1) cm_163 95 [(3, .inl (fr)), (2, .inl (va)), (0, .inr (.inr (some (720)))), (1, .inl (a))] [] h Q := by
  refine ez_go (n := 7) (pc' := 103) (L' := [(3, .inl (fr)), (2, .inl (va)), (0, .inr (.inr (some (720)))), (1, .inl (a))]) (st' := [.inl ((a) + (6)), .inl ((a) + (2)), .inr (.inr (some (720)))]) rfl ?_
  have hx1 := rz_hex_bd (rz_b h) ((a) + (6) - ((a) + (2))).toNat ((a) + (2)) 0 1 (by omega) (by omega) (by omega)
  refine ez_cv hB t720 rfl rfl rfl tq_52 rfl rfl rfl (rd_readHex hB t720 (by omega) (by omega) (by omega) (ez_K1 ?_))
  rw [show ((a) + (6) - ((a) + (2))).toNat = 4 by omega] at hx1 ⊢
  obtain ⟨v2, ev2⟩ : ∃ v2, v2 = rz_hex (rz_b h) 4 ((a) + (2)) 0 := ⟨_, rfl⟩
  rw [← ev2] at hx1 ⊢
  refine ez_go (n := 8) (pc' := 117) (L' := [(4, .inl (v2)), (3, .inl (fr)), (2, .inl (va)), (0, .inr (.inr (some (720)))), (1, .inl (a))]) (st' := [.inl ((a) + (11)), .inl ((a) + (7)), .inr (.inr (some (720)))]) rfl ?_
  have hx3 := rz_hex_bd (rz_b h) ((a) + (11) - ((a) + (7))).toNat ((a) + (7)) 0 1 (by omega) (by omega) (by omega)
  refine ez_cv hB t720 rfl rfl rfl tq_52 rfl rfl rfl (rd_readHex hB t720 (by omega) (by omega) (by omega) (ez_K1 ?_))
  rw [show ((a) + (11) - ((a) + (7))).toNat = 4 by omega] at hx3 ⊢
  obtain ⟨v4, ev4⟩ : ∃ v4, v4 = rz_hex (rz_b h) 4 ((a) + (7)) 0 := ⟨_, rfl⟩
  rw [← ev4] at hx3 ⊢
  refine ez_go (n := 8) (pc' := 131) (L' := [(5, .inl (v4)), (4, .inl (v2)), (3, .inl (fr)), (2, .inl (va)), (0, .inr (.inr (some (720)))), (1, .inl (a))]) (st' := [.inl ((a) + (16)), .inl ((a) + (12)), .inr (.inr (some (720)))]) rfl ?_
  have hx5 := rz_hex_bd (rz_b h) ((a) + (16) - ((a) + (12))).toNat ((a) + (12)) 0 1 (by omega) (by omega) (by omega)
  refine ez_cv hB t720 rfl rfl rfl tq_52 rfl rfl rfl (rd_readHex hB t720 (by omega) (by omega) (by omega) (ez_K1 ?_))
  rw [show ((a) + (16) - ((a) + (12))).toNat = 4 by omega] at hx5 ⊢
  obtain ⟨v6, ev6⟩ : ∃ v6, v6 = rz_hex (rz_b h) 4 ((a) + (12)) 0 := ⟨_, rfl⟩
  rw [← ev6] at hx5 ⊢
  refine ez_go (n := 2) (pc' := 137) (L' := [(6, .inl (v6)), (5, .inl (v4)), (4, .inl (v2)), (3, .inl (fr)), (2, .inl (va)), (0, .inr (.inr (some (720)))), (1, .inl (a))]) (st' := [.inl (fr)]) rfl ?_
  refine ez_if rfl rfl ⟨by first | omega | exact (sz_i32 _).1, by first | omega | exact (sz_i32 _).2⟩ (fun (c7 : (fr) = (0)) => ?_) (fun (c7 : ¬((fr) = (0))) => ?_)
  · skip
    refine ez_ldc2 (-1) rfl rfl rfl ?_
    refine ez_retL rfl rfl (k _ ⟨fun _ w => ?_, fun _ => rfl⟩)
    obtain ⟨w1, w2, w3, w4⟩ := w
    have w1 := hfr.mpr w1
    rw [← ev2] at w2
    rw [← ev4] at w3
    rw [← ev6] at w4
    omega
  · skip
    refine ez_go (n := 2) (pc' := 143) (L' := [(6, .inl (v6)), (5, .inl (v4)), (4, .inl (v2)), (3, .inl (fr)), (2, .inl (va)), (0, .inr (.inr (some (720)))), (1, .inl (a))]) (st' := [.inl (-1), .inl (v2)]) rfl ?_
    refine ez_icmp rfl rfl ⟨by first | omega | exact (sz_i32 _).1, by first | omega | exact (sz_i32 _).2⟩ ⟨by first | omega | exact (sz_i32 _).1, by first | omega | exact (sz_i32 _).2⟩ (fun (c8 : (v2) = (-1)) => ?_) (fun (c8 : ¬((v2) = (-1))) => ?_)
    · skip
      refine ez_ldc2 (-1) rfl rfl rfl ?_
      refine ez_retL rfl rfl (k _ ⟨fun _ w => ?_, fun _ => rfl⟩)
      obtain ⟨w1, w2, w3, w4⟩ := w
      have w1 := hfr.mpr w1
      rw [← ev2] at w2
      rw [← ev4] at w3
      rw [← ev6] at w4
      omega
    · skip
      refine ez_go (n := 2) (pc' := 149) (L' := [(6, .inl (v6)), (5, .inl (v4)), (4, .inl (v2)), (3, .inl (fr)), (2, .inl (va)), (0, .inr (.inr (some (720)))), (1, .inl (a))]) (st' := [.inl (-1), .inl (v4)]) rfl ?_
      refine ez_icmp rfl rfl ⟨by first | omega | exact (sz_i32 _).1, by first | omega | exact (sz_i32 _).2⟩ ⟨by first | omega | exact (sz_i32 _).1, by first | omega | exact (sz_i32 _).2⟩ (fun (c9 : (v4) = (-1)) => ?_) (fun (c9 : ¬((v4) = (-1))) => ?_)
      · skip
        refine ez_ldc2 (-1) rfl rfl rfl ?_
        refine ez_retL rfl rfl (k _ ⟨fun _ w => ?_, fun _ => rfl⟩)
        obtain ⟨w1, w2, w3, w4⟩ := w
        have w1 := hfr.mpr w1
        rw [← ev2] at w2
        rw [← ev4] at w3
        rw [← ev6] at w4
        omega
      · skip
        refine ez_go (n := 2) (pc' := 155) (L' := [(6, .inl (v6)), (5, .inl (v4)), (4, .inl (v2)), (3, .inl (fr)), (2, .inl (va)), (0, .inr (.inr (some (720)))), (1, .inl (a))]) (st' := [.inl (-1), .inl (v6)]) rfl ?_
        refine ez_icmp rfl rfl ⟨by first | omega | exact (sz_i32 _).1, by first | omega | exact (sz_i32 _).2⟩ ⟨by first | omega | exact (sz_i32 _).1, by first | omega | exact (sz_i32 _).2⟩ (fun (c10 : (v6) ≠ (-1)) => ?_) (fun (c10 : ¬((v6) ≠ (-1))) => ?_)
        · skip
          refine ez_go (n := 15) (pc' := 183) (L' := [(6, .inl (v6)), (5, .inl (v4)), (4, .inl (v2)), (3, .inl (fr)), (2, .inl (va)), (0, .inr (.inr (some (720)))), (1, .inl (a))]) (st' := [.inl (va), .inr (.inl (((((Int32.ofInt (v2)).toInt64) <<< ((Int32.ofInt (48)).toInt64 &&& 63)) ||| (((Int32.ofInt (v4)).toInt64) <<< ((Int32.ofInt (32)).toInt64 &&& 63))) ||| (((Int32.ofInt (v6)).toInt64) <<< ((Int32.ofInt (16)).toInt64 &&& 63))))]) rfl ?_
          refine ez_if rfl rfl ⟨by first | omega | exact (sz_i32 _).1, by first | omega | exact (sz_i32 _).2⟩ (fun (c11 : (va) = (0)) => ?_) (fun (c11 : ¬((va) = (0))) => ?_)
          · skip
            refine ez_go (n := 3) (pc' := 193) (L' := [(6, .inl (v6)), (5, .inl (v4)), (4, .inl (v2)), (3, .inl (fr)), (2, .inl (va)), (0, .inr (.inr (some (720)))), (1, .inl (a))]) (st' := [.inr (.inl ((((((Int32.ofInt (v2)).toInt64) <<< ((Int32.ofInt (48)).toInt64 &&& 63)) ||| (((Int32.ofInt (v4)).toInt64) <<< ((Int32.ofInt (32)).toInt64 &&& 63))) ||| (((Int32.ofInt (v6)).toInt64) <<< ((Int32.ofInt (16)).toInt64 &&& 63))) ||| ((Int32.ofInt (0)).toInt64)))]) rfl ?_
            refine ez_retL rfl rfl (k _ ⟨fun w => ?_, fun w => absurd ⟨hfr.mp (by omega), ?_, ?_, ?_⟩ w⟩)
            · exact absurd w (e_ne _ _ _ _ (by decide))
            · rw [← ev2]; omega
            · rw [← ev4]; omega
            · rw [← ev6]; omega
          · skip
            refine ez_go (n := 4) (pc' := 193) (L' := [(6, .inl (v6)), (5, .inl (v4)), (4, .inl (v2)), (3, .inl (fr)), (2, .inl (va)), (0, .inr (.inr (some (720)))), (1, .inl (a))]) (st' := [.inr (.inl ((((((Int32.ofInt (v2)).toInt64) <<< ((Int32.ofInt (48)).toInt64 &&& 63)) ||| (((Int32.ofInt (v4)).toInt64) <<< ((Int32.ofInt (32)).toInt64 &&& 63))) ||| (((Int32.ofInt (v6)).toInt64) <<< ((Int32.ofInt (16)).toInt64 &&& 63))) ||| ((Int32.ofInt (1)).toInt64)))]) rfl ?_
            refine ez_retL rfl rfl (k _ ⟨fun w => ?_, fun w => absurd ⟨hfr.mp (by omega), ?_, ?_, ?_⟩ w⟩)
            · exact absurd w (e_ne _ _ _ _ (by decide))
            · rw [← ev2]; omega
            · rw [← ev4]; omega
            · rw [← ev6]; omega
        · skip
          refine ez_ldc2 (-1) rfl rfl rfl ?_
          refine ez_retL rfl rfl (k _ ⟨fun _ w => ?_, fun _ => rfl⟩)
          obtain ⟨w1, w2, w3, w4⟩ := w
          have w1 := hfr.mpr w1
          rw [← ev2] at w2
          rw [← ev4] at w3
          rw [← ev6] at w4
          omega

theorem rd_readElement {a : Int} (hB : ez_B τ h) (t720 : τ 720 = 52) (a0 : 0 ≤ a) (a1 : a + 17 ≤ 4096) (k : ∀ x : Int64, (x = Int64.ofInt (-1) ↔ ¬ nz_e1 (rz_b h) a) → Q (.inl (some (.inr (.inl x))), h)) : ez_W (d + 1) cm_163 0 [(0, .inr (.inr (some (720)))), (1, .inl (a))] [] h Q := by
  refine ez_go (n := 1) (pc' := 1) (L' := [(0, .inr (.inr (some (720)))), (1, .inl (a))]) (st' := [.inr (.inr (some (720)))]) rfl ?_
  refine ez_gC (p := 193) (tg := 45) hB t720 rfl rfl tq_52 rfl rfl (fun (t193 : _ = 45) => ?_)
  refine ez_go (n := 3) (pc' := 7) (L' := [(0, .inr (.inr (some (720)))), (1, .inl (a))]) (st' := [.inl ((a) + (1)), .inr (.inr (some (193)))]) rfl ?_
  have n2 : 4096 ≤ qz_N h 193 ∧ qz_N h 193 ≤ 4096 := ez_len hB t193 tq_45 rfl
  refine ez_aI hB t193 rfl tq_45 rfl rfl (by omega) (by omega) (fun (b1 : -128 ≤ qz_I h 193 ((a) + (1)).toNat) (b1' : qz_I h 193 ((a) + (1)).toNat ≤ 127) => ?_)
  refine ez_go (n := 1) (pc' := 10) (L' := [(0, .inr (.inr (some (720)))), (1, .inl (a))]) (st' := [.inl (42), .inl (qz_I h 193 ((a) + (1)).toNat)]) rfl ?_
  refine ez_icmp rfl rfl ⟨by first | omega | exact (sz_i32 _).1, by first | omega | exact (sz_i32 _).2⟩ ⟨by first | omega | exact (sz_i32 _).1, by first | omega | exact (sz_i32 _).2⟩ (fun (c3 : (qz_I h 193 ((a) + (1)).toNat) ≠ (42)) => ?_) (fun (c3 : ¬((qz_I h 193 ((a) + (1)).toNat) ≠ (42))) => ?_)
  · skip
    refine ez_go (n := 3) (pc' := 20) (L' := [(2, .inl (0)), (0, .inr (.inr (some (720)))), (1, .inl (a))]) (st' := [.inr (.inr (some (720)))]) rfl ?_
    refine ez_gC (p := 193) (tg := 45) hB t720 rfl rfl tq_52 rfl rfl (fun (t193 : _ = 45) => ?_)
    refine ez_go (n := 1) (pc' := 24) (L' := [(2, .inl (0)), (0, .inr (.inr (some (720)))), (1, .inl (a))]) (st' := [.inl (a), .inr (.inr (some (193)))]) rfl ?_
    have n5 : 4096 ≤ qz_N h 193 ∧ qz_N h 193 ≤ 4096 := ez_len hB t193 tq_45 rfl
    refine ez_aI hB t193 rfl tq_45 rfl rfl (by omega) (by omega) (fun (b4 : -128 ≤ qz_I h 193 (a).toNat) (b4' : qz_I h 193 (a).toNat ≤ 127) => ?_)
    refine ez_go (n := 1) (pc' := 27) (L' := [(2, .inl (0)), (0, .inr (.inr (some (720)))), (1, .inl (a))]) (st' := [.inl (91), .inl (qz_I h 193 (a).toNat)]) rfl ?_
    refine ez_icmp rfl rfl ⟨by first | omega | exact (sz_i32 _).1, by first | omega | exact (sz_i32 _).2⟩ ⟨by first | omega | exact (sz_i32 _).1, by first | omega | exact (sz_i32 _).2⟩ (fun (c6 : (qz_I h 193 (a).toNat) ≠ (91)) => ?_) (fun (c6 : ¬((qz_I h 193 (a).toNat) ≠ (91))) => ?_)
    · skip
      refine ez_go (n := 2) (pc' := 95) (L' := [(3, .inl (0)), (2, .inl (0)), (0, .inr (.inr (some (720)))), (1, .inl (a))]) (st' := []) rfl ?_
      refine ez_less [(3, .inl (0)), (2, .inl (0)), (0, .inr (.inr (some (720)))), (1, .inl (a))] rfl ⟨rfl, rfl, rfl, rfl, trivial⟩ ?_
      exact rd_readElement_b hB t720 a0 a1 (by decide) (by decide) (by unfold nz_fr rz_b; omega) k
    · skip
      refine ez_go (n := 1) (pc' := 31) (L' := [(2, .inl (0)), (0, .inr (.inr (some (720)))), (1, .inl (a))]) (st' := [.inl (0)]) rfl ?_
      refine ez_if rfl rfl ⟨by decide, by decide⟩ (fun (c7 : (0 : Int) ≠ (0)) => absurd c7 (by decide)) (fun _ => ?_)
      refine ez_go (n := 1) (pc' := 35) (L' := [(2, .inl (0)), (0, .inr (.inr (some (720)))), (1, .inl (a))]) (st' := [.inr (.inr (some (720)))]) rfl ?_
      refine ez_gC (p := 193) (tg := 45) hB t720 rfl rfl tq_52 rfl rfl (fun (t193 : _ = 45) => ?_)
      refine ez_go (n := 3) (pc' := 41) (L' := [(2, .inl (0)), (0, .inr (.inr (some (720)))), (1, .inl (a))]) (st' := [.inl ((a) + (1)), .inr (.inr (some (193)))]) rfl ?_
      have n9 : 4096 ≤ qz_N h 193 ∧ qz_N h 193 ≤ 4096 := ez_len hB t193 tq_45 rfl
      refine ez_aI hB t193 rfl tq_45 rfl rfl (by omega) (by omega) (fun (b8 : -128 ≤ qz_I h 193 ((a) + (1)).toNat) (b8' : qz_I h 193 ((a) + (1)).toNat ≤ 127) => ?_)
      refine ez_go (n := 1) (pc' := 44) (L' := [(2, .inl (0)), (0, .inr (.inr (some (720)))), (1, .inl (a))]) (st' := [.inl (46), .inl (qz_I h 193 ((a) + (1)).toNat)]) rfl ?_
      refine ez_icmp rfl rfl ⟨by first | omega | exact (sz_i32 _).1, by first | omega | exact (sz_i32 _).2⟩ ⟨by first | omega | exact (sz_i32 _).1, by first | omega | exact (sz_i32 _).2⟩ (fun (c10 : (qz_I h 193 ((a) + (1)).toNat) ≠ (46)) => ?_) (fun (c10 : ¬((qz_I h 193 ((a) + (1)).toNat) ≠ (46))) => ?_)
      · skip
        refine ez_go (n := 2) (pc' := 95) (L' := [(3, .inl (0)), (2, .inl (0)), (0, .inr (.inr (some (720)))), (1, .inl (a))]) (st' := []) rfl ?_
        refine ez_less [(3, .inl (0)), (2, .inl (0)), (0, .inr (.inr (some (720)))), (1, .inl (a))] rfl ⟨rfl, rfl, rfl, rfl, trivial⟩ ?_
        exact rd_readElement_b hB t720 a0 a1 (by decide) (by decide) (by unfold nz_fr rz_b; omega) k
      · skip
        refine ez_go (n := 1) (pc' := 48) (L' := [(2, .inl (0)), (0, .inr (.inr (some (720)))), (1, .inl (a))]) (st' := [.inr (.inr (some (720)))]) rfl ?_
        refine ez_gC (p := 193) (tg := 45) hB t720 rfl rfl tq_52 rfl rfl (fun (t193 : _ = 45) => ?_)
        refine ez_go (n := 3) (pc' := 55) (L' := [(2, .inl (0)), (0, .inr (.inr (some (720)))), (1, .inl (a))]) (st' := [.inl ((a) + (6)), .inr (.inr (some (193)))]) rfl ?_
        have n12 : 4096 ≤ qz_N h 193 ∧ qz_N h 193 ≤ 4096 := ez_len hB t193 tq_45 rfl
        refine ez_aI hB t193 rfl tq_45 rfl rfl (by omega) (by omega) (fun (b11 : -128 ≤ qz_I h 193 ((a) + (6)).toNat) (b11' : qz_I h 193 ((a) + (6)).toNat ≤ 127) => ?_)
        refine ez_go (n := 1) (pc' := 58) (L' := [(2, .inl (0)), (0, .inr (.inr (some (720)))), (1, .inl (a))]) (st' := [.inl (46), .inl (qz_I h 193 ((a) + (6)).toNat)]) rfl ?_
        refine ez_icmp rfl rfl ⟨by first | omega | exact (sz_i32 _).1, by first | omega | exact (sz_i32 _).2⟩ ⟨by first | omega | exact (sz_i32 _).1, by first | omega | exact (sz_i32 _).2⟩ (fun (c13 : (qz_I h 193 ((a) + (6)).toNat) ≠ (46)) => ?_) (fun (c13 : ¬((qz_I h 193 ((a) + (6)).toNat) ≠ (46))) => ?_)
        · skip
          refine ez_go (n := 2) (pc' := 95) (L' := [(3, .inl (0)), (2, .inl (0)), (0, .inr (.inr (some (720)))), (1, .inl (a))]) (st' := []) rfl ?_
          refine ez_less [(3, .inl (0)), (2, .inl (0)), (0, .inr (.inr (some (720)))), (1, .inl (a))] rfl ⟨rfl, rfl, rfl, rfl, trivial⟩ ?_
          exact rd_readElement_b hB t720 a0 a1 (by decide) (by decide) (by unfold nz_fr rz_b; omega) k
        · skip
          refine ez_go (n := 1) (pc' := 62) (L' := [(2, .inl (0)), (0, .inr (.inr (some (720)))), (1, .inl (a))]) (st' := [.inr (.inr (some (720)))]) rfl ?_
          refine ez_gC (p := 193) (tg := 45) hB t720 rfl rfl tq_52 rfl rfl (fun (t193 : _ = 45) => ?_)
          refine ez_go (n := 3) (pc' := 69) (L' := [(2, .inl (0)), (0, .inr (.inr (some (720)))), (1, .inl (a))]) (st' := [.inl ((a) + (11)), .inr (.inr (some (193)))]) rfl ?_
          have n15 : 4096 ≤ qz_N h 193 ∧ qz_N h 193 ≤ 4096 := ez_len hB t193 tq_45 rfl
          refine ez_aI hB t193 rfl tq_45 rfl rfl (by omega) (by omega) (fun (b14 : -128 ≤ qz_I h 193 ((a) + (11)).toNat) (b14' : qz_I h 193 ((a) + (11)).toNat ≤ 127) => ?_)
          refine ez_go (n := 1) (pc' := 72) (L' := [(2, .inl (0)), (0, .inr (.inr (some (720)))), (1, .inl (a))]) (st' := [.inl (46), .inl (qz_I h 193 ((a) + (11)).toNat)]) rfl ?_
          refine ez_icmp rfl rfl ⟨by first | omega | exact (sz_i32 _).1, by first | omega | exact (sz_i32 _).2⟩ ⟨by first | omega | exact (sz_i32 _).1, by first | omega | exact (sz_i32 _).2⟩ (fun (c16 : (qz_I h 193 ((a) + (11)).toNat) ≠ (46)) => ?_) (fun (c16 : ¬((qz_I h 193 ((a) + (11)).toNat) ≠ (46))) => ?_)
          · skip
            refine ez_go (n := 2) (pc' := 95) (L' := [(3, .inl (0)), (2, .inl (0)), (0, .inr (.inr (some (720)))), (1, .inl (a))]) (st' := []) rfl ?_
            refine ez_less [(3, .inl (0)), (2, .inl (0)), (0, .inr (.inr (some (720)))), (1, .inl (a))] rfl ⟨rfl, rfl, rfl, rfl, trivial⟩ ?_
            exact rd_readElement_b hB t720 a0 a1 (by decide) (by decide) (by unfold nz_fr rz_b; omega) k
          · skip
            refine ez_go (n := 1) (pc' := 76) (L' := [(2, .inl (0)), (0, .inr (.inr (some (720)))), (1, .inl (a))]) (st' := [.inr (.inr (some (720)))]) rfl ?_
            refine ez_gC (p := 193) (tg := 45) hB t720 rfl rfl tq_52 rfl rfl (fun (t193 : _ = 45) => ?_)
            refine ez_go (n := 3) (pc' := 83) (L' := [(2, .inl (0)), (0, .inr (.inr (some (720)))), (1, .inl (a))]) (st' := [.inl ((a) + (16)), .inr (.inr (some (193)))]) rfl ?_
            have n18 : 4096 ≤ qz_N h 193 ∧ qz_N h 193 ≤ 4096 := ez_len hB t193 tq_45 rfl
            refine ez_aI hB t193 rfl tq_45 rfl rfl (by omega) (by omega) (fun (b17 : -128 ≤ qz_I h 193 ((a) + (16)).toNat) (b17' : qz_I h 193 ((a) + (16)).toNat ≤ 127) => ?_)
            refine ez_go (n := 1) (pc' := 86) (L' := [(2, .inl (0)), (0, .inr (.inr (some (720)))), (1, .inl (a))]) (st' := [.inl (93), .inl (qz_I h 193 ((a) + (16)).toNat)]) rfl ?_
            refine ez_icmp rfl rfl ⟨by first | omega | exact (sz_i32 _).1, by first | omega | exact (sz_i32 _).2⟩ ⟨by first | omega | exact (sz_i32 _).1, by first | omega | exact (sz_i32 _).2⟩ (fun (c19 : (qz_I h 193 ((a) + (16)).toNat) ≠ (93)) => ?_) (fun (c19 : ¬((qz_I h 193 ((a) + (16)).toNat) ≠ (93))) => ?_)
            · skip
              refine ez_go (n := 2) (pc' := 95) (L' := [(3, .inl (0)), (2, .inl (0)), (0, .inr (.inr (some (720)))), (1, .inl (a))]) (st' := []) rfl ?_
              refine ez_less [(3, .inl (0)), (2, .inl (0)), (0, .inr (.inr (some (720)))), (1, .inl (a))] rfl ⟨rfl, rfl, rfl, rfl, trivial⟩ ?_
              exact rd_readElement_b hB t720 a0 a1 (by decide) (by decide) (by unfold nz_fr rz_b; omega) k
            · skip
              refine ez_go (n := 3) (pc' := 95) (L' := [(3, .inl (1)), (2, .inl (0)), (0, .inr (.inr (some (720)))), (1, .inl (a))]) (st' := []) rfl ?_
              refine ez_less [(3, .inl (1)), (2, .inl (0)), (0, .inr (.inr (some (720)))), (1, .inl (a))] rfl ⟨rfl, rfl, rfl, rfl, trivial⟩ ?_
              exact rd_readElement_b hB t720 a0 a1 (by decide) (by decide) (by unfold nz_fr rz_b; omega) k
  · skip
    refine ez_go (n := 4) (pc' := 20) (L' := [(2, .inl (1)), (0, .inr (.inr (some (720)))), (1, .inl (a))]) (st' := [.inr (.inr (some (720)))]) rfl ?_
    refine ez_gC (p := 193) (tg := 45) hB t720 rfl rfl tq_52 rfl rfl (fun (t193 : _ = 45) => ?_)
    refine ez_go (n := 1) (pc' := 24) (L' := [(2, .inl (1)), (0, .inr (.inr (some (720)))), (1, .inl (a))]) (st' := [.inl (a), .inr (.inr (some (193)))]) rfl ?_
    have n21 : 4096 ≤ qz_N h 193 ∧ qz_N h 193 ≤ 4096 := ez_len hB t193 tq_45 rfl
    refine ez_aI hB t193 rfl tq_45 rfl rfl (by omega) (by omega) (fun (b20 : -128 ≤ qz_I h 193 (a).toNat) (b20' : qz_I h 193 (a).toNat ≤ 127) => ?_)
    refine ez_go (n := 1) (pc' := 27) (L' := [(2, .inl (1)), (0, .inr (.inr (some (720)))), (1, .inl (a))]) (st' := [.inl (91), .inl (qz_I h 193 (a).toNat)]) rfl ?_
    refine ez_icmp rfl rfl ⟨by first | omega | exact (sz_i32 _).1, by first | omega | exact (sz_i32 _).2⟩ ⟨by first | omega | exact (sz_i32 _).1, by first | omega | exact (sz_i32 _).2⟩ (fun (c22 : (qz_I h 193 (a).toNat) ≠ (91)) => ?_) (fun (c22 : ¬((qz_I h 193 (a).toNat) ≠ (91))) => ?_)
    · skip
      refine ez_go (n := 2) (pc' := 95) (L' := [(3, .inl (0)), (2, .inl (1)), (0, .inr (.inr (some (720)))), (1, .inl (a))]) (st' := []) rfl ?_
      refine ez_less [(3, .inl (0)), (2, .inl (1)), (0, .inr (.inr (some (720)))), (1, .inl (a))] rfl ⟨rfl, rfl, rfl, rfl, trivial⟩ ?_
      exact rd_readElement_b hB t720 a0 a1 (by decide) (by decide) (by unfold nz_fr rz_b; omega) k
    · skip
      refine ez_go (n := 1) (pc' := 31) (L' := [(2, .inl (1)), (0, .inr (.inr (some (720)))), (1, .inl (a))]) (st' := [.inl (1)]) rfl ?_
      refine ez_if rfl rfl ⟨by decide, by decide⟩ (fun _ => ?_) (fun (c23 : ¬((1 : Int) ≠ (0))) => absurd c23 (by decide))
      refine ez_go (n := 1) (pc' := 48) (L' := [(2, .inl (1)), (0, .inr (.inr (some (720)))), (1, .inl (a))]) (st' := [.inr (.inr (some (720)))]) rfl ?_
      refine ez_gC (p := 193) (tg := 45) hB t720 rfl rfl tq_52 rfl rfl (fun (t193 : _ = 45) => ?_)
      refine ez_go (n := 3) (pc' := 55) (L' := [(2, .inl (1)), (0, .inr (.inr (some (720)))), (1, .inl (a))]) (st' := [.inl ((a) + (6)), .inr (.inr (some (193)))]) rfl ?_
      have n25 : 4096 ≤ qz_N h 193 ∧ qz_N h 193 ≤ 4096 := ez_len hB t193 tq_45 rfl
      refine ez_aI hB t193 rfl tq_45 rfl rfl (by omega) (by omega) (fun (b24 : -128 ≤ qz_I h 193 ((a) + (6)).toNat) (b24' : qz_I h 193 ((a) + (6)).toNat ≤ 127) => ?_)
      refine ez_go (n := 1) (pc' := 58) (L' := [(2, .inl (1)), (0, .inr (.inr (some (720)))), (1, .inl (a))]) (st' := [.inl (46), .inl (qz_I h 193 ((a) + (6)).toNat)]) rfl ?_
      refine ez_icmp rfl rfl ⟨by first | omega | exact (sz_i32 _).1, by first | omega | exact (sz_i32 _).2⟩ ⟨by first | omega | exact (sz_i32 _).1, by first | omega | exact (sz_i32 _).2⟩ (fun (c26 : (qz_I h 193 ((a) + (6)).toNat) ≠ (46)) => ?_) (fun (c26 : ¬((qz_I h 193 ((a) + (6)).toNat) ≠ (46))) => ?_)
      · skip
        refine ez_go (n := 2) (pc' := 95) (L' := [(3, .inl (0)), (2, .inl (1)), (0, .inr (.inr (some (720)))), (1, .inl (a))]) (st' := []) rfl ?_
        refine ez_less [(3, .inl (0)), (2, .inl (1)), (0, .inr (.inr (some (720)))), (1, .inl (a))] rfl ⟨rfl, rfl, rfl, rfl, trivial⟩ ?_
        exact rd_readElement_b hB t720 a0 a1 (by decide) (by decide) (by unfold nz_fr rz_b; omega) k
      · skip
        refine ez_go (n := 1) (pc' := 62) (L' := [(2, .inl (1)), (0, .inr (.inr (some (720)))), (1, .inl (a))]) (st' := [.inr (.inr (some (720)))]) rfl ?_
        refine ez_gC (p := 193) (tg := 45) hB t720 rfl rfl tq_52 rfl rfl (fun (t193 : _ = 45) => ?_)
        refine ez_go (n := 3) (pc' := 69) (L' := [(2, .inl (1)), (0, .inr (.inr (some (720)))), (1, .inl (a))]) (st' := [.inl ((a) + (11)), .inr (.inr (some (193)))]) rfl ?_
        have n28 : 4096 ≤ qz_N h 193 ∧ qz_N h 193 ≤ 4096 := ez_len hB t193 tq_45 rfl
        refine ez_aI hB t193 rfl tq_45 rfl rfl (by omega) (by omega) (fun (b27 : -128 ≤ qz_I h 193 ((a) + (11)).toNat) (b27' : qz_I h 193 ((a) + (11)).toNat ≤ 127) => ?_)
        refine ez_go (n := 1) (pc' := 72) (L' := [(2, .inl (1)), (0, .inr (.inr (some (720)))), (1, .inl (a))]) (st' := [.inl (46), .inl (qz_I h 193 ((a) + (11)).toNat)]) rfl ?_
        refine ez_icmp rfl rfl ⟨by first | omega | exact (sz_i32 _).1, by first | omega | exact (sz_i32 _).2⟩ ⟨by first | omega | exact (sz_i32 _).1, by first | omega | exact (sz_i32 _).2⟩ (fun (c29 : (qz_I h 193 ((a) + (11)).toNat) ≠ (46)) => ?_) (fun (c29 : ¬((qz_I h 193 ((a) + (11)).toNat) ≠ (46))) => ?_)
        · skip
          refine ez_go (n := 2) (pc' := 95) (L' := [(3, .inl (0)), (2, .inl (1)), (0, .inr (.inr (some (720)))), (1, .inl (a))]) (st' := []) rfl ?_
          refine ez_less [(3, .inl (0)), (2, .inl (1)), (0, .inr (.inr (some (720)))), (1, .inl (a))] rfl ⟨rfl, rfl, rfl, rfl, trivial⟩ ?_
          exact rd_readElement_b hB t720 a0 a1 (by decide) (by decide) (by unfold nz_fr rz_b; omega) k
        · skip
          refine ez_go (n := 1) (pc' := 76) (L' := [(2, .inl (1)), (0, .inr (.inr (some (720)))), (1, .inl (a))]) (st' := [.inr (.inr (some (720)))]) rfl ?_
          refine ez_gC (p := 193) (tg := 45) hB t720 rfl rfl tq_52 rfl rfl (fun (t193 : _ = 45) => ?_)
          refine ez_go (n := 3) (pc' := 83) (L' := [(2, .inl (1)), (0, .inr (.inr (some (720)))), (1, .inl (a))]) (st' := [.inl ((a) + (16)), .inr (.inr (some (193)))]) rfl ?_
          have n31 : 4096 ≤ qz_N h 193 ∧ qz_N h 193 ≤ 4096 := ez_len hB t193 tq_45 rfl
          refine ez_aI hB t193 rfl tq_45 rfl rfl (by omega) (by omega) (fun (b30 : -128 ≤ qz_I h 193 ((a) + (16)).toNat) (b30' : qz_I h 193 ((a) + (16)).toNat ≤ 127) => ?_)
          refine ez_go (n := 1) (pc' := 86) (L' := [(2, .inl (1)), (0, .inr (.inr (some (720)))), (1, .inl (a))]) (st' := [.inl (93), .inl (qz_I h 193 ((a) + (16)).toNat)]) rfl ?_
          refine ez_icmp rfl rfl ⟨by first | omega | exact (sz_i32 _).1, by first | omega | exact (sz_i32 _).2⟩ ⟨by first | omega | exact (sz_i32 _).1, by first | omega | exact (sz_i32 _).2⟩ (fun (c32 : (qz_I h 193 ((a) + (16)).toNat) ≠ (93)) => ?_) (fun (c32 : ¬((qz_I h 193 ((a) + (16)).toNat) ≠ (93))) => ?_)
          · skip
            refine ez_go (n := 2) (pc' := 95) (L' := [(3, .inl (0)), (2, .inl (1)), (0, .inr (.inr (some (720)))), (1, .inl (a))]) (st' := []) rfl ?_
            refine ez_less [(3, .inl (0)), (2, .inl (1)), (0, .inr (.inr (some (720)))), (1, .inl (a))] rfl ⟨rfl, rfl, rfl, rfl, trivial⟩ ?_
            exact rd_readElement_b hB t720 a0 a1 (by decide) (by decide) (by unfold nz_fr rz_b; omega) k
          · skip
            refine ez_go (n := 3) (pc' := 95) (L' := [(3, .inl (1)), (2, .inl (1)), (0, .inr (.inr (some (720)))), (1, .inl (a))]) (st' := []) rfl ?_
            refine ez_less [(3, .inl (1)), (2, .inl (1)), (0, .inr (.inr (some (720)))), (1, .inl (a))] rfl ⟨rfl, rfl, rfl, rfl, trivial⟩ ?_
            exact rd_readElement_b hB t720 a0 a1 (by decide) (by decide) (by unfold nz_fr rz_b; omega) k

/-- m elements stand from a to stop -/
def nz_el (b : Int → Int) (stop : Int) : Nat → Int → Prop
  | 0, a => stop ≤ a
  | m + 1, a => a + 17 ≤ stop ∧ nz_e1 b a ∧ nz_el b stop m (rz_skip b (stop - (a + 17)).toNat (a + 17))
theorem nz_el_le (b : Int → Int) (stop : Int) : ∀ m a, nz_el b stop m a → m ≤ (stop - a).toNat
  | 0, a, _ => by omega
  | m + 1, a, h => by
    have h1 := h.1
    have h2 := nz_el_le b stop m _ h.2.2
    have h3 := rz_skip_le b (stop - (a + 17)).toNat (a + 17)
    omega
theorem nz_el_u (b : Int → Int) (stop : Int) : ∀ m m2 a, nz_el b stop m a → nz_el b stop m2 a → m = m2
  | 0, 0, _, _, _ => rfl
  | 0, m2 + 1, a, h, h2 => by have h : stop ≤ a := h; have := h2.1; omega
  | m + 1, 0, a, h, h2 => by have h2 : stop ≤ a := h2; have := h.1; omega
  | m + 1, m2 + 1, a, h, h2 => by rw [nz_el_u b stop m m2 _ h.2.2 h2.2.2]
/-- as many elements as may be -/
def nz_els (b : Int → Int) (s t : Int) : Prop := ∃ q : Nat, (1 ≤ q ∧ q ≤ 18) ∧ nz_el b t q s
theorem rd_countElements_l {bg en : Int} (hB : ez_B τ h) (t720 : τ 720 = 52) (b0 : 0 ≤ bg) (be : bg ≤ en) (e1 : en ≤ 4096) : ∀ (n : Nat) (a m : Int), (en - a).toNat ≤ n → 0 ≤ a → a ≤ en → 0 ≤ m → m ≤ a → ((¬ ∃ q, nz_el (rz_b h) en q a) → Q (.inl (some (ez_v (.inl (-1)))), h)) → (∀ q, nz_el (rz_b h) en q a → Q (.inl (some (ez_v (.inl (m + (q : Int))))), h)) → ez_W (d + 2) cm_148 5 [(4, .inl (a)), (3, .inl (m)), (0, .inr (.inr (some (720)))), (1, .inl (bg)), (2, .inl (en))] [] h Q := by
  intro n
  induction n with
  | zero =>
    intro a m hm a0 a1 m0 m1 kN hk
    refine ez_go (n := 2) (pc' := 8) (L' := [(4, .inl (a)), (3, .inl (m)), (0, .inr (.inr (some (720)))), (1, .inl (bg)), (2, .inl (en))]) (st' := [.inl (en), .inl (a)]) rfl ?_
    refine ez_icmp rfl rfl ⟨by first | omega | exact (sz_i32 _).1, by first | omega | exact (sz_i32 _).2⟩ ⟨by first | omega | exact (sz_i32 _).1, by first | omega | exact (sz_i32 _).2⟩ (fun (c1 : (en) ≤ (a)) => ?_) (fun (c1 : ¬((en) ≤ (a))) => ?_)
    · skip
      refine ez_go (n := 1) (pc' := 54) (L' := [(4, .inl (a)), (3, .inl (m)), (0, .inr (.inr (some (720)))), (1, .inl (bg)), (2, .inl (en))]) (st' := [.inl (m)]) rfl ?_
      exact ez_retI rfl rfl (by have := hk 0 (by show en ≤ a; omega); rw [show m + ((0 : Nat) : Int) = m by omega] at this; exact this)
    · exfalso; omega
  | succ n ih =>
    intro a m hm a0 a1 m0 m1 kN hk
    refine ez_go (n := 2) (pc' := 8) (L' := [(4, .inl (a)), (3, .inl (m)), (0, .inr (.inr (some (720)))), (1, .inl (bg)), (2, .inl (en))]) (st' := [.inl (en), .inl (a)]) rfl ?_
    refine ez_icmp rfl rfl ⟨by first | omega | exact (sz_i32 _).1, by first | omega | exact (sz_i32 _).2⟩ ⟨by first | omega | exact (sz_i32 _).1, by first | omega | exact (sz_i32 _).2⟩ (fun (c1 : (en) ≤ (a)) => ?_) (fun (c1 : ¬((en) ≤ (a))) => ?_)
    · skip
      refine ez_go (n := 1) (pc' := 54) (L' := [(4, .inl (a)), (3, .inl (m)), (0, .inr (.inr (some (720)))), (1, .inl (bg)), (2, .inl (en))]) (st' := [.inl (m)]) rfl ?_
      exact ez_retI rfl rfl (by have := hk 0 (by show en ≤ a; omega); rw [show m + ((0 : Nat) : Int) = m by omega] at this; exact this)
    · skip
      refine ez_go (n := 4) (pc' := 17) (L' := [(4, .inl (a)), (3, .inl (m)), (0, .inr (.inr (some (720)))), (1, .inl (bg)), (2, .inl (en))]) (st' := [.inl (17), .inl ((en) - (a))]) rfl ?_
      refine ez_icmp rfl rfl ⟨by first | omega | exact (sz_i32 _).1, by first | omega | exact (sz_i32 _).2⟩ ⟨by first | omega | exact (sz_i32 _).1, by first | omega | exact (sz_i32 _).2⟩ (fun (c2 : ((en) - (a)) < (17)) => ?_) (fun (c2 : ¬(((en) - (a)) < (17))) => ?_)
      · skip
        refine ez_go (n := 1) (pc' := 34) (L' := [(4, .inl (a)), (3, .inl (m)), (0, .inr (.inr (some (720)))), (1, .inl (bg)), (2, .inl (en))]) (st' := [.inl (-1)]) rfl ?_
        refine ez_retI rfl rfl (kN (fun ⟨q, hq⟩ => ?_))
        cases q with
        | zero => have hq : en ≤ a := hq; omega
        | succ q => first | (have := hq.1; omega) | exact hx1.mp ((nz_ceq _ _).mp (by first | assumption | omega)) hq.2.1
      · skip
        refine ez_go (n := 2) (pc' := 23) (L' := [(4, .inl (a)), (3, .inl (m)), (0, .inr (.inr (some (720)))), (1, .inl (bg)), (2, .inl (en))]) (st' := [.inl (a), .inr (.inr (some (720)))]) rfl ?_
        refine ez_cv hB t720 rfl rfl rfl tq_52 rfl rfl rfl (rd_readElement hB t720 (by omega) (by omega) (fun x hx1 => ez_KL ?_))
        refine ez_ldc2 (-1) rfl rfl rfl ?_
        refine ez_go (n := 1) (pc' := 30) (L' := [(4, .inl (a)), (3, .inl (m)), (0, .inr (.inr (some (720)))), (1, .inl (bg)), (2, .inl (en))]) (st' := [.inl ((lg_cmp (x) (Int64.ofInt (-1))).toInt)]) rfl ?_
        refine ez_if rfl rfl ⟨by first | omega | exact (sz_i32 _).1, by first | omega | exact (sz_i32 _).2⟩ (fun (c3 : ((lg_cmp (x) (Int64.ofInt (-1))).toInt) ≠ (0)) => ?_) (fun (c3 : ¬(((lg_cmp (x) (Int64.ofInt (-1))).toInt) ≠ (0))) => ?_)
        · skip
          refine ez_go (n := 6) (pc' := 45) (L' := [(3, .inl (m + 1)), (4, .inl (a)), (0, .inr (.inr (some (720)))), (1, .inl (bg)), (2, .inl (en))]) (st' := [.inl (en), .inl ((a) + (17)), .inr (.inr (some (720)))]) rfl ?_
          have xs := rz_skip_le (rz_b h) (en - (a + 17)).toNat (a + 17)
          refine ez_cv hB t720 rfl rfl rfl tq_52 rfl rfl rfl (rd_skipBlanks hB t720 (by omega) (by omega) (by omega) (ez_K1 ?_))
          refine ez_go (n := 2) (pc' := 5) (L' := [(4, .inl (rz_skip (rz_b h) (en - (a + 17)).toNat (a + 17))), (3, .inl (m + 1)), (0, .inr (.inr (some (720)))), (1, .inl (bg)), (2, .inl (en))]) (st' := []) rfl ?_
          refine ez_less [(4, .inl (rz_skip (rz_b h) (en - (a + 17)).toNat (a + 17))), (3, .inl (m + 1)), (0, .inr (.inr (some (720)))), (1, .inl (bg)), (2, .inl (en))] rfl ⟨rfl, rfl, rfl, rfl, rfl, trivial⟩ ?_
          have hxn : nz_e1 (rz_b h) a := by
            by_cases w9 : nz_e1 (rz_b h) a
            · exact w9
            · have w8 := (nz_ceq _ _).mpr (hx1.mpr w9); first | exact absurd w8 (by assumption) | omega
          refine ih _ _ (by omega) (by omega) (by omega) (by omega) (by omega) (fun hno => kN (fun ⟨q, hq⟩ => ?_)) (fun q hq => ?_)
          · cases q with
            | zero => have hq : en ≤ a := hq; omega
            | succ q => exact hno ⟨q, hq.2.2⟩
          have := hk (q + 1) ⟨by omega, hxn, hq⟩
          rw [show m + (((q + 1 : Nat)) : Int) = m + 1 + (q : Int) by omega] at this
          exact this
        · skip
          refine ez_go (n := 1) (pc' := 34) (L' := [(4, .inl (a)), (3, .inl (m)), (0, .inr (.inr (some (720)))), (1, .inl (bg)), (2, .inl (en))]) (st' := [.inl (-1)]) rfl ?_
          refine ez_retI rfl rfl (kN (fun ⟨q, hq⟩ => ?_))
          cases q with
          | zero => have hq : en ≤ a := hq; omega
          | succ q => first | (have := hq.1; omega) | exact hx1.mp ((nz_ceq _ _).mp (by first | assumption | omega)) hq.2.1
theorem rd_countElements {bg en : Int} (hB : ez_B τ h) (t720 : τ 720 = 52) (b0 : 0 ≤ bg) (be : bg ≤ en) (e1 : en ≤ 4096) (kN : (¬ ∃ q, nz_el (rz_b h) en q bg) → Q (.inl (some (ez_v (.inl (-1)))), h)) (kS : ∀ q, nz_el (rz_b h) en q bg → Q (.inl (some (ez_v (.inl (q : Int)))), h)) : ez_W (d + 2) cm_148 0 [(0, .inr (.inr (some (720)))), (1, .inl (bg)), (2, .inl (en))] [] h Q := by
  refine ez_go (n := 4) (pc' := 5) (L' := [(4, .inl (bg)), (3, .inl (0)), (0, .inr (.inr (some (720)))), (1, .inl (bg)), (2, .inl (en))]) (st' := []) rfl ?_
  refine ez_less [(4, .inl (bg)), (3, .inl (0)), (0, .inr (.inr (some (720)))), (1, .inl (bg)), (2, .inl (en))] rfl ⟨rfl, rfl, rfl, rfl, rfl, trivial⟩ ?_
  exact rd_countElements_l hB t720 b0 be e1 _ bg 0 (Nat.le_refl _) (by omega) (by omega) (by omega) (by omega) kN (fun q hq => by have := kS q hq; rw [show (0 : Int) + (q : Int) = (q : Int) by omega]; exact this)

theorem rd_readElements_l {bg en n : Int} {p : Nat} (t720 : τ 720 = 52) (tp : τ p = 9) (hp : 1000 ≤ p ∨ p ≠ 193) (b0 : 0 ≤ bg) (be : bg ≤ en) (e1 : en ≤ 4096) (n1 : n ≤ 18) (kk : ∀ g, ez_B τ g → ez_fr (ez_one p) h g → Q (.inl (some (.inr (.inr (some p)))), g)) : ∀ (m : Nat) (k a : Int) (g : cz_H), 0 ≤ a → 0 ≤ k → n = k + (m : Int) → ez_B τ g → ez_fr (ez_one p) h g → qz_N g p = n → nz_el (rz_b h) en m a → ez_W (d + 2) cm_164 31 [(6, .inl (k)), (5, .inl (a)), (4, .inr (.inr (some (p)))), (3, .inl (n)), (0, .inr (.inr (some (720)))), (1, .inl (bg)), (2, .inl (en))] [] g Q := by
  intro m
  induction m with
  | zero =>
    intro k a g a0 k0 hk hB hf hN hel
    refine ez_go (n := 2) (pc' := 34) (L' := [(6, .inl (k)), (5, .inl (a)), (4, .inr (.inr (some (p)))), (3, .inl (n)), (0, .inr (.inr (some (720)))), (1, .inl (bg)), (2, .inl (en))]) (st' := [.inl (n), .inl (k)]) rfl ?_
    refine ez_icmp rfl rfl ⟨by first | omega | exact (sz_i32 _).1, by first | omega | exact (sz_i32 _).2⟩ ⟨by first | omega | exact (sz_i32 _).1, by first | omega | exact (sz_i32 _).2⟩ (fun (c1 : (n) ≤ (k)) => ?_) (fun (c1 : ¬((n) ≤ (k))) => ?_)
    · skip
      refine ez_go (n := 1) (pc' := 68) (L' := [(6, .inl (k)), (5, .inl (a)), (4, .inr (.inr (some (p)))), (3, .inl (n)), (0, .inr (.inr (some (720)))), (1, .inl (bg)), (2, .inl (en))]) (st' := [.inr (.inr (some (p)))]) rfl ?_
      exact ez_retA rfl rfl rfl (kk g hB hf)
    · exfalso; omega
  | succ m ih =>
    intro k a g a0 k0 hk hB hf hN hel
    refine ez_go (n := 2) (pc' := 34) (L' := [(6, .inl (k)), (5, .inl (a)), (4, .inr (.inr (some (p)))), (3, .inl (n)), (0, .inr (.inr (some (720)))), (1, .inl (bg)), (2, .inl (en))]) (st' := [.inl (n), .inl (k)]) rfl ?_
    refine ez_icmp rfl rfl ⟨by first | omega | exact (sz_i32 _).1, by first | omega | exact (sz_i32 _).2⟩ ⟨by first | omega | exact (sz_i32 _).1, by first | omega | exact (sz_i32 _).2⟩ (fun (c1 : (n) ≤ (k)) => ?_) (fun (c1 : ¬((n) ≤ (k))) => ?_)
    · exfalso; omega
    · skip
      refine ez_go (n := 4) (pc' := 44) (L' := [(6, .inl (k)), (5, .inl (a)), (4, .inr (.inr (some (p)))), (3, .inl (n)), (0, .inr (.inr (some (720)))), (1, .inl (bg)), (2, .inl (en))]) (st' := [.inl (a), .inr (.inr (some (720))), .inl (k), .inr (.inr (some (p)))]) rfl ?_
      have hel1 := hel.1
      refine ez_cv hB t720 rfl rfl rfl tq_52 rfl rfl rfl (rd_readElement hB t720 (by omega) (by omega) (fun x _ => ez_KL ?_))
      have n4 : 1 ≤ qz_N g p ∧ qz_N g p ≤ 18 := ez_len hB tp tq_9 rfl
      refine ez_as hB tp rfl tq_9 rfl rfl (by omega) (by omega) ez_vdJ (fun hB2 w3 => ?_)
      refine ez_go (n := 5) (pc' := 55) (L' := [(6, .inl (k)), (5, .inl (a)), (4, .inr (.inr (some (p)))), (3, .inl (n)), (0, .inr (.inr (some (720)))), (1, .inl (bg)), (2, .inl (en))]) (st' := [.inl (en), .inl ((a) + (17)), .inr (.inr (some (720)))]) rfl ?_
      have hb1 : rz_b (dz_put g p (k).toNat (ez_v (.inr (.inl (x))))) = rz_b h := rz_b_fr (hf.put (show Nat.beq p p = true from Nat.beq_refl p) _ _) (dz_beq_ne (by omega))
      have xs := rz_skip_le (rz_b h) (en - (a + 17)).toNat (a + 17)
      refine ez_cv hB2 t720 rfl rfl rfl tq_52 rfl rfl rfl (rd_skipBlanks hB2 t720 (by omega) (by omega) (by omega) (ez_K1 ?_))
      rw [hb1]
      refine ez_go (n := 3) (pc' := 31) (L' := [(6, .inl (k + 1)), (5, .inl (rz_skip (rz_b h) (en - (a + 17)).toNat (a + 17))), (4, .inr (.inr (some (p)))), (3, .inl (n)), (0, .inr (.inr (some (720)))), (1, .inl (bg)), (2, .inl (en))]) (st' := []) rfl ?_
      refine ez_less [(6, .inl (k + 1)), (5, .inl (rz_skip (rz_b h) (en - (a + 17)).toNat (a + 17))), (4, .inr (.inr (some (p)))), (3, .inl (n)), (0, .inr (.inr (some (720)))), (1, .inl (bg)), (2, .inl (en))] rfl ⟨rfl, rfl, rfl, rfl, rfl, rfl, rfl, trivial⟩ ?_
      exact ih _ _ _ (by omega) (by omega) (by omega) hB2 (hf.put (show Nat.beq p p = true from Nat.beq_refl p) _ _) (by rw [ez_put_N]; exact hN) hel.2.2
theorem rd_readElements {bg en : Int} (hB : ez_B τ h) (t720 : τ 720 = 52) (t193 : τ 193 = 45) (b0 : 0 ≤ bg) (be : bg ≤ en) (e1 : en ≤ 4096) (hr1 : h.1 + 1 ≤ 600192) (hr2 : h.2.1 + 18 ≤ 7302232) (k : ∀ o g τ1, ez_B τ1 g → ez_xt τ h τ1 g 1 18 → (∀ p, o = some p → τ1 p = 9 ∧ τ p = 0) → (o = none ↔ ¬ nz_els (rz_b h) bg en) → Q (.inl (some (.inr (.inr o))), g)) : ez_W (d + 3) cm_164 0 [(0, .inr (.inr (some (720)))), (1, .inl (bg)), (2, .inl (en))] [] h Q := by
  refine ez_go (n := 3) (pc' := 3) (L' := [(0, .inr (.inr (some (720)))), (1, .inl (bg)), (2, .inl (en))]) (st' := [.inl (en), .inl (bg), .inr (.inr (some (720)))]) rfl ?_
  refine ez_cv hB t720 rfl rfl rfl tq_52 rfl rfl rfl (rd_countElements hB t720 b0 be e1 (fun hno => ez_K1 ?_) (fun q hq => ez_K1 ?_))
  · skip
    refine ez_go (n := 3) (pc' := 9) (L' := [(3, .inl (-1)), (0, .inr (.inr (some (720)))), (1, .inl (bg)), (2, .inl (en))]) (st' := [.inl (1), .inl (-1)]) rfl ?_
    refine ez_icmp rfl rfl ⟨by decide, by decide⟩ ⟨by decide, by decide⟩ (fun _ => ?_) (fun (c1 : ¬((-1 : Int) < (1))) => absurd c1 (by decide))
    refine ez_go (n := 1) (pc' := 19) (L' := [(3, .inl (-1)), (0, .inr (.inr (some (720)))), (1, .inl (bg)), (2, .inl (en))]) (st' := [.inr (.inr none)]) rfl ?_
    exact ez_retA rfl rfl rfl (k none h τ hB (ez_xt.refl _ _ _ _) (fun p w => by cases w) ⟨fun _ w => by obtain ⟨q9, w1, w2⟩ := w; first | exact hno ⟨q9, w2⟩ | (have := nz_el_u _ _ _ _ _ hq w2; omega), fun _ => rfl⟩)
  · skip
    have hql := nz_el_le _ _ _ _ hq
    refine ez_go (n := 3) (pc' := 9) (L' := [(3, .inl ((q : Int))), (0, .inr (.inr (some (720)))), (1, .inl (bg)), (2, .inl (en))]) (st' := [.inl (1), .inl ((q : Int))]) rfl ?_
    refine ez_icmp rfl rfl ⟨by first | omega | exact (sz_i32 _).1, by first | omega | exact (sz_i32 _).2⟩ ⟨by first | omega | exact (sz_i32 _).1, by first | omega | exact (sz_i32 _).2⟩ (fun (c2 : ((q : Int)) < (1)) => ?_) (fun (c2 : ¬(((q : Int)) < (1))) => ?_)
    · skip
      refine ez_go (n := 1) (pc' := 19) (L' := [(3, .inl ((q : Int))), (0, .inr (.inr (some (720)))), (1, .inl (bg)), (2, .inl (en))]) (st' := [.inr (.inr none)]) rfl ?_
      exact ez_retA rfl rfl rfl (k none h τ hB (ez_xt.refl _ _ _ _) (fun p w => by cases w) ⟨fun _ w => by obtain ⟨q9, w1, w2⟩ := w; first | exact hno ⟨q9, w2⟩ | (have := nz_el_u _ _ _ _ _ hq w2; omega), fun _ => rfl⟩)
    · skip
      refine ez_go (n := 2) (pc' := 15) (L' := [(3, .inl ((q : Int))), (0, .inr (.inr (some (720)))), (1, .inl (bg)), (2, .inl (en))]) (st' := [.inl (18), .inl ((q : Int))]) rfl ?_
      refine ez_icmp rfl rfl ⟨by first | omega | exact (sz_i32 _).1, by first | omega | exact (sz_i32 _).2⟩ ⟨by first | omega | exact (sz_i32 _).1, by first | omega | exact (sz_i32 _).2⟩ (fun (c3 : ((q : Int)) ≤ (18)) => ?_) (fun (c3 : ¬(((q : Int)) ≤ (18))) => ?_)
      · skip
        refine ez_go (n := 1) (pc' := 21) (L' := [(3, .inl ((q : Int))), (0, .inr (.inr (some (720)))), (1, .inl (bg)), (2, .inl (en))]) (st' := [.inl ((q : Int))]) rfl ?_
        refine ez_nA' (t := 9) hB rfl rfl rfl tq_9 rfl rfl (by omega) (by show (1 : Int) ≤ _; omega) (by show _ ≤ (18 : Int); omega) (by omega) (by omega) (by omega) (fun g4 τ4 p4 hB4 x4 o4 t4 z4 e4 N4 y4 => ?_)
        have c4 := x4.2
        have t720n4 := (x4.1 _ (by rw [t720]; decide)).1.trans t720
        refine ez_go (n := 5) (pc' := 31) (L' := [(6, .inl (0)), (5, .inl (bg)), (4, .inr (.inr (some (p4)))), (3, .inl ((q : Int))), (0, .inr (.inr (some (720)))), (1, .inl (bg)), (2, .inl (en))]) (st' := []) rfl ?_
        refine ez_less [(6, .inl (0)), (5, .inl (bg)), (4, .inr (.inr (some (p4)))), (3, .inl ((q : Int))), (0, .inr (.inr (some (720)))), (1, .inl (bg)), (2, .inl (en))] rfl ⟨rfl, rfl, rfl, rfl, rfl, rfl, rfl, trivial⟩ ?_
        have h193 : p4 ≠ 193 := fun e => by rw [e, t193] at z4; cases z4
        have hb9 : rz_b g4 = rz_b h := funext fun i => x4.I (by rw [t193]; decide) _
        exact rd_readElements_l t720n4 t4 (Or.inr h193) b0 be e1 (by omega) (fun g hB9 hf => k (some _) g _ hB9 (((x4.fr hf z4)).mono (by omega) (by omega)) (fun p w => by cases w; exact ⟨t4, z4⟩) ⟨fun w => (by cases w), fun w => absurd ⟨q, ⟨by omega, by omega⟩, hq⟩ w⟩) q 0 bg _ (by omega) (by omega) (by omega) hB4 (ez_fr.refl _ _) N4 (by rw [hb9]; exact hq)
      · skip
        refine ez_go (n := 1) (pc' := 19) (L' := [(3, .inl ((q : Int))), (0, .inr (.inr (some (720)))), (1, .inl (bg)), (2, .inl (en))]) (st' := [.inr (.inr none)]) rfl ?_
        exact ez_retA rfl rfl rfl (k none h τ hB (ez_xt.refl _ _ _ _) (fun p w => by cases w) ⟨fun _ w => by obtain ⟨q9, w1, w2⟩ := w; first | exact hno ⟨q9, w2⟩ | (have := nz_el_u _ _ _ _ _ hq w2; omega), fun _ => rfl⟩)

end EzK1
/-! The class: placeOf; what LINES 1, 2, 4 tell. (Written by wip/p2/py/pv22.py.) -/
theorem nz_cmp_lt (a b : Int64) : (lg_cmp a b).toInt < 0 ↔ a < b := by
  unfold lg_cmp
  by_cases h1 : a > b
  · rw [if_pos h1]
    refine ⟨fun w => absurd w (by decide), fun w => ?_⟩
    have e1 := Int64.lt_iff_toInt_lt.mp h1
    have e2 := Int64.lt_iff_toInt_lt.mp w
    omega
  · rw [if_neg h1]
    by_cases h2 : a = b
    · rw [if_pos h2]
      refine ⟨fun w => absurd w (by decide), fun w => ?_⟩
      have e2 := Int64.lt_iff_toInt_lt.mp w
      rw [h2] at e2
      omega
    · rw [if_neg h2]
      refine ⟨fun _ => Int64.lt_iff_toInt_lt.mpr ?_, fun _ => by decide⟩
      have e1 : ¬ b.toInt < a.toInt := fun w => h1 (Int64.lt_iff_toInt_lt.mpr w)
      have e2 : a.toInt ≠ b.toInt := fun w => h2 (Int64.toInt_inj.mp w)
      omega
theorem nz_cmp_eq (a b : Int64) : (lg_cmp a b).toInt = 0 ↔ a = b := by
  unfold lg_cmp
  by_cases h1 : a > b
  · rw [if_pos h1]
    refine ⟨fun w => absurd w (by decide), fun w => ?_⟩
    have e1 := Int64.lt_iff_toInt_lt.mp h1
    rw [w] at e1
    omega
  · rw [if_neg h1]
    by_cases h2 : a = b
    · rw [if_pos h2]; exact ⟨fun _ => h2, fun _ => by decide⟩
    · rw [if_neg h2]; exact ⟨fun w => absurd w (by decide), fun w => absurd w h2⟩
theorem ez_and {d : Nat} {M : cz_M} {pc : Nat} {L : List (Nat × ez_V)} {st : List ez_V} {h : cz_H} {Q1 Q2 : cz_F → Prop} (a : ez_W d M pc L st h Q1) (b : ez_W d M pc L st h Q2) : ez_W d M pc L st h (fun F => Q1 F ∧ Q2 F) := by
  obtain ⟨n1, F1, h1, q1⟩ := a
  obtain ⟨n2, F2, h2, q2⟩ := b
  have e1 := dz_x_mono cz_pg n1 n2 _ _ _ _ _ _ _ h1
  have e2 := dz_x_mono cz_pg n2 n1 _ _ _ _ _ _ _ h2
  rw [Nat.add_comm] at e2
  rw [e1] at e2
  cases e2
  exact ⟨n1, F1, h1, q1, q2⟩
theorem ez_mono {d : Nat} {M : cz_M} {pc : Nat} {L : List (Nat × ez_V)} {st : List ez_V} {h : cz_H} {Q1 Q2 : cz_F → Prop} (a : ez_W d M pc L st h Q1) (k : ∀ F, Q1 F → Q2 F) : ez_W d M pc L st h Q2 := by
  obtain ⟨n1, F1, h1, q1⟩ := a
  exact ⟨n1, F1, h1, k _ q1⟩
section EzPl
variable {d : Nat} {h : cz_H} {τ : Nat → Nat} {Q : cz_F → Prop}
theorem rd_mid {lo hi : Int} (l0 : 0 ≤ lo) (lh : lo < hi) (h1 : hi ≤ 100000) : lo ≤ (((Int32.ofInt ((lo) + (hi))).toUInt32 >>> ((Int32.ofInt (1)).toUInt32 &&& Int32.toUInt32 31)).toInt32).toInt ∧ (((Int32.ofInt ((lo) + (hi))).toUInt32 >>> ((Int32.ofInt (1)).toUInt32 &&& Int32.toUInt32 31)).toInt32).toInt < hi := by
  have e := ez_half (a := lo + hi) (by omega) (by omega)
  rw [e]
  omega
theorem rd_placeOfR_l {s : Int64} {r : Nat} {n : Int} (hB : ez_B τ h) (tr : τ r = 50) (n1 : n ≤ 256) (k : ∀ v : Int, 0 ≤ v → v ≤ n → (v = 0 ∨ Int64.ofInt (qz_I h r (v - 1).toNat) < s) → (v = n ∨ ¬ Int64.ofInt (qz_I h r (v).toNat) < s) → Q (.inl (some (ez_v (.inl v))), h)) : ∀ (m : Nat) (lo hi : Int), (hi - lo).toNat ≤ m → 0 ≤ lo → lo ≤ hi → hi ≤ n → (lo = 0 ∨ Int64.ofInt (qz_I h r (lo - 1).toNat) < s) → (hi = n ∨ ¬ Int64.ofInt (qz_I h r (hi).toNat) < s) → ez_W d cm_26 6 [(5, .inl (hi)), (4, .inl (lo)), (0, .inr (.inl (s))), (2, .inr (.inr (some (r)))), (3, .inl (n))] [] h Q := by
  intro m
  induction m with
  | zero =>
    intro lo hi hm l0 lh hn h1 h2
    refine ez_go (n := 2) (pc' := 10) (L' := [(5, .inl (hi)), (4, .inl (lo)), (0, .inr (.inl (s))), (2, .inr (.inr (some (r)))), (3, .inl (n))]) (st' := [.inl (hi), .inl (lo)]) rfl ?_
    refine ez_icmp rfl rfl ⟨by first | omega | exact (sz_i32 _).1, by first | omega | exact (sz_i32 _).2⟩ ⟨by first | omega | exact (sz_i32 _).1, by first | omega | exact (sz_i32 _).2⟩ (fun (c1 : (hi) ≤ (lo)) => ?_) (fun (c1 : ¬((hi) ≤ (lo))) => ?_)
    · skip
      refine ez_go (n := 1) (pc' := 49) (L' := [(5, .inl (hi)), (4, .inl (lo)), (0, .inr (.inl (s))), (2, .inr (.inr (some (r)))), (3, .inl (n))]) (st' := [.inl (lo)]) rfl ?_
      exact ez_retI rfl rfl (k lo l0 (by omega) h1 (by rw [show lo = hi by omega]; exact h2))
    · exfalso; omega
  | succ m ih =>
    intro lo hi hm l0 lh hn h1 h2
    refine ez_go (n := 2) (pc' := 10) (L' := [(5, .inl (hi)), (4, .inl (lo)), (0, .inr (.inl (s))), (2, .inr (.inr (some (r)))), (3, .inl (n))]) (st' := [.inl (hi), .inl (lo)]) rfl ?_
    refine ez_icmp rfl rfl ⟨by first | omega | exact (sz_i32 _).1, by first | omega | exact (sz_i32 _).2⟩ ⟨by first | omega | exact (sz_i32 _).1, by first | omega | exact (sz_i32 _).2⟩ (fun (c1 : (hi) ≤ (lo)) => ?_) (fun (c1 : ¬((hi) ≤ (lo))) => ?_)
    · skip
      refine ez_go (n := 1) (pc' := 49) (L' := [(5, .inl (hi)), (4, .inl (lo)), (0, .inr (.inl (s))), (2, .inr (.inr (some (r)))), (3, .inl (n))]) (st' := [.inl (lo)]) rfl ?_
      exact ez_retI rfl rfl (k lo l0 (by omega) h1 (by rw [show lo = hi by omega]; exact h2))
    · skip
      refine ez_go (n := 6) (pc' := 22) (L' := [(6, .inl ((((Int32.ofInt ((lo) + (hi))).toUInt32 >>> ((Int32.ofInt (1)).toUInt32 &&& Int32.toUInt32 31)).toInt32).toInt)), (5, .inl (hi)), (4, .inl (lo)), (0, .inr (.inl (s))), (2, .inr (.inr (some (r)))), (3, .inl (n))]) (st' := []) rfl ?_
      have hmid := rd_mid (lo := lo) (hi := hi) (by omega) (by omega) (by omega)
      generalize (((Int32.ofInt ((lo) + (hi))).toUInt32 >>> ((Int32.ofInt (1)).toUInt32 &&& Int32.toUInt32 31)).toInt32).toInt = md at *
      refine ez_go (n := 2) (pc' := 25) (L' := [(6, .inl (md)), (5, .inl (hi)), (4, .inl (lo)), (0, .inr (.inl (s))), (2, .inr (.inr (some (r)))), (3, .inl (n))]) (st' := [.inl (md), .inr (.inr (some (r)))]) rfl ?_
      have n2 : 256 ≤ qz_N h r ∧ qz_N h r ≤ 256 := ez_len hB tr tq_50 rfl
      refine ez_aL hB tr rfl tq_50 rfl rfl (by omega) (by omega) ?_
      refine ez_go (n := 2) (pc' := 28) (L' := [(6, .inl (md)), (5, .inl (hi)), (4, .inl (lo)), (0, .inr (.inl (s))), (2, .inr (.inr (some (r)))), (3, .inl (n))]) (st' := [.inl ((lg_cmp (Int64.ofInt (qz_I h r (md).toNat)) (s)).toInt)]) rfl ?_
      refine ez_if rfl rfl ⟨by first | omega | exact (sz_i32 _).1, by first | omega | exact (sz_i32 _).2⟩ (fun (c3 : (0) ≤ ((lg_cmp (Int64.ofInt (qz_I h r (md).toNat)) (s)).toInt)) => ?_) (fun (c3 : ¬((0) ≤ ((lg_cmp (Int64.ofInt (qz_I h r (md).toNat)) (s)).toInt))) => ?_)
      · skip
        refine ez_go (n := 3) (pc' := 6) (L' := [(5, .inl (md)), (6, .inl (md)), (4, .inl (lo)), (0, .inr (.inl (s))), (2, .inr (.inr (some (r)))), (3, .inl (n))]) (st' := []) rfl ?_
        refine ez_less [(5, .inl (md)), (4, .inl (lo)), (0, .inr (.inl (s))), (2, .inr (.inr (some (r)))), (3, .inl (n))] rfl ⟨rfl, rfl, rfl, rfl, rfl, trivial⟩ ?_
        exact ih _ _ (by omega) (by omega) (by omega) (by omega) h1 (Or.inr (fun w => absurd ((nz_cmp_lt _ _).mpr w) (by omega)))
      · skip
        refine ez_go (n := 6) (pc' := 6) (L' := [(4, .inl ((md) + (1))), (6, .inl (md)), (5, .inl (hi)), (0, .inr (.inl (s))), (2, .inr (.inr (some (r)))), (3, .inl (n))]) (st' := []) rfl ?_
        refine ez_less [(5, .inl (hi)), (4, .inl ((md) + (1))), (0, .inr (.inl (s))), (2, .inr (.inr (some (r)))), (3, .inl (n))] rfl ⟨rfl, rfl, rfl, rfl, rfl, trivial⟩ ?_
        exact ih _ _ (by omega) (by omega) (by omega) hn (Or.inr (by rw [show md + 1 - 1 = md by omega]; exact (nz_cmp_lt _ _).mp (by omega))) h2
theorem rd_placeOfR {s : Int64} {r : Nat} {n : Int} (hB : ez_B τ h) (tr : τ r = 50) (n0 : 0 ≤ n) (n1 : n ≤ 256) (k : ∀ v : Int, 0 ≤ v → v ≤ n → (v = 0 ∨ Int64.ofInt (qz_I h r (v - 1).toNat) < s) → (v = n ∨ ¬ Int64.ofInt (qz_I h r (v).toNat) < s) → Q (.inl (some (ez_v (.inl v))), h)) : ez_W d cm_26 0 [(0, .inr (.inl (s))), (2, .inr (.inr (some (r)))), (3, .inl (n))] [] h Q := by
  refine ez_go (n := 4) (pc' := 6) (L' := [(5, .inl (n)), (4, .inl (0)), (0, .inr (.inl (s))), (2, .inr (.inr (some (r)))), (3, .inl (n))]) (st' := []) rfl ?_
  refine ez_less [(5, .inl (n)), (4, .inl (0)), (0, .inr (.inl (s))), (2, .inr (.inr (some (r)))), (3, .inl (n))] rfl ⟨rfl, rfl, rfl, rfl, rfl, trivial⟩ ?_
  exact rd_placeOfR_l hB tr n1 k _ 0 n (Nat.le_refl _) (by omega) n0 (by omega) (Or.inl rfl) (Or.inl rfl)

theorem rd_placeOfP_l {s : Int64} {r : Nat} {n : Int} (hB : ez_B τ h) (tr : τ r = 59) (n1 : n ≤ 256) (k : ∀ v : Int, 0 ≤ v → v ≤ n → (v = 0 ∨ Int64.ofInt (qz_I h r (v - 1).toNat) < s) → (v = n ∨ ¬ Int64.ofInt (qz_I h r (v).toNat) < s) → Q (.inl (some (ez_v (.inl v))), h)) : ∀ (m : Nat) (lo hi : Int), (hi - lo).toNat ≤ m → 0 ≤ lo → lo ≤ hi → hi ≤ n → (lo = 0 ∨ Int64.ofInt (qz_I h r (lo - 1).toNat) < s) → (hi = n ∨ ¬ Int64.ofInt (qz_I h r (hi).toNat) < s) → ez_W d cm_26 6 [(5, .inl (hi)), (4, .inl (lo)), (0, .inr (.inl (s))), (2, .inr (.inr (some (r)))), (3, .inl (n))] [] h Q := by
  intro m
  induction m with
  | zero =>
    intro lo hi hm l0 lh hn h1 h2
    refine ez_go (n := 2) (pc' := 10) (L' := [(5, .inl (hi)), (4, .inl (lo)), (0, .inr (.inl (s))), (2, .inr (.inr (some (r)))), (3, .inl (n))]) (st' := [.inl (hi), .inl (lo)]) rfl ?_
    refine ez_icmp rfl rfl ⟨by first | omega | exact (sz_i32 _).1, by first | omega | exact (sz_i32 _).2⟩ ⟨by first | omega | exact (sz_i32 _).1, by first | omega | exact (sz_i32 _).2⟩ (fun (c1 : (hi) ≤ (lo)) => ?_) (fun (c1 : ¬((hi) ≤ (lo))) => ?_)
    · skip
      refine ez_go (n := 1) (pc' := 49) (L' := [(5, .inl (hi)), (4, .inl (lo)), (0, .inr (.inl (s))), (2, .inr (.inr (some (r)))), (3, .inl (n))]) (st' := [.inl (lo)]) rfl ?_
      exact ez_retI rfl rfl (k lo l0 (by omega) h1 (by rw [show lo = hi by omega]; exact h2))
    · exfalso; omega
  | succ m ih =>
    intro lo hi hm l0 lh hn h1 h2
    refine ez_go (n := 2) (pc' := 10) (L' := [(5, .inl (hi)), (4, .inl (lo)), (0, .inr (.inl (s))), (2, .inr (.inr (some (r)))), (3, .inl (n))]) (st' := [.inl (hi), .inl (lo)]) rfl ?_
    refine ez_icmp rfl rfl ⟨by first | omega | exact (sz_i32 _).1, by first | omega | exact (sz_i32 _).2⟩ ⟨by first | omega | exact (sz_i32 _).1, by first | omega | exact (sz_i32 _).2⟩ (fun (c1 : (hi) ≤ (lo)) => ?_) (fun (c1 : ¬((hi) ≤ (lo))) => ?_)
    · skip
      refine ez_go (n := 1) (pc' := 49) (L' := [(5, .inl (hi)), (4, .inl (lo)), (0, .inr (.inl (s))), (2, .inr (.inr (some (r)))), (3, .inl (n))]) (st' := [.inl (lo)]) rfl ?_
      exact ez_retI rfl rfl (k lo l0 (by omega) h1 (by rw [show lo = hi by omega]; exact h2))
    · skip
      refine ez_go (n := 6) (pc' := 22) (L' := [(6, .inl ((((Int32.ofInt ((lo) + (hi))).toUInt32 >>> ((Int32.ofInt (1)).toUInt32 &&& Int32.toUInt32 31)).toInt32).toInt)), (5, .inl (hi)), (4, .inl (lo)), (0, .inr (.inl (s))), (2, .inr (.inr (some (r)))), (3, .inl (n))]) (st' := []) rfl ?_
      have hmid := rd_mid (lo := lo) (hi := hi) (by omega) (by omega) (by omega)
      generalize (((Int32.ofInt ((lo) + (hi))).toUInt32 >>> ((Int32.ofInt (1)).toUInt32 &&& Int32.toUInt32 31)).toInt32).toInt = md at *
      refine ez_go (n := 2) (pc' := 25) (L' := [(6, .inl (md)), (5, .inl (hi)), (4, .inl (lo)), (0, .inr (.inl (s))), (2, .inr (.inr (some (r)))), (3, .inl (n))]) (st' := [.inl (md), .inr (.inr (some (r)))]) rfl ?_
      have n2 : 256 ≤ qz_N h r ∧ qz_N h r ≤ 256 := ez_len hB tr tq_59 rfl
      refine ez_aL hB tr rfl tq_59 rfl rfl (by omega) (by omega) ?_
      refine ez_go (n := 2) (pc' := 28) (L' := [(6, .inl (md)), (5, .inl (hi)), (4, .inl (lo)), (0, .inr (.inl (s))), (2, .inr (.inr (some (r)))), (3, .inl (n))]) (st' := [.inl ((lg_cmp (Int64.ofInt (qz_I h r (md).toNat)) (s)).toInt)]) rfl ?_
      refine ez_if rfl rfl ⟨by first | omega | exact (sz_i32 _).1, by first | omega | exact (sz_i32 _).2⟩ (fun (c3 : (0) ≤ ((lg_cmp (Int64.ofInt (qz_I h r (md).toNat)) (s)).toInt)) => ?_) (fun (c3 : ¬((0) ≤ ((lg_cmp (Int64.ofInt (qz_I h r (md).toNat)) (s)).toInt))) => ?_)
      · skip
        refine ez_go (n := 3) (pc' := 6) (L' := [(5, .inl (md)), (6, .inl (md)), (4, .inl (lo)), (0, .inr (.inl (s))), (2, .inr (.inr (some (r)))), (3, .inl (n))]) (st' := []) rfl ?_
        refine ez_less [(5, .inl (md)), (4, .inl (lo)), (0, .inr (.inl (s))), (2, .inr (.inr (some (r)))), (3, .inl (n))] rfl ⟨rfl, rfl, rfl, rfl, rfl, trivial⟩ ?_
        exact ih _ _ (by omega) (by omega) (by omega) (by omega) h1 (Or.inr (fun w => absurd ((nz_cmp_lt _ _).mpr w) (by omega)))
      · skip
        refine ez_go (n := 6) (pc' := 6) (L' := [(4, .inl ((md) + (1))), (6, .inl (md)), (5, .inl (hi)), (0, .inr (.inl (s))), (2, .inr (.inr (some (r)))), (3, .inl (n))]) (st' := []) rfl ?_
        refine ez_less [(5, .inl (hi)), (4, .inl ((md) + (1))), (0, .inr (.inl (s))), (2, .inr (.inr (some (r)))), (3, .inl (n))] rfl ⟨rfl, rfl, rfl, rfl, rfl, trivial⟩ ?_
        exact ih _ _ (by omega) (by omega) (by omega) hn (Or.inr (by rw [show md + 1 - 1 = md by omega]; exact (nz_cmp_lt _ _).mp (by omega))) h2
theorem rd_placeOfP {s : Int64} {r : Nat} {n : Int} (hB : ez_B τ h) (tr : τ r = 59) (n0 : 0 ≤ n) (n1 : n ≤ 256) (k : ∀ v : Int, 0 ≤ v → v ≤ n → (v = 0 ∨ Int64.ofInt (qz_I h r (v - 1).toNat) < s) → (v = n ∨ ¬ Int64.ofInt (qz_I h r (v).toNat) < s) → Q (.inl (some (ez_v (.inl v))), h)) : ez_W d cm_26 0 [(0, .inr (.inl (s))), (2, .inr (.inr (some (r)))), (3, .inl (n))] [] h Q := by
  refine ez_go (n := 4) (pc' := 6) (L' := [(5, .inl (n)), (4, .inl (0)), (0, .inr (.inl (s))), (2, .inr (.inr (some (r)))), (3, .inl (n))]) (st' := []) rfl ?_
  refine ez_less [(5, .inl (n)), (4, .inl (0)), (0, .inr (.inl (s))), (2, .inr (.inr (some (r)))), (3, .inl (n))] rfl ⟨rfl, rfl, rfl, rfl, rfl, trivial⟩ ?_
  exact rd_placeOfP_l hB tr n1 k _ 0 n (Nat.le_refl _) (by omega) n0 (by omega) (Or.inl rfl) (Or.inl rfl)

/-- slots up to traits stay -/
def sz_RW (_ : Prop) (j : Nat) (u v : Int) : Prop := j ≤ 4 → v = u
/-- the slot of a letter of folding; 9 is none -/
def fJ (c : Int) (J : Nat) : Prop := (c = 67 ∧ J = 5) ∨ (c = 70 ∧ J = 6) ∨ (c = 84 ∧ J = 7) ∨ (c ≠ 67 ∧ c ≠ 70 ∧ c ≠ 84 ∧ J = 9)
/-- one slot of the points told of is another -/
def sz_RS (J : Nat) (w : Int) (P : Prop) (j : Nat) (u v : Int) : Prop := (P → v = if j = J then w else u) ∧ (¬ P → v = u)
theorem sz_RS_W {τ : Nat → Nat} {h g : cz_H} {first last w : Int} {J : Nat} (hJ : 5 ≤ J) (ht : sz_toldR τ h g first last (sz_RS J w)) : sz_toldR τ h g first last sz_RW := by
  refine ⟨ht.1, ht.2.1, ht.2.2.1, ht.2.2.2.1, ht.2.2.2.2.1, fun x k x0 x1 hk => ?_⟩
  obtain ⟨k', w1, w2⟩ := ht.2.2.2.2.2 x k x0 x1 hk
  refine ⟨k', w1, fun j j1 j8 j4 => ?_⟩
  have q := w2 j j1 j8
  by_cases hP : first ≤ x ∧ x ≤ last
  · rw [q.1 hP, if_neg (by omega)]
  · exact q.2 hP
theorem rd_onlySpanOf {p : Int} (hB : ez_B τ h) (t202 : τ 202 = 48) (t203 : τ 203 = 49) (hs : sz_ok h) (hinj : sz_inj h) (p0 : 0 ≤ p) (p1 : p ≤ 1114111) (hn : qz_I h 202 1 + 2 ≤ 513) (k : ∀ g z, ez_B τ g → τ z = 4 → (∃ k2, sz_at h p k2 ∧ qz_I g z 8 = qz_I h (sz_p h k2) 8) → ez_fr (sz_PS τ) h g → (∀ g3, ez_fr (ez_one z) g g3 → (∀ j, j ≤ 4 → qz_I g3 z j = qz_I g z j) → sz_toldR τ h g3 p p sz_RW) → (∀ g3 (J : Nat) (w : Int), 1 ≤ J → ez_fr (ez_one z) g g3 → (∀ j, j ≠ J → qz_I g3 z j = qz_I g z j) → (J ≤ 8 → qz_I g3 z J = w) → sz_toldR τ h g3 p p (sz_RS J w)) → (∃ k2, sz_at h p k2 ∧ ∀ j, 1 ≤ j → j ≤ 8 → qz_I g z j = qz_I h (sz_p h k2) j) → Q (.inl (some (.inr (.inr (some z)))), g)) : ez_W (d + 2) cm_100 0 [(0, .inr (.inr (some (202)))), (1, .inl (p))] [] h Q := by
  refine ez_go (n := 2) (pc' := 2) (L' := [(0, .inr (.inr (some (202)))), (1, .inl (p))]) (st' := [.inl (p), .inr (.inr (some (202)))]) rfl ?_
  refine ez_cv hB t202 rfl rfl rfl tq_48 rfl rfl rfl (rd_cutP hB t202 t203 hs hinj (by omega) (by omega) (fun g1 a hB1 s1 i1 x1 x2 x3 x4 x5 x55 x6 x7 x8 => ez_K1 ?_))
  refine ez_go (n := 5) (pc' := 10) (L' := [(2, .inl (a)), (0, .inr (.inr (some (202)))), (1, .inl (p))]) (st' := [.inl ((p) + (1)), .inr (.inr (some (202)))]) rfl ?_
  refine ez_cv hB1 t202 rfl rfl rfl tq_48 rfl rfl rfl (rd_cutP hB1 t202 t203 s1 i1 (by omega) (by omega) (fun g2 b hB2 s2 i2 yy1 yy2 yy3 yy4 yy5 yy6 yy7 yy8 yy9 => ez_K1 ?_))
  have x7 := x7 (by omega) (by omega)
  have bn2 := sz_R_n1 hB2 t202
  refine ez_go (n := 2) (pc' := 15) (L' := [(2, .inl (a)), (0, .inr (.inr (some (202)))), (1, .inl (p))]) (st' := [.inr (.inr (some (202)))]) rfl ?_
  refine ez_gC (p := 203) (tg := 49) hB2 t202 rfl rfl tq_48 rfl rfl (fun (t203 : _ = 49) => ?_)
  refine ez_go (n := 1) (pc' := 19) (L' := [(2, .inl (a)), (0, .inr (.inr (some (202)))), (1, .inl (p))]) (st' := [.inl (a), .inr (.inr (some (203)))]) rfl ?_
  have n2 : 513 ≤ qz_N g2 203 ∧ qz_N g2 203 ≤ 513 := ez_len hB2 t203 tq_49 rfl
  have y3 : 1 ≤ qz_I g2 203 (a).toNat ∧ qz_I g2 203 (a).toNat ≤ 1000000 := ez_aB hB2 t203 tq_49 rfl rfl (by decide) (by omega) (by omega)
  have y3' : ((qz_P g2 203 (a).toNat : Nat) : Int) + 1 = qz_I g2 203 (a).toNat := by unfold qz_P; omega
  refine ez_aR hB2 t203 rfl tq_49 rfl rfl (by omega) (by omega) (by omega) (fun (t1 : _ = 4) => ?_)
  have tz : τ (qz_P g2 203 (a).toNat) = 4 := t1
  have fa2 : sz_f g2 a = p := by rw [yy6 a x7.1 x7.2.1 (by omega)]; exact x7.2.2
  have at2 : sz_at g2 p a := ⟨x7.1, by omega, by omega, fun w => by have := s2.2 a (a + 1) x7.1 (by omega) w; omega⟩
  have hz8 : ∃ k2, sz_at h p k2 ∧ qz_I g2 (qz_P g2 203 (a).toNat) 8 = qz_I h (sz_p h k2) 8 := by
    obtain ⟨k1, q1, q2⟩ := yy5 p a at2
    obtain ⟨k2, q3, q4⟩ := x5 p k1 q1
    exact ⟨k2, q3, (q2 8 (by omega) (by omega)).trans (q4 8 (by omega) (by omega))⟩
  have hzW : ∀ g3, ez_fr (ez_one (qz_P g2 203 (a).toNat)) g2 g3 → (∀ j, j ≤ 4 → qz_I g3 (qz_P g2 203 (a).toNat) j = qz_I g2 (qz_P g2 203 (a).toNat) j) → sz_toldR τ h g3 p p sz_RW := fun g3 f3 v3 => by
    refine sz_tellR (Rl := sz_RW) (fun P u v w => w (by omega)) t202 t203 p0 (Int.le_refl p) p1 hn x1 x2 x4 x5 x7 s2 i2 yy1 yy2 yy3 yy4 yy5 yy6 yy7 yy8 ⟨f3.1, f3.2.1, fun q hq => f3.2.2 q (dz_beq_ne (fun e => by rw [e] at hq; unfold sz_P4 at hq; rw [tz] at hq; cases hq))⟩ (fun k j k0 k1 j8 j4 => ?_)
    by_cases e : sz_p g2 k = qz_P g2 203 (a).toNat
    · rw [e]; exact v3 j j4
    · exact f3.I (dz_beq_ne e) j
  have onea : ∀ k, a ≤ k → k < b → k = a := fun k h1 h2 => by
    by_cases e : k = a
    · exact e
    · exfalso
      by_cases e2 : 1114111 < p + 1
      · have hb := yy7 e2
        have q := s2.2 a k x7.1 (by omega) (by omega)
        omega
      · obtain ⟨b0, b1, b2⟩ := yy8 (by omega) (by omega)
        have q := s2.2 a k x7.1 (by omega) (by omega)
        have q2 := s2.2 k b (by omega) (by omega) b1
        omega
  have ab9 : a < b := by
    by_cases e2 : 1114111 < p + 1
    · have hb := yy7 e2
      have := at2.2.1
      omega
    · obtain ⟨b0, b1, b2⟩ := yy8 (by omega) (by omega)
      by_cases e3 : a < b
      · exact e3
      · exfalso
        by_cases e4 : a = b
        · rw [e4] at fa2; omega
        · have q := s2.2 b a b0 (by omega) at2.2.1
          omega
  have hzS : ∀ g3 (J : Nat) (w : Int), 1 ≤ J → ez_fr (ez_one (qz_P g2 203 (a).toNat)) g2 g3 → (∀ j, j ≠ J → qz_I g3 (qz_P g2 203 (a).toNat) j = qz_I g2 (qz_P g2 203 (a).toNat) j) → (J ≤ 8 → qz_I g3 (qz_P g2 203 (a).toNat) J = w) → sz_toldR τ h g3 p p (sz_RS J w) := fun g3 J w hJ f3 v3 w3 => by
    refine sz_tellR (Rl := sz_RS J w) (fun P u v q => by by_cases hP : P; (· rw [q.1 hP, if_neg (by omega)]); (· exact q.2 hP)) t202 t203 p0 (Int.le_refl p) p1 hn x1 x2 x4 x5 x7 s2 i2 yy1 yy2 yy3 yy4 yy5 yy6 yy7 yy8 ⟨f3.1, f3.2.1, fun q hq => f3.2.2 q (dz_beq_ne (fun e => by rw [e] at hq; unfold sz_P4 at hq; rw [tz] at hq; cases hq))⟩ (fun k j k0 k1 j8 => ?_)
    by_cases e : sz_p g2 k = qz_P g2 203 (a).toNat
    · have ek : k = a := i2 k a k0 k1 x7.1 (by omega) e
      refine ⟨fun _ => ?_, fun np => absurd ⟨by omega, by omega⟩ np⟩
      rw [e]
      by_cases ej : j = J
      · rw [if_pos ej, ej]; exact w3 (by omega)
      · rw [if_neg ej]; exact v3 j ej
    · refine ⟨fun hP => absurd (by rw [onea k hP.1 hP.2]; rfl) e, fun _ => f3.I (dz_beq_ne e) j⟩
  have hz5 : ∃ k2, sz_at h p k2 ∧ ∀ j, 1 ≤ j → j ≤ 8 → qz_I g2 (qz_P g2 203 (a).toNat) j = qz_I h (sz_p h k2) j := by
    obtain ⟨k1, q1, q2⟩ := yy5 p a at2
    obtain ⟨k2, q3, q4⟩ := x5 p k1 q1
    exact ⟨k2, q3, fun j j1 j8 => (q2 j j1 j8).trans (q4 j j1 j8)⟩
  exact ez_retA rfl rfl rfl (k g2 _ hB2 tz hz8 (x1.trans yy1) hzW hzS hz5)

theorem rd_tellFold {p c : Int} {r : Nat} (hB : ez_B τ h) (t202 : τ 202 = 48) (t203 : τ 203 = 49) (hs : sz_ok h) (hinj : sz_inj h) (p0 : 0 ≤ p) (p1 : p ≤ 1114111) (hn : qz_I h 202 1 + 2 ≤ 513) (tr : τ r = 5) (hr : (r : Int) + 1 ≤ 1000000) (c0 : -128 ≤ c) (c1 : c ≤ 127) (k : ∀ g J, ez_B τ g → fJ c J → sz_toldR τ h g p p (sz_RS J ((r : Int) + 1)) → Q (.inl none, g)) : ez_W (d + 3) cm_106 0 [(0, .inr (.inr (some (202)))), (1, .inl (p)), (2, .inl (c)), (3, .inr (.inr (some (r))))] [] h Q := by
  refine ez_go (n := 2) (pc' := 2) (L' := [(0, .inr (.inr (some (202)))), (1, .inl (p)), (2, .inl (c)), (3, .inr (.inr (some (r))))]) (st' := [.inl (p), .inr (.inr (some (202)))]) rfl ?_
  refine ez_cv hB t202 rfl rfl rfl tq_48 rfl rfl rfl (rd_onlySpanOf hB t202 t203 hs hinj p0 p1 hn (fun g z hB1 tz hz8 hzf hz hzS hz5 => ez_KA ?_))
  refine ez_go (n := 3) (pc' := 10) (L' := [(4, .inr (.inr (some (z)))), (0, .inr (.inr (some (202)))), (1, .inl (p)), (2, .inl (c)), (3, .inr (.inr (some (r))))]) (st' := [.inl (67), .inl (c)]) rfl ?_
  refine ez_icmp rfl rfl ⟨by first | omega | exact (sz_i32 _).1, by first | omega | exact (sz_i32 _).2⟩ ⟨by first | omega | exact (sz_i32 _).1, by first | omega | exact (sz_i32 _).2⟩ (fun (c1 : (c) ≠ (67)) => ?_) (fun (c1 : ¬((c) ≠ (67))) => ?_)
  · skip
    refine ez_go (n := 2) (pc' := 25) (L' := [(4, .inr (.inr (some (z)))), (0, .inr (.inr (some (202)))), (1, .inl (p)), (2, .inl (c)), (3, .inr (.inr (some (r))))]) (st' := [.inl (70), .inl (c)]) rfl ?_
    refine ez_icmp rfl rfl ⟨by first | omega | exact (sz_i32 _).1, by first | omega | exact (sz_i32 _).2⟩ ⟨by first | omega | exact (sz_i32 _).1, by first | omega | exact (sz_i32 _).2⟩ (fun (c2 : (c) ≠ (70)) => ?_) (fun (c2 : ¬((c) ≠ (70))) => ?_)
    · skip
      refine ez_go (n := 2) (pc' := 40) (L' := [(4, .inr (.inr (some (z)))), (0, .inr (.inr (some (202)))), (1, .inl (p)), (2, .inl (c)), (3, .inr (.inr (some (r))))]) (st' := [.inl (84), .inl (c)]) rfl ?_
      refine ez_icmp rfl rfl ⟨by first | omega | exact (sz_i32 _).1, by first | omega | exact (sz_i32 _).2⟩ ⟨by first | omega | exact (sz_i32 _).1, by first | omega | exact (sz_i32 _).2⟩ (fun (c3 : (c) ≠ (84)) => ?_) (fun (c3 : ¬((c) ≠ (84))) => ?_)
      · skip
        exact ez_ret0 rfl rfl (k g 9 hB1 (by unfold fJ; omega) (hzS g 9 _ (by omega) (ez_fr.refl _ _) (fun _ _ => rfl) (fun w => by omega)))
      · skip
        refine ez_go (n := 2) (pc' := 46) (L' := [(4, .inr (.inr (some (z)))), (0, .inr (.inr (some (202)))), (1, .inl (p)), (2, .inl (c)), (3, .inr (.inr (some (r))))]) (st' := [.inr (.inr (some (r))), .inr (.inr (some (z)))]) rfl ?_
        refine ez_pf hB1 tz rfl rfl tq_4 rfl rfl rfl rfl (ez_vdR rfl tr (by omega) (by omega)) (fun hB4 w5 => ?_)
        exact ez_ret0 rfl rfl (k _ 7 hB4 (by unfold fJ; omega) (hzS _ 7 _ (by omega) ((ez_fr.refl (ez_one z) g).put (show Nat.beq z z = true from Nat.beq_refl z) _ _) (fun j hj => ez_put_I (fun w => hj w.2)) (fun _ => w5)))
    · skip
      refine ez_go (n := 2) (pc' := 31) (L' := [(4, .inr (.inr (some (z)))), (0, .inr (.inr (some (202)))), (1, .inl (p)), (2, .inl (c)), (3, .inr (.inr (some (r))))]) (st' := [.inr (.inr (some (r))), .inr (.inr (some (z)))]) rfl ?_
      refine ez_pf hB1 tz rfl rfl tq_4 rfl rfl rfl rfl (ez_vdR rfl tr (by omega) (by omega)) (fun hB6 w7 => ?_)
      refine ez_go (n := 1) (pc' := 49) (L' := [(4, .inr (.inr (some (z)))), (0, .inr (.inr (some (202)))), (1, .inl (p)), (2, .inl (c)), (3, .inr (.inr (some (r))))]) (st' := []) rfl ?_
      exact ez_ret0 rfl rfl (k _ 6 hB6 (by unfold fJ; omega) (hzS _ 6 _ (by omega) ((ez_fr.refl (ez_one z) g).put (show Nat.beq z z = true from Nat.beq_refl z) _ _) (fun j hj => ez_put_I (fun w => hj w.2)) (fun _ => w7)))
  · skip
    refine ez_go (n := 2) (pc' := 16) (L' := [(4, .inr (.inr (some (z)))), (0, .inr (.inr (some (202)))), (1, .inl (p)), (2, .inl (c)), (3, .inr (.inr (some (r))))]) (st' := [.inr (.inr (some (r))), .inr (.inr (some (z)))]) rfl ?_
    refine ez_pf hB1 tz rfl rfl tq_4 rfl rfl rfl rfl (ez_vdR rfl tr (by omega) (by omega)) (fun hB8 w9 => ?_)
    refine ez_go (n := 1) (pc' := 49) (L' := [(4, .inr (.inr (some (z)))), (0, .inr (.inr (some (202)))), (1, .inl (p)), (2, .inl (c)), (3, .inr (.inr (some (r))))]) (st' := []) rfl ?_
    exact ez_ret0 rfl rfl (k _ 5 hB8 (by unfold fJ; omega) (hzS _ 5 _ (by omega) ((ez_fr.refl (ez_one z) g).put (show Nat.beq z z = true from Nat.beq_refl z) _ _) (fun j hj => ez_put_I (fun w => hj w.2)) (fun _ => w9)))

def sz_P6 (τ : Nat → Nat) (z : Nat) : Bool := Nat.beq (τ z) 6
theorem sz_atu {h : cz_H} {x k k' : Int} (hs : sz_ok h) (a : sz_at h x k) (b : sz_at h x k') : k = k' := by
  obtain ⟨a0, a1, a2, a3⟩ := a
  obtain ⟨b0, b1, b2, b3⟩ := b
  by_cases e : k < k'
  · exfalso
    have h1 := a3 (by omega)
    by_cases e2 : k + 1 = k'
    · rw [e2] at h1; omega
    · have := hs.2 (k + 1) k' (by omega) (by omega) b1; omega
  · by_cases e' : k' < k
    · exfalso
      have h1 := b3 (by omega)
      by_cases e2 : k' + 1 = k
      · rw [e2] at h1; omega
      · have := hs.2 (k' + 1) k (by omega) (by omega) a1; omega
    · omega
/-- CONDITIONS, lower, title, upper of a LINE 1 -/
abbrev spz : Type := Int × List Int × List Int × List Int
def nod (τ : Nat → Nat) (h : cz_H) (p : Nat) (s : spz) : Prop := τ p = 6 ∧ qz_I h p 0 = s.1 ∧ rw5 τ h (qz_I h p 1) s.2.1 ∧ rw5 τ h (qz_I h p 2) s.2.2.1 ∧ rw5 τ h (qz_I h p 3) s.2.2.2
theorem nod.tr {τ τ1 : Nat → Nat} {h g : cz_H} {p : Nat} {s : spz} (a : nod τ h p s) (t : τ1 p = 6) (i : ∀ j, j < 4 → qz_I g p j = qz_I h p j) (e : ∀ q, τ q = 5 → τ1 q = 5 ∧ g.2.2 q = h.2.2 q) : nod τ1 g p s := by
  obtain ⟨a1, a2, a3, a4, a5⟩ := a
  exact ⟨t, by rw [i 0 (by omega)]; exact a2, by rw [i 1 (by omega)]; exact a3.tr e, by rw [i 2 (by omega)]; exact a4.tr e, by rw [i 3 (by omega)]; exact a5.tr e⟩
/-- the chain of them from a reference on -/
def sC (τ : Nat → Nat) (h : cz_H) (P : Nat → Prop) : List spz → Int → Prop
  | [], v => v = 0
  | s :: L, v => ∃ p : Nat, v = (p : Int) + 1 ∧ P p ∧ nod τ h p s ∧ sC τ h P L (qz_I h p 4)
theorem sC.tr {τ τ1 : Nat → Nat} {h g : cz_H} {P P' : Nat → Prop} (hP : ∀ p, τ p = 6 → P p → P' p) (e : ∀ q, τ q = 5 ∨ (τ q = 6 ∧ P q) → τ1 q = τ q ∧ g.2.2 q = h.2.2 q) : ∀ {L : List spz} {v : Int}, sC τ h P L v → sC τ1 g P' L v
  | [], v, a => a
  | s :: L, v, ⟨p, p1, p2, p3, p4⟩ => by
    obtain ⟨q1, q2⟩ := e p (Or.inr ⟨p3.1, p2⟩)
    have i : ∀ j, qz_I g p j = qz_I h p j := fun j => by unfold qz_I; rw [q2]
    refine ⟨p, p1, hP p p3.1 p2, p3.tr (q1.trans p3.1) (fun j _ => i j) (fun q hq => ?_), by rw [i]; exact sC.tr hP e p4⟩
    obtain ⟨u1, u2⟩ := e q (Or.inl hq)
    exact ⟨u1.trans hq, u2⟩
theorem rd_tSp_l {P : Nat → Prop} {p : Int} {r z : Nat} {n : spz} (hB : ez_B τ h) (t202 : τ 202 = 48) (t203 : τ 203 = 49) (tz : τ z = 4) (tr : τ r = 6) (hr : (r : Int) + 1 ≤ 1000000) (hlt : ∀ q, P q → q < r) (hnr : nod τ h r n) (r4 : qz_I h r 4 = 0) : ∀ (L : List spz) (s : spz) (q : Nat), (∀ g, ez_B τ g → (∃ t : Nat, q ≤ t ∧ (τ t = 6 ∧ P t) ∧ (∀ y, y ≠ t → g.2.2 y = h.2.2 y) ∧ g.1 = h.1 ∧ g.2.1 = h.2.1) → sC τ g (fun y => P y ∨ y = r) (s :: (L ++ [n])) ((q : Int) + 1) → Q (.inl none, g)) → τ q = 6 → (P q ∧ nod τ h q s) → sC τ h P L (qz_I h q 4) → ez_W d cm_108 25 [(4, .inr (.inr (some (q)))), (3, .inr (.inr (some (z)))), (0, .inr (.inr (some (202)))), (1, .inl (p)), (2, .inr (.inr (some (r))))] [] h Q := by
  intro L
  induction L with
  | nil =>
    intro s q k tq hq hs4
    have hs4 : qz_I h q 4 = 0 := hs4
    refine ez_go (n := 1) (pc' := 27) (L' := [(4, .inr (.inr (some (q)))), (3, .inr (.inr (some (z)))), (0, .inr (.inr (some (202)))), (1, .inl (p)), (2, .inr (.inr (some (r))))]) (st' := [.inr (.inr (some (q)))]) rfl ?_
    refine ez_gN hB tq rfl rfl tq_6 rfl rfl (fun (t1 : qz_I h q 4 = 0) => ?_) (fun (t1 : _ = 6) (t1' : 1 ≤ qz_I h q 4) => ?_)
    · skip
      refine ez_null0 rfl rfl ?_
      refine ez_go (n := 2) (pc' := 46) (L' := [(4, .inr (.inr (some (q)))), (3, .inr (.inr (some (z)))), (0, .inr (.inr (some (202)))), (1, .inl (p)), (2, .inr (.inr (some (r))))]) (st' := [.inr (.inr (some (r))), .inr (.inr (some (q)))]) rfl ?_
      refine ez_pf hB tq rfl rfl tq_6 rfl rfl rfl rfl (ez_vdR1 rfl tr (by omega) (by omega) (hlt q hq.1)) (fun hB2 w3 => ?_)
      have qr : q ≠ r := by have := hlt q hq.1; omega
      have i9 : ∀ j, j ≠ 4 → qz_I (dz_put h q 4 (ez_v (.inr (.inr (some (r)))))) q j = qz_I h q j := fun j hj => ez_put_I (fun w => hj w.2)
      have r9 : ∀ j, qz_I (dz_put h q 4 (ez_v (.inr (.inr (some (r)))))) r j = qz_I h r j := fun j => ez_put_I (fun w => qr w.1.symm)
      have c9 : ∀ y, y ≠ q → ((dz_put h q 4 (ez_v (.inr (.inr (some (r))))))).2.2 y = h.2.2 y := fun y hy => qz_put_at _ _ _ _ hy
      have c5 : ∀ y, τ y = 5 → τ y = 5 ∧ ((dz_put h q 4 (ez_v (.inr (.inr (some (r))))))).2.2 y = h.2.2 y := fun y hy => ⟨hy, c9 y (fun e => by rw [e, tq] at hy; cases hy)⟩
      refine ez_ret0 rfl rfl (k _ hB2 ⟨q, Nat.le_refl _, ⟨tq, hq.1⟩, c9, rfl, rfl⟩ ⟨q, rfl, Or.inl hq.1, hq.2.tr tq (fun j hj => i9 j (by omega)) c5, ?_⟩)
      exact ⟨r, w3, Or.inr rfl, hnr.tr tr (fun j _ => r9 j) c5, by rw [r9]; exact r4⟩
    · skip
      refine ez_null1 rfl ?_
      refine ez_go (n := 1) (pc' := 35) (L' := [(4, .inr (.inr (some (q)))), (3, .inr (.inr (some (z)))), (0, .inr (.inr (some (202)))), (1, .inl (p)), (2, .inr (.inr (some (r))))]) (st' := [.inr (.inr (some (q)))]) rfl ?_
      refine ez_gN hB tq rfl rfl tq_6 rfl rfl (fun (t4 : qz_I h q 4 = 0) => ?_) (fun (t4 : _ = 6) (t4' : 1 ≤ qz_I h q 4) => ?_)
      · skip
        refine ez_go (n := 2) (pc' := 25) (L' := [(4, .inr (.inr none)), (3, .inr (.inr (some (z)))), (0, .inr (.inr (some (202)))), (1, .inl (p)), (2, .inr (.inr (some (r))))]) (st' := []) rfl ?_
        exfalso; omega
      · skip
        refine ez_go (n := 2) (pc' := 25) (L' := [(4, .inr (.inr (some (qz_P h q 4)))), (3, .inr (.inr (some (z)))), (0, .inr (.inr (some (202)))), (1, .inl (p)), (2, .inr (.inr (some (r))))]) (st' := []) rfl ?_
        exfalso; omega
  | cons s2 L ih =>
    intro s q k tq hq hs4
    obtain ⟨p2, hs1, hs2, hs3, hs4⟩ := hs4
    have hs2 : τ p2 = 6 ∧ P p2 ∧ nod τ h p2 s2 := ⟨hs3.1, hs2, hs3⟩
    refine ez_go (n := 1) (pc' := 27) (L' := [(4, .inr (.inr (some (q)))), (3, .inr (.inr (some (z)))), (0, .inr (.inr (some (202)))), (1, .inl (p)), (2, .inr (.inr (some (r))))]) (st' := [.inr (.inr (some (q)))]) rfl ?_
    refine ez_gN hB tq rfl rfl tq_6 rfl rfl (fun (t1 : qz_I h q 4 = 0) => ?_) (fun (t1 : _ = 6) (t1' : 1 ≤ qz_I h q 4) => ?_)
    · skip
      refine ez_null0 rfl rfl ?_
      refine ez_go (n := 2) (pc' := 46) (L' := [(4, .inr (.inr (some (q)))), (3, .inr (.inr (some (z)))), (0, .inr (.inr (some (202)))), (1, .inl (p)), (2, .inr (.inr (some (r))))]) (st' := [.inr (.inr (some (r))), .inr (.inr (some (q)))]) rfl ?_
      refine ez_pf hB tq rfl rfl tq_6 rfl rfl rfl rfl (ez_vdR1 rfl tr (by omega) (by omega) (hlt q hq.1)) (fun hB2 w3 => ?_)
      exfalso; omega
    · skip
      refine ez_null1 rfl ?_
      refine ez_go (n := 1) (pc' := 35) (L' := [(4, .inr (.inr (some (q)))), (3, .inr (.inr (some (z)))), (0, .inr (.inr (some (202)))), (1, .inl (p)), (2, .inr (.inr (some (r))))]) (st' := [.inr (.inr (some (q)))]) rfl ?_
      refine ez_gN hB tq rfl rfl tq_6 rfl rfl (fun (t4 : qz_I h q 4 = 0) => ?_) (fun (t4 : _ = 6) (t4' : 1 ≤ qz_I h q 4) => ?_)
      · skip
        refine ez_go (n := 2) (pc' := 25) (L' := [(4, .inr (.inr none)), (3, .inr (.inr (some (z)))), (0, .inr (.inr (some (202)))), (1, .inl (p)), (2, .inr (.inr (some (r))))]) (st' := []) rfl ?_
        exfalso; omega
      · skip
        refine ez_go (n := 2) (pc' := 25) (L' := [(4, .inr (.inr (some (qz_P h q 4)))), (3, .inr (.inr (some (z)))), (0, .inr (.inr (some (202)))), (1, .inl (p)), (2, .inr (.inr (some (r))))]) (st' := []) rfl ?_
        refine ez_less [(4, .inr (.inr (some (qz_P h q 4)))), (3, .inr (.inr (some (z)))), (0, .inr (.inr (some (202)))), (1, .inl (p)), (2, .inr (.inr (some (r))))] rfl ⟨rfl, rfl, rfl, rfl, rfl, trivial⟩ ?_
        have e9 : qz_P h q 4 = p2 := by unfold qz_P; omega
        rw [e9]
        have hu := ez_up (cl := 13) (k := 4) hB tq tq_6 rfl rfl
        refine ih s2 p2 (fun g hBg ht hc => ?_) hs2.1 ⟨hs2.2.1, hs2.2.2⟩ hs4
        obtain ⟨t, t1, t2, t3, t4, t5⟩ := id ht
        have qt : q ≠ t := by omega
        have cq := t3 q qt
        have c5 : ∀ y, τ y = 5 → τ y = 5 ∧ g.2.2 y = h.2.2 y := fun y hy => ⟨hy, t3 y (fun e => by rw [e, t2.1] at hy; cases hy)⟩
        have iq : ∀ j, qz_I g q j = qz_I h q j := fun j => by unfold qz_I; rw [cq]
        exact k g hBg ⟨t, by omega, t2, t3, t4, t5⟩ ⟨q, rfl, Or.inl hq.1, hq.2.tr tq (fun j _ => iq j) c5, by rw [iq, hs1]; exact hc⟩

theorem rd_tellSpecial {p : Int} {r : Nat} {P : Nat → Prop} {n : spz} {L0 : List spz} (hB : ez_B τ h) (t202 : τ 202 = 48) (t203 : τ 203 = 49) (hs : sz_ok h) (hinj : sz_inj h) (p0 : 0 ≤ p) (p1 : p ≤ 1114111) (hn : qz_I h 202 1 + 2 ≤ 513) (tr : τ r = 6) (hr : (r : Int) + 1 ≤ 1000000) (hlt : ∀ q, P q → q < r) (hnr : nod τ h r n) (r4 : qz_I h r 4 = 0) (hsp : ∀ k, sz_at h p k → sC τ h P L0 (qz_I h (sz_p h k) 8)) (k : ∀ g1 g, ez_B τ g → ez_B τ g1 → ((L0 = [] ∧ sz_toldR τ h g1 p p (sz_RS 8 ((r : Int) + 1)) ∧ g = g1) ∨ (sz_toldR τ h g1 p p (sz_RS 9 0) ∧ ∃ t : Nat, (τ t = 6 ∧ P t) ∧ (∀ y, y ≠ t → g.2.2 y = g1.2.2 y) ∧ g.1 = g1.1 ∧ g.2.1 = g1.2.1 ∧ ∀ k, sz_at h p k → sC τ g (fun y => P y ∨ y = r) (L0 ++ [n]) (qz_I h (sz_p h k) 8))) → Q (.inl none, g)) : ez_W (d + 3) cm_108 0 [(0, .inr (.inr (some (202)))), (1, .inl (p)), (2, .inr (.inr (some (r))))] [] h Q := by
  refine ez_go (n := 2) (pc' := 2) (L' := [(0, .inr (.inr (some (202)))), (1, .inl (p)), (2, .inr (.inr (some (r))))]) (st' := [.inl (p), .inr (.inr (some (202)))]) rfl ?_
  refine ez_cv hB t202 rfl rfl rfl tq_48 rfl rfl rfl (rd_onlySpanOf hB t202 t203 hs hinj p0 p1 hn (fun g z hB1 tz hz8 hzf hz hzS hz5 => ez_KA ?_))
  obtain ⟨k2, at2, ez2⟩ := hz5
  have ez8 := ez2 8 (by omega) (by omega)
  have kp : ∀ q, τ q = 5 ∨ τ q = 6 → g.2.2 q = h.2.2 q := fun q hq => hzf.2.2 q (by unfold sz_PS; rw [dz_beq_ne (fun e => by rw [e, t202] at hq; omega), dz_beq_ne (fun e => by rw [e, t203] at hq; omega)]; rcases hq with w | w <;> (rw [w]; rfl))
  have ch : sC τ g P L0 (qz_I g z 8) := by rw [ez8]; exact sC.tr (fun _ _ w => w) (fun q hq => ⟨rfl, kp q (hq.imp id (fun w => w.1))⟩) (hsp k2 at2)
  have hnrg : nod τ g r n := hnr.tr tr (fun j _ => by unfold qz_I; rw [kp r (Or.inr tr)]) (fun q hq => ⟨hq, kp q (Or.inl hq)⟩)
  have r4g : qz_I g r 4 = 0 := by unfold qz_I; rw [kp r (Or.inr tr)]; exact r4
  refine ez_go (n := 2) (pc' := 7) (L' := [(3, .inr (.inr (some (z)))), (0, .inr (.inr (some (202)))), (1, .inl (p)), (2, .inr (.inr (some (r))))]) (st' := [.inr (.inr (some (z)))]) rfl ?_
  refine ez_gN hB1 tz rfl rfl tq_4 rfl rfl (fun (t1 : qz_I g z 8 = 0) => ?_) (fun (t1 : _ = 6) (t1' : 1 ≤ qz_I g z 8) => ?_)
  · skip
    refine ez_nonn0 rfl ?_
    refine ez_go (n := 2) (pc' := 15) (L' := [(3, .inr (.inr (some (z)))), (0, .inr (.inr (some (202)))), (1, .inl (p)), (2, .inr (.inr (some (r))))]) (st' := [.inr (.inr (some (r))), .inr (.inr (some (z)))]) rfl ?_
    refine ez_pf hB1 tz rfl rfl tq_4 rfl rfl rfl rfl (ez_vdR rfl tr (by omega) (by omega)) (fun hB2 w3 => ?_)
    have hL : L0 = [] := by cases L0 with | nil => rfl | cons s L => obtain ⟨y, y1, -⟩ := ch; exfalso; omega
    exact ez_ret0 rfl rfl (k _ _ hB2 hB2 (Or.inl ⟨hL, hzS _ 8 _ (by omega) ((ez_fr.refl (ez_one z) g).put (show Nat.beq z z = true from Nat.beq_refl z) _ _) (fun j hj => ez_put_I (fun w => hj w.2)) (fun _ => w3), rfl⟩))
  · skip
    refine ez_nonn1 rfl rfl ?_
    refine ez_go (n := 1) (pc' := 20) (L' := [(3, .inr (.inr (some (z)))), (0, .inr (.inr (some (202)))), (1, .inl (p)), (2, .inr (.inr (some (r))))]) (st' := [.inr (.inr (some (z)))]) rfl ?_
    refine ez_gN hB1 tz rfl rfl tq_4 rfl rfl (fun (t4 : qz_I g z 8 = 0) => ?_) (fun (t4 : _ = 6) (t4' : 1 ≤ qz_I g z 8) => ?_)
    · skip
      refine ez_go (n := 1) (pc' := 25) (L' := [(4, .inr (.inr none)), (3, .inr (.inr (some (z)))), (0, .inr (.inr (some (202)))), (1, .inl (p)), (2, .inr (.inr (some (r))))]) (st' := []) rfl ?_
      exfalso; omega
    · skip
      refine ez_go (n := 1) (pc' := 25) (L' := [(4, .inr (.inr (some (qz_P g z 8)))), (3, .inr (.inr (some (z)))), (0, .inr (.inr (some (202)))), (1, .inl (p)), (2, .inr (.inr (some (r))))]) (st' := []) rfl ?_
      refine ez_less [(4, .inr (.inr (some (qz_P g z 8)))), (3, .inr (.inr (some (z)))), (0, .inr (.inr (some (202)))), (1, .inl (p)), (2, .inr (.inr (some (r))))] rfl ⟨rfl, rfl, rfl, rfl, rfl, trivial⟩ ?_
      obtain ⟨s, L, hL⟩ : ∃ s L, L0 = s :: L := by cases L0 with | nil => (have e8 : qz_I g z 8 = 0 := ch; exfalso; omega) | cons s L => exact ⟨s, L, rfl⟩
      rw [hL] at ch
      obtain ⟨q, q1, q2, q3, q4⟩ := ch
      have e9 : qz_P g z 8 = q := by unfold qz_P; omega
      rw [e9]
      refine rd_tSp_l hB1 t202 t203 tz tr hr hlt hnrg r4g L s q (fun g3 hB3 ht hc => ?_) q3.1 ⟨q2, q3⟩ q4
      obtain ⟨t, t1, t2, t3, t4, t5⟩ := id ht
      exact k g g3 hB3 hB1 (Or.inr ⟨hzS g 9 0 (by omega) (ez_fr.refl _ _) (fun _ _ => rfl) (fun w => by omega), t, t2, t3, t4, t5, fun k3 hk3 => (by rw [hL, show qz_I h (sz_p h k3) 8 = (q : Int) + 1 by rw [sz_atu hs hk3 at2, ← ez8]; exact q1]; exact hc)⟩)

end EzPl
/-! The class: tellEntry, takeFold, takeSpecial, takeEntry. (Written by wip/p2/py/pv23.py.) -/
def nz_PE (z : Nat) : Bool := Nat.beq z 202 || (Nat.beq z 204 || Nat.beq z 205)
section EzTe
variable {d : Nat} {h : cz_H} {τ : Nat → Nat} {Q : cz_F → Prop}
theorem rd_tellEntry_e {s : Int64} {r : Nat} {n pl : Int} {g : cz_H} (t202 : τ 202 = 48) (t204 : τ 204 = 50) (t205 : τ 205 = 51) (tr : τ r = 7) (hr : (r : Int) + 1 ≤ 1000000) (n1 : n < 256) (p0 : 0 ≤ pl) (p1 : pl ≤ n) (kk : ∀ g, ez_B τ g → ez_fr nz_PE h g → (∀ j, j ≠ 4 → qz_I g 202 j = qz_I h 202 j) → (∀ i : Nat, (i : Int) < qz_I g 202 4 → 1 ≤ qz_I g 205 i) → Q (.inl none, g)) (hB : ez_B τ g) (hf : ez_fr nz_PE h g) (hj0 : ∀ j, j ≠ 4 → qz_I g 202 j = qz_I h 202 j) (hc : qz_I g 202 4 = n) (hv : ∀ i : Nat, (i : Int) < n → 1 ≤ qz_I g 205 i) (hv2 : ∀ k : Nat, pl < (k : Int) → (k : Int) ≤ n → 1 ≤ qz_I g 205 k) : ez_W d cm_104 106 [(5, .inl (pl)), (4, .inl (pl)), (0, .inr (.inr (some (202)))), (1, .inr (.inl (s))), (3, .inr (.inr (some (r))))] [] g Q := by
  refine ez_go (n := 1) (pc' := 107) (L' := [(5, .inl (pl)), (4, .inl (pl)), (0, .inr (.inr (some (202)))), (1, .inr (.inl (s))), (3, .inr (.inr (some (r))))]) (st' := [.inr (.inr (some (202)))]) rfl ?_
  refine ez_gC (p := 204) (tg := 50) hB t202 rfl rfl tq_48 rfl rfl (fun (t204 : _ = 50) => ?_)
  refine ez_go (n := 2) (pc' := 113) (L' := [(5, .inl (pl)), (4, .inl (pl)), (0, .inr (.inr (some (202)))), (1, .inr (.inl (s))), (3, .inr (.inr (some (r))))]) (st' := [.inr (.inl (s)), .inl (pl), .inr (.inr (some (204)))]) rfl ?_
  have n3 : 256 ≤ qz_N g 204 ∧ qz_N g 204 ≤ 256 := ez_len hB t204 tq_50 rfl
  refine ez_as hB t204 rfl tq_50 rfl rfl (by omega) (by omega) ez_vdJ (fun hB1 w2 => ?_)
  refine ez_go (n := 1) (pc' := 115) (L' := [(5, .inl (pl)), (4, .inl (pl)), (0, .inr (.inr (some (202)))), (1, .inr (.inl (s))), (3, .inr (.inr (some (r))))]) (st' := [.inr (.inr (some (202)))]) rfl ?_
  refine ez_gC (p := 205) (tg := 51) hB1 t202 rfl rfl tq_48 rfl rfl (fun (t205 : _ = 51) => ?_)
  refine ez_go (n := 2) (pc' := 121) (L' := [(5, .inl (pl)), (4, .inl (pl)), (0, .inr (.inr (some (202)))), (1, .inr (.inl (s))), (3, .inr (.inr (some (r))))]) (st' := [.inr (.inr (some (r))), .inl (pl), .inr (.inr (some (205)))]) rfl ?_
  have n6 : 256 ≤ qz_N (dz_put g 204 (pl).toNat (ez_v (.inr (.inl (s))))) 205 ∧ qz_N (dz_put g 204 (pl).toNat (ez_v (.inr (.inl (s))))) 205 ≤ 256 := ez_len hB1 t205 tq_51 rfl
  refine ez_aa hB1 t205 tr rfl tq_51 tq_7 rfl rfl rfl (by omega) (by omega) (ez_vdR rfl tr (by omega) (by omega)) (fun hB4 w5 => ?_)
  refine ez_go (n := 2) (pc' := 124) (L' := [(5, .inl (pl)), (4, .inl (pl)), (0, .inr (.inr (some (202)))), (1, .inr (.inl (s))), (3, .inr (.inr (some (r))))]) (st' := [.inr (.inr (some (202))), .inr (.inr (some (202)))]) rfl ?_
  refine ez_gI hB4 t202 rfl rfl tq_48 rfl rfl (fun (b7 : 0 ≤ qz_I (dz_put (dz_put g 204 (pl).toNat (ez_v (.inr (.inl (s))))) 205 (pl).toNat (ez_v (.inr (.inr (some (r)))))) 202 4) (b7' : qz_I (dz_put (dz_put g 204 (pl).toNat (ez_v (.inr (.inl (s))))) 205 (pl).toNat (ez_v (.inr (.inr (some (r)))))) 202 4 ≤ 256) => ?_)
  have hcn : qz_I (dz_put (dz_put g 204 (pl).toNat (ez_v (.inr (.inl (s))))) 205 (pl).toNat (ez_v (.inr (.inr (some (r)))))) 202 4 = n := by rw [ez_put_I (by omega), ez_put_I (by omega)]; exact hc
  refine ez_go (n := 2) (pc' := 129) (L' := [(5, .inl (pl)), (4, .inl (pl)), (0, .inr (.inr (some (202)))), (1, .inr (.inl (s))), (3, .inr (.inr (some (r))))]) (st' := [.inl ((qz_I (dz_put (dz_put g 204 (pl).toNat (ez_v (.inr (.inl (s))))) 205 (pl).toNat (ez_v (.inr (.inr (some (r)))))) 202 4) + (1)), .inr (.inr (some (202)))]) rfl ?_
  refine ez_pf hB4 t202 rfl rfl tq_48 rfl rfl rfl rfl (ez_vdI rfl rfl (by omega) (by omega)) (fun hB8 w9 => ?_)
  have cn : qz_I (dz_put (dz_put (dz_put g 204 (pl).toNat (ez_v (.inr (.inl (s))))) 205 (pl).toNat (ez_v (.inr (.inr (some (r)))))) 202 4 (ez_v (.inl ((qz_I (dz_put (dz_put g 204 (pl).toNat (ez_v (.inr (.inl (s))))) 205 (pl).toNat (ez_v (.inr (.inr (some (r)))))) 202 4) + (1))))) 202 4 = qz_I g 202 4 + 1 := by rw [w9, rz_rd ⟨by omega, by omega⟩, hcn, hc]
  refine ez_ret0 rfl rfl (kk _ hB8 (((hf.put (show nz_PE 204 = true from rfl) _ _).put (show nz_PE 205 = true from rfl) _ _).put (show nz_PE 202 = true from rfl) _ _) (fun j hj => by rw [ez_put_I (fun w => hj w.2), ez_put_I (by omega), ez_put_I (by omega)]; exact hj0 j hj) (fun i hi => ?_))
  rw [cn] at hi
  rw [ez_put_I (by omega)]
  by_cases e : i = pl.toNat
  · rw [e, w5]; omega
  · rw [ez_put_I (by omega), ez_put_I (by omega)]; by_cases e2 : (i : Int) < n; (· exact hv i e2); (· exact hv2 i (by omega) (by omega))

theorem rd_tellEntry_l {s : Int64} {r : Nat} {n pl : Int} (t202 : τ 202 = 48) (t204 : τ 204 = 50) (t205 : τ 205 = 51) (tr : τ r = 7) (hr : (r : Int) + 1 ≤ 1000000) (n1 : n < 256) (p0 : 0 ≤ pl) (p1 : pl ≤ n) (kk : ∀ g, ez_B τ g → ez_fr nz_PE h g → (∀ j, j ≠ 4 → qz_I g 202 j = qz_I h 202 j) → (∀ i : Nat, (i : Int) < qz_I g 202 4 → 1 ≤ qz_I g 205 i) → Q (.inl none, g)) : ∀ (m : Nat) (i : Int) (g : cz_H), m = (i - pl).toNat → pl ≤ i → i ≤ n → ez_B τ g → ez_fr nz_PE h g → (∀ j, j ≠ 4 → qz_I g 202 j = qz_I h 202 j) → qz_I g 202 4 = n → (∀ i : Nat, (i : Int) < n → 1 ≤ qz_I g 205 i) → (∀ k : Nat, i < (k : Int) → (k : Int) ≤ n → 1 ≤ qz_I g 205 k) → ez_W d cm_104 61 [(5, .inl (i)), (4, .inl (pl)), (0, .inr (.inr (some (202)))), (1, .inr (.inl (s))), (3, .inr (.inr (some (r))))] [] g Q := by
  intro m
  induction m with
  | zero =>
    intro i g hm a1 a2 hB hf hj0 hc hv hv2
    refine ez_go (n := 2) (pc' := 65) (L' := [(5, .inl (i)), (4, .inl (pl)), (0, .inr (.inr (some (202)))), (1, .inr (.inl (s))), (3, .inr (.inr (some (r))))]) (st' := [.inl (pl), .inl (i)]) rfl ?_
    refine ez_icmp rfl rfl ⟨by first | omega | exact (sz_i32 _).1, by first | omega | exact (sz_i32 _).2⟩ ⟨by first | omega | exact (sz_i32 _).1, by first | omega | exact (sz_i32 _).2⟩ (fun (c1 : (i) ≤ (pl)) => ?_) (fun (c1 : ¬((i) ≤ (pl))) => ?_)
    · skip
      have e9 : i = pl := by omega
      subst e9
      exact rd_tellEntry_e t202 t204 t205 tr hr n1 p0 p1 kk hB hf hj0 hc hv hv2
    · exfalso; omega
  | succ m ih =>
    intro i g hm a1 a2 hB hf hj0 hc hv hv2
    refine ez_go (n := 2) (pc' := 65) (L' := [(5, .inl (i)), (4, .inl (pl)), (0, .inr (.inr (some (202)))), (1, .inr (.inl (s))), (3, .inr (.inr (some (r))))]) (st' := [.inl (pl), .inl (i)]) rfl ?_
    refine ez_icmp rfl rfl ⟨by first | omega | exact (sz_i32 _).1, by first | omega | exact (sz_i32 _).2⟩ ⟨by first | omega | exact (sz_i32 _).1, by first | omega | exact (sz_i32 _).2⟩ (fun (c1 : (i) ≤ (pl)) => ?_) (fun (c1 : ¬((i) ≤ (pl))) => ?_)
    · exfalso; omega
    · skip
      refine ez_go (n := 1) (pc' := 69) (L' := [(5, .inl (i)), (4, .inl (pl)), (0, .inr (.inr (some (202)))), (1, .inr (.inl (s))), (3, .inr (.inr (some (r))))]) (st' := [.inr (.inr (some (202)))]) rfl ?_
      refine ez_gC (p := 204) (tg := 50) hB t202 rfl rfl tq_48 rfl rfl (fun (t204 : _ = 50) => ?_)
      refine ez_go (n := 2) (pc' := 75) (L' := [(5, .inl (i)), (4, .inl (pl)), (0, .inr (.inr (some (202)))), (1, .inr (.inl (s))), (3, .inr (.inr (some (r))))]) (st' := [.inr (.inr (some (202))), .inl (i), .inr (.inr (some (204)))]) rfl ?_
      refine ez_gC (p := 204) (tg := 50) hB t202 rfl rfl tq_48 rfl rfl (fun (t204 : _ = 50) => ?_)
      refine ez_go (n := 3) (pc' := 82) (L' := [(5, .inl (i)), (4, .inl (pl)), (0, .inr (.inr (some (202)))), (1, .inr (.inl (s))), (3, .inr (.inr (some (r))))]) (st' := [.inl ((i) - (1)), .inr (.inr (some (204))), .inl (i), .inr (.inr (some (204)))]) rfl ?_
      have n2 : 256 ≤ qz_N g 204 ∧ qz_N g 204 ≤ 256 := ez_len hB t204 tq_50 rfl
      refine ez_aL hB t204 rfl tq_50 rfl rfl (by omega) (by omega) ?_
      have n5 : 256 ≤ qz_N g 204 ∧ qz_N g 204 ≤ 256 := ez_len hB t204 tq_50 rfl
      refine ez_as hB t204 rfl tq_50 rfl rfl (by omega) (by omega) ez_vdJ (fun hB3 w4 => ?_)
      refine ez_go (n := 1) (pc' := 85) (L' := [(5, .inl (i)), (4, .inl (pl)), (0, .inr (.inr (some (202)))), (1, .inr (.inl (s))), (3, .inr (.inr (some (r))))]) (st' := [.inr (.inr (some (202)))]) rfl ?_
      refine ez_gC (p := 205) (tg := 51) hB3 t202 rfl rfl tq_48 rfl rfl (fun (t205 : _ = 51) => ?_)
      refine ez_go (n := 2) (pc' := 91) (L' := [(5, .inl (i)), (4, .inl (pl)), (0, .inr (.inr (some (202)))), (1, .inr (.inl (s))), (3, .inr (.inr (some (r))))]) (st' := [.inr (.inr (some (202))), .inl (i), .inr (.inr (some (205)))]) rfl ?_
      refine ez_gC (p := 205) (tg := 51) hB3 t202 rfl rfl tq_48 rfl rfl (fun (t205 : _ = 51) => ?_)
      refine ez_go (n := 3) (pc' := 98) (L' := [(5, .inl (i)), (4, .inl (pl)), (0, .inr (.inr (some (202)))), (1, .inr (.inl (s))), (3, .inr (.inr (some (r))))]) (st' := [.inl ((i) - (1)), .inr (.inr (some (205))), .inl (i), .inr (.inr (some (205)))]) rfl ?_
      have n7 : 256 ≤ qz_N (dz_put g 204 (i).toNat (ez_v (.inr (.inl (Int64.ofInt (qz_I g 204 ((i) - (1)).toNat)))))) 205 ∧ qz_N (dz_put g 204 (i).toNat (ez_v (.inr (.inl (Int64.ofInt (qz_I g 204 ((i) - (1)).toNat)))))) 205 ≤ 256 := ez_len hB3 t205 tq_51 rfl
      have y8 : 1 ≤ qz_I (dz_put g 204 (i).toNat (ez_v (.inr (.inl (Int64.ofInt (qz_I g 204 ((i) - (1)).toNat)))))) 205 ((i) - (1)).toNat := (by rw [ez_put_I (by omega)]; exact hv _ (by omega))
      have y9 : 0 ≤ qz_I (dz_put g 204 (i).toNat (ez_v (.inr (.inl (Int64.ofInt (qz_I g 204 ((i) - (1)).toNat)))))) 205 ((i) - (1)).toNat ∧ qz_I (dz_put g 204 (i).toNat (ez_v (.inr (.inl (Int64.ofInt (qz_I g 204 ((i) - (1)).toNat)))))) 205 ((i) - (1)).toNat ≤ 1000000 := ez_aB hB3 t205 tq_51 rfl rfl (by decide) (by omega) (by omega)
      have y9' : ((qz_P (dz_put g 204 (i).toNat (ez_v (.inr (.inl (Int64.ofInt (qz_I g 204 ((i) - (1)).toNat)))))) 205 ((i) - (1)).toNat : Nat) : Int) + 1 = qz_I (dz_put g 204 (i).toNat (ez_v (.inr (.inl (Int64.ofInt (qz_I g 204 ((i) - (1)).toNat)))))) 205 ((i) - (1)).toNat := by unfold qz_P; omega
      refine ez_aR hB3 t205 rfl tq_51 rfl rfl (by omega) (by omega) (by omega) (fun (t6 : _ = 7) => ?_)
      have n12 : 256 ≤ qz_N (dz_put g 204 (i).toNat (ez_v (.inr (.inl (Int64.ofInt (qz_I g 204 ((i) - (1)).toNat)))))) 205 ∧ qz_N (dz_put g 204 (i).toNat (ez_v (.inr (.inl (Int64.ofInt (qz_I g 204 ((i) - (1)).toNat)))))) 205 ≤ 256 := ez_len hB3 t205 tq_51 rfl
      refine ez_aa hB3 t205 t6 rfl tq_51 tq_7 rfl rfl rfl (by omega) (by omega) (ez_vdR rfl t6 (by omega) (by omega)) (fun hB10 w11 => ?_)
      refine ez_go (n := 2) (pc' := 61) (L' := [(5, .inl (i + (-1))), (4, .inl (pl)), (0, .inr (.inr (some (202)))), (1, .inr (.inl (s))), (3, .inr (.inr (some (r))))]) (st' := []) rfl ?_
      refine ez_less [(5, .inl (i + (-1))), (4, .inl (pl)), (0, .inr (.inr (some (202)))), (1, .inr (.inl (s))), (3, .inr (.inr (some (r))))] rfl ⟨rfl, rfl, rfl, rfl, rfl, trivial⟩ ?_
      refine ih _ _ (by omega) (by omega) (by omega) hB10 ((hf.put (show nz_PE 204 = true from rfl) _ _).put (show nz_PE 205 = true from rfl) _ _) (fun j hj => by rw [ez_put_I (by omega), ez_put_I (by omega)]; exact hj0 j hj) (by rw [ez_put_I (by omega), ez_put_I (by omega)]; exact hc) (fun k hk => ?_) (fun k hk1 hk2 => ?_)
      · by_cases e : k = i.toNat
        · rw [e, w11]; omega
        · rw [ez_put_I (by omega), ez_put_I (by omega)]; exact hv k hk
      · by_cases e : k = i.toNat
        · rw [e, w11]; omega
        · rw [ez_put_I (by omega), ez_put_I (by omega)]; first | exact hv2 k (by omega) (by omega) | exact hv k (by omega)
theorem rd_tellEntry {s : Int64} {r : Nat} (hB : ez_B τ h) (t202 : τ 202 = 48) (t204 : τ 204 = 50) (t205 : τ 205 = 51) (tr : τ r = 7) (hr : (r : Int) + 1 ≤ 1000000) (hE : ∀ i : Nat, (i : Int) < qz_I h 202 4 → 1 ≤ qz_I h 205 i) (kk : ∀ g, ez_B τ g → ez_fr nz_PE h g → (∀ j, j ≠ 4 → qz_I g 202 j = qz_I h 202 j) → (∀ i : Nat, (i : Int) < qz_I g 202 4 → 1 ≤ qz_I g 205 i) → Q (.inl none, g)) : ez_W (d + 1) cm_104 0 [(0, .inr (.inr (some (202)))), (1, .inr (.inl (s))), (3, .inr (.inr (some (r))))] [] h Q := by
  refine ez_go (n := 2) (pc' := 2) (L' := [(0, .inr (.inr (some (202)))), (1, .inr (.inl (s))), (3, .inr (.inr (some (r))))]) (st' := [.inr (.inr (some (202))), .inr (.inl (s))]) rfl ?_
  refine ez_gC (p := 204) (tg := 50) hB t202 rfl rfl tq_48 rfl rfl (fun (t204 : _ = 50) => ?_)
  refine ez_go (n := 1) (pc' := 6) (L' := [(0, .inr (.inr (some (202)))), (1, .inr (.inl (s))), (3, .inr (.inr (some (r))))]) (st' := [.inr (.inr (some (202))), .inr (.inr (some (204))), .inr (.inl (s))]) rfl ?_
  refine ez_gI hB t202 rfl rfl tq_48 rfl rfl (fun (b1 : 0 ≤ qz_I h 202 4) (b1' : qz_I h 202 4 ≤ 256) => ?_)
  refine ez_cs hB.2.1 rfl rfl rfl rfl rfl (rd_placeOfR hB t204 (by omega) (by omega) (fun pl p0 p1 _ _ => ez_K1 ?_))
  refine ez_go (n := 3) (pc' := 17) (L' := [(4, .inl (pl)), (0, .inr (.inr (some (202)))), (1, .inr (.inl (s))), (3, .inr (.inr (some (r))))]) (st' := [.inr (.inr (some (202))), .inl (pl)]) rfl ?_
  refine ez_gI hB t202 rfl rfl tq_48 rfl rfl (fun (b2 : 0 ≤ qz_I h 202 4) (b2' : qz_I h 202 4 ≤ 256) => ?_)
  refine ez_icmp rfl rfl ⟨by first | omega | exact (sz_i32 _).1, by first | omega | exact (sz_i32 _).2⟩ ⟨by first | omega | exact (sz_i32 _).1, by first | omega | exact (sz_i32 _).2⟩ (fun (c3 : (qz_I h 202 4) ≤ (pl)) => ?_) (fun (c3 : ¬((qz_I h 202 4) ≤ (pl))) => ?_)
  · skip
    refine ez_go (n := 1) (pc' := 45) (L' := [(4, .inl (pl)), (0, .inr (.inr (some (202)))), (1, .inr (.inl (s))), (3, .inr (.inr (some (r))))]) (st' := [.inr (.inr (some (202)))]) rfl ?_
    refine ez_gI hB t202 rfl rfl tq_48 rfl rfl (fun (b4 : 0 ≤ qz_I h 202 4) (b4' : qz_I h 202 4 ≤ 256) => ?_)
    refine ez_go (n := 1) (pc' := 51) (L' := [(4, .inl (pl)), (0, .inr (.inr (some (202)))), (1, .inr (.inl (s))), (3, .inr (.inr (some (r))))]) (st' := [.inl (256), .inl (qz_I h 202 4)]) rfl ?_
    refine ez_icmp rfl rfl ⟨by first | omega | exact (sz_i32 _).1, by first | omega | exact (sz_i32 _).2⟩ ⟨by first | omega | exact (sz_i32 _).1, by first | omega | exact (sz_i32 _).2⟩ (fun (c5 : (qz_I h 202 4) < (256)) => ?_) (fun (c5 : ¬((qz_I h 202 4) < (256))) => ?_)
    · skip
      refine ez_go (n := 1) (pc' := 56) (L' := [(4, .inl (pl)), (0, .inr (.inr (some (202)))), (1, .inr (.inl (s))), (3, .inr (.inr (some (r))))]) (st' := [.inr (.inr (some (202)))]) rfl ?_
      refine ez_gI hB t202 rfl rfl tq_48 rfl rfl (fun (b6 : 0 ≤ qz_I h 202 4) (b6' : qz_I h 202 4 ≤ 256) => ?_)
      refine ez_go (n := 1) (pc' := 61) (L' := [(5, .inl (qz_I h 202 4)), (4, .inl (pl)), (0, .inr (.inr (some (202)))), (1, .inr (.inl (s))), (3, .inr (.inr (some (r))))]) (st' := []) rfl ?_
      refine ez_less [(5, .inl (qz_I h 202 4)), (4, .inl (pl)), (0, .inr (.inr (some (202)))), (1, .inr (.inl (s))), (3, .inr (.inr (some (r))))] rfl ⟨rfl, rfl, rfl, rfl, rfl, trivial⟩ ?_
      exact rd_tellEntry_l (n := qz_I h 202 4) t202 t204 t205 tr hr (by omega) p0 p1 kk _ _ h rfl (by omega) (by omega) hB (ez_fr.refl _ _) (fun _ _ => rfl) rfl hE (fun k k1 k2 => by omega)
    · skip
      exact ez_ret0 rfl rfl (kk h hB (ez_fr.refl _ _) (fun _ _ => rfl) hE)
  · skip
    refine ez_go (n := 1) (pc' := 24) (L' := [(4, .inl (pl)), (0, .inr (.inr (some (202)))), (1, .inr (.inl (s))), (3, .inr (.inr (some (r))))]) (st' := [.inr (.inr (some (202)))]) rfl ?_
    refine ez_gC (p := 204) (tg := 50) hB t202 rfl rfl tq_48 rfl rfl (fun (t204 : _ = 50) => ?_)
    refine ez_go (n := 1) (pc' := 29) (L' := [(4, .inl (pl)), (0, .inr (.inr (some (202)))), (1, .inr (.inl (s))), (3, .inr (.inr (some (r))))]) (st' := [.inl (pl), .inr (.inr (some (204)))]) rfl ?_
    have n7 : 256 ≤ qz_N h 204 ∧ qz_N h 204 ≤ 256 := ez_len hB t204 tq_50 rfl
    refine ez_aL hB t204 rfl tq_50 rfl rfl (by omega) (by omega) ?_
    refine ez_go (n := 2) (pc' := 32) (L' := [(4, .inl (pl)), (0, .inr (.inr (some (202)))), (1, .inr (.inl (s))), (3, .inr (.inr (some (r))))]) (st' := [.inl ((lg_cmp (Int64.ofInt (qz_I h 204 (pl).toNat)) (s)).toInt)]) rfl ?_
    refine ez_if rfl rfl ⟨by first | omega | exact (sz_i32 _).1, by first | omega | exact (sz_i32 _).2⟩ (fun (c8 : ((lg_cmp (Int64.ofInt (qz_I h 204 (pl).toNat)) (s)).toInt) ≠ (0)) => ?_) (fun (c8 : ¬(((lg_cmp (Int64.ofInt (qz_I h 204 (pl).toNat)) (s)).toInt) ≠ (0))) => ?_)
    · skip
      refine ez_go (n := 1) (pc' := 45) (L' := [(4, .inl (pl)), (0, .inr (.inr (some (202)))), (1, .inr (.inl (s))), (3, .inr (.inr (some (r))))]) (st' := [.inr (.inr (some (202)))]) rfl ?_
      refine ez_gI hB t202 rfl rfl tq_48 rfl rfl (fun (b9 : 0 ≤ qz_I h 202 4) (b9' : qz_I h 202 4 ≤ 256) => ?_)
      refine ez_go (n := 1) (pc' := 51) (L' := [(4, .inl (pl)), (0, .inr (.inr (some (202)))), (1, .inr (.inl (s))), (3, .inr (.inr (some (r))))]) (st' := [.inl (256), .inl (qz_I h 202 4)]) rfl ?_
      refine ez_icmp rfl rfl ⟨by first | omega | exact (sz_i32 _).1, by first | omega | exact (sz_i32 _).2⟩ ⟨by first | omega | exact (sz_i32 _).1, by first | omega | exact (sz_i32 _).2⟩ (fun (c10 : (qz_I h 202 4) < (256)) => ?_) (fun (c10 : ¬((qz_I h 202 4) < (256))) => ?_)
      · skip
        refine ez_go (n := 1) (pc' := 56) (L' := [(4, .inl (pl)), (0, .inr (.inr (some (202)))), (1, .inr (.inl (s))), (3, .inr (.inr (some (r))))]) (st' := [.inr (.inr (some (202)))]) rfl ?_
        refine ez_gI hB t202 rfl rfl tq_48 rfl rfl (fun (b11 : 0 ≤ qz_I h 202 4) (b11' : qz_I h 202 4 ≤ 256) => ?_)
        refine ez_go (n := 1) (pc' := 61) (L' := [(5, .inl (qz_I h 202 4)), (4, .inl (pl)), (0, .inr (.inr (some (202)))), (1, .inr (.inl (s))), (3, .inr (.inr (some (r))))]) (st' := []) rfl ?_
        refine ez_less [(5, .inl (qz_I h 202 4)), (4, .inl (pl)), (0, .inr (.inr (some (202)))), (1, .inr (.inl (s))), (3, .inr (.inr (some (r))))] rfl ⟨rfl, rfl, rfl, rfl, rfl, trivial⟩ ?_
        exact rd_tellEntry_l (n := qz_I h 202 4) t202 t204 t205 tr hr (by omega) p0 p1 kk _ _ h rfl (by omega) (by omega) hB (ez_fr.refl _ _) (fun _ _ => rfl) rfl hE (fun k k1 k2 => by omega)
      · skip
        exact ez_ret0 rfl rfl (kk h hB (ez_fr.refl _ _) (fun _ _ => rfl) hE)
    · skip
      refine ez_go (n := 1) (pc' := 36) (L' := [(4, .inl (pl)), (0, .inr (.inr (some (202)))), (1, .inr (.inl (s))), (3, .inr (.inr (some (r))))]) (st' := [.inr (.inr (some (202)))]) rfl ?_
      refine ez_gC (p := 205) (tg := 51) hB t202 rfl rfl tq_48 rfl rfl (fun (t205 : _ = 51) => ?_)
      refine ez_go (n := 2) (pc' := 42) (L' := [(4, .inl (pl)), (0, .inr (.inr (some (202)))), (1, .inr (.inl (s))), (3, .inr (.inr (some (r))))]) (st' := [.inr (.inr (some (r))), .inl (pl), .inr (.inr (some (205)))]) rfl ?_
      have n14 : 256 ≤ qz_N h 205 ∧ qz_N h 205 ≤ 256 := ez_len hB t205 tq_51 rfl
      refine ez_aa hB t205 tr rfl tq_51 tq_7 rfl rfl rfl (by omega) (by omega) (ez_vdR rfl tr (by omega) (by omega)) (fun hB12 w13 => ?_)
      refine ez_ret0 rfl rfl (kk _ hB12 ((ez_fr.refl nz_PE h).put (show nz_PE 205 = true from rfl) _ _) (fun j hj => ez_put_I (by omega)) (fun i hi => ?_))
      rw [ez_put_I (by omega)] at hi
      by_cases e : i = pl.toNat
      · rw [e, w13]; omega
      · rw [ez_put_I (by omega)]; exact hE i hi

/-- LINE 2 -/
def rz_G2 (b f t : Int → Int) : Prop := rz_code b (f 0) (t 0) ≠ -1 ∧ rz_rw b 18 (f 2) (t 2) ≠ none ∧ t 1 - f 1 = 1 ∧ (b (f 1) = 67 ∨ b (f 1) = 70 ∨ b (f 1) = 83 ∨ b (f 1) = 84)
theorem rd_takeFold (hB : ez_B τ h) (u193 : τ 193 = 45) (u202 : τ 202 = 48) (u203 : τ 203 = 49) (u720 : τ 720 = 52) (u721 : τ 721 = 53) (u722 : τ 722 = 54) (hs : sz_ok h) (hinj : sz_inj h) (hft : ∀ k, 0 ≤ k → k ≤ 2 → rz_f h k ≤ rz_t h k) (hn : qz_I h 202 1 + 2 ≤ 513) (hr1 : h.1 + 1 ≤ 600192) (hr2 : h.2.1 + 18 ≤ 7302232) (kN : ∀ g τ1, ez_B τ1 g → ez_xt τ h τ1 g 1 18 → ¬ rz_G2 (rz_b h) (rz_f h) (rz_t h) → Q (.inl (some (ez_v (.inl (-1)))), g)) (kS : ∀ g h1 τ1 p J (r : Nat), ez_B τ1 g → ez_B τ1 h1 → ez_xt τ h τ1 h1 1 18 → fJ (rz_b h (rz_f h 1)) J → sz_toldR τ1 h1 g p p (sz_RS J ((r : Int) + 1)) → p = rz_code (rz_b h) (rz_f h 0) (rz_t h 0) → (∃ vs, rz_rw (rz_b h) 18 (rz_f h 2) (rz_t h 2) = some vs ∧ rw5 τ1 h1 ((r : Int) + 1) vs) → rz_G2 (rz_b h) (rz_f h) (rz_t h) → Q (.inl (some (ez_v (.inl 1))), g)) : ez_W (d + 4) cm_177 0 [(0, .inr (.inr (some (720))))] [] h Q := by
  have n721 : 7 ≤ qz_N h 721 ∧ qz_N h 721 ≤ 7 := ez_len hB u721 tq_53 rfl
  have n722 : 7 ≤ qz_N h 722 ∧ qz_N h 722 ≤ 7 := ez_len hB u722 tq_54 rfl
  have qh0 := hft 0 (by omega) (by omega)
  have qf0 : 0 ≤ rz_f h 0 ∧ rz_f h 0 ≤ 4096 := ez_aB (i := 0) hB u721 tq_53 rfl rfl (by decide) (by omega) (by omega)
  have qt0 : 0 ≤ rz_t h 0 ∧ rz_t h 0 ≤ 4096 := ez_aB (i := 0) hB u722 tq_54 rfl rfl (by decide) (by omega) (by omega)
  have qh1 := hft 1 (by omega) (by omega)
  have qf1 : 0 ≤ rz_f h 1 ∧ rz_f h 1 ≤ 4096 := ez_aB (i := 1) hB u721 tq_53 rfl rfl (by decide) (by omega) (by omega)
  have qt1 : 0 ≤ rz_t h 1 ∧ rz_t h 1 ≤ 4096 := ez_aB (i := 1) hB u722 tq_54 rfl rfl (by decide) (by omega) (by omega)
  have qh2 := hft 2 (by omega) (by omega)
  have qf2 : 0 ≤ rz_f h 2 ∧ rz_f h 2 ≤ 4096 := ez_aB (i := 2) hB u721 tq_53 rfl rfl (by decide) (by omega) (by omega)
  have qt2 : 0 ≤ rz_t h 2 ∧ rz_t h 2 ≤ 4096 := ez_aB (i := 2) hB u722 tq_54 rfl rfl (by decide) (by omega) (by omega)
  refine ez_go (n := 2) (pc' := 2) (L' := [(0, .inr (.inr (some (720))))]) (st' := [.inr (.inr (some (720))), .inr (.inr (some (720)))]) rfl ?_
  refine ez_gC (p := 721) (tg := 53) hB u720 rfl rfl tq_52 rfl rfl (fun (t721 : _ = 53) => ?_)
  refine ez_go (n := 1) (pc' := 6) (L' := [(0, .inr (.inr (some (720))))]) (st' := [.inl (0), .inr (.inr (some (721))), .inr (.inr (some (720)))]) rfl ?_
  have n2 : 7 ≤ qz_N h 721 ∧ qz_N h 721 ≤ 7 := ez_len hB t721 tq_53 rfl
  refine ez_aI hB t721 rfl tq_53 rfl rfl (by omega) (by omega) (fun (b1 : 0 ≤ qz_I h 721 (0 : Int).toNat) (b1' : qz_I h 721 (0 : Int).toNat ≤ 4096) => ?_)
  refine ez_go (n := 1) (pc' := 8) (L' := [(0, .inr (.inr (some (720))))]) (st' := [.inr (.inr (some (720))), .inl (qz_I h 721 (0 : Int).toNat), .inr (.inr (some (720)))]) rfl ?_
  refine ez_gC (p := 722) (tg := 54) hB u720 rfl rfl tq_52 rfl rfl (fun (t722 : _ = 54) => ?_)
  refine ez_go (n := 1) (pc' := 12) (L' := [(0, .inr (.inr (some (720))))]) (st' := [.inl (0), .inr (.inr (some (722))), .inl (qz_I h 721 (0 : Int).toNat), .inr (.inr (some (720)))]) rfl ?_
  have n4 : 7 ≤ qz_N h 722 ∧ qz_N h 722 ≤ 7 := ez_len hB t722 tq_54 rfl
  refine ez_aI hB t722 rfl tq_54 rfl rfl (by omega) (by omega) (fun (b3 : 0 ≤ qz_I h 722 (0 : Int).toNat) (b3' : qz_I h 722 (0 : Int).toNat ≤ 4096) => ?_)
  have xf0 : qz_I h 721 (0 : Int).toNat = rz_f h 0 := rfl
  have xt0 : qz_I h 722 (0 : Int).toNat = rz_t h 0 := rfl
  have xb := rz_code_bd (rz_b h) (rz_f h 0) (rz_t h 0)
  refine ez_cv hB u720 rfl rfl rfl tq_52 rfl rfl rfl (rd_readCode hB u720 (by omega) (by omega) (by omega) (ez_K1 ?_))
  rw [xf0, xt0]
  obtain ⟨pt, ept⟩ : ∃ pt, pt = rz_code (rz_b h) (rz_f h 0) (rz_t h 0) := ⟨_, rfl⟩
  rw [← ept] at xb ⊢
  refine ez_go (n := 3) (pc' := 19) (L' := [(1, .inl (pt)), (0, .inr (.inr (some (720))))]) (st' := [.inr (.inr (some (720))), .inr (.inr (some (720)))]) rfl ?_
  refine ez_gC (p := 721) (tg := 53) hB u720 rfl rfl tq_52 rfl rfl (fun (t721 : _ = 53) => ?_)
  refine ez_go (n := 1) (pc' := 23) (L' := [(1, .inl (pt)), (0, .inr (.inr (some (720))))]) (st' := [.inl (2), .inr (.inr (some (721))), .inr (.inr (some (720)))]) rfl ?_
  have n6 : 7 ≤ qz_N h 721 ∧ qz_N h 721 ≤ 7 := ez_len hB t721 tq_53 rfl
  refine ez_aI hB t721 rfl tq_53 rfl rfl (by omega) (by omega) (fun (b5 : 0 ≤ qz_I h 721 (2 : Int).toNat) (b5' : qz_I h 721 (2 : Int).toNat ≤ 4096) => ?_)
  refine ez_go (n := 1) (pc' := 25) (L' := [(1, .inl (pt)), (0, .inr (.inr (some (720))))]) (st' := [.inr (.inr (some (720))), .inl (qz_I h 721 (2 : Int).toNat), .inr (.inr (some (720)))]) rfl ?_
  refine ez_gC (p := 722) (tg := 54) hB u720 rfl rfl tq_52 rfl rfl (fun (t722 : _ = 54) => ?_)
  refine ez_go (n := 1) (pc' := 29) (L' := [(1, .inl (pt)), (0, .inr (.inr (some (720))))]) (st' := [.inl (2), .inr (.inr (some (722))), .inl (qz_I h 721 (2 : Int).toNat), .inr (.inr (some (720)))]) rfl ?_
  have n8 : 7 ≤ qz_N h 722 ∧ qz_N h 722 ≤ 7 := ez_len hB t722 tq_54 rfl
  refine ez_aI hB t722 rfl tq_54 rfl rfl (by omega) (by omega) (fun (b7 : 0 ≤ qz_I h 722 (2 : Int).toNat) (b7' : qz_I h 722 (2 : Int).toNat ≤ 4096) => ?_)
  refine ez_go (n := 1) (pc' := 32) (L' := [(1, .inl (pt)), (0, .inr (.inr (some (720))))]) (st' := [.inl (18), .inl (qz_I h 722 (2 : Int).toNat), .inl (qz_I h 721 (2 : Int).toNat), .inr (.inr (some (720)))]) rfl ?_
  have xf2 : qz_I h 721 (2 : Int).toNat = rz_f h 2 := rfl
  have xt2 : qz_I h 722 (2 : Int).toNat = rz_t h 2 := rfl
  refine ez_cv hB u720 rfl rfl rfl tq_52 rfl rfl rfl (rd_readRow hB u720 u193 (by omega) (by omega) (by omega) (by omega) (by omega) (by omega) (by omega) (fun g τ1 hB1 hx hn9 => ez_KA ?_) (fun g τ1 vs hB1 hx up hc1 hc2 hrow hN9 hel9 => ez_KA ?_))
  · skip
    have u720z := (hx.1 _ (by rw [u720]; decide)).1.trans u720
    have u202z := (hx.1 _ (by rw [u202]; decide)).1.trans u202
    have t721z := (hx.1 _ (by rw [t721]; decide)).1.trans t721
    have t722z := (hx.1 _ (by rw [t722]; decide)).1.trans t722
    obtain ⟨b1, f1, t1⟩ := hx.bft u193 u721 u722
    have yf1 : qz_I g 721 (1 : Int).toNat = rz_f h 1 := congrFun f1 1
    have yt1 : qz_I g 722 (1 : Int).toNat = rz_t h 1 := congrFun t1 1
    have yl : qz_I g 193 (qz_I g 721 (1 : Int).toNat).toNat = rz_b h (rz_f h 1) := by rw [yf1]; exact congrFun b1 _
    refine ez_go (n := 3) (pc' := 38) (L' := [(2, .inr (.inr none)), (1, .inl (pt)), (0, .inr (.inr (some (720))))]) (st' := [.inl (-1), .inl (pt)]) rfl ?_
    refine ez_icmp rfl rfl ⟨by first | omega | exact (sz_i32 _).1, by first | omega | exact (sz_i32 _).2⟩ ⟨by first | omega | exact (sz_i32 _).1, by first | omega | exact (sz_i32 _).2⟩ (fun (c9 : (pt) = (-1)) => ?_) (fun (c9 : ¬((pt) = (-1))) => ?_)
    · skip
      refine ez_go (n := 1) (pc' := 63) (L' := [(2, .inr (.inr none)), (1, .inl (pt)), (0, .inr (.inr (some (720))))]) (st' := [.inl (-1)]) rfl ?_
      exact ez_retI rfl rfl (kN g τ1 hB1 hx (fun w => by obtain ⟨w1, w2, w3, w4⟩ := w; exact w2 (rz_rw_n hn9)))
    · skip
      refine ez_go (n := 1) (pc' := 42) (L' := [(2, .inr (.inr none)), (1, .inl (pt)), (0, .inr (.inr (some (720))))]) (st' := [.inr (.inr none)]) rfl ?_
      refine ez_null0 rfl rfl ?_
      refine ez_go (n := 1) (pc' := 63) (L' := [(2, .inr (.inr none)), (1, .inl (pt)), (0, .inr (.inr (some (720))))]) (st' := [.inl (-1)]) rfl ?_
      exact ez_retI rfl rfl (kN g τ1 hB1 hx (fun w => by obtain ⟨w1, w2, w3, w4⟩ := w; exact w2 (rz_rw_n hn9)))
  · skip
    have u720z := (hx.1 _ (by rw [u720]; decide)).1.trans u720
    have u202z := (hx.1 _ (by rw [u202]; decide)).1.trans u202
    have t721z := (hx.1 _ (by rw [t721]; decide)).1.trans t721
    have t722z := (hx.1 _ (by rw [t722]; decide)).1.trans t722
    obtain ⟨b1, f1, t1⟩ := hx.bft u193 u721 u722
    have yf1 : qz_I g 721 (1 : Int).toNat = rz_f h 1 := congrFun f1 1
    have yt1 : qz_I g 722 (1 : Int).toNat = rz_t h 1 := congrFun t1 1
    have yl : qz_I g 193 (qz_I g 721 (1 : Int).toNat).toNat = rz_b h (rz_f h 1) := by rw [yf1]; exact congrFun b1 _
    refine ez_go (n := 3) (pc' := 38) (L' := [(2, .inr (.inr (some (h.1)))), (1, .inl (pt)), (0, .inr (.inr (some (720))))]) (st' := [.inl (-1), .inl (pt)]) rfl ?_
    refine ez_icmp rfl rfl ⟨by first | omega | exact (sz_i32 _).1, by first | omega | exact (sz_i32 _).2⟩ ⟨by first | omega | exact (sz_i32 _).1, by first | omega | exact (sz_i32 _).2⟩ (fun (c10 : (pt) = (-1)) => ?_) (fun (c10 : ¬((pt) = (-1))) => ?_)
    · skip
      refine ez_go (n := 1) (pc' := 63) (L' := [(2, .inr (.inr (some (h.1)))), (1, .inl (pt)), (0, .inr (.inr (some (720))))]) (st' := [.inl (-1)]) rfl ?_
      exact ez_retI rfl rfl (kN g τ1 hB1 hx (fun w => by obtain ⟨w1, w2, w3, w4⟩ := w; rw [← ept] at w1; omega))
    · skip
      refine ez_go (n := 1) (pc' := 42) (L' := [(2, .inr (.inr (some (h.1)))), (1, .inl (pt)), (0, .inr (.inr (some (720))))]) (st' := [.inr (.inr (some (h.1)))]) rfl ?_
      refine ez_null1 rfl ?_
      refine ez_go (n := 1) (pc' := 46) (L' := [(2, .inr (.inr (some (h.1)))), (1, .inl (pt)), (0, .inr (.inr (some (720))))]) (st' := [.inr (.inr (some (720)))]) rfl ?_
      refine ez_gC (p := 722) (tg := 54) hB1 u720z rfl rfl tq_52 rfl rfl (fun (t722 : _ = 54) => ?_)
      refine ez_go (n := 1) (pc' := 50) (L' := [(2, .inr (.inr (some (h.1)))), (1, .inl (pt)), (0, .inr (.inr (some (720))))]) (st' := [.inl (1), .inr (.inr (some (722)))]) rfl ?_
      have n12 : 7 ≤ qz_N g 722 ∧ qz_N g 722 ≤ 7 := ez_len hB1 t722 tq_54 rfl
      refine ez_aI hB1 t722 rfl tq_54 rfl rfl (by omega) (by omega) (fun (b11 : 0 ≤ qz_I g 722 (1 : Int).toNat) (b11' : qz_I g 722 (1 : Int).toNat ≤ 4096) => ?_)
      refine ez_go (n := 1) (pc' := 52) (L' := [(2, .inr (.inr (some (h.1)))), (1, .inl (pt)), (0, .inr (.inr (some (720))))]) (st' := [.inr (.inr (some (720))), .inl (qz_I g 722 (1 : Int).toNat)]) rfl ?_
      refine ez_gC (p := 721) (tg := 53) hB1 u720z rfl rfl tq_52 rfl rfl (fun (t721 : _ = 53) => ?_)
      refine ez_go (n := 1) (pc' := 56) (L' := [(2, .inr (.inr (some (h.1)))), (1, .inl (pt)), (0, .inr (.inr (some (720))))]) (st' := [.inl (1), .inr (.inr (some (721))), .inl (qz_I g 722 (1 : Int).toNat)]) rfl ?_
      have n14 : 7 ≤ qz_N g 721 ∧ qz_N g 721 ≤ 7 := ez_len hB1 t721 tq_53 rfl
      refine ez_aI hB1 t721 rfl tq_53 rfl rfl (by omega) (by omega) (fun (b13 : 0 ≤ qz_I g 721 (1 : Int).toNat) (b13' : qz_I g 721 (1 : Int).toNat ≤ 4096) => ?_)
      refine ez_go (n := 2) (pc' := 59) (L' := [(2, .inr (.inr (some (h.1)))), (1, .inl (pt)), (0, .inr (.inr (some (720))))]) (st' := [.inl (1), .inl ((qz_I g 722 (1 : Int).toNat) - (qz_I g 721 (1 : Int).toNat))]) rfl ?_
      refine ez_icmp rfl rfl ⟨by first | omega | exact (sz_i32 _).1, by first | omega | exact (sz_i32 _).2⟩ ⟨by first | omega | exact (sz_i32 _).1, by first | omega | exact (sz_i32 _).2⟩ (fun (c15 : ((qz_I g 722 (1 : Int).toNat) - (qz_I g 721 (1 : Int).toNat)) = (1)) => ?_) (fun (c15 : ¬(((qz_I g 722 (1 : Int).toNat) - (qz_I g 721 (1 : Int).toNat)) = (1))) => ?_)
      · skip
        refine ez_go (n := 1) (pc' := 65) (L' := [(2, .inr (.inr (some (h.1)))), (1, .inl (pt)), (0, .inr (.inr (some (720))))]) (st' := [.inr (.inr (some (720)))]) rfl ?_
        refine ez_gC (p := 193) (tg := 45) hB1 u720z rfl rfl tq_52 rfl rfl (fun (t193 : _ = 45) => ?_)
        refine ez_go (n := 1) (pc' := 69) (L' := [(2, .inr (.inr (some (h.1)))), (1, .inl (pt)), (0, .inr (.inr (some (720))))]) (st' := [.inr (.inr (some (720))), .inr (.inr (some (193)))]) rfl ?_
        refine ez_gC (p := 721) (tg := 53) hB1 u720z rfl rfl tq_52 rfl rfl (fun (t721 : _ = 53) => ?_)
        refine ez_go (n := 1) (pc' := 73) (L' := [(2, .inr (.inr (some (h.1)))), (1, .inl (pt)), (0, .inr (.inr (some (720))))]) (st' := [.inl (1), .inr (.inr (some (721))), .inr (.inr (some (193)))]) rfl ?_
        have n17 : 7 ≤ qz_N g 721 ∧ qz_N g 721 ≤ 7 := ez_len hB1 t721 tq_53 rfl
        refine ez_aI hB1 t721 rfl tq_53 rfl rfl (by omega) (by omega) (fun (b16 : 0 ≤ qz_I g 721 (1 : Int).toNat) (b16' : qz_I g 721 (1 : Int).toNat ≤ 4096) => ?_)
        have n19 : 4096 ≤ qz_N g 193 ∧ qz_N g 193 ≤ 4096 := ez_len hB1 t193 tq_45 rfl
        refine ez_aI hB1 t193 rfl tq_45 rfl rfl (by omega) (by omega) (fun (b18 : -128 ≤ qz_I g 193 (qz_I g 721 (1 : Int).toNat).toNat) (b18' : qz_I g 193 (qz_I g 721 (1 : Int).toNat).toNat ≤ 127) => ?_)
        refine ez_go (n := 3) (pc' := 79) (L' := [(3, .inl (qz_I g 193 (qz_I g 721 (1 : Int).toNat).toNat)), (2, .inr (.inr (some (h.1)))), (1, .inl (pt)), (0, .inr (.inr (some (720))))]) (st' := [.inl (67), .inl (qz_I g 193 (qz_I g 721 (1 : Int).toNat).toNat)]) rfl ?_
        refine ez_icmp rfl rfl ⟨by first | omega | exact (sz_i32 _).1, by first | omega | exact (sz_i32 _).2⟩ ⟨by first | omega | exact (sz_i32 _).1, by first | omega | exact (sz_i32 _).2⟩ (fun (c20 : (qz_I g 193 (qz_I g 721 (1 : Int).toNat).toNat) = (67)) => ?_) (fun (c20 : ¬((qz_I g 193 (qz_I g 721 (1 : Int).toNat).toNat) = (67))) => ?_)
        · skip
          refine ez_go (n := 1) (pc' := 103) (L' := [(3, .inl (qz_I g 193 (qz_I g 721 (1 : Int).toNat).toNat)), (2, .inr (.inr (some (h.1)))), (1, .inl (pt)), (0, .inr (.inr (some (720))))]) (st' := [.inr (.inr (some (720)))]) rfl ?_
          refine ez_gC (p := 202) (tg := 48) hB1 u720z rfl rfl tq_52 rfl rfl (fun (t202 : _ = 48) => ?_)
          refine ez_go (n := 3) (pc' := 109) (L' := [(3, .inl (qz_I g 193 (qz_I g 721 (1 : Int).toNat).toNat)), (2, .inr (.inr (some (h.1)))), (1, .inl (pt)), (0, .inr (.inr (some (720))))]) (st' := [.inr (.inr (some (h.1))), .inl (qz_I g 193 (qz_I g 721 (1 : Int).toNat).toNat), .inl (pt), .inr (.inr (some (202)))]) rfl ?_
          obtain ⟨hs1, hi1⟩ := sz_same_ok hB u203 u202 (hx.1 202 (by rw [u202]; decide)).2 (hx.1 203 (by rw [u203]; decide)).2 (fun q hq => (hx.1 q (by rw [hq]; decide)).2) hs hinj
          have c1 : qz_I g 202 1 = qz_I h 202 1 := hx.I (by rw [u202]; decide) 1
          refine ez_cv hB1 t202 rfl rfl rfl tq_48 rfl rfl rfl (rd_tellFold hB1 t202 ((hx.1 _ (by rw [u203]; decide)).1.trans u203) hs1 hi1 (by omega) (by omega) (by omega) up (by omega) (by omega) (by omega) (fun g2 J hB2 hJ ht => ez_K0 ?_))
          refine ez_go (n := 1) (pc' := 113) (L' := [(3, .inl (qz_I g 193 (qz_I g 721 (1 : Int).toNat).toNat)), (2, .inr (.inr (some (h.1)))), (1, .inl (pt)), (0, .inr (.inr (some (720))))]) (st' := [.inl (1)]) rfl ?_
          exact ez_retI rfl rfl (kS g2 g τ1 pt J h.1 hB2 hB1 hx (by rw [← yl]; exact hJ) ht ept ⟨vs, rz_rw_s hc1 hc2 hrow, h.1, rfl, up, by rw [hN9, rz_rw_len (rz_rw_s hc1 hc2 hrow)], hel9⟩ ⟨by rw [← ept]; omega, (fun w => by rw [show rz_rw (rz_b h) 18 (rz_f h 2) (rz_t h 2) = some vs from rz_rw_s hc1 hc2 hrow] at w; cases w), by omega, by omega⟩)
        · skip
          refine ez_go (n := 2) (pc' := 85) (L' := [(3, .inl (qz_I g 193 (qz_I g 721 (1 : Int).toNat).toNat)), (2, .inr (.inr (some (h.1)))), (1, .inl (pt)), (0, .inr (.inr (some (720))))]) (st' := [.inl (70), .inl (qz_I g 193 (qz_I g 721 (1 : Int).toNat).toNat)]) rfl ?_
          refine ez_icmp rfl rfl ⟨by first | omega | exact (sz_i32 _).1, by first | omega | exact (sz_i32 _).2⟩ ⟨by first | omega | exact (sz_i32 _).1, by first | omega | exact (sz_i32 _).2⟩ (fun (c21 : (qz_I g 193 (qz_I g 721 (1 : Int).toNat).toNat) = (70)) => ?_) (fun (c21 : ¬((qz_I g 193 (qz_I g 721 (1 : Int).toNat).toNat) = (70))) => ?_)
          · skip
            refine ez_go (n := 1) (pc' := 103) (L' := [(3, .inl (qz_I g 193 (qz_I g 721 (1 : Int).toNat).toNat)), (2, .inr (.inr (some (h.1)))), (1, .inl (pt)), (0, .inr (.inr (some (720))))]) (st' := [.inr (.inr (some (720)))]) rfl ?_
            refine ez_gC (p := 202) (tg := 48) hB1 u720z rfl rfl tq_52 rfl rfl (fun (t202 : _ = 48) => ?_)
            refine ez_go (n := 3) (pc' := 109) (L' := [(3, .inl (qz_I g 193 (qz_I g 721 (1 : Int).toNat).toNat)), (2, .inr (.inr (some (h.1)))), (1, .inl (pt)), (0, .inr (.inr (some (720))))]) (st' := [.inr (.inr (some (h.1))), .inl (qz_I g 193 (qz_I g 721 (1 : Int).toNat).toNat), .inl (pt), .inr (.inr (some (202)))]) rfl ?_
            obtain ⟨hs1, hi1⟩ := sz_same_ok hB u203 u202 (hx.1 202 (by rw [u202]; decide)).2 (hx.1 203 (by rw [u203]; decide)).2 (fun q hq => (hx.1 q (by rw [hq]; decide)).2) hs hinj
            have c1 : qz_I g 202 1 = qz_I h 202 1 := hx.I (by rw [u202]; decide) 1
            refine ez_cv hB1 t202 rfl rfl rfl tq_48 rfl rfl rfl (rd_tellFold hB1 t202 ((hx.1 _ (by rw [u203]; decide)).1.trans u203) hs1 hi1 (by omega) (by omega) (by omega) up (by omega) (by omega) (by omega) (fun g2 J hB2 hJ ht => ez_K0 ?_))
            refine ez_go (n := 1) (pc' := 113) (L' := [(3, .inl (qz_I g 193 (qz_I g 721 (1 : Int).toNat).toNat)), (2, .inr (.inr (some (h.1)))), (1, .inl (pt)), (0, .inr (.inr (some (720))))]) (st' := [.inl (1)]) rfl ?_
            exact ez_retI rfl rfl (kS g2 g τ1 pt J h.1 hB2 hB1 hx (by rw [← yl]; exact hJ) ht ept ⟨vs, rz_rw_s hc1 hc2 hrow, h.1, rfl, up, by rw [hN9, rz_rw_len (rz_rw_s hc1 hc2 hrow)], hel9⟩ ⟨by rw [← ept]; omega, (fun w => by rw [show rz_rw (rz_b h) 18 (rz_f h 2) (rz_t h 2) = some vs from rz_rw_s hc1 hc2 hrow] at w; cases w), by omega, by omega⟩)
          · skip
            refine ez_go (n := 2) (pc' := 91) (L' := [(3, .inl (qz_I g 193 (qz_I g 721 (1 : Int).toNat).toNat)), (2, .inr (.inr (some (h.1)))), (1, .inl (pt)), (0, .inr (.inr (some (720))))]) (st' := [.inl (83), .inl (qz_I g 193 (qz_I g 721 (1 : Int).toNat).toNat)]) rfl ?_
            refine ez_icmp rfl rfl ⟨by first | omega | exact (sz_i32 _).1, by first | omega | exact (sz_i32 _).2⟩ ⟨by first | omega | exact (sz_i32 _).1, by first | omega | exact (sz_i32 _).2⟩ (fun (c22 : (qz_I g 193 (qz_I g 721 (1 : Int).toNat).toNat) = (83)) => ?_) (fun (c22 : ¬((qz_I g 193 (qz_I g 721 (1 : Int).toNat).toNat) = (83))) => ?_)
            · skip
              refine ez_go (n := 1) (pc' := 103) (L' := [(3, .inl (qz_I g 193 (qz_I g 721 (1 : Int).toNat).toNat)), (2, .inr (.inr (some (h.1)))), (1, .inl (pt)), (0, .inr (.inr (some (720))))]) (st' := [.inr (.inr (some (720)))]) rfl ?_
              refine ez_gC (p := 202) (tg := 48) hB1 u720z rfl rfl tq_52 rfl rfl (fun (t202 : _ = 48) => ?_)
              refine ez_go (n := 3) (pc' := 109) (L' := [(3, .inl (qz_I g 193 (qz_I g 721 (1 : Int).toNat).toNat)), (2, .inr (.inr (some (h.1)))), (1, .inl (pt)), (0, .inr (.inr (some (720))))]) (st' := [.inr (.inr (some (h.1))), .inl (qz_I g 193 (qz_I g 721 (1 : Int).toNat).toNat), .inl (pt), .inr (.inr (some (202)))]) rfl ?_
              obtain ⟨hs1, hi1⟩ := sz_same_ok hB u203 u202 (hx.1 202 (by rw [u202]; decide)).2 (hx.1 203 (by rw [u203]; decide)).2 (fun q hq => (hx.1 q (by rw [hq]; decide)).2) hs hinj
              have c1 : qz_I g 202 1 = qz_I h 202 1 := hx.I (by rw [u202]; decide) 1
              refine ez_cv hB1 t202 rfl rfl rfl tq_48 rfl rfl rfl (rd_tellFold hB1 t202 ((hx.1 _ (by rw [u203]; decide)).1.trans u203) hs1 hi1 (by omega) (by omega) (by omega) up (by omega) (by omega) (by omega) (fun g2 J hB2 hJ ht => ez_K0 ?_))
              refine ez_go (n := 1) (pc' := 113) (L' := [(3, .inl (qz_I g 193 (qz_I g 721 (1 : Int).toNat).toNat)), (2, .inr (.inr (some (h.1)))), (1, .inl (pt)), (0, .inr (.inr (some (720))))]) (st' := [.inl (1)]) rfl ?_
              exact ez_retI rfl rfl (kS g2 g τ1 pt J h.1 hB2 hB1 hx (by rw [← yl]; exact hJ) ht ept ⟨vs, rz_rw_s hc1 hc2 hrow, h.1, rfl, up, by rw [hN9, rz_rw_len (rz_rw_s hc1 hc2 hrow)], hel9⟩ ⟨by rw [← ept]; omega, (fun w => by rw [show rz_rw (rz_b h) 18 (rz_f h 2) (rz_t h 2) = some vs from rz_rw_s hc1 hc2 hrow] at w; cases w), by omega, by omega⟩)
            · skip
              refine ez_go (n := 2) (pc' := 97) (L' := [(3, .inl (qz_I g 193 (qz_I g 721 (1 : Int).toNat).toNat)), (2, .inr (.inr (some (h.1)))), (1, .inl (pt)), (0, .inr (.inr (some (720))))]) (st' := [.inl (84), .inl (qz_I g 193 (qz_I g 721 (1 : Int).toNat).toNat)]) rfl ?_
              refine ez_icmp rfl rfl ⟨by first | omega | exact (sz_i32 _).1, by first | omega | exact (sz_i32 _).2⟩ ⟨by first | omega | exact (sz_i32 _).1, by first | omega | exact (sz_i32 _).2⟩ (fun (c23 : (qz_I g 193 (qz_I g 721 (1 : Int).toNat).toNat) = (84)) => ?_) (fun (c23 : ¬((qz_I g 193 (qz_I g 721 (1 : Int).toNat).toNat) = (84))) => ?_)
              · skip
                refine ez_go (n := 1) (pc' := 103) (L' := [(3, .inl (qz_I g 193 (qz_I g 721 (1 : Int).toNat).toNat)), (2, .inr (.inr (some (h.1)))), (1, .inl (pt)), (0, .inr (.inr (some (720))))]) (st' := [.inr (.inr (some (720)))]) rfl ?_
                refine ez_gC (p := 202) (tg := 48) hB1 u720z rfl rfl tq_52 rfl rfl (fun (t202 : _ = 48) => ?_)
                refine ez_go (n := 3) (pc' := 109) (L' := [(3, .inl (qz_I g 193 (qz_I g 721 (1 : Int).toNat).toNat)), (2, .inr (.inr (some (h.1)))), (1, .inl (pt)), (0, .inr (.inr (some (720))))]) (st' := [.inr (.inr (some (h.1))), .inl (qz_I g 193 (qz_I g 721 (1 : Int).toNat).toNat), .inl (pt), .inr (.inr (some (202)))]) rfl ?_
                obtain ⟨hs1, hi1⟩ := sz_same_ok hB u203 u202 (hx.1 202 (by rw [u202]; decide)).2 (hx.1 203 (by rw [u203]; decide)).2 (fun q hq => (hx.1 q (by rw [hq]; decide)).2) hs hinj
                have c1 : qz_I g 202 1 = qz_I h 202 1 := hx.I (by rw [u202]; decide) 1
                refine ez_cv hB1 t202 rfl rfl rfl tq_48 rfl rfl rfl (rd_tellFold hB1 t202 ((hx.1 _ (by rw [u203]; decide)).1.trans u203) hs1 hi1 (by omega) (by omega) (by omega) up (by omega) (by omega) (by omega) (fun g2 J hB2 hJ ht => ez_K0 ?_))
                refine ez_go (n := 1) (pc' := 113) (L' := [(3, .inl (qz_I g 193 (qz_I g 721 (1 : Int).toNat).toNat)), (2, .inr (.inr (some (h.1)))), (1, .inl (pt)), (0, .inr (.inr (some (720))))]) (st' := [.inl (1)]) rfl ?_
                exact ez_retI rfl rfl (kS g2 g τ1 pt J h.1 hB2 hB1 hx (by rw [← yl]; exact hJ) ht ept ⟨vs, rz_rw_s hc1 hc2 hrow, h.1, rfl, up, by rw [hN9, rz_rw_len (rz_rw_s hc1 hc2 hrow)], hel9⟩ ⟨by rw [← ept]; omega, (fun w => by rw [show rz_rw (rz_b h) 18 (rz_f h 2) (rz_t h 2) = some vs from rz_rw_s hc1 hc2 hrow] at w; cases w), by omega, by omega⟩)
              · skip
                refine ez_go (n := 1) (pc' := 101) (L' := [(3, .inl (qz_I g 193 (qz_I g 721 (1 : Int).toNat).toNat)), (2, .inr (.inr (some (h.1)))), (1, .inl (pt)), (0, .inr (.inr (some (720))))]) (st' := [.inl (-1)]) rfl ?_
                exact ez_retI rfl rfl (kN g τ1 hB1 hx (fun w => by obtain ⟨w1, w2, w3, w4⟩ := w; rw [← ept] at w1; omega))
      · skip
        refine ez_go (n := 1) (pc' := 63) (L' := [(2, .inr (.inr (some (h.1)))), (1, .inl (pt)), (0, .inr (.inr (some (720))))]) (st' := [.inl (-1)]) rfl ?_
        exact ez_retI rfl rfl (kN g τ1 hB1 hx (fun w => by obtain ⟨w1, w2, w3, w4⟩ := w; rw [← ept] at w1; omega))

end EzTe
/-! The class: takeSpecial, takeEntry. (Written by wip/p2/py/pv24.py.) -/
/-- what an old cell points to is old -/
theorem ez_old {τ : Nat → Nat} {h : cz_H} (hB : ez_B τ h) {r t cl k : Nat} {ti : dz_I} {lo hi : Int} {tg md : Nat} (hτ : τ r = t) (hti : tz_T t = some ti) (hk : (Nat.beq ti.1 0 && Nat.beq ti.2.1 cl) = true) (hD : dz_nth ti.2.2.2.2 k = some (3, lo, hi, tg, md)) (hm : md ≠ 2) {x : Nat} (hx : qz_I h r k = (x : Int) + 1) : τ x = tg ∧ tg ≠ 0 := by
  obtain ⟨vs, v, -, -, g1, g2, -⟩ := ez_fld hB hτ hti hk hD
  obtain ⟨-, h2⟩ := ez_slR g1 g2 rfl hm (by omega)
  have e : qz_P h r k = x := by unfold qz_P; omega
  rw [e] at h2
  exact h2
theorem nz_cd_bd (b : Int → Int) (en : Int) : ∀ (m : Nat) (a c : Int), 0 ≤ c → c ≤ 511 → -1 ≤ nz_cd b en m a c ∧ nz_cd b en m a c ≤ 511
  | 0, _, c, h0, h1 => by show -1 ≤ c ∧ c ≤ 511; omega
  | m + 1, a, c, h0, h1 => by
    unfold nz_cd
    split
    · omega
    · rename_i hn
      have k1 : nz_ck b en a < 9 := (nz_ix_bd _ nzN_1).2
      have k0 : -1 ≤ nz_ck b en a := (nz_ix_bd _ nzN_1).1
      have kn : nz_ck b en a ≠ -1 := fun w => hn (Or.inl w)
      have := cset_bd h0 h1 (k := nz_ck b en a) (by omega) k1
      exact nz_cd_bd b en m _ _ this.1 this.2
/-- LINE 1 -/
def rz_CD (b : Int → Int) (s t : Int) : Prop := nz_cd b t (rz_ct b s (t - s).toNat s) s 0 ≠ -1
def rz_G1 (b f t : Int → Int) : Prop := rz_code b (f 0) (t 0) ≠ -1 ∧ rz_ro b (f 1) (t 1) ∧ rz_ro b (f 2) (t 2) ∧ rz_ro b (f 3) (t 3) ∧ rz_CD b (f 4) (t 4)
section EzTs
variable {d : Nat} {h : cz_H} {τ : Nat → Nat} {Q : cz_F → Prop}
theorem rd_Special_init {r : Nat} (k : Q (.inl none, h)) : ez_W (d + 1) cm_186 0 [(0, .inr (.inr (some (r))))] [] h Q := by
  refine ez_go (n := 1) (pc' := 1) (L' := [(0, .inr (.inr (some (r))))]) (st' := [.inr (.inr (some (r)))]) rfl ?_
  refine ez_ob rfl rfl rfl ?_
  exact ez_ret0 rfl rfl k

theorem rd_Entry_init {r : Nat} (k : Q (.inl none, h)) : ez_W (d + 1) cm_133 0 [(0, .inr (.inr (some (r))))] [] h Q := by
  refine ez_go (n := 1) (pc' := 1) (L' := [(0, .inr (.inr (some (r))))]) (st' := [.inr (.inr (some (r)))]) rfl ?_
  refine ez_ob rfl rfl rfl ?_
  exact ez_ret0 rfl rfl k

theorem nz_Z_xt {τ τ1 : Nat → Nat} {h g : cz_H} {a b : Nat} (hZ : nz_Z h) (hz : ∀ s l, nzL s = some l → τ s = 27 ∧ τ (qz_P h s 0) = 28) (x : ez_xt τ h τ1 g a b) : nz_Z g := by
  intro s l hl
  obtain ⟨y1, y2, y3⟩ := hZ s l hl
  obtain ⟨z1, z2⟩ := hz s l hl
  have e1 := (x.1 s (by rw [z1]; decide)).2
  have e2 := (x.1 _ (by rw [z2]; decide)).2
  have e3 : qz_P g s 0 = qz_P h s 0 := by unfold qz_P qz_I; rw [e1]
  refine ⟨?_, y2, by rw [e3]; exact y3⟩
  unfold nz_S at *
  rw [e3]
  unfold qz_N qz_I at *
  rw [e2]
  exact y1
theorem rd_takeSpecial_b {g : cz_H} {τ1 : Nat → Nat} {r : Nat} (hB : ez_B τ h) (u193 : τ 193 = 45) (u202 : τ 202 = 48) (u203 : τ 203 = 49) (u720 : τ 720 = 52) (u721 : τ 721 = 53) (u722 : τ 722 = 54) (hs : sz_ok h) (hinj : sz_inj h) (hft : ∀ k, 0 ≤ k → k ≤ 4 → rz_f h k ≤ rz_t h k) (hn : qz_I h 202 1 + 2 ≤ 513) (hZ : nz_Z h) (hz27 : ∀ s l, nzL s = some l → τ s = 27 ∧ τ (qz_P h s 0) = 28) (ts1 : τ 1 = 27) (hr1 : h.1 + 4 ≤ 600192) (hr2 : h.2.1 + 59 ≤ 7302232) (hBg : ez_B τ1 g) (XB : ez_xt τ h τ1 g 4 59) (tr : τ1 r = 6) (z0 : τ r = 0) (er : r = h.1) (hl1 : qz_I g r 1 = 0 ↔ ¬ rz_ro (rz_b h) (rz_f h 1) (rz_t h 1)) (hl2 : qz_I g r 2 = 0 ↔ ¬ rz_ro (rz_b h) (rz_f h 2) (rz_t h 2)) (hl3 : qz_I g r 3 = 0 ↔ ¬ rz_ro (rz_b h) (rz_f h 3) (rz_t h 3)) (hw1 : qz_I g r 1 ≠ 0 → rw5 τ1 g (qz_I g r 1) (rz_rn (rz_b h) (rz_f h 1) (rz_t h 1))) (hw2 : qz_I g r 2 ≠ 0 → rw5 τ1 g (qz_I g r 2) (rz_rn (rz_b h) (rz_f h 2) (rz_t h 2))) (hw3 : qz_I g r 3 ≠ 0 → rw5 τ1 g (qz_I g r 3) (rz_rn (rz_b h) (rz_f h 3) (rz_t h 3))) (z4 : qz_I g r 4 = 0) {O : Nat → Int} {SP : Int → List spz} (hSP : ∀ x k, 0 ≤ x → x ≤ 1114111 → sz_at h x k → sC τ h (fun q => τ q = 6 ∧ O q = x) (SP x) (qz_I h (sz_p h k) 8)) (kN : ∀ g τ1, ez_B τ1 g → ez_xt τ h τ1 g 4 59 → ¬ rz_G1 (rz_b h) (rz_f h) (rz_t h) → Q (.inl (some (ez_v (.inl (-1)))), g)) (kS : ∀ g g1 h1 τ1 p (r : Nat) (n : spz), ez_B τ1 g → ez_B τ1 h1 → ez_B τ1 g1 → ez_xt τ h τ1 h1 4 59 → τ r = 0 → τ1 r = 6 → nod τ1 h1 r n → qz_I h1 r 4 = 0 → n = (nz_cd (rz_b h) (rz_t h 4) (rz_ct (rz_b h) (rz_f h 4) (rz_t h 4 - rz_f h 4).toNat (rz_f h 4)) (rz_f h 4) 0, rz_rn (rz_b h) (rz_f h 1) (rz_t h 1), rz_rn (rz_b h) (rz_f h 2) (rz_t h 2), rz_rn (rz_b h) (rz_f h 3) (rz_t h 3)) → p = rz_code (rz_b h) (rz_f h 0) (rz_t h 0) → ((SP p = [] ∧ sz_toldR τ1 h1 g1 p p (sz_RS 8 ((r : Int) + 1)) ∧ g = g1) ∨ (sz_toldR τ1 h1 g1 p p (sz_RS 9 0) ∧ ∃ t : Nat, (τ1 t = 6 ∧ (τ t = 6 ∧ O t = p)) ∧ (∀ y, y ≠ t → g.2.2 y = g1.2.2 y) ∧ g.1 = g1.1 ∧ g.2.1 = g1.2.1 ∧ ∀ k, sz_at h1 p k → sC τ1 g (fun y => (τ y = 6 ∧ O y = p) ∨ y = r) (SP p ++ [n]) (qz_I h1 (sz_p h1 k) 8))) → rz_G1 (rz_b h) (rz_f h) (rz_t h) → Q (.inl (some (ez_v (.inl 1))), g)) : ez_W (d + 7) cm_179 35 [(1, .inr (.inr (some (r)))), (0, .inr (.inr (some (720))))] [] g Q := by
  have n721 : 7 ≤ qz_N h 721 ∧ qz_N h 721 ≤ 7 := ez_len hB u721 tq_53 rfl
  have n722 : 7 ≤ qz_N h 722 ∧ qz_N h 722 ≤ 7 := ez_len hB u722 tq_54 rfl
  have qh0 := hft 0 (by omega) (by omega)
  have qf0 : 0 ≤ rz_f h 0 ∧ rz_f h 0 ≤ 4096 := ez_aB (i := 0) hB u721 tq_53 rfl rfl (by decide) (by omega) (by omega)
  have qt0 : 0 ≤ rz_t h 0 ∧ rz_t h 0 ≤ 4096 := ez_aB (i := 0) hB u722 tq_54 rfl rfl (by decide) (by omega) (by omega)
  have qh1 := hft 1 (by omega) (by omega)
  have qf1 : 0 ≤ rz_f h 1 ∧ rz_f h 1 ≤ 4096 := ez_aB (i := 1) hB u721 tq_53 rfl rfl (by decide) (by omega) (by omega)
  have qt1 : 0 ≤ rz_t h 1 ∧ rz_t h 1 ≤ 4096 := ez_aB (i := 1) hB u722 tq_54 rfl rfl (by decide) (by omega) (by omega)
  have qh2 := hft 2 (by omega) (by omega)
  have qf2 : 0 ≤ rz_f h 2 ∧ rz_f h 2 ≤ 4096 := ez_aB (i := 2) hB u721 tq_53 rfl rfl (by decide) (by omega) (by omega)
  have qt2 : 0 ≤ rz_t h 2 ∧ rz_t h 2 ≤ 4096 := ez_aB (i := 2) hB u722 tq_54 rfl rfl (by decide) (by omega) (by omega)
  have qh3 := hft 3 (by omega) (by omega)
  have qf3 : 0 ≤ rz_f h 3 ∧ rz_f h 3 ≤ 4096 := ez_aB (i := 3) hB u721 tq_53 rfl rfl (by decide) (by omega) (by omega)
  have qt3 : 0 ≤ rz_t h 3 ∧ rz_t h 3 ≤ 4096 := ez_aB (i := 3) hB u722 tq_54 rfl rfl (by decide) (by omega) (by omega)
  have qh4 := hft 4 (by omega) (by omega)
  have qf4 : 0 ≤ rz_f h 4 ∧ rz_f h 4 ≤ 4096 := ez_aB (i := 4) hB u721 tq_53 rfl rfl (by decide) (by omega) (by omega)
  have qt4 : 0 ≤ rz_t h 4 ∧ rz_t h 4 ≤ 4096 := ez_aB (i := 4) hB u722 tq_54 rfl rfl (by decide) (by omega) (by omega)
  have t720 := (XB.1 _ (by rw [u720]; decide)).1.trans u720
  have t202 := (XB.1 _ (by rw [u202]; decide)).1.trans u202
  have t721 := (XB.1 _ (by rw [u721]; decide)).1.trans u721
  have t722 := (XB.1 _ (by rw [u722]; decide)).1.trans u722
  have t193 := (XB.1 _ (by rw [u193]; decide)).1.trans u193
  have t203 := (XB.1 _ (by rw [u203]; decide)).1.trans u203
  refine ez_go (n := 3) (pc' := 38) (L' := [(1, .inr (.inr (some (r)))), (0, .inr (.inr (some (720))))]) (st' := [.inr (.inr (some (720))), .inr (.inr (some (720))), .inr (.inr (some (r)))]) rfl ?_
  refine ez_gC (p := 721) (tg := 53) hBg t720 rfl rfl tq_52 rfl rfl (fun (t721 : _ = 53) => ?_)
  refine ez_go (n := 1) (pc' := 42) (L' := [(1, .inr (.inr (some (r)))), (0, .inr (.inr (some (720))))]) (st' := [.inl (4), .inr (.inr (some (721))), .inr (.inr (some (720))), .inr (.inr (some (r)))]) rfl ?_
  have n2 : 7 ≤ qz_N g 721 ∧ qz_N g 721 ≤ 7 := ez_len hBg t721 tq_53 rfl
  refine ez_aI hBg t721 rfl tq_53 rfl rfl (by omega) (by omega) (fun (b1 : 0 ≤ qz_I g 721 (4 : Int).toNat) (b1' : qz_I g 721 (4 : Int).toNat ≤ 4096) => ?_)
  refine ez_go (n := 1) (pc' := 44) (L' := [(1, .inr (.inr (some (r)))), (0, .inr (.inr (some (720))))]) (st' := [.inr (.inr (some (720))), .inl (qz_I g 721 (4 : Int).toNat), .inr (.inr (some (720))), .inr (.inr (some (r)))]) rfl ?_
  refine ez_gC (p := 722) (tg := 54) hBg t720 rfl rfl tq_52 rfl rfl (fun (t722 : _ = 54) => ?_)
  refine ez_go (n := 1) (pc' := 48) (L' := [(1, .inr (.inr (some (r)))), (0, .inr (.inr (some (720))))]) (st' := [.inl (4), .inr (.inr (some (722))), .inl (qz_I g 721 (4 : Int).toNat), .inr (.inr (some (720))), .inr (.inr (some (r)))]) rfl ?_
  have n4 : 7 ≤ qz_N g 722 ∧ qz_N g 722 ≤ 7 := ez_len hBg t722 tq_54 rfl
  refine ez_aI hBg t722 rfl tq_54 rfl rfl (by omega) (by omega) (fun (b3 : 0 ≤ qz_I g 722 (4 : Int).toNat) (b3' : qz_I g 722 (4 : Int).toNat ≤ 4096) => ?_)
  obtain ⟨ab5, af5, at5⟩ := XB.bft u193 u721 u722
  have zf5 : qz_I g 721 (4 : Int).toNat = rz_f h 4 := congrFun af5 4
  have zt5 : qz_I g 722 (4 : Int).toNat = rz_t h 4 := congrFun at5 4
  have hz5 : nz_Z g := nz_Z_xt hZ hz27 XB
  refine ez_cv hBg t720 rfl rfl rfl tq_52 rfl rfl rfl (rd_readConditions hBg hz5 ((XB.1 1 (by rw [ts1]; decide)).1.trans ts1) t720 (by omega) (by omega) (by omega) (ez_K1 ?_))
  obtain ⟨v5, ev5⟩ : ∃ v, v = nz_cd (rz_b h) (rz_t h 4) (rz_ct (rz_b h) (rz_f h 4) (rz_t h 4 - rz_f h 4).toNat (rz_f h 4)) (rz_f h 4) 0 := ⟨_, rfl⟩
  have vb5 : -1 ≤ v5 ∧ v5 ≤ 511 := by rw [ev5]; exact nz_cd_bd _ _ _ _ _ (by omega) (by omega)
  rw [ab5, zf5, zt5, ← ev5]
  refine ez_pf hBg tr rfl rfl tq_6 rfl rfl rfl rfl (ez_vdI rfl rfl (by omega) (by omega)) (fun hB6 w7 => ?_)
  have qk1 : qz_I (dz_put g r 0 (ez_v (.inl (v5)))) r 1 = qz_I g r 1 := ez_put_I (fun w => absurd w.2 (by decide))
  have qk2 : qz_I (dz_put g r 0 (ez_v (.inl (v5)))) r 2 = qz_I g r 2 := ez_put_I (fun w => absurd w.2 (by decide))
  have qk3 : qz_I (dz_put g r 0 (ez_v (.inl (v5)))) r 3 = qz_I g r 3 := ez_put_I (fun w => absurd w.2 (by decide))
  have qk0 : qz_I (dz_put g r 0 (ez_v (.inl (v5)))) r 0 = v5 := w7.trans (rz_rd ⟨by omega, by omega⟩)
  refine ez_go (n := 2) (pc' := 57) (L' := [(1, .inr (.inr (some (r)))), (0, .inr (.inr (some (720))))]) (st' := [.inr (.inr (some (720))), .inr (.inr (some (720)))]) rfl ?_
  refine ez_gC (p := 721) (tg := 53) hB6 t720 rfl rfl tq_52 rfl rfl (fun (t721 : _ = 53) => ?_)
  refine ez_go (n := 1) (pc' := 61) (L' := [(1, .inr (.inr (some (r)))), (0, .inr (.inr (some (720))))]) (st' := [.inl (0), .inr (.inr (some (721))), .inr (.inr (some (720)))]) rfl ?_
  have n9 : 7 ≤ qz_N (dz_put g r 0 (ez_v (.inl (v5)))) 721 ∧ qz_N (dz_put g r 0 (ez_v (.inl (v5)))) 721 ≤ 7 := ez_len hB6 t721 tq_53 rfl
  refine ez_aI hB6 t721 rfl tq_53 rfl rfl (by omega) (by omega) (fun (b8 : 0 ≤ qz_I (dz_put g r 0 (ez_v (.inl (v5)))) 721 (0 : Int).toNat) (b8' : qz_I (dz_put g r 0 (ez_v (.inl (v5)))) 721 (0 : Int).toNat ≤ 4096) => ?_)
  refine ez_go (n := 1) (pc' := 63) (L' := [(1, .inr (.inr (some (r)))), (0, .inr (.inr (some (720))))]) (st' := [.inr (.inr (some (720))), .inl (qz_I (dz_put g r 0 (ez_v (.inl (v5)))) 721 (0 : Int).toNat), .inr (.inr (some (720)))]) rfl ?_
  refine ez_gC (p := 722) (tg := 54) hB6 t720 rfl rfl tq_52 rfl rfl (fun (t722 : _ = 54) => ?_)
  refine ez_go (n := 1) (pc' := 67) (L' := [(1, .inr (.inr (some (r)))), (0, .inr (.inr (some (720))))]) (st' := [.inl (0), .inr (.inr (some (722))), .inl (qz_I (dz_put g r 0 (ez_v (.inl (v5)))) 721 (0 : Int).toNat), .inr (.inr (some (720)))]) rfl ?_
  have n11 : 7 ≤ qz_N (dz_put g r 0 (ez_v (.inl (v5)))) 722 ∧ qz_N (dz_put g r 0 (ez_v (.inl (v5)))) 722 ≤ 7 := ez_len hB6 t722 tq_54 rfl
  refine ez_aI hB6 t722 rfl tq_54 rfl rfl (by omega) (by omega) (fun (b10 : 0 ≤ qz_I (dz_put g r 0 (ez_v (.inl (v5)))) 722 (0 : Int).toNat) (b10' : qz_I (dz_put g r 0 (ez_v (.inl (v5)))) 722 (0 : Int).toNat ≤ 4096) => ?_)
  have XF13 := XB.fr (show ez_fr (ez_one r) g (dz_put g r 0 (ez_v (.inl (v5)))) from ((ez_fr.refl (ez_one r) g).put (show Nat.beq r r = true from Nat.beq_refl _) _ _)) z0
  obtain ⟨ab12, af12, at12⟩ := XF13.bft u193 u721 u722
  have zf12 : qz_I (dz_put g r 0 (ez_v (.inl (v5)))) 721 (0 : Int).toNat = rz_f h 0 := congrFun af12 0
  have zt12 : qz_I (dz_put g r 0 (ez_v (.inl (v5)))) 722 (0 : Int).toNat = rz_t h 0 := congrFun at12 0
  have xb12 := rz_code_bd (rz_b (dz_put g r 0 (ez_v (.inl (v5))))) (qz_I (dz_put g r 0 (ez_v (.inl (v5)))) 721 (0 : Int).toNat) (qz_I (dz_put g r 0 (ez_v (.inl (v5)))) 722 (0 : Int).toNat)
  refine ez_cv hB6 t720 rfl rfl rfl tq_52 rfl rfl rfl (rd_readCode hB6 t720 (by omega) (by omega) (by omega) (ez_K1 ?_))
  obtain ⟨pt, ept⟩ : ∃ pt, pt = rz_code (rz_b h) (rz_f h 0) (rz_t h 0) := ⟨_, rfl⟩
  rw [ab12, zf12, zt12, ← ept] at xb12 ⊢
  refine ez_go (n := 3) (pc' := 74) (L' := [(2, .inl (pt)), (1, .inr (.inr (some (r)))), (0, .inr (.inr (some (720))))]) (st' := [.inl (-1), .inl (pt)]) rfl ?_
  refine ez_icmp rfl rfl ⟨by first | omega | exact (sz_i32 _).1, by first | omega | exact (sz_i32 _).2⟩ ⟨by first | omega | exact (sz_i32 _).1, by first | omega | exact (sz_i32 _).2⟩ (fun (c14 : (pt) = (-1)) => ?_) (fun (c14 : ¬((pt) = (-1))) => ?_)
  · skip
    refine ez_go (n := 1) (pc' := 86) (L' := [(2, .inl (pt)), (1, .inr (.inr (some (r)))), (0, .inr (.inr (some (720))))]) (st' := [.inl (-1)]) rfl ?_
    exact ez_retI rfl rfl (kN (dz_put g r 0 (ez_v (.inl (v5)))) τ1 hB6 (XF13.mono (by omega) (by omega)) (fun w => by obtain ⟨w0, w1, w2, w3, w4⟩ := w; unfold rz_CD at w4; rw [← ept] at w0; rw [← ev5] at w4; first | omega | exact hl1.mp (by omega) w1 | exact hl2.mp (by omega) w2 | exact hl3.mp (by omega) w3))
  · skip
    refine ez_go (n := 1) (pc' := 78) (L' := [(2, .inl (pt)), (1, .inr (.inr (some (r)))), (0, .inr (.inr (some (720))))]) (st' := [.inr (.inr (some (r)))]) rfl ?_
    refine ez_gI hB6 tr rfl rfl tq_6 rfl rfl (fun (b15 : -2147483648 ≤ qz_I (dz_put g r 0 (ez_v (.inl (v5)))) r 0) (b15' : qz_I (dz_put g r 0 (ez_v (.inl (v5)))) r 0 ≤ 2147483647) => ?_)
    refine ez_go (n := 1) (pc' := 82) (L' := [(2, .inl (pt)), (1, .inr (.inr (some (r)))), (0, .inr (.inr (some (720))))]) (st' := [.inl (-1), .inl (qz_I (dz_put g r 0 (ez_v (.inl (v5)))) r 0)]) rfl ?_
    refine ez_icmp rfl rfl ⟨by first | omega | exact (sz_i32 _).1, by first | omega | exact (sz_i32 _).2⟩ ⟨by first | omega | exact (sz_i32 _).1, by first | omega | exact (sz_i32 _).2⟩ (fun (c16 : (qz_I (dz_put g r 0 (ez_v (.inl (v5)))) r 0) ≠ (-1)) => ?_) (fun (c16 : ¬((qz_I (dz_put g r 0 (ez_v (.inl (v5)))) r 0) ≠ (-1))) => ?_)
    · skip
      refine ez_go (n := 1) (pc' := 88) (L' := [(2, .inl (pt)), (1, .inr (.inr (some (r)))), (0, .inr (.inr (some (720))))]) (st' := [.inr (.inr (some (r)))]) rfl ?_
      refine ez_gN hB6 tr rfl rfl tq_6 rfl rfl (fun (t17 : qz_I (dz_put g r 0 (ez_v (.inl (v5)))) r 1 = 0) => ?_) (fun (t17 : _ = 5) (t17' : 1 ≤ qz_I (dz_put g r 0 (ez_v (.inl (v5)))) r 1) => ?_)
      · skip
        refine ez_null0 rfl rfl ?_
        refine ez_go (n := 1) (pc' := 109) (L' := [(2, .inl (pt)), (1, .inr (.inr (some (r)))), (0, .inr (.inr (some (720))))]) (st' := [.inl (-1)]) rfl ?_
        exact ez_retI rfl rfl (kN (dz_put g r 0 (ez_v (.inl (v5)))) τ1 hB6 (XF13.mono (by omega) (by omega)) (fun w => by obtain ⟨w0, w1, w2, w3, w4⟩ := w; unfold rz_CD at w4; rw [← ept] at w0; rw [← ev5] at w4; first | omega | exact hl1.mp (by omega) w1 | exact hl2.mp (by omega) w2 | exact hl3.mp (by omega) w3))
      · skip
        refine ez_null1 rfl ?_
        refine ez_go (n := 1) (pc' := 95) (L' := [(2, .inl (pt)), (1, .inr (.inr (some (r)))), (0, .inr (.inr (some (720))))]) (st' := [.inr (.inr (some (r)))]) rfl ?_
        refine ez_gN hB6 tr rfl rfl tq_6 rfl rfl (fun (t18 : qz_I (dz_put g r 0 (ez_v (.inl (v5)))) r 2 = 0) => ?_) (fun (t18 : _ = 5) (t18' : 1 ≤ qz_I (dz_put g r 0 (ez_v (.inl (v5)))) r 2) => ?_)
        · skip
          refine ez_null0 rfl rfl ?_
          refine ez_go (n := 1) (pc' := 109) (L' := [(2, .inl (pt)), (1, .inr (.inr (some (r)))), (0, .inr (.inr (some (720))))]) (st' := [.inl (-1)]) rfl ?_
          exact ez_retI rfl rfl (kN (dz_put g r 0 (ez_v (.inl (v5)))) τ1 hB6 (XF13.mono (by omega) (by omega)) (fun w => by obtain ⟨w0, w1, w2, w3, w4⟩ := w; unfold rz_CD at w4; rw [← ept] at w0; rw [← ev5] at w4; first | omega | exact hl1.mp (by omega) w1 | exact hl2.mp (by omega) w2 | exact hl3.mp (by omega) w3))
        · skip
          refine ez_null1 rfl ?_
          refine ez_go (n := 1) (pc' := 102) (L' := [(2, .inl (pt)), (1, .inr (.inr (some (r)))), (0, .inr (.inr (some (720))))]) (st' := [.inr (.inr (some (r)))]) rfl ?_
          refine ez_gN hB6 tr rfl rfl tq_6 rfl rfl (fun (t19 : qz_I (dz_put g r 0 (ez_v (.inl (v5)))) r 3 = 0) => ?_) (fun (t19 : _ = 5) (t19' : 1 ≤ qz_I (dz_put g r 0 (ez_v (.inl (v5)))) r 3) => ?_)
          · skip
            refine ez_nonn0 rfl ?_
            refine ez_go (n := 1) (pc' := 109) (L' := [(2, .inl (pt)), (1, .inr (.inr (some (r)))), (0, .inr (.inr (some (720))))]) (st' := [.inl (-1)]) rfl ?_
            exact ez_retI rfl rfl (kN (dz_put g r 0 (ez_v (.inl (v5)))) τ1 hB6 (XF13.mono (by omega) (by omega)) (fun w => by obtain ⟨w0, w1, w2, w3, w4⟩ := w; unfold rz_CD at w4; rw [← ept] at w0; rw [← ev5] at w4; first | omega | exact hl1.mp (by omega) w1 | exact hl2.mp (by omega) w2 | exact hl3.mp (by omega) w3))
          · skip
            refine ez_nonn1 rfl rfl ?_
            refine ez_go (n := 1) (pc' := 111) (L' := [(2, .inl (pt)), (1, .inr (.inr (some (r)))), (0, .inr (.inr (some (720))))]) (st' := [.inr (.inr (some (720)))]) rfl ?_
            refine ez_gC (p := 202) (tg := 48) hB6 t720 rfl rfl tq_52 rfl rfl (fun (t202 : _ = 48) => ?_)
            refine ez_go (n := 2) (pc' := 116) (L' := [(2, .inl (pt)), (1, .inr (.inr (some (r)))), (0, .inr (.inr (some (720))))]) (st' := [.inr (.inr (some (r))), .inl (pt), .inr (.inr (some (202)))]) rfl ?_
            obtain ⟨hs1, hi1⟩ := sz_same_ok hB u203 u202 (XF13.1 202 (by rw [u202]; decide)).2 (XF13.1 203 (by rw [u203]; decide)).2 (fun q hq => (XF13.1 q (by rw [hq]; decide)).2) hs hinj
            have cc1 : qz_I (dz_put g r 0 (ez_v (.inl (v5)))) 202 1 = qz_I h 202 1 := XF13.I (by rw [u202]; decide) 1
            obtain ⟨sm1, sm2, sm3⟩ := sz_same hB u203 u202 (g := (dz_put g r 0 (ez_v (.inl (v5))))) (XF13.1 202 (by rw [u202]; decide)).2 (XF13.1 203 (by rw [u203]; decide)).2 (fun q hq => (XF13.1 q (by rw [hq]; decide)).2)
            have bn := sz_R_n1 hB u202
            have c5 : ∀ y, τ1 y = 5 → τ1 y = 5 ∧ ((dz_put g r 0 (ez_v (.inl (v5))))).2.2 y = g.2.2 y := fun y hy => ⟨hy, qz_put_at _ _ _ _ (fun e => by rw [e, tr] at hy; cases hy)⟩
            have nd : nod τ1 ((dz_put g r 0 (ez_v (.inl (v5))))) r (v5, rz_rn (rz_b h) (rz_f h 1) (rz_t h 1), rz_rn (rz_b h) (rz_f h 2) (rz_t h 2), rz_rn (rz_b h) (rz_f h 3) (rz_t h 3)) := ⟨tr, qk0, by rw [qk1]; exact (hw1 (by omega)).tr c5, by rw [qk2]; exact (hw2 (by omega)).tr c5, by rw [qk3]; exact (hw3 (by omega)).tr c5⟩
            have z49 : qz_I ((dz_put g r 0 (ez_v (.inl (v5))))) r 4 = 0 := (ez_put_I (fun w => absurd w.2 (by decide))).trans z4
            have pt0 : 0 ≤ pt ∧ pt ≤ 1114111 := by omega
            refine ez_cv hB6 t202 rfl rfl rfl tq_48 rfl rfl rfl (rd_tellSpecial (P := fun q => τ q = 6 ∧ O q = pt) (L0 := SP pt) hB6 t202 t203 hs1 hi1 (by omega) (by omega) (by omega) tr (by omega) (fun q hq => ?_) nd z49 (fun k hk => ?_) (fun ga gb hBb hBa ht => ez_K0 ?_))
            · have := dz_here_lt (hB.1 q (by rw [hq.1]; decide)).1; omega
            · have k0 := hk.1
              have k1 := hk.2.1
              have hk2 : sz_at h pt k := by
                obtain ⟨d0, d1, d2, d3⟩ := hk
                rw [sm3] at d1 d3
                unfold sz_f at d2 d3
                refine ⟨d0, d1, ?_, fun w => ?_⟩
                · unfold sz_f; rw [← sm2 k d0 (by omega)]; exact d2
                · unfold sz_f; rw [← sm2 (k + 1) (by omega) (by omega)]; exact d3 w
              rw [sm2 k k0 (by omega)]
              exact sC.tr (fun _ _ w => w) (fun q hq => XF13.1 q (by rcases hq with w | w; (· rw [w]; decide); (· rw [w.1]; decide))) (hSP pt k pt0.1 pt0.2 hk2)
            · skip
              refine ez_go (n := 1) (pc' := 120) (L' := [(2, .inl (pt)), (1, .inr (.inr (some (r)))), (0, .inr (.inr (some (720))))]) (st' := [.inl (1)]) rfl ?_
              exact ez_retI rfl rfl (kS gb ga (dz_put g r 0 (ez_v (.inl (v5)))) τ1 pt r _ hBb hB6 hBa (XF13.mono (by omega) (by omega)) z0 tr nd z49 (by rw [ev5]) ept ht ⟨by rw [← ept]; omega, Classical.byContradiction fun w => by have := hl1.mpr w; omega, Classical.byContradiction fun w => by have := hl2.mpr w; omega, Classical.byContradiction fun w => by have := hl3.mpr w; omega, by unfold rz_CD; rw [← ev5]; omega⟩)
    · skip
      refine ez_go (n := 1) (pc' := 86) (L' := [(2, .inl (pt)), (1, .inr (.inr (some (r)))), (0, .inr (.inr (some (720))))]) (st' := [.inl (-1)]) rfl ?_
      exact ez_retI rfl rfl (kN (dz_put g r 0 (ez_v (.inl (v5)))) τ1 hB6 (XF13.mono (by omega) (by omega)) (fun w => by obtain ⟨w0, w1, w2, w3, w4⟩ := w; unfold rz_CD at w4; rw [← ept] at w0; rw [← ev5] at w4; first | omega | exact hl1.mp (by omega) w1 | exact hl2.mp (by omega) w2 | exact hl3.mp (by omega) w3))

theorem rd_takeSpecial (hB : ez_B τ h) (u193 : τ 193 = 45) (u202 : τ 202 = 48) (u203 : τ 203 = 49) (u720 : τ 720 = 52) (u721 : τ 721 = 53) (u722 : τ 722 = 54) (hs : sz_ok h) (hinj : sz_inj h) (hft : ∀ k, 0 ≤ k → k ≤ 4 → rz_f h k ≤ rz_t h k) (hn : qz_I h 202 1 + 2 ≤ 513) (hZ : nz_Z h) (hz27 : ∀ s l, nzL s = some l → τ s = 27 ∧ τ (qz_P h s 0) = 28) (ts1 : τ 1 = 27) (hr1 : h.1 + 4 ≤ 600192) (hr2 : h.2.1 + 59 ≤ 7302232) {O : Nat → Int} {SP : Int → List spz} (hSP : ∀ x k, 0 ≤ x → x ≤ 1114111 → sz_at h x k → sC τ h (fun q => τ q = 6 ∧ O q = x) (SP x) (qz_I h (sz_p h k) 8)) (kN : ∀ g τ1, ez_B τ1 g → ez_xt τ h τ1 g 4 59 → ¬ rz_G1 (rz_b h) (rz_f h) (rz_t h) → Q (.inl (some (ez_v (.inl (-1)))), g)) (kS : ∀ g g1 h1 τ1 p (r : Nat) (n : spz), ez_B τ1 g → ez_B τ1 h1 → ez_B τ1 g1 → ez_xt τ h τ1 h1 4 59 → τ r = 0 → τ1 r = 6 → nod τ1 h1 r n → qz_I h1 r 4 = 0 → n = (nz_cd (rz_b h) (rz_t h 4) (rz_ct (rz_b h) (rz_f h 4) (rz_t h 4 - rz_f h 4).toNat (rz_f h 4)) (rz_f h 4) 0, rz_rn (rz_b h) (rz_f h 1) (rz_t h 1), rz_rn (rz_b h) (rz_f h 2) (rz_t h 2), rz_rn (rz_b h) (rz_f h 3) (rz_t h 3)) → p = rz_code (rz_b h) (rz_f h 0) (rz_t h 0) → ((SP p = [] ∧ sz_toldR τ1 h1 g1 p p (sz_RS 8 ((r : Int) + 1)) ∧ g = g1) ∨ (sz_toldR τ1 h1 g1 p p (sz_RS 9 0) ∧ ∃ t : Nat, (τ1 t = 6 ∧ (τ t = 6 ∧ O t = p)) ∧ (∀ y, y ≠ t → g.2.2 y = g1.2.2 y) ∧ g.1 = g1.1 ∧ g.2.1 = g1.2.1 ∧ ∀ k, sz_at h1 p k → sC τ1 g (fun y => (τ y = 6 ∧ O y = p) ∨ y = r) (SP p ++ [n]) (qz_I h1 (sz_p h1 k) 8))) → rz_G1 (rz_b h) (rz_f h) (rz_t h) → Q (.inl (some (ez_v (.inl 1))), g)) : ez_W (d + 7) cm_179 0 [(0, .inr (.inr (some (720))))] [] h Q := by
  have n721 : 7 ≤ qz_N h 721 ∧ qz_N h 721 ≤ 7 := ez_len hB u721 tq_53 rfl
  have n722 : 7 ≤ qz_N h 722 ∧ qz_N h 722 ≤ 7 := ez_len hB u722 tq_54 rfl
  have qh0 := hft 0 (by omega) (by omega)
  have qf0 : 0 ≤ rz_f h 0 ∧ rz_f h 0 ≤ 4096 := ez_aB (i := 0) hB u721 tq_53 rfl rfl (by decide) (by omega) (by omega)
  have qt0 : 0 ≤ rz_t h 0 ∧ rz_t h 0 ≤ 4096 := ez_aB (i := 0) hB u722 tq_54 rfl rfl (by decide) (by omega) (by omega)
  have qh1 := hft 1 (by omega) (by omega)
  have qf1 : 0 ≤ rz_f h 1 ∧ rz_f h 1 ≤ 4096 := ez_aB (i := 1) hB u721 tq_53 rfl rfl (by decide) (by omega) (by omega)
  have qt1 : 0 ≤ rz_t h 1 ∧ rz_t h 1 ≤ 4096 := ez_aB (i := 1) hB u722 tq_54 rfl rfl (by decide) (by omega) (by omega)
  have qh2 := hft 2 (by omega) (by omega)
  have qf2 : 0 ≤ rz_f h 2 ∧ rz_f h 2 ≤ 4096 := ez_aB (i := 2) hB u721 tq_53 rfl rfl (by decide) (by omega) (by omega)
  have qt2 : 0 ≤ rz_t h 2 ∧ rz_t h 2 ≤ 4096 := ez_aB (i := 2) hB u722 tq_54 rfl rfl (by decide) (by omega) (by omega)
  have qh3 := hft 3 (by omega) (by omega)
  have qf3 : 0 ≤ rz_f h 3 ∧ rz_f h 3 ≤ 4096 := ez_aB (i := 3) hB u721 tq_53 rfl rfl (by decide) (by omega) (by omega)
  have qt3 : 0 ≤ rz_t h 3 ∧ rz_t h 3 ≤ 4096 := ez_aB (i := 3) hB u722 tq_54 rfl rfl (by decide) (by omega) (by omega)
  have qh4 := hft 4 (by omega) (by omega)
  have qf4 : 0 ≤ rz_f h 4 ∧ rz_f h 4 ≤ 4096 := ez_aB (i := 4) hB u721 tq_53 rfl rfl (by decide) (by omega) (by omega)
  have qt4 : 0 ≤ rz_t h 4 ∧ rz_t h 4 ≤ 4096 := ez_aB (i := 4) hB u722 tq_54 rfl rfl (by decide) (by omega) (by omega)
  refine ez_nw' (t := 6) hB rfl rfl rfl tq_6 rfl rfl (by omega) (by show h.2.1 + 5 ≤ 7302232; omega) (fun g1 τ1 p1 hB1 x1 o1 t1 z1 e1 y1 => ?_)
  have x1 : ez_xt τ h τ1 g1 1 5 := x1
  have c1 := x1.2
  have u720n1 := (x1.1 _ (by rw [u720]; decide)).1.trans u720
  have u202n1 := (x1.1 _ (by rw [u202]; decide)).1.trans u202
  have u721n1 := (x1.1 _ (by rw [u721]; decide)).1.trans u721
  have u722n1 := (x1.1 _ (by rw [u722]; decide)).1.trans u722
  have u193n1 := (x1.1 _ (by rw [u193]; decide)).1.trans u193
  have u203n1 := (x1.1 _ (by rw [u203]; decide)).1.trans u203
  have f4_1 : qz_I g1 p1 4 = 0 := y1 4
  refine ez_go (n := 1) (pc' := 4) (L' := [(0, .inr (.inr (some (720))))]) (st' := [.inr (.inr (some (p1))), .inr (.inr (some (p1)))]) rfl ?_
  refine ez_ci hB1.2.1 rfl rfl rfl rfl rfl rfl (rd_Special_init (ez_K0 ?_))
  refine ez_go (n := 4) (pc' := 11) (L' := [(1, .inr (.inr (some (p1)))), (0, .inr (.inr (some (720))))]) (st' := [.inl (1), .inr (.inr (some (720))), .inr (.inr (some (p1)))]) rfl ?_
  obtain ⟨ab2, af2, at2⟩ := x1.bft u193 u721 u722
  have hc2 := x1.2
  refine ez_cv hB1 u720n1 rfl rfl rfl tq_52 rfl rfl rfl (rd_readRowOrNothing hB1 u720n1 u193n1 (by omega) (by omega) (by rw [af2, at2]; exact hft 1 (by omega) (by omega)) (by omega) (by omega) (fun o2 g2 τ2 hB2 x2 ho2 hi2 hw2 => ez_KA ?_))
  rw [ab2, af2, at2] at hi2
  have X2 := x1.trans x2
  rcases o2 with _ | q2
  · skip
    have u720n1k2 := (x2.1 _ (by rw [u720n1]; decide)).1.trans u720n1
    have u202n1k2 := (x2.1 _ (by rw [u202n1]; decide)).1.trans u202n1
    have u721n1k2 := (x2.1 _ (by rw [u721n1]; decide)).1.trans u721n1
    have u722n1k2 := (x2.1 _ (by rw [u722n1]; decide)).1.trans u722n1
    have u193n1k2 := (x2.1 _ (by rw [u193n1]; decide)).1.trans u193n1
    have u203n1k2 := (x2.1 _ (by rw [u203n1]; decide)).1.trans u203n1
    have t1k2 := (x2.1 _ (by rw [t1]; decide)).1.trans t1
    have ro1 : ¬ rz_ro (rz_b h) (rz_f h 1) (rz_t h 1) := hi2.mp rfl
    have f4_1_2 : qz_I g2 p1 4 = 0 := (x2.I (by rw [t1]; decide) 4).trans f4_1
    refine ez_pf hB2 t1k2 rfl rfl tq_6 rfl rfl rfl rfl (ez_vdN rfl) (fun hB3 w4 => ?_)
    have f4_1_2_p : qz_I (dz_put g2 p1 1 (ez_v (.inr (.inr none)))) p1 4 = 0 := (ez_put_I (fun w => absurd w.2 (by decide))).trans f4_1_2
    have pf5 : qz_I (dz_put g2 p1 1 (ez_v (.inr (.inr none)))) p1 1 = 0 := w4
    refine ez_go (n := 3) (pc' := 20) (L' := [(1, .inr (.inr (some (p1)))), (0, .inr (.inr (some (720))))]) (st' := [.inl (2), .inr (.inr (some (720))), .inr (.inr (some (p1)))]) rfl ?_
    have XF7 := X2.fr (show ez_fr (ez_one p1) g2 (dz_put g2 p1 1 (ez_v (.inr (.inr none)))) from ((ez_fr.refl (ez_one p1) g2).put (show Nat.beq p1 p1 = true from Nat.beq_refl _) _ _)) z1
    obtain ⟨ab6, af6, at6⟩ := XF7.bft u193 u721 u722
    have hc6 := XF7.2
    refine ez_cv hB3 u720n1k2 rfl rfl rfl tq_52 rfl rfl rfl (rd_readRowOrNothing hB3 u720n1k2 u193n1k2 (by omega) (by omega) (by rw [af6, at6]; exact hft 2 (by omega) (by omega)) (by omega) (by omega) (fun o6 g6 τ6 hB6 x6 ho6 hi6 hw6 => ez_KA ?_))
    rw [ab6, af6, at6] at hi6
    have X6 := XF7.trans x6
    rcases o6 with _ | q6
    · skip
      have u720n1k2k6 := (x6.1 _ (by rw [u720n1k2]; decide)).1.trans u720n1k2
      have u202n1k2k6 := (x6.1 _ (by rw [u202n1k2]; decide)).1.trans u202n1k2
      have u721n1k2k6 := (x6.1 _ (by rw [u721n1k2]; decide)).1.trans u721n1k2
      have u722n1k2k6 := (x6.1 _ (by rw [u722n1k2]; decide)).1.trans u722n1k2
      have u193n1k2k6 := (x6.1 _ (by rw [u193n1k2]; decide)).1.trans u193n1k2
      have u203n1k2k6 := (x6.1 _ (by rw [u203n1k2]; decide)).1.trans u203n1k2
      have t1k2k6 := (x6.1 _ (by rw [t1k2]; decide)).1.trans t1k2
      have ro2 : ¬ rz_ro (rz_b h) (rz_f h 2) (rz_t h 2) := hi6.mp rfl
      have f4_1_2_p_6 : qz_I g6 p1 4 = 0 := (x6.I (by rw [t1k2]; decide) 4).trans f4_1_2_p
      have pf5_6 : qz_I g6 p1 1 = 0 := (x6.I (by rw [t1k2]; decide) 1).trans pf5
      refine ez_pf hB6 t1k2k6 rfl rfl tq_6 rfl rfl rfl rfl (ez_vdN rfl) (fun hB8 w9 => ?_)
      have f4_1_2_p_6_p : qz_I (dz_put g6 p1 2 (ez_v (.inr (.inr none)))) p1 4 = 0 := (ez_put_I (fun w => absurd w.2 (by decide))).trans f4_1_2_p_6
      have pf5_6_p : qz_I (dz_put g6 p1 2 (ez_v (.inr (.inr none)))) p1 1 = 0 := (ez_put_I (fun w => absurd w.2 (by decide))).trans pf5_6
      have pf10 : qz_I (dz_put g6 p1 2 (ez_v (.inr (.inr none)))) p1 2 = 0 := w9
      refine ez_go (n := 3) (pc' := 29) (L' := [(1, .inr (.inr (some (p1)))), (0, .inr (.inr (some (720))))]) (st' := [.inl (3), .inr (.inr (some (720))), .inr (.inr (some (p1)))]) rfl ?_
      have XF12 := X6.fr (show ez_fr (ez_one p1) g6 (dz_put g6 p1 2 (ez_v (.inr (.inr none)))) from ((ez_fr.refl (ez_one p1) g6).put (show Nat.beq p1 p1 = true from Nat.beq_refl _) _ _)) z1
      obtain ⟨ab11, af11, at11⟩ := XF12.bft u193 u721 u722
      have hc11 := XF12.2
      refine ez_cv hB8 u720n1k2k6 rfl rfl rfl tq_52 rfl rfl rfl (rd_readRowOrNothing hB8 u720n1k2k6 u193n1k2k6 (by omega) (by omega) (by rw [af11, at11]; exact hft 3 (by omega) (by omega)) (by omega) (by omega) (fun o11 g11 τ11 hB11 x11 ho11 hi11 hw11 => ez_KA ?_))
      rw [ab11, af11, at11] at hi11
      have X11 := XF12.trans x11
      rcases o11 with _ | q11
      · skip
        have u720n1k2k6k11 := (x11.1 _ (by rw [u720n1k2k6]; decide)).1.trans u720n1k2k6
        have u202n1k2k6k11 := (x11.1 _ (by rw [u202n1k2k6]; decide)).1.trans u202n1k2k6
        have u721n1k2k6k11 := (x11.1 _ (by rw [u721n1k2k6]; decide)).1.trans u721n1k2k6
        have u722n1k2k6k11 := (x11.1 _ (by rw [u722n1k2k6]; decide)).1.trans u722n1k2k6
        have u193n1k2k6k11 := (x11.1 _ (by rw [u193n1k2k6]; decide)).1.trans u193n1k2k6
        have u203n1k2k6k11 := (x11.1 _ (by rw [u203n1k2k6]; decide)).1.trans u203n1k2k6
        have t1k2k6k11 := (x11.1 _ (by rw [t1k2k6]; decide)).1.trans t1k2k6
        have ro3 : ¬ rz_ro (rz_b h) (rz_f h 3) (rz_t h 3) := hi11.mp rfl
        have f4_1_2_p_6_p_11 : qz_I g11 p1 4 = 0 := (x11.I (by rw [t1k2k6]; decide) 4).trans f4_1_2_p_6_p
        have pf5_6_p_11 : qz_I g11 p1 1 = 0 := (x11.I (by rw [t1k2k6]; decide) 1).trans pf5_6_p
        have pf10_11 : qz_I g11 p1 2 = 0 := (x11.I (by rw [t1k2k6]; decide) 2).trans pf10
        refine ez_pf hB11 t1k2k6k11 rfl rfl tq_6 rfl rfl rfl rfl (ez_vdN rfl) (fun hB13 w14 => ?_)
        have f4_1_2_p_6_p_11_p : qz_I (dz_put g11 p1 3 (ez_v (.inr (.inr none)))) p1 4 = 0 := (ez_put_I (fun w => absurd w.2 (by decide))).trans f4_1_2_p_6_p_11
        have pf5_6_p_11_p : qz_I (dz_put g11 p1 3 (ez_v (.inr (.inr none)))) p1 1 = 0 := (ez_put_I (fun w => absurd w.2 (by decide))).trans pf5_6_p_11
        have pf10_11_p : qz_I (dz_put g11 p1 3 (ez_v (.inr (.inr none)))) p1 2 = 0 := (ez_put_I (fun w => absurd w.2 (by decide))).trans pf10_11
        have pf15 : qz_I (dz_put g11 p1 3 (ez_v (.inr (.inr none)))) p1 3 = 0 := w14
        have XF16 := X11.fr (show ez_fr (ez_one p1) g11 (dz_put g11 p1 3 (ez_v (.inr (.inr none)))) from ((ez_fr.refl (ez_one p1) g11).put (show Nat.beq p1 p1 = true from Nat.beq_refl _) _ _)) z1
        refine ez_less [(1, .inr (.inr (some (p1)))), (0, .inr (.inr (some (720))))] rfl ⟨rfl, rfl, trivial⟩ ?_
        exact rd_takeSpecial_b hB u193 u202 u203 u720 u721 u722 hs hinj hft hn hZ hz27 ts1 hr1 hr2 hB13 (XF16.mono (by omega) (by omega)) t1k2k6k11 z1 e1 ⟨fun _ => ro1, fun _ => pf5_6_p_11_p⟩ ⟨fun _ => ro2, fun _ => pf10_11_p⟩ ⟨fun _ => ro3, fun _ => pf15⟩ (fun w => absurd pf5_6_p_11_p w) (fun w => absurd pf10_11_p w) (fun w => absurd pf15 w) f4_1_2_p_6_p_11_p hSP kN kS
      · skip
        have u720n1k2k6k11 := (x11.1 _ (by rw [u720n1k2k6]; decide)).1.trans u720n1k2k6
        have u202n1k2k6k11 := (x11.1 _ (by rw [u202n1k2k6]; decide)).1.trans u202n1k2k6
        have u721n1k2k6k11 := (x11.1 _ (by rw [u721n1k2k6]; decide)).1.trans u721n1k2k6
        have u722n1k2k6k11 := (x11.1 _ (by rw [u722n1k2k6]; decide)).1.trans u722n1k2k6
        have u193n1k2k6k11 := (x11.1 _ (by rw [u193n1k2k6]; decide)).1.trans u193n1k2k6
        have u203n1k2k6k11 := (x11.1 _ (by rw [u203n1k2k6]; decide)).1.trans u203n1k2k6
        have t1k2k6k11 := (x11.1 _ (by rw [t1k2k6]; decide)).1.trans t1k2k6
        have ro3 : rz_ro (rz_b h) (rz_f h 3) (rz_t h 3) := Classical.byContradiction fun w => by cases hi11.mpr w
        have wr11 : rw5 τ11 g11 ((q11 : Int) + 1) (rz_rn (rz_b h) (rz_f h 3) (rz_t h 3)) := by have w := hw11 q11 rfl; rw [ab11, af11, at11] at w; exact w
        have f4_1_2_p_6_p_11 : qz_I g11 p1 4 = 0 := (x11.I (by rw [t1k2k6]; decide) 4).trans f4_1_2_p_6_p
        have pf5_6_p_11 : qz_I g11 p1 1 = 0 := (x11.I (by rw [t1k2k6]; decide) 1).trans pf5_6_p
        have pf10_11 : qz_I g11 p1 2 = 0 := (x11.I (by rw [t1k2k6]; decide) 2).trans pf10
        have tq11 := (ho11 _ rfl).1
        have lq11 := dz_here_lt (hB11.1 _ (by rw [tq11]; decide)).1
        have lc11 := X11.2
        refine ez_pf hB11 t1k2k6k11 rfl rfl tq_6 rfl rfl rfl rfl (ez_vdR rfl tq11 (by omega) (by omega)) (fun hB17 w18 => ?_)
        have f4_1_2_p_6_p_11_p : qz_I (dz_put g11 p1 3 (ez_v (.inr (.inr (some (q11)))))) p1 4 = 0 := (ez_put_I (fun w => absurd w.2 (by decide))).trans f4_1_2_p_6_p_11
        have pf5_6_p_11_p : qz_I (dz_put g11 p1 3 (ez_v (.inr (.inr (some (q11)))))) p1 1 = 0 := (ez_put_I (fun w => absurd w.2 (by decide))).trans pf5_6_p_11
        have pf10_11_p : qz_I (dz_put g11 p1 3 (ez_v (.inr (.inr (some (q11)))))) p1 2 = 0 := (ez_put_I (fun w => absurd w.2 (by decide))).trans pf10_11
        have wr11_p : rw5 τ11 (dz_put g11 p1 3 (ez_v (.inr (.inr (some (q11)))))) ((q11 : Int) + 1) (rz_rn (rz_b h) (rz_f h 3) (rz_t h 3)) := wr11.tr (fun y hy => ⟨hy, qz_put_at _ _ _ _ (fun e => by rw [e, t1k2k6k11] at hy; cases hy)⟩)
        have pf19 : qz_I (dz_put g11 p1 3 (ez_v (.inr (.inr (some (q11)))))) p1 3 = (q11 : Int) + 1 := w18
        have XF20 := X11.fr (show ez_fr (ez_one p1) g11 (dz_put g11 p1 3 (ez_v (.inr (.inr (some (q11)))))) from ((ez_fr.refl (ez_one p1) g11).put (show Nat.beq p1 p1 = true from Nat.beq_refl _) _ _)) z1
        refine ez_less [(1, .inr (.inr (some (p1)))), (0, .inr (.inr (some (720))))] rfl ⟨rfl, rfl, trivial⟩ ?_
        exact rd_takeSpecial_b hB u193 u202 u203 u720 u721 u722 hs hinj hft hn hZ hz27 ts1 hr1 hr2 hB17 (XF20.mono (by omega) (by omega)) t1k2k6k11 z1 e1 ⟨fun _ => ro1, fun _ => pf5_6_p_11_p⟩ ⟨fun _ => ro2, fun _ => pf10_11_p⟩ ⟨fun w => (by omega), fun w => absurd ro3 w⟩ (fun w => absurd pf5_6_p_11_p w) (fun w => absurd pf10_11_p w) (fun _ => by rw [pf19]; exact wr11_p) f4_1_2_p_6_p_11_p hSP kN kS
    · skip
      have u720n1k2k6 := (x6.1 _ (by rw [u720n1k2]; decide)).1.trans u720n1k2
      have u202n1k2k6 := (x6.1 _ (by rw [u202n1k2]; decide)).1.trans u202n1k2
      have u721n1k2k6 := (x6.1 _ (by rw [u721n1k2]; decide)).1.trans u721n1k2
      have u722n1k2k6 := (x6.1 _ (by rw [u722n1k2]; decide)).1.trans u722n1k2
      have u193n1k2k6 := (x6.1 _ (by rw [u193n1k2]; decide)).1.trans u193n1k2
      have u203n1k2k6 := (x6.1 _ (by rw [u203n1k2]; decide)).1.trans u203n1k2
      have t1k2k6 := (x6.1 _ (by rw [t1k2]; decide)).1.trans t1k2
      have ro2 : rz_ro (rz_b h) (rz_f h 2) (rz_t h 2) := Classical.byContradiction fun w => by cases hi6.mpr w
      have wr6 : rw5 τ6 g6 ((q6 : Int) + 1) (rz_rn (rz_b h) (rz_f h 2) (rz_t h 2)) := by have w := hw6 q6 rfl; rw [ab6, af6, at6] at w; exact w
      have f4_1_2_p_6 : qz_I g6 p1 4 = 0 := (x6.I (by rw [t1k2]; decide) 4).trans f4_1_2_p
      have pf5_6 : qz_I g6 p1 1 = 0 := (x6.I (by rw [t1k2]; decide) 1).trans pf5
      have tq6 := (ho6 _ rfl).1
      have lq6 := dz_here_lt (hB6.1 _ (by rw [tq6]; decide)).1
      have lc6 := X6.2
      refine ez_pf hB6 t1k2k6 rfl rfl tq_6 rfl rfl rfl rfl (ez_vdR rfl tq6 (by omega) (by omega)) (fun hB21 w22 => ?_)
      have f4_1_2_p_6_p : qz_I (dz_put g6 p1 2 (ez_v (.inr (.inr (some (q6)))))) p1 4 = 0 := (ez_put_I (fun w => absurd w.2 (by decide))).trans f4_1_2_p_6
      have pf5_6_p : qz_I (dz_put g6 p1 2 (ez_v (.inr (.inr (some (q6)))))) p1 1 = 0 := (ez_put_I (fun w => absurd w.2 (by decide))).trans pf5_6
      have wr6_p : rw5 τ6 (dz_put g6 p1 2 (ez_v (.inr (.inr (some (q6)))))) ((q6 : Int) + 1) (rz_rn (rz_b h) (rz_f h 2) (rz_t h 2)) := wr6.tr (fun y hy => ⟨hy, qz_put_at _ _ _ _ (fun e => by rw [e, t1k2k6] at hy; cases hy)⟩)
      have pf23 : qz_I (dz_put g6 p1 2 (ez_v (.inr (.inr (some (q6)))))) p1 2 = (q6 : Int) + 1 := w22
      refine ez_go (n := 3) (pc' := 29) (L' := [(1, .inr (.inr (some (p1)))), (0, .inr (.inr (some (720))))]) (st' := [.inl (3), .inr (.inr (some (720))), .inr (.inr (some (p1)))]) rfl ?_
      have XF25 := X6.fr (show ez_fr (ez_one p1) g6 (dz_put g6 p1 2 (ez_v (.inr (.inr (some (q6)))))) from ((ez_fr.refl (ez_one p1) g6).put (show Nat.beq p1 p1 = true from Nat.beq_refl _) _ _)) z1
      obtain ⟨ab24, af24, at24⟩ := XF25.bft u193 u721 u722
      have hc24 := XF25.2
      refine ez_cv hB21 u720n1k2k6 rfl rfl rfl tq_52 rfl rfl rfl (rd_readRowOrNothing hB21 u720n1k2k6 u193n1k2k6 (by omega) (by omega) (by rw [af24, at24]; exact hft 3 (by omega) (by omega)) (by omega) (by omega) (fun o24 g24 τ24 hB24 x24 ho24 hi24 hw24 => ez_KA ?_))
      rw [ab24, af24, at24] at hi24
      have X24 := XF25.trans x24
      rcases o24 with _ | q24
      · skip
        have u720n1k2k6k24 := (x24.1 _ (by rw [u720n1k2k6]; decide)).1.trans u720n1k2k6
        have u202n1k2k6k24 := (x24.1 _ (by rw [u202n1k2k6]; decide)).1.trans u202n1k2k6
        have u721n1k2k6k24 := (x24.1 _ (by rw [u721n1k2k6]; decide)).1.trans u721n1k2k6
        have u722n1k2k6k24 := (x24.1 _ (by rw [u722n1k2k6]; decide)).1.trans u722n1k2k6
        have u193n1k2k6k24 := (x24.1 _ (by rw [u193n1k2k6]; decide)).1.trans u193n1k2k6
        have u203n1k2k6k24 := (x24.1 _ (by rw [u203n1k2k6]; decide)).1.trans u203n1k2k6
        have t1k2k6k24 := (x24.1 _ (by rw [t1k2k6]; decide)).1.trans t1k2k6
        have tq6k24 := (x24.1 _ (by rw [tq6]; decide)).1.trans tq6
        have ro3 : ¬ rz_ro (rz_b h) (rz_f h 3) (rz_t h 3) := hi24.mp rfl
        have wr6_p_24 : rw5 τ24 g24 ((q6 : Int) + 1) (rz_rn (rz_b h) (rz_f h 2) (rz_t h 2)) := wr6_p.tr (fun y hy => ⟨(x24.1 y (by rw [hy]; decide)).1.trans hy, (x24.1 y (by rw [hy]; decide)).2⟩)
        have f4_1_2_p_6_p_24 : qz_I g24 p1 4 = 0 := (x24.I (by rw [t1k2k6]; decide) 4).trans f4_1_2_p_6_p
        have pf5_6_p_24 : qz_I g24 p1 1 = 0 := (x24.I (by rw [t1k2k6]; decide) 1).trans pf5_6_p
        have pf23_24 : qz_I g24 p1 2 = (q6 : Int) + 1 := (x24.I (by rw [t1k2k6]; decide) 2).trans pf23
        refine ez_pf hB24 t1k2k6k24 rfl rfl tq_6 rfl rfl rfl rfl (ez_vdN rfl) (fun hB26 w27 => ?_)
        have f4_1_2_p_6_p_24_p : qz_I (dz_put g24 p1 3 (ez_v (.inr (.inr none)))) p1 4 = 0 := (ez_put_I (fun w => absurd w.2 (by decide))).trans f4_1_2_p_6_p_24
        have pf5_6_p_24_p : qz_I (dz_put g24 p1 3 (ez_v (.inr (.inr none)))) p1 1 = 0 := (ez_put_I (fun w => absurd w.2 (by decide))).trans pf5_6_p_24
        have pf23_24_p : qz_I (dz_put g24 p1 3 (ez_v (.inr (.inr none)))) p1 2 = (q6 : Int) + 1 := (ez_put_I (fun w => absurd w.2 (by decide))).trans pf23_24
        have wr6_p_24_p : rw5 τ24 (dz_put g24 p1 3 (ez_v (.inr (.inr none)))) ((q6 : Int) + 1) (rz_rn (rz_b h) (rz_f h 2) (rz_t h 2)) := wr6_p_24.tr (fun y hy => ⟨hy, qz_put_at _ _ _ _ (fun e => by rw [e, t1k2k6k24] at hy; cases hy)⟩)
        have pf28 : qz_I (dz_put g24 p1 3 (ez_v (.inr (.inr none)))) p1 3 = 0 := w27
        have XF29 := X24.fr (show ez_fr (ez_one p1) g24 (dz_put g24 p1 3 (ez_v (.inr (.inr none)))) from ((ez_fr.refl (ez_one p1) g24).put (show Nat.beq p1 p1 = true from Nat.beq_refl _) _ _)) z1
        refine ez_less [(1, .inr (.inr (some (p1)))), (0, .inr (.inr (some (720))))] rfl ⟨rfl, rfl, trivial⟩ ?_
        exact rd_takeSpecial_b hB u193 u202 u203 u720 u721 u722 hs hinj hft hn hZ hz27 ts1 hr1 hr2 hB26 (XF29.mono (by omega) (by omega)) t1k2k6k24 z1 e1 ⟨fun _ => ro1, fun _ => pf5_6_p_24_p⟩ ⟨fun w => (by omega), fun w => absurd ro2 w⟩ ⟨fun _ => ro3, fun _ => pf28⟩ (fun w => absurd pf5_6_p_24_p w) (fun _ => by rw [pf23_24_p]; exact wr6_p_24_p) (fun w => absurd pf28 w) f4_1_2_p_6_p_24_p hSP kN kS
      · skip
        have u720n1k2k6k24 := (x24.1 _ (by rw [u720n1k2k6]; decide)).1.trans u720n1k2k6
        have u202n1k2k6k24 := (x24.1 _ (by rw [u202n1k2k6]; decide)).1.trans u202n1k2k6
        have u721n1k2k6k24 := (x24.1 _ (by rw [u721n1k2k6]; decide)).1.trans u721n1k2k6
        have u722n1k2k6k24 := (x24.1 _ (by rw [u722n1k2k6]; decide)).1.trans u722n1k2k6
        have u193n1k2k6k24 := (x24.1 _ (by rw [u193n1k2k6]; decide)).1.trans u193n1k2k6
        have u203n1k2k6k24 := (x24.1 _ (by rw [u203n1k2k6]; decide)).1.trans u203n1k2k6
        have t1k2k6k24 := (x24.1 _ (by rw [t1k2k6]; decide)).1.trans t1k2k6
        have tq6k24 := (x24.1 _ (by rw [tq6]; decide)).1.trans tq6
        have ro3 : rz_ro (rz_b h) (rz_f h 3) (rz_t h 3) := Classical.byContradiction fun w => by cases hi24.mpr w
        have wr6_p_24 : rw5 τ24 g24 ((q6 : Int) + 1) (rz_rn (rz_b h) (rz_f h 2) (rz_t h 2)) := wr6_p.tr (fun y hy => ⟨(x24.1 y (by rw [hy]; decide)).1.trans hy, (x24.1 y (by rw [hy]; decide)).2⟩)
        have wr24 : rw5 τ24 g24 ((q24 : Int) + 1) (rz_rn (rz_b h) (rz_f h 3) (rz_t h 3)) := by have w := hw24 q24 rfl; rw [ab24, af24, at24] at w; exact w
        have f4_1_2_p_6_p_24 : qz_I g24 p1 4 = 0 := (x24.I (by rw [t1k2k6]; decide) 4).trans f4_1_2_p_6_p
        have pf5_6_p_24 : qz_I g24 p1 1 = 0 := (x24.I (by rw [t1k2k6]; decide) 1).trans pf5_6_p
        have pf23_24 : qz_I g24 p1 2 = (q6 : Int) + 1 := (x24.I (by rw [t1k2k6]; decide) 2).trans pf23
        have tq24 := (ho24 _ rfl).1
        have lq24 := dz_here_lt (hB24.1 _ (by rw [tq24]; decide)).1
        have lc24 := X24.2
        refine ez_pf hB24 t1k2k6k24 rfl rfl tq_6 rfl rfl rfl rfl (ez_vdR rfl tq24 (by omega) (by omega)) (fun hB30 w31 => ?_)
        have f4_1_2_p_6_p_24_p : qz_I (dz_put g24 p1 3 (ez_v (.inr (.inr (some (q24)))))) p1 4 = 0 := (ez_put_I (fun w => absurd w.2 (by decide))).trans f4_1_2_p_6_p_24
        have pf5_6_p_24_p : qz_I (dz_put g24 p1 3 (ez_v (.inr (.inr (some (q24)))))) p1 1 = 0 := (ez_put_I (fun w => absurd w.2 (by decide))).trans pf5_6_p_24
        have pf23_24_p : qz_I (dz_put g24 p1 3 (ez_v (.inr (.inr (some (q24)))))) p1 2 = (q6 : Int) + 1 := (ez_put_I (fun w => absurd w.2 (by decide))).trans pf23_24
        have wr6_p_24_p : rw5 τ24 (dz_put g24 p1 3 (ez_v (.inr (.inr (some (q24)))))) ((q6 : Int) + 1) (rz_rn (rz_b h) (rz_f h 2) (rz_t h 2)) := wr6_p_24.tr (fun y hy => ⟨hy, qz_put_at _ _ _ _ (fun e => by rw [e, t1k2k6k24] at hy; cases hy)⟩)
        have wr24_p : rw5 τ24 (dz_put g24 p1 3 (ez_v (.inr (.inr (some (q24)))))) ((q24 : Int) + 1) (rz_rn (rz_b h) (rz_f h 3) (rz_t h 3)) := wr24.tr (fun y hy => ⟨hy, qz_put_at _ _ _ _ (fun e => by rw [e, t1k2k6k24] at hy; cases hy)⟩)
        have pf32 : qz_I (dz_put g24 p1 3 (ez_v (.inr (.inr (some (q24)))))) p1 3 = (q24 : Int) + 1 := w31
        have XF33 := X24.fr (show ez_fr (ez_one p1) g24 (dz_put g24 p1 3 (ez_v (.inr (.inr (some (q24)))))) from ((ez_fr.refl (ez_one p1) g24).put (show Nat.beq p1 p1 = true from Nat.beq_refl _) _ _)) z1
        refine ez_less [(1, .inr (.inr (some (p1)))), (0, .inr (.inr (some (720))))] rfl ⟨rfl, rfl, trivial⟩ ?_
        exact rd_takeSpecial_b hB u193 u202 u203 u720 u721 u722 hs hinj hft hn hZ hz27 ts1 hr1 hr2 hB30 (XF33.mono (by omega) (by omega)) t1k2k6k24 z1 e1 ⟨fun _ => ro1, fun _ => pf5_6_p_24_p⟩ ⟨fun w => (by omega), fun w => absurd ro2 w⟩ ⟨fun w => (by omega), fun w => absurd ro3 w⟩ (fun w => absurd pf5_6_p_24_p w) (fun _ => by rw [pf23_24_p]; exact wr6_p_24_p) (fun _ => by rw [pf32]; exact wr24_p) f4_1_2_p_6_p_24_p hSP kN kS
  · skip
    have u720n1k2 := (x2.1 _ (by rw [u720n1]; decide)).1.trans u720n1
    have u202n1k2 := (x2.1 _ (by rw [u202n1]; decide)).1.trans u202n1
    have u721n1k2 := (x2.1 _ (by rw [u721n1]; decide)).1.trans u721n1
    have u722n1k2 := (x2.1 _ (by rw [u722n1]; decide)).1.trans u722n1
    have u193n1k2 := (x2.1 _ (by rw [u193n1]; decide)).1.trans u193n1
    have u203n1k2 := (x2.1 _ (by rw [u203n1]; decide)).1.trans u203n1
    have t1k2 := (x2.1 _ (by rw [t1]; decide)).1.trans t1
    have ro1 : rz_ro (rz_b h) (rz_f h 1) (rz_t h 1) := Classical.byContradiction fun w => by cases hi2.mpr w
    have wr2 : rw5 τ2 g2 ((q2 : Int) + 1) (rz_rn (rz_b h) (rz_f h 1) (rz_t h 1)) := by have w := hw2 q2 rfl; rw [ab2, af2, at2] at w; exact w
    have f4_1_2 : qz_I g2 p1 4 = 0 := (x2.I (by rw [t1]; decide) 4).trans f4_1
    have tq2 := (ho2 _ rfl).1
    have lq2 := dz_here_lt (hB2.1 _ (by rw [tq2]; decide)).1
    have lc2 := X2.2
    refine ez_pf hB2 t1k2 rfl rfl tq_6 rfl rfl rfl rfl (ez_vdR rfl tq2 (by omega) (by omega)) (fun hB34 w35 => ?_)
    have f4_1_2_p : qz_I (dz_put g2 p1 1 (ez_v (.inr (.inr (some (q2)))))) p1 4 = 0 := (ez_put_I (fun w => absurd w.2 (by decide))).trans f4_1_2
    have wr2_p : rw5 τ2 (dz_put g2 p1 1 (ez_v (.inr (.inr (some (q2)))))) ((q2 : Int) + 1) (rz_rn (rz_b h) (rz_f h 1) (rz_t h 1)) := wr2.tr (fun y hy => ⟨hy, qz_put_at _ _ _ _ (fun e => by rw [e, t1k2] at hy; cases hy)⟩)
    have pf36 : qz_I (dz_put g2 p1 1 (ez_v (.inr (.inr (some (q2)))))) p1 1 = (q2 : Int) + 1 := w35
    refine ez_go (n := 3) (pc' := 20) (L' := [(1, .inr (.inr (some (p1)))), (0, .inr (.inr (some (720))))]) (st' := [.inl (2), .inr (.inr (some (720))), .inr (.inr (some (p1)))]) rfl ?_
    have XF38 := X2.fr (show ez_fr (ez_one p1) g2 (dz_put g2 p1 1 (ez_v (.inr (.inr (some (q2)))))) from ((ez_fr.refl (ez_one p1) g2).put (show Nat.beq p1 p1 = true from Nat.beq_refl _) _ _)) z1
    obtain ⟨ab37, af37, at37⟩ := XF38.bft u193 u721 u722
    have hc37 := XF38.2
    refine ez_cv hB34 u720n1k2 rfl rfl rfl tq_52 rfl rfl rfl (rd_readRowOrNothing hB34 u720n1k2 u193n1k2 (by omega) (by omega) (by rw [af37, at37]; exact hft 2 (by omega) (by omega)) (by omega) (by omega) (fun o37 g37 τ37 hB37 x37 ho37 hi37 hw37 => ez_KA ?_))
    rw [ab37, af37, at37] at hi37
    have X37 := XF38.trans x37
    rcases o37 with _ | q37
    · skip
      have u720n1k2k37 := (x37.1 _ (by rw [u720n1k2]; decide)).1.trans u720n1k2
      have u202n1k2k37 := (x37.1 _ (by rw [u202n1k2]; decide)).1.trans u202n1k2
      have u721n1k2k37 := (x37.1 _ (by rw [u721n1k2]; decide)).1.trans u721n1k2
      have u722n1k2k37 := (x37.1 _ (by rw [u722n1k2]; decide)).1.trans u722n1k2
      have u193n1k2k37 := (x37.1 _ (by rw [u193n1k2]; decide)).1.trans u193n1k2
      have u203n1k2k37 := (x37.1 _ (by rw [u203n1k2]; decide)).1.trans u203n1k2
      have t1k2k37 := (x37.1 _ (by rw [t1k2]; decide)).1.trans t1k2
      have tq2k37 := (x37.1 _ (by rw [tq2]; decide)).1.trans tq2
      have ro2 : ¬ rz_ro (rz_b h) (rz_f h 2) (rz_t h 2) := hi37.mp rfl
      have wr2_p_37 : rw5 τ37 g37 ((q2 : Int) + 1) (rz_rn (rz_b h) (rz_f h 1) (rz_t h 1)) := wr2_p.tr (fun y hy => ⟨(x37.1 y (by rw [hy]; decide)).1.trans hy, (x37.1 y (by rw [hy]; decide)).2⟩)
      have f4_1_2_p_37 : qz_I g37 p1 4 = 0 := (x37.I (by rw [t1k2]; decide) 4).trans f4_1_2_p
      have pf36_37 : qz_I g37 p1 1 = (q2 : Int) + 1 := (x37.I (by rw [t1k2]; decide) 1).trans pf36
      refine ez_pf hB37 t1k2k37 rfl rfl tq_6 rfl rfl rfl rfl (ez_vdN rfl) (fun hB39 w40 => ?_)
      have f4_1_2_p_37_p : qz_I (dz_put g37 p1 2 (ez_v (.inr (.inr none)))) p1 4 = 0 := (ez_put_I (fun w => absurd w.2 (by decide))).trans f4_1_2_p_37
      have pf36_37_p : qz_I (dz_put g37 p1 2 (ez_v (.inr (.inr none)))) p1 1 = (q2 : Int) + 1 := (ez_put_I (fun w => absurd w.2 (by decide))).trans pf36_37
      have wr2_p_37_p : rw5 τ37 (dz_put g37 p1 2 (ez_v (.inr (.inr none)))) ((q2 : Int) + 1) (rz_rn (rz_b h) (rz_f h 1) (rz_t h 1)) := wr2_p_37.tr (fun y hy => ⟨hy, qz_put_at _ _ _ _ (fun e => by rw [e, t1k2k37] at hy; cases hy)⟩)
      have pf41 : qz_I (dz_put g37 p1 2 (ez_v (.inr (.inr none)))) p1 2 = 0 := w40
      refine ez_go (n := 3) (pc' := 29) (L' := [(1, .inr (.inr (some (p1)))), (0, .inr (.inr (some (720))))]) (st' := [.inl (3), .inr (.inr (some (720))), .inr (.inr (some (p1)))]) rfl ?_
      have XF43 := X37.fr (show ez_fr (ez_one p1) g37 (dz_put g37 p1 2 (ez_v (.inr (.inr none)))) from ((ez_fr.refl (ez_one p1) g37).put (show Nat.beq p1 p1 = true from Nat.beq_refl _) _ _)) z1
      obtain ⟨ab42, af42, at42⟩ := XF43.bft u193 u721 u722
      have hc42 := XF43.2
      refine ez_cv hB39 u720n1k2k37 rfl rfl rfl tq_52 rfl rfl rfl (rd_readRowOrNothing hB39 u720n1k2k37 u193n1k2k37 (by omega) (by omega) (by rw [af42, at42]; exact hft 3 (by omega) (by omega)) (by omega) (by omega) (fun o42 g42 τ42 hB42 x42 ho42 hi42 hw42 => ez_KA ?_))
      rw [ab42, af42, at42] at hi42
      have X42 := XF43.trans x42
      rcases o42 with _ | q42
      · skip
        have u720n1k2k37k42 := (x42.1 _ (by rw [u720n1k2k37]; decide)).1.trans u720n1k2k37
        have u202n1k2k37k42 := (x42.1 _ (by rw [u202n1k2k37]; decide)).1.trans u202n1k2k37
        have u721n1k2k37k42 := (x42.1 _ (by rw [u721n1k2k37]; decide)).1.trans u721n1k2k37
        have u722n1k2k37k42 := (x42.1 _ (by rw [u722n1k2k37]; decide)).1.trans u722n1k2k37
        have u193n1k2k37k42 := (x42.1 _ (by rw [u193n1k2k37]; decide)).1.trans u193n1k2k37
        have u203n1k2k37k42 := (x42.1 _ (by rw [u203n1k2k37]; decide)).1.trans u203n1k2k37
        have t1k2k37k42 := (x42.1 _ (by rw [t1k2k37]; decide)).1.trans t1k2k37
        have tq2k37k42 := (x42.1 _ (by rw [tq2k37]; decide)).1.trans tq2k37
        have ro3 : ¬ rz_ro (rz_b h) (rz_f h 3) (rz_t h 3) := hi42.mp rfl
        have wr2_p_37_p_42 : rw5 τ42 g42 ((q2 : Int) + 1) (rz_rn (rz_b h) (rz_f h 1) (rz_t h 1)) := wr2_p_37_p.tr (fun y hy => ⟨(x42.1 y (by rw [hy]; decide)).1.trans hy, (x42.1 y (by rw [hy]; decide)).2⟩)
        have f4_1_2_p_37_p_42 : qz_I g42 p1 4 = 0 := (x42.I (by rw [t1k2k37]; decide) 4).trans f4_1_2_p_37_p
        have pf36_37_p_42 : qz_I g42 p1 1 = (q2 : Int) + 1 := (x42.I (by rw [t1k2k37]; decide) 1).trans pf36_37_p
        have pf41_42 : qz_I g42 p1 2 = 0 := (x42.I (by rw [t1k2k37]; decide) 2).trans pf41
        refine ez_pf hB42 t1k2k37k42 rfl rfl tq_6 rfl rfl rfl rfl (ez_vdN rfl) (fun hB44 w45 => ?_)
        have f4_1_2_p_37_p_42_p : qz_I (dz_put g42 p1 3 (ez_v (.inr (.inr none)))) p1 4 = 0 := (ez_put_I (fun w => absurd w.2 (by decide))).trans f4_1_2_p_37_p_42
        have pf36_37_p_42_p : qz_I (dz_put g42 p1 3 (ez_v (.inr (.inr none)))) p1 1 = (q2 : Int) + 1 := (ez_put_I (fun w => absurd w.2 (by decide))).trans pf36_37_p_42
        have pf41_42_p : qz_I (dz_put g42 p1 3 (ez_v (.inr (.inr none)))) p1 2 = 0 := (ez_put_I (fun w => absurd w.2 (by decide))).trans pf41_42
        have wr2_p_37_p_42_p : rw5 τ42 (dz_put g42 p1 3 (ez_v (.inr (.inr none)))) ((q2 : Int) + 1) (rz_rn (rz_b h) (rz_f h 1) (rz_t h 1)) := wr2_p_37_p_42.tr (fun y hy => ⟨hy, qz_put_at _ _ _ _ (fun e => by rw [e, t1k2k37k42] at hy; cases hy)⟩)
        have pf46 : qz_I (dz_put g42 p1 3 (ez_v (.inr (.inr none)))) p1 3 = 0 := w45
        have XF47 := X42.fr (show ez_fr (ez_one p1) g42 (dz_put g42 p1 3 (ez_v (.inr (.inr none)))) from ((ez_fr.refl (ez_one p1) g42).put (show Nat.beq p1 p1 = true from Nat.beq_refl _) _ _)) z1
        refine ez_less [(1, .inr (.inr (some (p1)))), (0, .inr (.inr (some (720))))] rfl ⟨rfl, rfl, trivial⟩ ?_
        exact rd_takeSpecial_b hB u193 u202 u203 u720 u721 u722 hs hinj hft hn hZ hz27 ts1 hr1 hr2 hB44 (XF47.mono (by omega) (by omega)) t1k2k37k42 z1 e1 ⟨fun w => (by omega), fun w => absurd ro1 w⟩ ⟨fun _ => ro2, fun _ => pf41_42_p⟩ ⟨fun _ => ro3, fun _ => pf46⟩ (fun _ => by rw [pf36_37_p_42_p]; exact wr2_p_37_p_42_p) (fun w => absurd pf41_42_p w) (fun w => absurd pf46 w) f4_1_2_p_37_p_42_p hSP kN kS
      · skip
        have u720n1k2k37k42 := (x42.1 _ (by rw [u720n1k2k37]; decide)).1.trans u720n1k2k37
        have u202n1k2k37k42 := (x42.1 _ (by rw [u202n1k2k37]; decide)).1.trans u202n1k2k37
        have u721n1k2k37k42 := (x42.1 _ (by rw [u721n1k2k37]; decide)).1.trans u721n1k2k37
        have u722n1k2k37k42 := (x42.1 _ (by rw [u722n1k2k37]; decide)).1.trans u722n1k2k37
        have u193n1k2k37k42 := (x42.1 _ (by rw [u193n1k2k37]; decide)).1.trans u193n1k2k37
        have u203n1k2k37k42 := (x42.1 _ (by rw [u203n1k2k37]; decide)).1.trans u203n1k2k37
        have t1k2k37k42 := (x42.1 _ (by rw [t1k2k37]; decide)).1.trans t1k2k37
        have tq2k37k42 := (x42.1 _ (by rw [tq2k37]; decide)).1.trans tq2k37
        have ro3 : rz_ro (rz_b h) (rz_f h 3) (rz_t h 3) := Classical.byContradiction fun w => by cases hi42.mpr w
        have wr2_p_37_p_42 : rw5 τ42 g42 ((q2 : Int) + 1) (rz_rn (rz_b h) (rz_f h 1) (rz_t h 1)) := wr2_p_37_p.tr (fun y hy => ⟨(x42.1 y (by rw [hy]; decide)).1.trans hy, (x42.1 y (by rw [hy]; decide)).2⟩)
        have wr42 : rw5 τ42 g42 ((q42 : Int) + 1) (rz_rn (rz_b h) (rz_f h 3) (rz_t h 3)) := by have w := hw42 q42 rfl; rw [ab42, af42, at42] at w; exact w
        have f4_1_2_p_37_p_42 : qz_I g42 p1 4 = 0 := (x42.I (by rw [t1k2k37]; decide) 4).trans f4_1_2_p_37_p
        have pf36_37_p_42 : qz_I g42 p1 1 = (q2 : Int) + 1 := (x42.I (by rw [t1k2k37]; decide) 1).trans pf36_37_p
        have pf41_42 : qz_I g42 p1 2 = 0 := (x42.I (by rw [t1k2k37]; decide) 2).trans pf41
        have tq42 := (ho42 _ rfl).1
        have lq42 := dz_here_lt (hB42.1 _ (by rw [tq42]; decide)).1
        have lc42 := X42.2
        refine ez_pf hB42 t1k2k37k42 rfl rfl tq_6 rfl rfl rfl rfl (ez_vdR rfl tq42 (by omega) (by omega)) (fun hB48 w49 => ?_)
        have f4_1_2_p_37_p_42_p : qz_I (dz_put g42 p1 3 (ez_v (.inr (.inr (some (q42)))))) p1 4 = 0 := (ez_put_I (fun w => absurd w.2 (by decide))).trans f4_1_2_p_37_p_42
        have pf36_37_p_42_p : qz_I (dz_put g42 p1 3 (ez_v (.inr (.inr (some (q42)))))) p1 1 = (q2 : Int) + 1 := (ez_put_I (fun w => absurd w.2 (by decide))).trans pf36_37_p_42
        have pf41_42_p : qz_I (dz_put g42 p1 3 (ez_v (.inr (.inr (some (q42)))))) p1 2 = 0 := (ez_put_I (fun w => absurd w.2 (by decide))).trans pf41_42
        have wr2_p_37_p_42_p : rw5 τ42 (dz_put g42 p1 3 (ez_v (.inr (.inr (some (q42)))))) ((q2 : Int) + 1) (rz_rn (rz_b h) (rz_f h 1) (rz_t h 1)) := wr2_p_37_p_42.tr (fun y hy => ⟨hy, qz_put_at _ _ _ _ (fun e => by rw [e, t1k2k37k42] at hy; cases hy)⟩)
        have wr42_p : rw5 τ42 (dz_put g42 p1 3 (ez_v (.inr (.inr (some (q42)))))) ((q42 : Int) + 1) (rz_rn (rz_b h) (rz_f h 3) (rz_t h 3)) := wr42.tr (fun y hy => ⟨hy, qz_put_at _ _ _ _ (fun e => by rw [e, t1k2k37k42] at hy; cases hy)⟩)
        have pf50 : qz_I (dz_put g42 p1 3 (ez_v (.inr (.inr (some (q42)))))) p1 3 = (q42 : Int) + 1 := w49
        have XF51 := X42.fr (show ez_fr (ez_one p1) g42 (dz_put g42 p1 3 (ez_v (.inr (.inr (some (q42)))))) from ((ez_fr.refl (ez_one p1) g42).put (show Nat.beq p1 p1 = true from Nat.beq_refl _) _ _)) z1
        refine ez_less [(1, .inr (.inr (some (p1)))), (0, .inr (.inr (some (720))))] rfl ⟨rfl, rfl, trivial⟩ ?_
        exact rd_takeSpecial_b hB u193 u202 u203 u720 u721 u722 hs hinj hft hn hZ hz27 ts1 hr1 hr2 hB48 (XF51.mono (by omega) (by omega)) t1k2k37k42 z1 e1 ⟨fun w => (by omega), fun w => absurd ro1 w⟩ ⟨fun _ => ro2, fun _ => pf41_42_p⟩ ⟨fun w => (by omega), fun w => absurd ro3 w⟩ (fun _ => by rw [pf36_37_p_42_p]; exact wr2_p_37_p_42_p) (fun w => absurd pf41_42_p w) (fun _ => by rw [pf50]; exact wr42_p) f4_1_2_p_37_p_42_p hSP kN kS
    · skip
      have u720n1k2k37 := (x37.1 _ (by rw [u720n1k2]; decide)).1.trans u720n1k2
      have u202n1k2k37 := (x37.1 _ (by rw [u202n1k2]; decide)).1.trans u202n1k2
      have u721n1k2k37 := (x37.1 _ (by rw [u721n1k2]; decide)).1.trans u721n1k2
      have u722n1k2k37 := (x37.1 _ (by rw [u722n1k2]; decide)).1.trans u722n1k2
      have u193n1k2k37 := (x37.1 _ (by rw [u193n1k2]; decide)).1.trans u193n1k2
      have u203n1k2k37 := (x37.1 _ (by rw [u203n1k2]; decide)).1.trans u203n1k2
      have t1k2k37 := (x37.1 _ (by rw [t1k2]; decide)).1.trans t1k2
      have tq2k37 := (x37.1 _ (by rw [tq2]; decide)).1.trans tq2
      have ro2 : rz_ro (rz_b h) (rz_f h 2) (rz_t h 2) := Classical.byContradiction fun w => by cases hi37.mpr w
      have wr2_p_37 : rw5 τ37 g37 ((q2 : Int) + 1) (rz_rn (rz_b h) (rz_f h 1) (rz_t h 1)) := wr2_p.tr (fun y hy => ⟨(x37.1 y (by rw [hy]; decide)).1.trans hy, (x37.1 y (by rw [hy]; decide)).2⟩)
      have wr37 : rw5 τ37 g37 ((q37 : Int) + 1) (rz_rn (rz_b h) (rz_f h 2) (rz_t h 2)) := by have w := hw37 q37 rfl; rw [ab37, af37, at37] at w; exact w
      have f4_1_2_p_37 : qz_I g37 p1 4 = 0 := (x37.I (by rw [t1k2]; decide) 4).trans f4_1_2_p
      have pf36_37 : qz_I g37 p1 1 = (q2 : Int) + 1 := (x37.I (by rw [t1k2]; decide) 1).trans pf36
      have tq37 := (ho37 _ rfl).1
      have lq37 := dz_here_lt (hB37.1 _ (by rw [tq37]; decide)).1
      have lc37 := X37.2
      refine ez_pf hB37 t1k2k37 rfl rfl tq_6 rfl rfl rfl rfl (ez_vdR rfl tq37 (by omega) (by omega)) (fun hB52 w53 => ?_)
      have f4_1_2_p_37_p : qz_I (dz_put g37 p1 2 (ez_v (.inr (.inr (some (q37)))))) p1 4 = 0 := (ez_put_I (fun w => absurd w.2 (by decide))).trans f4_1_2_p_37
      have pf36_37_p : qz_I (dz_put g37 p1 2 (ez_v (.inr (.inr (some (q37)))))) p1 1 = (q2 : Int) + 1 := (ez_put_I (fun w => absurd w.2 (by decide))).trans pf36_37
      have wr2_p_37_p : rw5 τ37 (dz_put g37 p1 2 (ez_v (.inr (.inr (some (q37)))))) ((q2 : Int) + 1) (rz_rn (rz_b h) (rz_f h 1) (rz_t h 1)) := wr2_p_37.tr (fun y hy => ⟨hy, qz_put_at _ _ _ _ (fun e => by rw [e, t1k2k37] at hy; cases hy)⟩)
      have wr37_p : rw5 τ37 (dz_put g37 p1 2 (ez_v (.inr (.inr (some (q37)))))) ((q37 : Int) + 1) (rz_rn (rz_b h) (rz_f h 2) (rz_t h 2)) := wr37.tr (fun y hy => ⟨hy, qz_put_at _ _ _ _ (fun e => by rw [e, t1k2k37] at hy; cases hy)⟩)
      have pf54 : qz_I (dz_put g37 p1 2 (ez_v (.inr (.inr (some (q37)))))) p1 2 = (q37 : Int) + 1 := w53
      refine ez_go (n := 3) (pc' := 29) (L' := [(1, .inr (.inr (some (p1)))), (0, .inr (.inr (some (720))))]) (st' := [.inl (3), .inr (.inr (some (720))), .inr (.inr (some (p1)))]) rfl ?_
      have XF56 := X37.fr (show ez_fr (ez_one p1) g37 (dz_put g37 p1 2 (ez_v (.inr (.inr (some (q37)))))) from ((ez_fr.refl (ez_one p1) g37).put (show Nat.beq p1 p1 = true from Nat.beq_refl _) _ _)) z1
      obtain ⟨ab55, af55, at55⟩ := XF56.bft u193 u721 u722
      have hc55 := XF56.2
      refine ez_cv hB52 u720n1k2k37 rfl rfl rfl tq_52 rfl rfl rfl (rd_readRowOrNothing hB52 u720n1k2k37 u193n1k2k37 (by omega) (by omega) (by rw [af55, at55]; exact hft 3 (by omega) (by omega)) (by omega) (by omega) (fun o55 g55 τ55 hB55 x55 ho55 hi55 hw55 => ez_KA ?_))
      rw [ab55, af55, at55] at hi55
      have X55 := XF56.trans x55
      rcases o55 with _ | q55
      · skip
        have u720n1k2k37k55 := (x55.1 _ (by rw [u720n1k2k37]; decide)).1.trans u720n1k2k37
        have u202n1k2k37k55 := (x55.1 _ (by rw [u202n1k2k37]; decide)).1.trans u202n1k2k37
        have u721n1k2k37k55 := (x55.1 _ (by rw [u721n1k2k37]; decide)).1.trans u721n1k2k37
        have u722n1k2k37k55 := (x55.1 _ (by rw [u722n1k2k37]; decide)).1.trans u722n1k2k37
        have u193n1k2k37k55 := (x55.1 _ (by rw [u193n1k2k37]; decide)).1.trans u193n1k2k37
        have u203n1k2k37k55 := (x55.1 _ (by rw [u203n1k2k37]; decide)).1.trans u203n1k2k37
        have t1k2k37k55 := (x55.1 _ (by rw [t1k2k37]; decide)).1.trans t1k2k37
        have tq2k37k55 := (x55.1 _ (by rw [tq2k37]; decide)).1.trans tq2k37
        have tq37k55 := (x55.1 _ (by rw [tq37]; decide)).1.trans tq37
        have ro3 : ¬ rz_ro (rz_b h) (rz_f h 3) (rz_t h 3) := hi55.mp rfl
        have wr2_p_37_p_55 : rw5 τ55 g55 ((q2 : Int) + 1) (rz_rn (rz_b h) (rz_f h 1) (rz_t h 1)) := wr2_p_37_p.tr (fun y hy => ⟨(x55.1 y (by rw [hy]; decide)).1.trans hy, (x55.1 y (by rw [hy]; decide)).2⟩)
        have wr37_p_55 : rw5 τ55 g55 ((q37 : Int) + 1) (rz_rn (rz_b h) (rz_f h 2) (rz_t h 2)) := wr37_p.tr (fun y hy => ⟨(x55.1 y (by rw [hy]; decide)).1.trans hy, (x55.1 y (by rw [hy]; decide)).2⟩)
        have f4_1_2_p_37_p_55 : qz_I g55 p1 4 = 0 := (x55.I (by rw [t1k2k37]; decide) 4).trans f4_1_2_p_37_p
        have pf36_37_p_55 : qz_I g55 p1 1 = (q2 : Int) + 1 := (x55.I (by rw [t1k2k37]; decide) 1).trans pf36_37_p
        have pf54_55 : qz_I g55 p1 2 = (q37 : Int) + 1 := (x55.I (by rw [t1k2k37]; decide) 2).trans pf54
        refine ez_pf hB55 t1k2k37k55 rfl rfl tq_6 rfl rfl rfl rfl (ez_vdN rfl) (fun hB57 w58 => ?_)
        have f4_1_2_p_37_p_55_p : qz_I (dz_put g55 p1 3 (ez_v (.inr (.inr none)))) p1 4 = 0 := (ez_put_I (fun w => absurd w.2 (by decide))).trans f4_1_2_p_37_p_55
        have pf36_37_p_55_p : qz_I (dz_put g55 p1 3 (ez_v (.inr (.inr none)))) p1 1 = (q2 : Int) + 1 := (ez_put_I (fun w => absurd w.2 (by decide))).trans pf36_37_p_55
        have pf54_55_p : qz_I (dz_put g55 p1 3 (ez_v (.inr (.inr none)))) p1 2 = (q37 : Int) + 1 := (ez_put_I (fun w => absurd w.2 (by decide))).trans pf54_55
        have wr2_p_37_p_55_p : rw5 τ55 (dz_put g55 p1 3 (ez_v (.inr (.inr none)))) ((q2 : Int) + 1) (rz_rn (rz_b h) (rz_f h 1) (rz_t h 1)) := wr2_p_37_p_55.tr (fun y hy => ⟨hy, qz_put_at _ _ _ _ (fun e => by rw [e, t1k2k37k55] at hy; cases hy)⟩)
        have wr37_p_55_p : rw5 τ55 (dz_put g55 p1 3 (ez_v (.inr (.inr none)))) ((q37 : Int) + 1) (rz_rn (rz_b h) (rz_f h 2) (rz_t h 2)) := wr37_p_55.tr (fun y hy => ⟨hy, qz_put_at _ _ _ _ (fun e => by rw [e, t1k2k37k55] at hy; cases hy)⟩)
        have pf59 : qz_I (dz_put g55 p1 3 (ez_v (.inr (.inr none)))) p1 3 = 0 := w58
        have XF60 := X55.fr (show ez_fr (ez_one p1) g55 (dz_put g55 p1 3 (ez_v (.inr (.inr none)))) from ((ez_fr.refl (ez_one p1) g55).put (show Nat.beq p1 p1 = true from Nat.beq_refl _) _ _)) z1
        refine ez_less [(1, .inr (.inr (some (p1)))), (0, .inr (.inr (some (720))))] rfl ⟨rfl, rfl, trivial⟩ ?_
        exact rd_takeSpecial_b hB u193 u202 u203 u720 u721 u722 hs hinj hft hn hZ hz27 ts1 hr1 hr2 hB57 (XF60.mono (by omega) (by omega)) t1k2k37k55 z1 e1 ⟨fun w => (by omega), fun w => absurd ro1 w⟩ ⟨fun w => (by omega), fun w => absurd ro2 w⟩ ⟨fun _ => ro3, fun _ => pf59⟩ (fun _ => by rw [pf36_37_p_55_p]; exact wr2_p_37_p_55_p) (fun _ => by rw [pf54_55_p]; exact wr37_p_55_p) (fun w => absurd pf59 w) f4_1_2_p_37_p_55_p hSP kN kS
      · skip
        have u720n1k2k37k55 := (x55.1 _ (by rw [u720n1k2k37]; decide)).1.trans u720n1k2k37
        have u202n1k2k37k55 := (x55.1 _ (by rw [u202n1k2k37]; decide)).1.trans u202n1k2k37
        have u721n1k2k37k55 := (x55.1 _ (by rw [u721n1k2k37]; decide)).1.trans u721n1k2k37
        have u722n1k2k37k55 := (x55.1 _ (by rw [u722n1k2k37]; decide)).1.trans u722n1k2k37
        have u193n1k2k37k55 := (x55.1 _ (by rw [u193n1k2k37]; decide)).1.trans u193n1k2k37
        have u203n1k2k37k55 := (x55.1 _ (by rw [u203n1k2k37]; decide)).1.trans u203n1k2k37
        have t1k2k37k55 := (x55.1 _ (by rw [t1k2k37]; decide)).1.trans t1k2k37
        have tq2k37k55 := (x55.1 _ (by rw [tq2k37]; decide)).1.trans tq2k37
        have tq37k55 := (x55.1 _ (by rw [tq37]; decide)).1.trans tq37
        have ro3 : rz_ro (rz_b h) (rz_f h 3) (rz_t h 3) := Classical.byContradiction fun w => by cases hi55.mpr w
        have wr2_p_37_p_55 : rw5 τ55 g55 ((q2 : Int) + 1) (rz_rn (rz_b h) (rz_f h 1) (rz_t h 1)) := wr2_p_37_p.tr (fun y hy => ⟨(x55.1 y (by rw [hy]; decide)).1.trans hy, (x55.1 y (by rw [hy]; decide)).2⟩)
        have wr37_p_55 : rw5 τ55 g55 ((q37 : Int) + 1) (rz_rn (rz_b h) (rz_f h 2) (rz_t h 2)) := wr37_p.tr (fun y hy => ⟨(x55.1 y (by rw [hy]; decide)).1.trans hy, (x55.1 y (by rw [hy]; decide)).2⟩)
        have wr55 : rw5 τ55 g55 ((q55 : Int) + 1) (rz_rn (rz_b h) (rz_f h 3) (rz_t h 3)) := by have w := hw55 q55 rfl; rw [ab55, af55, at55] at w; exact w
        have f4_1_2_p_37_p_55 : qz_I g55 p1 4 = 0 := (x55.I (by rw [t1k2k37]; decide) 4).trans f4_1_2_p_37_p
        have pf36_37_p_55 : qz_I g55 p1 1 = (q2 : Int) + 1 := (x55.I (by rw [t1k2k37]; decide) 1).trans pf36_37_p
        have pf54_55 : qz_I g55 p1 2 = (q37 : Int) + 1 := (x55.I (by rw [t1k2k37]; decide) 2).trans pf54
        have tq55 := (ho55 _ rfl).1
        have lq55 := dz_here_lt (hB55.1 _ (by rw [tq55]; decide)).1
        have lc55 := X55.2
        refine ez_pf hB55 t1k2k37k55 rfl rfl tq_6 rfl rfl rfl rfl (ez_vdR rfl tq55 (by omega) (by omega)) (fun hB61 w62 => ?_)
        have f4_1_2_p_37_p_55_p : qz_I (dz_put g55 p1 3 (ez_v (.inr (.inr (some (q55)))))) p1 4 = 0 := (ez_put_I (fun w => absurd w.2 (by decide))).trans f4_1_2_p_37_p_55
        have pf36_37_p_55_p : qz_I (dz_put g55 p1 3 (ez_v (.inr (.inr (some (q55)))))) p1 1 = (q2 : Int) + 1 := (ez_put_I (fun w => absurd w.2 (by decide))).trans pf36_37_p_55
        have pf54_55_p : qz_I (dz_put g55 p1 3 (ez_v (.inr (.inr (some (q55)))))) p1 2 = (q37 : Int) + 1 := (ez_put_I (fun w => absurd w.2 (by decide))).trans pf54_55
        have wr2_p_37_p_55_p : rw5 τ55 (dz_put g55 p1 3 (ez_v (.inr (.inr (some (q55)))))) ((q2 : Int) + 1) (rz_rn (rz_b h) (rz_f h 1) (rz_t h 1)) := wr2_p_37_p_55.tr (fun y hy => ⟨hy, qz_put_at _ _ _ _ (fun e => by rw [e, t1k2k37k55] at hy; cases hy)⟩)
        have wr37_p_55_p : rw5 τ55 (dz_put g55 p1 3 (ez_v (.inr (.inr (some (q55)))))) ((q37 : Int) + 1) (rz_rn (rz_b h) (rz_f h 2) (rz_t h 2)) := wr37_p_55.tr (fun y hy => ⟨hy, qz_put_at _ _ _ _ (fun e => by rw [e, t1k2k37k55] at hy; cases hy)⟩)
        have wr55_p : rw5 τ55 (dz_put g55 p1 3 (ez_v (.inr (.inr (some (q55)))))) ((q55 : Int) + 1) (rz_rn (rz_b h) (rz_f h 3) (rz_t h 3)) := wr55.tr (fun y hy => ⟨hy, qz_put_at _ _ _ _ (fun e => by rw [e, t1k2k37k55] at hy; cases hy)⟩)
        have pf63 : qz_I (dz_put g55 p1 3 (ez_v (.inr (.inr (some (q55)))))) p1 3 = (q55 : Int) + 1 := w62
        have XF64 := X55.fr (show ez_fr (ez_one p1) g55 (dz_put g55 p1 3 (ez_v (.inr (.inr (some (q55)))))) from ((ez_fr.refl (ez_one p1) g55).put (show Nat.beq p1 p1 = true from Nat.beq_refl _) _ _)) z1
        refine ez_less [(1, .inr (.inr (some (p1)))), (0, .inr (.inr (some (720))))] rfl ⟨rfl, rfl, trivial⟩ ?_
        exact rd_takeSpecial_b hB u193 u202 u203 u720 u721 u722 hs hinj hft hn hZ hz27 ts1 hr1 hr2 hB61 (XF64.mono (by omega) (by omega)) t1k2k37k55 z1 e1 ⟨fun w => (by omega), fun w => absurd ro1 w⟩ ⟨fun w => (by omega), fun w => absurd ro2 w⟩ ⟨fun w => (by omega), fun w => absurd ro3 w⟩ (fun _ => by rw [pf36_37_p_55_p]; exact wr2_p_37_p_55_p) (fun _ => by rw [pf54_55_p]; exact wr37_p_55_p) (fun _ => by rw [pf63]; exact wr55_p) f4_1_2_p_37_p_55_p hSP kN kS

end EzTs
/-! The class: takeEntry. (Written by wip/p2/py/pv25.py.) -/
theorem ez_xt.rt {τ τ1 : Nat → Nat} {h g : cz_H} {a b r t : Nat} (x : ez_xt τ h τ1 g a b) (hr : τ r = 0) : ez_xt τ h (dz_tn τ1 r t) g a b :=
  ⟨fun q hq => ⟨(ez_tn_ne (fun e => by rw [e] at hq; exact hq hr)).trans (x.1 q hq).1, (x.1 q hq).2⟩, x.2⟩
section EzTy
variable {d : Nat} {h : cz_H} {τ : Nat → Nat} {Q : cz_F → Prop}
theorem rd_packAt {x : Int64} {a b : Int} (k : ∀ y : Int64, Q (.inl (some (.inr (.inl y))), h)) : ez_W d cm_101 0 [(0, .inr (.inl (x))), (2, .inl (a)), (3, .inl (b))] [] h Q := by
  refine ez_go (n := 12) (pc' := 13) (L' := [(0, .inr (.inl (x))), (2, .inl (a)), (3, .inl (b))]) (st' := [.inr (.inl ((x) ||| (((Int32.ofInt ((b) + (1))).toInt64) <<< ((Int32.ofInt ((21) * ((2) - (a)))).toInt64 &&& 63))))]) rfl ?_
  exact ez_retL rfl rfl (k _)

theorem rd_takeEntry_l {r e : Nat} (hB : ez_B τ h) (tr : τ r = 5) (kx : ∀ x, ez_W (d + 1) cm_175 74 [(3, .inr (.inl (x))), (2, .inr (.inr (some (e)))), (1, .inr (.inr (some (r)))), (0, .inr (.inr (some (720))))] [] h Q) : ∀ (m : Nat) (i : Int) (x : Int64), m = (qz_N h r - i).toNat → 0 ≤ i → i ≤ qz_N h r → ez_W (d + 1) cm_175 50 [(5, .inl (i)), (3, .inr (.inl (x))), (2, .inr (.inr (some (e)))), (1, .inr (.inr (some (r)))), (0, .inr (.inr (some (720))))] [] h Q := by
  have nn : 0 ≤ qz_N h r ∧ qz_N h r ≤ 18 := ez_len hB tr tq_5 rfl
  intro m
  induction m with
  | zero =>
    intro i x hm i0 i1
    refine ez_go (n := 2) (pc' := 53) (L' := [(5, .inl (i)), (3, .inr (.inl (x))), (2, .inr (.inr (some (e)))), (1, .inr (.inr (some (r)))), (0, .inr (.inr (some (720))))]) (st' := [.inr (.inr (some (r))), .inl (i)]) rfl ?_
    refine ez_al hB tr rfl tq_5 rfl (fun (b1 : 0 ≤ qz_N h r) (b1' : qz_N h r ≤ 18) => ?_)
    refine ez_icmp rfl rfl ⟨by first | omega | exact (sz_i32 _).1, by first | omega | exact (sz_i32 _).2⟩ ⟨by first | omega | exact (sz_i32 _).1, by first | omega | exact (sz_i32 _).2⟩ (fun (c2 : (qz_N h r) ≤ (i)) => ?_) (fun (c2 : ¬((qz_N h r) ≤ (i))) => ?_)
    · skip
      refine ez_less [(3, .inr (.inl (x))), (2, .inr (.inr (some (e)))), (1, .inr (.inr (some (r)))), (0, .inr (.inr (some (720))))] rfl ⟨rfl, rfl, rfl, rfl, trivial⟩ ?_
      exact kx x
    · exfalso; omega
  | succ m ih =>
    intro i x hm i0 i1
    refine ez_go (n := 2) (pc' := 53) (L' := [(5, .inl (i)), (3, .inr (.inl (x))), (2, .inr (.inr (some (e)))), (1, .inr (.inr (some (r)))), (0, .inr (.inr (some (720))))]) (st' := [.inr (.inr (some (r))), .inl (i)]) rfl ?_
    refine ez_al hB tr rfl tq_5 rfl (fun (b1 : 0 ≤ qz_N h r) (b1' : qz_N h r ≤ 18) => ?_)
    refine ez_icmp rfl rfl ⟨by first | omega | exact (sz_i32 _).1, by first | omega | exact (sz_i32 _).2⟩ ⟨by first | omega | exact (sz_i32 _).1, by first | omega | exact (sz_i32 _).2⟩ (fun (c2 : (qz_N h r) ≤ (i)) => ?_) (fun (c2 : ¬((qz_N h r) ≤ (i))) => ?_)
    · exfalso; omega
    · skip
      refine ez_go (n := 4) (pc' := 63) (L' := [(5, .inl (i)), (3, .inr (.inl (x))), (2, .inr (.inr (some (e)))), (1, .inr (.inr (some (r)))), (0, .inr (.inr (some (720))))]) (st' := [.inl (i), .inr (.inr (some (r))), .inl (i), .inr (.inl (x))]) rfl ?_
      have n4 : 0 ≤ qz_N h r ∧ qz_N h r ≤ 18 := ez_len hB tr tq_5 rfl
      refine ez_aI hB tr rfl tq_5 rfl rfl (by omega) (by omega) (fun (b3 : -2147483648 ≤ qz_I h r (i).toNat) (b3' : qz_I h r (i).toNat ≤ 2147483647) => ?_)
      refine ez_cs hB.2.1 rfl rfl rfl rfl rfl (rd_packAt (fun y => ez_KL ?_))
      refine ez_go (n := 3) (pc' := 50) (L' := [(5, .inl (i + 1)), (3, .inr (.inl (y))), (2, .inr (.inr (some (e)))), (1, .inr (.inr (some (r)))), (0, .inr (.inr (some (720))))]) (st' := []) rfl ?_
      refine ez_less [(5, .inl (i + 1)), (3, .inr (.inl (y))), (2, .inr (.inr (some (e)))), (1, .inr (.inr (some (r)))), (0, .inr (.inr (some (720))))] rfl ⟨rfl, rfl, rfl, rfl, rfl, trivial⟩ ?_
      exact ih _ _ (by omega) (by omega) (by omega)
/-- LINE 4 -/
def rz_G4 (b f t : Int → Int) : Prop := rz_rw b 3 (f 0) (t 0) ≠ none ∧ nz_els b (f 1) (t 1)
theorem rd_takeEntry (hB : ez_B τ h) (u193 : τ 193 = 45) (u202 : τ 202 = 48) (u203 : τ 203 = 49) (u720 : τ 720 = 52) (u721 : τ 721 = 53) (u722 : τ 722 = 54) (hs : sz_ok h) (hinj : sz_inj h) (hft : ∀ k, 0 ≤ k → k ≤ 1 → rz_f h k ≤ rz_t h k) (hn : qz_I h 202 1 + 2 ≤ 513) (u204 : τ 204 = 50) (u205 : τ 205 = 51) (hE : ∀ i : Nat, (i : Int) < qz_I h 202 4 → 1 ≤ qz_I h 205 i) (hr1 : h.1 + 3 ≤ 600192) (hr2 : h.2.1 + 38 ≤ 7302232) (kN : ∀ g τ1, ez_B τ1 g → ez_xt τ h τ1 g 3 38 → ¬ rz_G4 (rz_b h) (rz_f h) (rz_t h) → Q (.inl (some (ez_v (.inl (-1)))), g)) (kS : ∀ g h1 τ1 (v : Int), 1 ≤ v → v ≤ 3 → ez_B τ1 g → ez_B τ1 h1 → ez_xt τ h τ1 h1 3 38 → ez_fr nz_PE h1 g → (∀ j, j ≠ 4 → qz_I g 202 j = qz_I h1 202 j) → (∀ i : Nat, (i : Int) < qz_I g 202 4 → 1 ≤ qz_I g 205 i) → rz_G4 (rz_b h) (rz_f h) (rz_t h) → (∀ vs, rz_rw (rz_b h) 3 (rz_f h 0) (rz_t h 0) = some vs → v = (vs.length : Int)) → Q (.inl (some (ez_v (.inl v))), g)) : ez_W (d + 4) cm_175 0 [(0, .inr (.inr (some (720))))] [] h Q := by
  have n721 : 7 ≤ qz_N h 721 ∧ qz_N h 721 ≤ 7 := ez_len hB u721 tq_53 rfl
  have n722 : 7 ≤ qz_N h 722 ∧ qz_N h 722 ≤ 7 := ez_len hB u722 tq_54 rfl
  have qh0 := hft 0 (by omega) (by omega)
  have qf0 : 0 ≤ rz_f h 0 ∧ rz_f h 0 ≤ 4096 := ez_aB (i := 0) hB u721 tq_53 rfl rfl (by decide) (by omega) (by omega)
  have qt0 : 0 ≤ rz_t h 0 ∧ rz_t h 0 ≤ 4096 := ez_aB (i := 0) hB u722 tq_54 rfl rfl (by decide) (by omega) (by omega)
  have qh1 := hft 1 (by omega) (by omega)
  have qf1 : 0 ≤ rz_f h 1 ∧ rz_f h 1 ≤ 4096 := ez_aB (i := 1) hB u721 tq_53 rfl rfl (by decide) (by omega) (by omega)
  have qt1 : 0 ≤ rz_t h 1 ∧ rz_t h 1 ≤ 4096 := ez_aB (i := 1) hB u722 tq_54 rfl rfl (by decide) (by omega) (by omega)
  refine ez_go (n := 2) (pc' := 2) (L' := [(0, .inr (.inr (some (720))))]) (st' := [.inr (.inr (some (720))), .inr (.inr (some (720)))]) rfl ?_
  refine ez_gC (p := 721) (tg := 53) hB u720 rfl rfl tq_52 rfl rfl (fun (t721 : _ = 53) => ?_)
  refine ez_go (n := 1) (pc' := 6) (L' := [(0, .inr (.inr (some (720))))]) (st' := [.inl (0), .inr (.inr (some (721))), .inr (.inr (some (720)))]) rfl ?_
  have n2 : 7 ≤ qz_N h 721 ∧ qz_N h 721 ≤ 7 := ez_len hB t721 tq_53 rfl
  refine ez_aI hB t721 rfl tq_53 rfl rfl (by omega) (by omega) (fun (b1 : 0 ≤ qz_I h 721 (0 : Int).toNat) (b1' : qz_I h 721 (0 : Int).toNat ≤ 4096) => ?_)
  refine ez_go (n := 1) (pc' := 8) (L' := [(0, .inr (.inr (some (720))))]) (st' := [.inr (.inr (some (720))), .inl (qz_I h 721 (0 : Int).toNat), .inr (.inr (some (720)))]) rfl ?_
  refine ez_gC (p := 722) (tg := 54) hB u720 rfl rfl tq_52 rfl rfl (fun (t722 : _ = 54) => ?_)
  refine ez_go (n := 1) (pc' := 12) (L' := [(0, .inr (.inr (some (720))))]) (st' := [.inl (0), .inr (.inr (some (722))), .inl (qz_I h 721 (0 : Int).toNat), .inr (.inr (some (720)))]) rfl ?_
  have n4 : 7 ≤ qz_N h 722 ∧ qz_N h 722 ≤ 7 := ez_len hB t722 tq_54 rfl
  refine ez_aI hB t722 rfl tq_54 rfl rfl (by omega) (by omega) (fun (b3 : 0 ≤ qz_I h 722 (0 : Int).toNat) (b3' : qz_I h 722 (0 : Int).toNat ≤ 4096) => ?_)
  refine ez_go (n := 1) (pc' := 14) (L' := [(0, .inr (.inr (some (720))))]) (st' := [.inl (3), .inl (qz_I h 722 (0 : Int).toNat), .inl (qz_I h 721 (0 : Int).toNat), .inr (.inr (some (720)))]) rfl ?_
  have xf0 : qz_I h 721 (0 : Int).toNat = rz_f h 0 := rfl
  have xt0 : qz_I h 722 (0 : Int).toNat = rz_t h 0 := rfl
  refine ez_cv hB u720 rfl rfl rfl tq_52 rfl rfl rfl (rd_readRow hB u720 u193 (by omega) (by omega) (by omega) (by omega) (by omega) (by omega) (by omega) (fun g1 τ1 hB1 x1 hn9 => ez_KA ?_) (fun g1 τ1 vs hB1 x1 up hct1 hct2 hrow hN1 _ => ez_KA ?_))
  · skip
    have u720a := (x1.1 _ (by rw [u720]; decide)).1.trans u720
    have u202a := (x1.1 _ (by rw [u202]; decide)).1.trans u202
    have t721a := (x1.1 _ (by rw [t721]; decide)).1.trans t721
    have t722a := (x1.1 _ (by rw [t722]; decide)).1.trans t722
    have u193a := (x1.1 _ (by rw [u193]; decide)).1.trans u193
    have u203a := (x1.1 _ (by rw [u203]; decide)).1.trans u203
    have hrw : rz_rw (rz_b h) 3 (rz_f h 0) (rz_t h 0) = none := rz_rw_n hn9
    refine ez_go (n := 3) (pc' := 20) (L' := [(1, .inr (.inr none)), (0, .inr (.inr (some (720))))]) (st' := [.inr (.inr (some (720))), .inr (.inr (some (720)))]) rfl ?_
    refine ez_gC (p := 721) (tg := 53) hB1 u720a rfl rfl tq_52 rfl rfl (fun (t721 : _ = 53) => ?_)
    refine ez_go (n := 1) (pc' := 24) (L' := [(1, .inr (.inr none)), (0, .inr (.inr (some (720))))]) (st' := [.inl (1), .inr (.inr (some (721))), .inr (.inr (some (720)))]) rfl ?_
    have n6 : 7 ≤ qz_N g1 721 ∧ qz_N g1 721 ≤ 7 := ez_len hB1 t721 tq_53 rfl
    refine ez_aI hB1 t721 rfl tq_53 rfl rfl (by omega) (by omega) (fun (b5 : 0 ≤ qz_I g1 721 (1 : Int).toNat) (b5' : qz_I g1 721 (1 : Int).toNat ≤ 4096) => ?_)
    refine ez_go (n := 1) (pc' := 26) (L' := [(1, .inr (.inr none)), (0, .inr (.inr (some (720))))]) (st' := [.inr (.inr (some (720))), .inl (qz_I g1 721 (1 : Int).toNat), .inr (.inr (some (720)))]) rfl ?_
    refine ez_gC (p := 722) (tg := 54) hB1 u720a rfl rfl tq_52 rfl rfl (fun (t722 : _ = 54) => ?_)
    refine ez_go (n := 1) (pc' := 30) (L' := [(1, .inr (.inr none)), (0, .inr (.inr (some (720))))]) (st' := [.inl (1), .inr (.inr (some (722))), .inl (qz_I g1 721 (1 : Int).toNat), .inr (.inr (some (720)))]) rfl ?_
    have n8 : 7 ≤ qz_N g1 722 ∧ qz_N g1 722 ≤ 7 := ez_len hB1 t722 tq_54 rfl
    refine ez_aI hB1 t722 rfl tq_54 rfl rfl (by omega) (by omega) (fun (b7 : 0 ≤ qz_I g1 722 (1 : Int).toNat) (b7' : qz_I g1 722 (1 : Int).toNat ≤ 4096) => ?_)
    obtain ⟨ab9, af9, at9⟩ := x1.bft u193 u721 u722
    have zf9 : qz_I g1 721 (1 : Int).toNat = rz_f h 1 := congrFun af9 1
    have zt9 : qz_I g1 722 (1 : Int).toNat = rz_t h 1 := congrFun at9 1
    have hc10 := x1.2
    refine ez_cv hB1 u720a rfl rfl rfl tq_52 rfl rfl rfl (rd_readElements hB1 u720a u193a (by omega) (by omega) (by omega) (by omega) (by omega) (fun o g2 τ2 hB2 x2 ho hi => ez_KA ?_))
    rw [ab9, zf9, zt9] at hi
    have X2 := x1.trans x2
    rcases o with _ | e2
    · skip
      have u720ab := (x2.1 _ (by rw [u720a]; decide)).1.trans u720a
      have u202ab := (x2.1 _ (by rw [u202a]; decide)).1.trans u202a
      have t721b := (x2.1 _ (by rw [t721]; decide)).1.trans t721
      have t722b := (x2.1 _ (by rw [t722]; decide)).1.trans t722
      have u193ab := (x2.1 _ (by rw [u193a]; decide)).1.trans u193a
      have u203ab := (x2.1 _ (by rw [u203a]; decide)).1.trans u203a
      have hel : ¬ nz_els (rz_b h) (rz_f h 1) (rz_t h 1) := hi.mp rfl
      refine ez_go (n := 2) (pc' := 36) (L' := [(2, .inr (.inr none)), (1, .inr (.inr none)), (0, .inr (.inr (some (720))))]) (st' := [.inr (.inr none)]) rfl ?_
      refine ez_null0 rfl rfl ?_
      refine ez_go (n := 1) (pc' := 44) (L' := [(2, .inr (.inr none)), (1, .inr (.inr none)), (0, .inr (.inr (some (720))))]) (st' := [.inl (-1)]) rfl ?_
      exact ez_retI rfl rfl (kN g2 τ2 hB2 (X2.mono (by omega) (by omega)) (fun w => by first | exact hel w.2 | exact w.1 hrw))
    · skip
      have u720ab := (x2.1 _ (by rw [u720a]; decide)).1.trans u720a
      have u202ab := (x2.1 _ (by rw [u202a]; decide)).1.trans u202a
      have t721b := (x2.1 _ (by rw [t721]; decide)).1.trans t721
      have t722b := (x2.1 _ (by rw [t722]; decide)).1.trans t722
      have u193ab := (x2.1 _ (by rw [u193a]; decide)).1.trans u193a
      have u203ab := (x2.1 _ (by rw [u203a]; decide)).1.trans u203a
      have hel : nz_els (rz_b h) (rz_f h 1) (rz_t h 1) := Classical.byContradiction fun w => by cases hi.mpr w
      have te2 := (ho _ rfl).1
      have le2 := dz_here_lt (hB2.1 _ (by rw [te2]; decide)).1
      have c2 := X2.2
      refine ez_go (n := 2) (pc' := 36) (L' := [(2, .inr (.inr (some (e2)))), (1, .inr (.inr none)), (0, .inr (.inr (some (720))))]) (st' := [.inr (.inr none)]) rfl ?_
      refine ez_null0 rfl rfl ?_
      refine ez_go (n := 1) (pc' := 44) (L' := [(2, .inr (.inr (some (e2)))), (1, .inr (.inr none)), (0, .inr (.inr (some (720))))]) (st' := [.inl (-1)]) rfl ?_
      exact ez_retI rfl rfl (kN g2 τ2 hB2 (X2.mono (by omega) (by omega)) (fun w => by first | exact hel w.2 | exact w.1 hrw))
  · skip
    have u720a := (x1.1 _ (by rw [u720]; decide)).1.trans u720
    have u202a := (x1.1 _ (by rw [u202]; decide)).1.trans u202
    have t721a := (x1.1 _ (by rw [t721]; decide)).1.trans t721
    have t722a := (x1.1 _ (by rw [t722]; decide)).1.trans t722
    have u193a := (x1.1 _ (by rw [u193]; decide)).1.trans u193
    have u203a := (x1.1 _ (by rw [u203]; decide)).1.trans u203
    have hrw : rz_rw (rz_b h) 3 (rz_f h 0) (rz_t h 0) = some vs := rz_rw_s hct1 hct2 hrow
    have hvl : (vs.length : Int) = qz_N g1 h.1 := by rw [hN1, rz_row_len _ _ _ _ _ hrow]
    have hn3 : qz_N g1 h.1 ≤ 3 := by omega
    have er1 : ∃ r1, r1 = h.1 := ⟨_, rfl⟩
    obtain ⟨r1, er1⟩ := er1
    rw [← er1] at up hN1 hn3 hvl ⊢
    have hn1 : 1 ≤ qz_N g1 r1 := by omega
    refine ez_go (n := 3) (pc' := 20) (L' := [(1, .inr (.inr (some (r1)))), (0, .inr (.inr (some (720))))]) (st' := [.inr (.inr (some (720))), .inr (.inr (some (720)))]) rfl ?_
    refine ez_gC (p := 721) (tg := 53) hB1 u720a rfl rfl tq_52 rfl rfl (fun (t721 : _ = 53) => ?_)
    refine ez_go (n := 1) (pc' := 24) (L' := [(1, .inr (.inr (some (r1)))), (0, .inr (.inr (some (720))))]) (st' := [.inl (1), .inr (.inr (some (721))), .inr (.inr (some (720)))]) rfl ?_
    have n12 : 7 ≤ qz_N g1 721 ∧ qz_N g1 721 ≤ 7 := ez_len hB1 t721 tq_53 rfl
    refine ez_aI hB1 t721 rfl tq_53 rfl rfl (by omega) (by omega) (fun (b11 : 0 ≤ qz_I g1 721 (1 : Int).toNat) (b11' : qz_I g1 721 (1 : Int).toNat ≤ 4096) => ?_)
    refine ez_go (n := 1) (pc' := 26) (L' := [(1, .inr (.inr (some (r1)))), (0, .inr (.inr (some (720))))]) (st' := [.inr (.inr (some (720))), .inl (qz_I g1 721 (1 : Int).toNat), .inr (.inr (some (720)))]) rfl ?_
    refine ez_gC (p := 722) (tg := 54) hB1 u720a rfl rfl tq_52 rfl rfl (fun (t722 : _ = 54) => ?_)
    refine ez_go (n := 1) (pc' := 30) (L' := [(1, .inr (.inr (some (r1)))), (0, .inr (.inr (some (720))))]) (st' := [.inl (1), .inr (.inr (some (722))), .inl (qz_I g1 721 (1 : Int).toNat), .inr (.inr (some (720)))]) rfl ?_
    have n14 : 7 ≤ qz_N g1 722 ∧ qz_N g1 722 ≤ 7 := ez_len hB1 t722 tq_54 rfl
    refine ez_aI hB1 t722 rfl tq_54 rfl rfl (by omega) (by omega) (fun (b13 : 0 ≤ qz_I g1 722 (1 : Int).toNat) (b13' : qz_I g1 722 (1 : Int).toNat ≤ 4096) => ?_)
    obtain ⟨ab15, af15, at15⟩ := x1.bft u193 u721 u722
    have zf15 : qz_I g1 721 (1 : Int).toNat = rz_f h 1 := congrFun af15 1
    have zt15 : qz_I g1 722 (1 : Int).toNat = rz_t h 1 := congrFun at15 1
    have hc16 := x1.2
    refine ez_cv hB1 u720a rfl rfl rfl tq_52 rfl rfl rfl (rd_readElements hB1 u720a u193a (by omega) (by omega) (by omega) (by omega) (by omega) (fun o g2 τ2 hB2 x2 ho hi => ez_KA ?_))
    rw [ab15, zf15, zt15] at hi
    have X2 := x1.trans x2
    rcases o with _ | e2
    · skip
      have u720ab := (x2.1 _ (by rw [u720a]; decide)).1.trans u720a
      have u202ab := (x2.1 _ (by rw [u202a]; decide)).1.trans u202a
      have t721b := (x2.1 _ (by rw [t721]; decide)).1.trans t721
      have t722b := (x2.1 _ (by rw [t722]; decide)).1.trans t722
      have u193ab := (x2.1 _ (by rw [u193a]; decide)).1.trans u193a
      have u203ab := (x2.1 _ (by rw [u203a]; decide)).1.trans u203a
      have upb := (x2.1 _ (by rw [up]; decide)).1.trans up
      have hel : ¬ nz_els (rz_b h) (rz_f h 1) (rz_t h 1) := hi.mp rfl
      refine ez_go (n := 2) (pc' := 36) (L' := [(2, .inr (.inr none)), (1, .inr (.inr (some (r1)))), (0, .inr (.inr (some (720))))]) (st' := [.inr (.inr (some (r1)))]) rfl ?_
      refine ez_null1 rfl ?_
      refine ez_go (n := 1) (pc' := 40) (L' := [(2, .inr (.inr none)), (1, .inr (.inr (some (r1)))), (0, .inr (.inr (some (720))))]) (st' := [.inr (.inr none)]) rfl ?_
      refine ez_nonn0 rfl ?_
      refine ez_go (n := 1) (pc' := 44) (L' := [(2, .inr (.inr none)), (1, .inr (.inr (some (r1)))), (0, .inr (.inr (some (720))))]) (st' := [.inl (-1)]) rfl ?_
      exact ez_retI rfl rfl (kN g2 τ2 hB2 (X2.mono (by omega) (by omega)) (fun w => by first | exact hel w.2 | exact w.1 hrw))
    · skip
      have u720ab := (x2.1 _ (by rw [u720a]; decide)).1.trans u720a
      have u202ab := (x2.1 _ (by rw [u202a]; decide)).1.trans u202a
      have t721b := (x2.1 _ (by rw [t721]; decide)).1.trans t721
      have t722b := (x2.1 _ (by rw [t722]; decide)).1.trans t722
      have u193ab := (x2.1 _ (by rw [u193a]; decide)).1.trans u193a
      have u203ab := (x2.1 _ (by rw [u203a]; decide)).1.trans u203a
      have upb := (x2.1 _ (by rw [up]; decide)).1.trans up
      have hel : nz_els (rz_b h) (rz_f h 1) (rz_t h 1) := Classical.byContradiction fun w => by cases hi.mpr w
      have te2 := (ho _ rfl).1
      have le2 := dz_here_lt (hB2.1 _ (by rw [te2]; decide)).1
      have c2 := X2.2
      have hN2 : qz_N g2 r1 = qz_N g1 r1 := x2.N (by rw [up]; decide)
      refine ez_go (n := 2) (pc' := 36) (L' := [(2, .inr (.inr (some (e2)))), (1, .inr (.inr (some (r1)))), (0, .inr (.inr (some (720))))]) (st' := [.inr (.inr (some (r1)))]) rfl ?_
      refine ez_null1 rfl ?_
      refine ez_go (n := 1) (pc' := 40) (L' := [(2, .inr (.inr (some (e2)))), (1, .inr (.inr (some (r1)))), (0, .inr (.inr (some (720))))]) (st' := [.inr (.inr (some (e2)))]) rfl ?_
      refine ez_nonn1 rfl rfl ?_
      refine ez_go (n := 4) (pc' := 50) (L' := [(5, .inl (0)), (3, .inr (.inl (Int64.ofInt (0 : Nat)))), (2, .inr (.inr (some (e2)))), (1, .inr (.inr (some (r1)))), (0, .inr (.inr (some (720))))]) (st' := []) rfl ?_
      refine ez_less [(5, .inl (0)), (3, .inr (.inl (Int64.ofInt (0 : Nat)))), (2, .inr (.inr (some (e2)))), (1, .inr (.inr (some (r1)))), (0, .inr (.inr (some (720))))] rfl ⟨rfl, rfl, rfl, rfl, rfl, trivial⟩ ?_
      refine rd_takeEntry_l hB2 upb (fun x => ?_) _ 0 _ rfl (by omega) (by omega)
      refine ez_nw' (t := 8) hB2 rfl rfl rfl tq_8 rfl rfl (by omega) (by show g2.2.1 + 2 ≤ 7302232; omega) (fun g17 τ17 p17 hB17 x17 o17 t17 z17 e17 y17 => ?_)
      have x17 : ez_xt τ2 g2 τ17 g17 1 2 := x17
      have c17 := x17.2
      have u720abn17 := (x17.1 _ (by rw [u720ab]; decide)).1.trans u720ab
      have u202abn17 := (x17.1 _ (by rw [u202ab]; decide)).1.trans u202ab
      have t721bn17 := (x17.1 _ (by rw [t721b]; decide)).1.trans t721b
      have t722bn17 := (x17.1 _ (by rw [t722b]; decide)).1.trans t722b
      have u193abn17 := (x17.1 _ (by rw [u193ab]; decide)).1.trans u193ab
      have u203abn17 := (x17.1 _ (by rw [u203ab]; decide)).1.trans u203ab
      have upbn17 := (x17.1 _ (by rw [upb]; decide)).1.trans upb
      have te2n17 := (x17.1 _ (by rw [te2]; decide)).1.trans te2
      have X3 := X2.trans x17
      have zz : τ p17 = 0 := Classical.byContradiction fun e => by have := dz_here_lt (hB.1 _ e).1; omega
      have hN3 : qz_N g17 r1 = qz_N g2 r1 := x17.N (by rw [upb]; decide)
      refine ez_go (n := 1) (pc' := 78) (L' := [(3, .inr (.inl (x))), (2, .inr (.inr (some (e2)))), (1, .inr (.inr (some (r1)))), (0, .inr (.inr (some (720))))]) (st' := [.inr (.inr (some (p17))), .inr (.inr (some (p17)))]) rfl ?_
      refine ez_ci hB17.2.1 rfl rfl rfl rfl rfl rfl (rd_Entry_init (ez_K0 ?_))
      refine ez_go (n := 3) (pc' := 86) (L' := [(5, .inr (.inr (some (p17)))), (3, .inr (.inl (x))), (2, .inr (.inr (some (e2)))), (1, .inr (.inr (some (r1)))), (0, .inr (.inr (some (720))))]) (st' := [.inr (.inr (some (r1))), .inr (.inr (some (p17)))]) rfl ?_
      refine ez_al hB17 upbn17 rfl tq_5 rfl (fun (b18 : 0 ≤ qz_N g17 r1) (b18' : qz_N g17 r1 ≤ 18) => ?_)
      refine ez_pf hB17 t17 rfl rfl tq_8 rfl rfl rfl rfl (ez_vdI rfl rfl (by omega) (by omega)) (fun hB19 w20 => ?_)
      refine ez_go (n := 2) (pc' := 93) (L' := [(5, .inr (.inr (some (p17)))), (3, .inr (.inl (x))), (2, .inr (.inr (some (e2)))), (1, .inr (.inr (some (r1)))), (0, .inr (.inr (some (720))))]) (st' := [.inr (.inr (some (e2))), .inr (.inr (some (p17)))]) rfl ?_
      refine ez_pf hB19 t17 rfl rfl tq_8 rfl rfl rfl rfl (ez_vdR rfl te2n17 (by omega) (by omega)) (fun hB21 w22 => ?_)
      have XF23 := X3.fr (show ez_fr (ez_one p17) g17 (dz_put (dz_put g17 p17 0 (ez_v (.inl (qz_N g17 r1)))) p17 1 (ez_v (.inr (.inr (some (e2)))))) from (((ez_fr.refl (ez_one p17) g17).put (show Nat.beq p17 p17 = true from Nat.beq_refl _) _ _).put (show Nat.beq p17 p17 = true from Nat.beq_refl _) _ _)) zz
      have hB9 := ez_rtEntry hB21 t17 (by rw [w22]; show (1 : Int) ≤ (e2 : Int) + 1; omega)
      have X9 := XF23.rt (r := p17) (t := 7) zz
      have u720h := (X9.1 _ (by rw [u720]; decide)).1.trans u720
      have u202h := (X9.1 _ (by rw [u202]; decide)).1.trans u202
      have u721h := (X9.1 _ (by rw [u721]; decide)).1.trans u721
      have u722h := (X9.1 _ (by rw [u722]; decide)).1.trans u722
      have u193h := (X9.1 _ (by rw [u193]; decide)).1.trans u193
      have u203h := (X9.1 _ (by rw [u203]; decide)).1.trans u203
      have t9r : dz_tn τ17 p17 7 r1 = 5 := (ez_tn_ne (fun e => by rw [e, t17] at upbn17; cases upbn17)).trans upbn17
      have t9p : dz_tn τ17 p17 7 p17 = 7 := ez_tn_eq
      refine ez_go (n := 1) (pc' := 97) (L' := [(5, .inr (.inr (some (p17)))), (3, .inr (.inl (x))), (2, .inr (.inr (some (e2)))), (1, .inr (.inr (some (r1)))), (0, .inr (.inr (some (720))))]) (st' := [.inr (.inr (some (720)))]) rfl ?_
      refine ez_gC (p := 202) (tg := 48) hB9 u720h rfl rfl tq_52 rfl rfl (fun (t202 : _ = 48) => ?_)
      refine ez_go (n := 2) (pc' := 103) (L' := [(5, .inr (.inr (some (p17)))), (3, .inr (.inl (x))), (2, .inr (.inr (some (e2)))), (1, .inr (.inr (some (r1)))), (0, .inr (.inr (some (720))))]) (st' := [.inr (.inr (some (p17))), .inr (.inl (x)), .inr (.inr (some (202)))]) rfl ?_
      have j202 : ∀ j, qz_I (dz_put (dz_put g17 p17 0 (ez_v (.inl (qz_N g17 r1)))) p17 1 (ez_v (.inr (.inr (some (e2)))))) 202 j = qz_I h 202 j := fun j => X9.I (by rw [u202]; decide) j
      have j205 : ∀ j, qz_I (dz_put (dz_put g17 p17 0 (ez_v (.inl (qz_N g17 r1)))) p17 1 (ez_v (.inr (.inr (some (e2)))))) 205 j = qz_I h 205 j := fun j => X9.I (by rw [u205]; decide) j
      refine ez_cv hB9 t202 rfl rfl rfl tq_48 rfl rfl rfl (rd_tellEntry hB9 t202 ((X9.1 _ (by rw [u204]; decide)).1.trans u204) ((X9.1 _ (by rw [u205]; decide)).1.trans u205) t9p (by omega) (fun i hi => by rw [j202] at hi; rw [j205]; exact hE i hi) (fun g9 hB10 f9 j9 e9 => ez_K0 ?_))
      have hN9 : qz_N g9 r1 = qz_N (dz_put (dz_put g17 p17 0 (ez_v (.inl (qz_N g17 r1)))) p17 1 (ez_v (.inr (.inr (some (e2)))))) r1 := f9.N (by unfold nz_PE; rw [dz_beq_ne (fun e => by rw [e, t202] at t9r; cases t9r), dz_beq_ne (fun e => by rw [e, (X9.1 _ (by rw [u204]; decide)).1.trans u204] at t9r; cases t9r), dz_beq_ne (fun e => by rw [e, (X9.1 _ (by rw [u205]; decide)).1.trans u205] at t9r; cases t9r)]; rfl)
      have hN8 : qz_N (dz_put (dz_put g17 p17 0 (ez_v (.inl (qz_N g17 r1)))) p17 1 (ez_v (.inr (.inr (some (e2)))))) r1 = qz_N g17 r1 := by rw [ez_put_N, ez_put_N]
      refine ez_go (n := 1) (pc' := 107) (L' := [(5, .inr (.inr (some (p17)))), (3, .inr (.inl (x))), (2, .inr (.inr (some (e2)))), (1, .inr (.inr (some (r1)))), (0, .inr (.inr (some (720))))]) (st' := [.inr (.inr (some (r1)))]) rfl ?_
      refine ez_al hB10 t9r rfl tq_5 rfl (fun (b24 : 0 ≤ qz_N g9 r1) (b24' : qz_N g9 r1 ≤ 18) => ?_)
      exact ez_retI rfl rfl (kS g9 (dz_put (dz_put g17 p17 0 (ez_v (.inl (qz_N g17 r1)))) p17 1 (ez_v (.inr (.inr (some (e2)))))) (dz_tn τ17 p17 7) _ (by omega) (by omega) hB10 hB9 (X9.mono (by omega) (by omega)) f9 j9 e9 ⟨(fun w => by rw [hrw] at w; cases w), hel⟩ (fun vs2 w => by rw [hrw] at w; cases w; omega))

end EzTy
