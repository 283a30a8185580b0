/-! The law: key, compare. (Written by wip/p2/py/pvk21.py.) -/
/-- what key and compare write in the class -/
def cw5 (z : Nat) : Bool := kk_P z || kc_P z
theorem cw5_n {z : Nat} (h1 : z < 730 ∨ 732 < z) (h2 : z < 744 ∨ 753 < z) (h3 : z ≠ 192) (h4 : z ≠ 194) : cw5 z = false := by
  unfold cw5 kk_P kc_P
  rw [kb_n (r := 744) (by omega) h1, kb_n (r := 749) (by omega) h1, nz_P2_f h3 h4]; rfl
theorem cw5_k {z : Nat} (h : kk_P z = true) : cw5 z = true := by unfold cw5; rw [h]; rfl
theorem cw5_c {z : Nat} (h : kc_P z = true) : cw5 z = true := by unfold cw5; rw [h]; exact Bool.or_true _
def pk5 (t : Nat) : Bool := pkt t || (Nat.beq t 10 || (Nat.beq t 11 || (Nat.beq t 12 || (Nat.beq t 44 || Nat.beq t 46))))
theorem cw5_t {τ : Nat → Nat} (hX : jz_X τ) {q : Nat} (h : pk5 (τ q) = false) : cw5 q = false := by
  have no : ∀ p, tz_ex p ≠ 0 → pk5 (tz_ex p) = true → q ≠ p := fun p w1 w2 e => by rw [e, hX p w1, w2] at h; cases h
  refine cw5_n ?_ ?_ (no 192 (by decide) rfl) (no 194 (by decide) rfl)
  · have a1 := no 730 (by decide) rfl
    have a2 := no 731 (by decide) rfl
    have a3 := no 732 (by decide) rfl
    omega
  · have b0 := no 744 (by decide) rfl
    have b1 := no 745 (by decide) rfl
    have b2 := no 746 (by decide) rfl
    have b3 := no 747 (by decide) rfl
    have b4 := no 748 (by decide) rfl
    have b5 := no 749 (by decide) rfl
    have b6 := no 750 (by decide) rfl
    have b7 := no 751 (by decide) rfl
    have b8 := no 752 (by decide) rfl
    have b9 := no 753 (by decide) rfl
    omega
/-- what both sides may write -/
def tg5 (t : Nat) : Bool := tgk t || (Nat.beq t 10 || (Nat.beq t 11 || (Nat.beq t 12 || (Nat.beq t 23 || (Nat.beq t 24 || (Nat.beq t 25 || Nat.beq t 87))))))
theorem p5_no {t : Nat} (h : qz_p5 t = true) : tg5 t = false ∧ t ≠ 0 := by
  obtain ⟨a, b⟩ := p2_no (Bool.and_eq_true_iff.mp h).1
  have ne : ∀ k, qz_p5 k = false → Nat.beq t k = false := fun k hk => dz_beq_ne (fun e => by rw [e, hk] at h; cases h)
  refine ⟨?_, b⟩
  unfold tg5
  rw [a, ne 10 rfl, ne 11 rfl, ne 12 rfl, ne 23 rfl, ne 24 rfl, ne 25 rfl, ne 87 rfl]; rfl
theorem tg5_b {t : Nat} (h : tg5 t = false) : ∀ k, tg5 k = true → Nat.beq t k = false := fun k hk => dz_beq_ne (fun e => by rw [e, hk] at h; cases h)
theorem tg5_pk {t : Nat} (h : tg5 t = false) : pk5 t = false := by
  have b := tg5_b h
  unfold pk5
  rw [tgk_pk (Bool.or_eq_false_iff.mp h).1, b 10 rfl, b 11 rfl, b 12 rfl, b 44 rfl, b 46 rfl]; rfl
theorem tg5_kc {t : Nat} (h : tg5 t = false) : kcS t = false := by
  have b := tg5_b h
  unfold kcS kcT
  rw [b 21 rfl, b 23 rfl, b 24 rfl, b 25 rfl, b 83 rfl, b 85 rfl, b 87 rfl]; rfl
theorem fm5_kc {j : Nat} (h : qz_fm5 j = true) : j ≠ 0 ∧ j ≠ 4 ∧ kcJ j = false := by
  have b : ∀ k, qz_fm5 k = false → j ≠ k := fun k hk e => by rw [e, hk] at h; cases h
  refine ⟨b 0 rfl, b 4 rfl, ?_⟩
  unfold kcJ
  rw [dz_beq_ne (b 24 rfl), dz_beq_ne (b 25 rfl), dz_beq_ne (b 30 rfl), dz_beq_ne (b 35 rfl), dz_beq_ne (b 36 rfl), dz_beq_ne (b 38 rfl), dz_beq_ne (b 39 rfl), dz_beq_ne (b 40 rfl), dz_beq_ne (b 41 rfl)]; rfl
theorem tg_fin5 {τ τ3 : Nat → Nat} {h g : cz_H} (hb : dz_B tz_T (qz_X rR) τ h) (B3 : ez_B τ3 g) (T : ∀ q, τ q ≠ 0 → τ3 q = τ q) (T0 : ∀ q, τ q = 0 → τ3 q ≠ 0 → kcT (τ3 q) = true) (C : ∀ q, τ q ≠ 0 → tg5 (τ q) = false → g.2.2 q = h.2.2 q) (J : ∀ j, j ≠ 0 → j ≠ 4 → kcJ j = false → qz_I g 770 j = qz_I h 770 j) (i1 : qz_I g 192 1 = qz_I h 192 1) (hn : qz_I h 192 1 = qz_I h 770 2) (S : qz_I h 770 25 ≤ qz_N h (sk h) → qz_I g 770 25 ≤ qz_N g (sk g)) (S4 : 4 * qz_I h 770 36 ≤ qz_N h (gel h) → 4 * qz_I g 770 36 ≤ qz_N g (gel g)) (R2 : (g.2.1 : Int) - 2 * zz g ≤ (h.2.1 : Int) - 2 * zz h + 18) (R1 : 64 * (g.1 : Int) - zz g ≤ 64 * (h.1 : Int) - zz h + 256) (xx : rXt g) (q1 : clr g 744) (q2 : clr g 749) (q3 : got g ≠ gke g) : dz_B tz_T (qz_X rR) τ3 g ∧ stp h g := by
  have hB := dz_ezB hb
  have hX := hb.2.1
  have t770 : τ 770 = 75 := hX.1 770 (by decide)
  have X3 : jz_X τ3 := fun r hr => by rw [T r (by rw [hX.1 r hr]; exact hr)]; exact hX.1 r hr
  have u770 : τ3 770 = 75 := X3 770 (by decide)
  have cc : ∀ q t, τ q = t → (!(Nat.beq t 0) && !(tg5 t)) = true → g.2.2 q = h.2.2 q := fun q t ht w => by
    rw [Bool.and_eq_true, Bool.not_eq_true', Bool.not_eq_true'] at w
    exact C q (fun e => by rw [← ht, e] at w; cases w.1) (by rw [ht]; exact w.2)
  have s : qz_s5 τ h τ3 g := by
    refine ⟨fun r hr => T r (fun e => by rw [e] at hr; cases hr), fun r hr => ?_, fun r hr => ?_, fun _ j hj => ?_⟩
    · by_cases e : τ r = 0
      · have w := T0 r e (fun w => by rw [w] at hr; cases hr)
        rcases kcT_cs w with w | w | w | w <;> (rw [w] at hr; cases hr)
      · exact T r e
    · obtain ⟨a, b⟩ := p5_no hr
      exact C r b a
    · obtain ⟨a, b, c⟩ := fm5_kc hj
      exact J j a b c
  obtain ⟨⟨y1, y2⟩, y3, y4⟩ := hX.2.2.1
  have x2 : qz_X2 τ3 g := ⟨⟨ez_tsk B3 u770, S y2⟩, (ez_tg5 B3 u770).2.2.1, S4 y4⟩
  have rp : rP g := by
    obtain ⟨Ls, ⟨t, c, m, w, s6, s7, u, p⟩, ww, x9, q9⟩ := hX.2.2.2.2
    intro j
    have a1 : qz_I g 193 j = qz_I h 193 j := by unfold qz_I; rw [cc 193 45 (hX.1 193 (by decide)) rfl]
    have a2 : qz_I g 771 j = qz_I h 771 j := by unfold qz_I; rw [cc 771 76 (hX.1 771 (by decide)) rfl]
    rw [a1, a2]; exact p j
  have tt := ez_tls hB t770
  have q5 : ∀ L, r5K τ h L → r5K τ3 g L := fun L q => by
    obtain ⟨Ls, ⟨t, c, m, w, s6, s7, u, p⟩, ww, x9, q9⟩ := hX.2.2.2.2
    obtain ⟨-, ⟨Cs, R, mc, ce, l⟩, -, -, n9⟩ := q
    have j202 : ∀ j, qz_I g 202 j = qz_I h 202 j := fun j => by unfold qz_I; rw [cc 202 48 (hX.1 202 (by decide)) rfl]
    refine r5_of X3 (mC_tr5 mc (fun i hi => by
      have a := t.2.2.2.2.2.2.2.1 i hi
      exact ⟨a, (m.2.2.1.2 _ a).1, (m.2.2.1.2 _ a).2.1⟩) tt.2 tt.1 (fun x k hx hk => ?_) (fun j hj => J j (by omega) (by omega) (by rcases hj with e | e | e | e <;> (subst e; rfl)))) (ce.tr (j202 4) (cc 204 50 (hX.1 204 (by decide)) rfl) (cc 205 51 (hX.1 205 (by decide)) rfl) (fun x hx => ?_)) (by rw [j202 5]; exact l) q1 q2 q3 n9
    · rcases hk with e | e | e | e | e <;> (subst e; exact cc x _ hx rfl)
    · rcases hx with e | e
      · exact ⟨T x (by omega), cc x _ e rfl⟩
      · exact ⟨T x (by omega), cc x _ e rfl⟩
  refine ⟨⟨B3.1, ⟨X3, B3.2.1, x2, XP_s5 s hX.2.2.2.1, rR_s5 s hX.2.2.2.2 rp xx q5⟩, B3.2.2⟩, ?_⟩
  have td := (ez_tdb hB t770).2
  have jf : ∀ j, j ≠ 0 → j ≠ 4 → kcJ j = false → qz_P g 770 j = qz_P h 770 j := fun j a b c => by unfold qz_P; rw [J j a b c]
  have b1 : qz_N g (bw g) = qz_N h (bw h) := by rw [show bw g = bw h from jf 22 (by decide) (by decide) rfl]; unfold qz_N; rw [cc _ 20 td rfl]
  have b7 : qz_N g (po g) = qz_N h (po h) := by rw [show po g = po h from jf 9 (by decide) (by decide) rfl]; unfold qz_N; rw [cc _ 17 tt.2 rfl]
  have b8 : qz_N g (ls g) = qz_N h (ls h) := by rw [show ls g = ls h from jf 11 (by decide) (by decide) rfl]; unfold qz_N; rw [cc _ 18 tt.1 rfl]
  have bt : 0 ≤ qz_I h 192 1 ∧ qz_I h 192 1 ≤ 4096 := ez_fB (cl := 0) hB (hX.1 192 (by decide)) tq_44 rfl rfl (by decide)
  refine stp_q (by unfold qz_N; rw [cc 0 34 (hX.1 0 (by decide)) rfl]) (by rw [i1, J 2 (by decide) (by decide) rfl]; exact hn) (by rw [i1]; omega) (by unfold qz_I; rw [cc 202 48 (hX.1 202 (by decide)) rfl]) (J 12 (by decide) (by decide) rfl) ?_ ?_
  · unfold zz at R2; unfold psi; rw [b1, b7, b8]; omega
  · unfold zz at R1; unfold phc; rw [b1, b7, b8]; omega
section TgK
variable {τ τ2 : Nat → Nat} {h H h1 g2 g3 : cz_H} {c : Int}
/-- the model, behind the class -/
theorem cg5 (hX : jz_X τ) (m1 : mF H h1 c) (n : nc τ h1 τ2 g2) (c3 : ∀ q, τ2 q ≠ 0 → q ≠ 770 → q ≠ 772 → g3.2.2 q = g2.2.2 q) : ∀ q t, τ q = t → (!(Nat.beq t 0) && !(Nat.beq t 75) && !(Nat.beq t 77) && !(Nat.beq t 82) && !(kcS t)) = true → g3.2.2 q = H.2.2 q := fun q t e w => by
  simp only [Bool.and_eq_true, Bool.not_eq_true'] at w
  obtain ⟨⟨⟨⟨w1, w2⟩, w3⟩, w4⟩, w5⟩ := w
  have q0 : τ q ≠ 0 := fun y => by rw [← e, y] at w1; cases w1
  have n7 : q ≠ 770 := fun y => by rw [y, hX 770 (by decide)] at e; rw [← e] at w2; cases w2
  have n2 : q ≠ 772 := fun y => by rw [y, hX 772 (by decide)] at e; rw [← e] at w3; cases w3
  have n4 : q ≠ 794 := fun y => by rw [y, hX 794 (by decide)] at e; rw [← e] at w4; cases w4
  have a := n.1 q q0
  rw [c3 q (by rw [a.1]; exact q0) n7 n2, a.2 n7 n4 (by rw [e]; exact w5), m1.1.2.2 q (dz_beq_ne n7)]
theorem tg_k5 (hb : dz_B tz_T (qz_X rR) τ h) (hn : qz_I h 192 1 = qz_I h 770 2) (BH : ez_B τ H) (B1 : ez_B τ h1) (CH : ∀ q, τ q ≠ 0 → pk5 (τ q) = false → τ q ≠ 35 → H.2.2 q = h.2.2 q) (iH : qz_I H 192 1 = qz_I h 192 1) (k1 : clr H 744) (k2 : clr H 749) (rH : H.1 ≤ h.1 + 1 ∧ H.2.1 ≤ h.2.1 + 6) (m1 : mF H h1 c) (n : nc τ h1 τ2 g2) (dk : got g2 ≠ gke g2) (c3 : ∀ q, τ2 q ≠ 0 → q ≠ 770 → q ≠ 772 → g3.2.2 q = g2.2.2 q) (j3 : ∀ j, j ≠ 0 → j ≠ 4 → qz_I g3 770 j = qz_I g2 770 j) (r3 : g3.1 ≤ g2.1 + 1 ∧ g3.2.1 ≤ g2.2.1 + 6) (B2 : ez_B τ2 g2) (B3 : ez_B τ2 g3) : dz_B tz_T (qz_X rR) τ2 g3 ∧ stp h g3 := by
  have hB := dz_ezB hb
  have hX := hb.2.1.1
  have X2 := n.X hX
  have t770 : τ 770 = 75 := hX 770 (by decide)
  have u770 : τ2 770 = 75 := X2 770 (by decide)
  have CG := cg5 hX m1 n c3
  have c770 : H.2.2 770 = h.2.2 770 := CH 770 (by rw [t770]; decide) (by rw [t770]; rfl) (by rw [t770]; decide)
  have J1 : ∀ j, j ≠ 0 → qz_I h1 770 j = qz_I h 770 j := fun j a => by rw [m1.2.1 j a]; unfold qz_I; rw [c770]
  have C1 : ∀ q t, τ q = t → (!(Nat.beq t 0) && !(Nat.beq t 75) && !(Nat.beq t 35) && !(pk5 t)) = true → h1.2.2 q = h.2.2 q := fun q t e w => by
    simp only [Bool.and_eq_true, Bool.not_eq_true'] at w
    obtain ⟨⟨⟨w1, w2⟩, w3⟩, w4⟩ := w
    rw [m1.1.2.2 q (dz_beq_ne (fun y => by rw [y, t770] at e; rw [← e] at w2; cases w2))]
    exact CH q (fun y => by rw [← e, y] at w1; cases w1) (by rw [e]; exact w4) (fun y => by rw [← e, y] at w3; cases w3)
  -- the arrays that grow
  obtain ⟨-, a1, a2, a3, a4, a5⟩ := ez_tg5 hB t770
  obtain ⟨-, d1, d2, d3, d4, d5⟩ := ez_tg5 B2 u770
  have f1 : ∀ j, j ≠ 0 → qz_P h1 770 j = qz_P h 770 j := fun j a => by unfold qz_P; rw [J1 j a]
  have f3 : ∀ j, j ≠ 0 → j ≠ 4 → qz_P g3 770 j = qz_P g2 770 j := fun j a b => by unfold qz_P; rw [j3 j a b]
  have N1 : ∀ q t, τ q = t → (!(Nat.beq t 0) && !(Nat.beq t 75) && !(Nat.beq t 35) && !(pk5 t)) = true → qz_N h1 q = qz_N h q := fun q t e w => by unfold qz_N; rw [C1 q t e w]
  have N3 : ∀ q, τ2 q ≠ 0 → τ2 q ≠ 75 → τ2 q ≠ 77 → qz_N g3 q = qz_N g2 q := fun q w1 w2 w3 => by unfold qz_N; rw [c3 q w1 (fun y => w2 (by rw [y]; exact u770)) (fun y => w3 (by rw [y]; exact X2 772 (by decide)))]
  have z1 : zz h1 = zz h := by
    unfold zz
    rw [show sk h1 = sk h from f1 24 (by decide), show gel h1 = gel h from f1 35 (by decide), show gfo h1 = gfo h from f1 38 (by decide), show got h1 = got h from f1 39 (by decide), show gke h1 = gke h from f1 40 (by decide), N1 _ _ a1 rfl, N1 _ _ a2 rfl, N1 _ _ a3 rfl, N1 _ _ a4 rfl, N1 _ _ a5 rfl]
  have es : sk g3 = sk g2 := f3 24 (by decide) (by decide)
  have ee : gel g3 = gel g2 := f3 35 (by decide) (by decide)
  have ns : qz_N g3 (sk g2) = qz_N g2 (sk g2) := N3 _ (by rw [d1]; decide) (by rw [d1]; decide) (by rw [d1]; decide)
  have ne : qz_N g3 (gel g2) = qz_N g2 (gel g2) := N3 _ (by rw [d2]; decide) (by rw [d2]; decide) (by rw [d2]; decide)
  have z3 : zz g3 = zz g2 := by
    unfold zz
    rw [es, ee, show gfo g3 = gfo g2 from f3 38 (by decide) (by decide), show got g3 = got g2 from f3 39 (by decide) (by decide), show gke g3 = gke g2 from f3 40 (by decide) (by decide), ns, ne, N3 (gfo g2) (by rw [d3]; decide) (by rw [d3]; decide) (by rw [d3]; decide), N3 (got g2) (by rw [d4]; decide) (by rw [d4]; decide) (by rw [d4]; decide), N3 (gke g2) (by rw [d5]; decide) (by rw [d5]; decide) (by rw [d5]; decide)]
  have nr := n.2.2.2.1
  have e1 := m1.1.1
  have e2 := m1.1.2.1
  have dk3 : got g3 ≠ gke g3 := by rw [show got g3 = got g2 from f3 39 (by decide) (by decide), show gke g3 = gke g2 from f3 40 (by decide) (by decide)]; exact dk
  refine tg_fin5 hb B3 (fun q hq => (n.1 q hq).1) n.2.1 (fun q hq ht => ?_) (fun j a b k => ?_) ?_ hn (fun w => ?_) (fun w => ?_) (by rw [z3]; omega) (by rw [z3]; omega) ?_ (clr_c5 k1 (CG 744 10 (hX 744 (by decide)) rfl)) (clr_c5 k2 (CG 749 10 (hX 749 (by decide)) rfl)) dk3
  · have b := tg5_b ht
    rw [CG q _ rfl (by rw [dz_beq_ne hq, b 75 rfl, b 77 rfl, b 82 rfl, tg5_kc ht]; rfl)]
    exact CH q hq (tg5_pk ht) (fun e => by rw [e] at ht; cases ht)
  · rw [j3 j a b, n.2.2.1 j k, J1 j a]
  · rw [show qz_I g3 192 1 = qz_I H 192 1 by unfold qz_I; rw [CG 192 44 (hX 192 (by decide)) rfl]]; exact iH
  · rw [j3 25 (by decide) (by decide), es, ns]
    refine n.2.2.2.2.2.1 ?_
    rw [J1 25 (by decide), show sk h1 = sk h from f1 24 (by decide), N1 _ _ a1 rfl]; exact w
  · rw [j3 36 (by decide) (by decide), ee, ne]
    refine n.2.2.2.2.2.2 ?_
    rw [J1 36 (by decide), show gel h1 = gel h from f1 35 (by decide), N1 _ _ a2 rfl]; exact w
  · obtain ⟨Ls, -, ww, xx, q9⟩ := hb.2.1.2.2.2.2
    refine rX_t ww.1 xx (fun q hq => ?_)
    have w : g3.2.2 q = H.2.2 q := by rcases hq with e | e | e | e <;> exact CG q _ e rfl
    rw [w]
    exact CH q (by omega) (by rcases hq with e | e | e | e <;> (rw [e]; rfl)) (by omega)
end TgK
theorem lvc_bd (W V : List eL) : ∀ n, -1 ≤ lvc W V n ∧ lvc W V n ≤ 1
  | 0 => by show -1 ≤ (0 : Int) ∧ (0 : Int) ≤ 1; decide
  | n + 1 => by
    have ih := lvc_bd W V n
    show -1 ≤ (if lvc W V n ≠ 0 then lvc W V n else lcp (lev W n) (lev V n)) ∧ (if lvc W V n ≠ 0 then lvc W V n else lcp (lev W n) (lev V n)) ≤ 1
    split
    · exact ih
    · exact lcp_bd _ _
/-- what the class answers -/
def qkP (τ : Nat → Nat) (h : cz_H) (A S Xr : Prop) (V : Int → Prop) (F : cz_F) : Prop := (A ∧ F = (.inr h.1, xc h 1)) ∨ (S ∧ F = (.inr h.1, xc h 2)) ∨ (Xr ∧ ∃ g, F = (.inr g.1, xc g 0) ∧ ez_B τ g ∧ ez_fr cw5 h g ∧ qz_I g 192 1 = qz_I h 192 1 ∧ clr g 744 ∧ clr g 749) ∨ ∃ v g, V v ∧ F = (.inl (some (ez_v (.inl v))), g) ∧ ez_B τ g ∧ ez_fr cw5 h g ∧ qz_I g 192 1 = qz_I h 192 1 ∧ clr g 744 ∧ clr g 749
theorem tg_pre5 {τ : Nat → Nat} {h H : cz_H} {Ls : List vz} {X : Nat → List Int} (hX : jz_X τ) (t : rT τ h) (m : mJ τ h Ls) (w : uz_wf (vF Ls)) (s7 : qz_I h 770 7 ≠ 0 → uz_S (vF Ls) (vE Ls) ∧ sq h ∧ eJ τ h (vF Ls) ∧ pP h (vF Ls) ∧ ∀ x, (vF Ls x).2 ≠ none → az (vF Ls) 501 x) (ww : rW τ h Ls) (x2 : mxs h X) (BH : ez_B τ H) (CH : ∀ q, τ q ≠ 0 → pk5 (τ q) = false → τ q ≠ 35 → H.2.2 q = h.2.2 q) : (mI τ H Ls 0 ∧ (qz_I H 770 7 ≠ 0 → nmC τ H Ls)) ∧ slt H ∧ mxs H X ∧ (∀ j, qz_I H 770 j = qz_I h 770 j) ∧ (∀ j, qz_I H 0 j = qz_I h 0 j) ∧ qz_N H 0 = qz_N h 0 := by
  have t770 : τ 770 = 75 := hX 770 (by decide)
  have t0 : τ 0 = 34 := hX 0 (by decide)
  have c7 : H.2.2 770 = h.2.2 770 := CH 770 (by rw [t770]; decide) (by rw [t770]; rfl) (by rw [t770]; decide)
  have c0 : H.2.2 0 = h.2.2 0 := CH 0 (by rw [t0]; decide) (by rw [t0]; rfl) (by rw [t0]; decide)
  have e7 : ∀ j, qz_I H 770 j = qz_I h 770 j := fun j => by unfold qz_I; rw [c7]
  have s : qz_s5 τ h τ H := ⟨fun _ _ => rfl, fun _ _ => rfl, fun r hr => by
    obtain ⟨a, b⟩ := p5_no hr
    exact CH r b (tg5_pk a) (fun e => by rw [e] at a; cases a), fun _ j _ => e7 j⟩
  have k := rK_of s t
  have m2 := k.Jm m
  have wW := k.W ww
  have tt := (rU_of hX).2
  have uq : ∀ q tg, τ q = tg → (tg = 37 ∨ tg = 79) → H.2.2 q = h.2.2 q := fun q tg hq ht => by
    rcases ht with e | e <;> (subst e; exact CH q (by rw [hq]; decide) (by rw [hq]; rfl) (by rw [hq]; decide))
  refine ⟨⟨⟨BH, hX, m2⟩, fun z => rW_nm BH hX m2 w (fun z9 => ?_) wW z⟩, wW.2.1, x2.k (fun q hq => ?_), e7, fun j => by unfold qz_I; rw [c0], by unfold qz_N; rw [c0]⟩
  · obtain ⟨a1, a2, a3, a4, a5⟩ := s7 (by rw [← e7]; exact z9)
    exact ⟨a1, k.Js a2, k.Je a3, k.Jp a4, a5⟩
  · by_cases e : q = 782
    · rw [e]; exact uq 782 79 (hX 782 (by decide)) (Or.inr rfl)
    · have ts := (tt (q - 774) (by omega)).1
      rw [show 774 + (q - 774) = q by omega] at ts
      exact uq q 37 ts (Or.inl rfl)
/-- and of keys -/
theorem tg_pk5 {τ : Nat → Nat} {h H : cz_H} {Ls : List vz} {Cs : List cEo} (hB : ez_B τ h) (hX : jz_X τ) (t : rT τ h) (m : mJ τ h Ls) (mc : mC h Cs) (rm : rmc h) (dk : qz_P h 770 39 ≠ qz_P h 770 40) (rH : H.1 ≤ h.1 + 1 ∧ H.2.1 ≤ h.2.1 + 6) (hr : h.1 ≤ 100000 ∧ (h.2.1 : Int) ≤ 1029900 + 2 * zz h) (CH : ∀ q, τ q ≠ 0 → pk5 (τ q) = false → τ q ≠ 35 → H.2.2 q = h.2.2 q) (e7 : ∀ j, qz_I H 770 j = qz_I h 770 j) : mC H Cs ∧ rmc H ∧ got H ≠ gke H := by
  have t770 : τ 770 = 75 := hX 770 (by decide)
  have tt := ez_tls hB t770
  obtain ⟨-, a1, a2, a3, a4, a5⟩ := ez_tg5 hB t770
  have f1 : ∀ j, qz_P H 770 j = qz_P h 770 j := fun j => by unfold qz_P; rw [e7 j]
  have C1 : ∀ q t, τ q = t → (!(Nat.beq t 0) && !(Nat.beq t 35) && !(pk5 t)) = true → H.2.2 q = h.2.2 q := fun q t e w => by
    simp only [Bool.and_eq_true, Bool.not_eq_true'] at w
    obtain ⟨⟨w1, w3⟩, w4⟩ := w
    exact CH q (fun y => by rw [← e, y] at w1; cases w1) (by rw [e]; exact w4) (fun y => by rw [← e, y] at w3; cases w3)
  have N1 : ∀ q t, τ q = t → (!(Nat.beq t 0) && !(Nat.beq t 35) && !(pk5 t)) = true → qz_N H q = qz_N h q := fun q t e w => by unfold qz_N; rw [C1 q t e w]
  have z1 : zz H = zz h := by
    unfold zz
    rw [show sk H = sk h from f1 24, show gel H = gel h from f1 35, show gfo H = gfo h from f1 38, show got H = got h from f1 39, show gke H = gke h from f1 40, N1 _ _ a1 rfl, N1 _ _ a2 rfl, N1 _ _ a3 rfl, N1 _ _ a4 rfl, N1 _ _ a5 rfl]
  have n1 : 64 ≤ qz_N h (sk h) ∧ qz_N h (sk h) ≤ 18700 := ez_len hB a1 tq_21 rfl
  have n2 : 1024 ≤ qz_N h (gel h) ∧ qz_N h (gel h) ≤ 300000 := ez_len hB a2 tq_23 rfl
  have n3 : 1024 ≤ qz_N h (gfo h) ∧ qz_N h (gfo h) ≤ 200000 := ez_len hB a3 tq_24 rfl
  have n4 : 1024 ≤ qz_N h (got h) ∧ qz_N h (got h) ≤ 600100 := ez_len hB a4 tq_25 rfl
  have n5 : 1024 ≤ qz_N h (gke h) ∧ qz_N h (gke h) ≤ 600100 := ez_len hB a5 tq_25 rfl
  have zb : 0 ≤ zz h := by unfold zz; omega
  refine ⟨mC_tr5 mc (fun i hi => by
    have a := t.2.2.2.2.2.2.2.1 i hi
    exact ⟨a, (m.2.2.1.2 _ a).1, (m.2.2.1.2 _ a).2.1⟩) tt.2 tt.1 (fun x k hx hk => ?_) (fun j _ => e7 j), ?_, ?_⟩
  · rcases hk with e | e | e | e | e <;> (subst e; exact C1 x _ hx rfl)
  · unfold rmc; rw [z1]; omega
  · unfold got gke; rw [f1, f1]; exact dk
section EzKl
variable {d : Nat} {h : cz_H} {τ : Nat → Nat} {P Q : cz_F → Prop}
theorem hp_key {a1 a2 a3 : Int} (hB : ez_B τ h) (t192 : τ 192 = 44) (hc : ez_W d cm_19 0 [(0, .inr (.inr (some (192)))), (1, .inl (a1)), (2, .inl (a2)), (3, .inl (a3))] [] h P) (k : ∀ F, P F → (∃ v τ1 g, F = (.inl (some (ez_v (.inl v))), g) ∧ ez_B τ1 g ∧ τ1 805 = 35 ∧ (ez_B τ1 (ow g v) → Q (.inl (some (ez_v (.inl 0))), ow g v))) ∨ (∃ r g, F = (.inr r, g) ∧ cz_exc g r = some 1 ∧ Q (.inl (some (ez_v (.inl 1))), g)) ∨ (∃ r g, F = (.inr r, g) ∧ cz_exc g r = some 2 ∧ Q (.inl (some (ez_v (.inl 2))), g)) ∨ (∃ r g, F = (.inr r, g) ∧ cz_exc g r = some 0 ∧ Q (.inl (some (ez_v (.inl 3))), g))) : ez_W (d + 1) cm_204 0 [(0, .inr (.inr (some (192)))), (1, .inl (a1)), (2, .inl (a2)), (3, .inl (a3)), (4, .inr (.inr (some (805))))] [] h Q := by
  refine ez_go (n := 6) (pc' := 7) (L' := [(0, .inr (.inr (some (192)))), (1, .inl (a1)), (2, .inl (a2)), (3, .inl (a3)), (4, .inr (.inr (some (805))))]) (st' := [.inl (a3), .inl (a2), .inl (a1), .inr (.inr (some (192))), .inl (0), .inr (.inr (some (805)))]) rfl ?_
  refine ez_cv hB t192 rfl rfl rfl tq_44 rfl rfl rfl (ez_mono hc (fun F hF => ?_))
  rcases k F hF with ⟨v, τ1, g, rfl, hB1, u805, kq⟩ | ⟨r, g, rfl, he, kq⟩ | ⟨r, g, rfl, he, kq⟩ | ⟨r, g, rfl, he, kq⟩
  · refine ez_K1 ?_
    refine ez_go (n := 1) (pc' := 11) (L' := [(0, .inr (.inr (some (192)))), (1, .inl (a1)), (2, .inl (a2)), (3, .inl (a3)), (4, .inr (.inr (some (805))))]) (st' := [.inr (.inl ((Int32.ofInt (v)).toInt64)), .inl (0), .inr (.inr (some (805)))]) rfl ?_
    have n3 : 1 ≤ qz_N g 805 ∧ qz_N g 805 ≤ 1 := ez_len hB1 u805 tq_35 rfl
    refine ez_as hB1 u805 rfl tq_35 rfl rfl (by omega) (by omega) ez_vdJ (fun hB1 w2 => ?_)
    refine ez_go (n := 2) (pc' := 28) (L' := [(0, .inr (.inr (some (192)))), (1, .inl (a1)), (2, .inl (a2)), (3, .inl (a3)), (4, .inr (.inr (some (805))))]) (st' := [.inl (0)]) rfl ?_
    exact ez_retI rfl rfl (kq hB1)
  · refine ez_Kc he rfl ?_
    refine ez_go (n := 2) (pc' := 18) (L' := [(5, .inr (.inr (some (r)))), (0, .inr (.inr (some (192)))), (1, .inl (a1)), (2, .inl (a2)), (3, .inl (a3)), (4, .inr (.inr (some (805))))]) (st' := [.inl (1)]) rfl ?_
    exact ez_retI rfl rfl kq
  · refine ez_Kc he rfl ?_
    refine ez_go (n := 2) (pc' := 22) (L' := [(5, .inr (.inr (some (r)))), (0, .inr (.inr (some (192)))), (1, .inl (a1)), (2, .inl (a2)), (3, .inl (a3)), (4, .inr (.inr (some (805))))]) (st' := [.inl (2)]) rfl ?_
    exact ez_retI rfl rfl kq
  · refine ez_Kc he rfl ?_
    refine ez_go (n := 2) (pc' := 26) (L' := [(5, .inr (.inr (some (r)))), (0, .inr (.inr (some (192)))), (1, .inl (a1)), (2, .inl (a2)), (3, .inl (a3)), (4, .inr (.inr (some (805))))]) (st' := [.inl (3)]) rfl ?_
    exact ez_retI rfl rfl kq

theorem rd_keyP1 {Ls : List vz} {X : Nat → List Int} {a1 a2 : Int} {T : Int → Nat} {O : Nat → Int} {Cs : List cEo} {R : List (List Int × List eL)} (hX : jz_X τ) (kc : qz_I h 202 6 ≠ 0 → kC τ h T (vF Ls) (vE Ls) O (yD Ls) (cLK Cs) R) (hB : ez_B τ h) (hw : uz_wf (vF Ls)) (hK : ∀ x, (0 ≤ x ∧ x ≤ 1114111) → 0 ≤ (vF Ls x).1 ∧ (vF Ls x).1 ≤ 254) (hL : ∀ row e, cLK Cs row = some e → (∀ x ∈ e, eok x) ∧ e.length ≤ 18) (sl : slt h) (txh : txs h X) (cl : clr h 744) (cl2 : clr h 749) (r1 : ez_rg a1) (r2 : ez_rg a2) (hr1 : h.1 + 1 ≤ 600192) (hr2 : h.2.1 + 6 ≤ 7302232) : ez_W (d + 8) cm_19 0 [(0, .inr (.inr (some (192)))), (1, .inl (a1)), (2, .inl (a2)), (3, .inl (1))] [] h (qkP τ h (a1 < 0 ∨ 7 < a1 ∨ a2 < 1 ∨ 4 < a2) (((0 ≤ a1 ∧ a1 ≤ 7) ∧ 1 ≤ a2 ∧ a2 ≤ 4) ∧ qz_I h 202 6 = 0) (((0 ≤ a1 ∧ a1 ≤ 7) ∧ 1 ≤ a2 ∧ a2 ≤ 4) ∧ qz_I h 202 6 ≠ 0 ∧ (kyN (vF Ls) (X a1.toNat) ∨ ∃ W, kyR (vF Ls) (vE Ls) (cLK Cs) (yD Ls) true (X a1.toNat) W ∧ 32768 < (KY W (lvl true a2).toNat).length)) (fun v => (((0 ≤ a1 ∧ a1 ≤ 7) ∧ 1 ≤ a2 ∧ a2 ≤ 4) ∧ qz_I h 202 6 ≠ 0 ∧ ∃ W, kyR (vF Ls) (vE Ls) (cLK Cs) (yD Ls) true (X a1.toNat) W ∧ (KY W (lvl true a2).toNat).length ≤ 32768 ∧ v = 2 * ((KY W (lvl true a2).toNat).length : Int)))) :=
  rd_ckey1 hX kc hB hw hK hL sl txh cl r1 r2 hr1 hr2 (fun w => Or.inl ⟨w, rfl⟩) (fun w z => Or.inr (Or.inl ⟨⟨w, z⟩, rfl⟩)) (fun w z y g b1 b2 b3 => Or.inr (Or.inr (Or.inl ⟨⟨w, z, y⟩, g, rfl, b1, ez_fr_mono b2 (fun q hq => cw5_k (kk_b hq)), b2.I (kb_n (by decide) (by decide)) 1, b3, cl2.e (fun j => b2.I (kb_n (by decide) (by decide)) j)⟩))) (fun w z W y1 y2 g b1 b2 b3 b4 _ _ => Or.inr (Or.inr (Or.inr ⟨_, g, ⟨w, z, W, y1, y2, rfl⟩, rfl, b1, ez_fr_mono b2 (fun q hq => cw5_k hq), b4 1 (by decide), b3, cl2.e (fun j => b2.I (by unfold kk_P; rw [kb_n (r := 744) (by decide) (by decide), nz_P2_f (by decide) (by decide)]; rfl) j)⟩)))
theorem rd_keyP0 {Ls : List vz} {X : Nat → List Int} {a1 a2 : Int} {T : Int → Nat} {O : Nat → Int} {Cs : List cEo} {R : List (List Int × List eL)} (hX : jz_X τ) (kc : qz_I h 202 6 ≠ 0 → kC τ h T (vF Ls) (vE Ls) O (yD Ls) (cLK Cs) R) (hB : ez_B τ h) (hw : uz_wf (vF Ls)) (hK : ∀ x, (0 ≤ x ∧ x ≤ 1114111) → 0 ≤ (vF Ls x).1 ∧ (vF Ls x).1 ≤ 254) (hL : ∀ row e, cLK Cs row = some e → (∀ x ∈ e, eok x) ∧ e.length ≤ 18) (sl : slt h) (txh : txs h X) (cl : clr h 744) (cl2 : clr h 749) (r1 : ez_rg a1) (r2 : ez_rg a2) (hr1 : h.1 + 1 ≤ 600192) (hr2 : h.2.1 + 6 ≤ 7302232) : ez_W (d + 8) cm_19 0 [(0, .inr (.inr (some (192)))), (1, .inl (a1)), (2, .inl (a2)), (3, .inl (0))] [] h (qkP τ h (a1 < 0 ∨ 7 < a1 ∨ a2 < 1 ∨ 4 < a2) (((0 ≤ a1 ∧ a1 ≤ 7) ∧ 1 ≤ a2 ∧ a2 ≤ 4) ∧ qz_I h 202 6 = 0) (((0 ≤ a1 ∧ a1 ≤ 7) ∧ 1 ≤ a2 ∧ a2 ≤ 4) ∧ qz_I h 202 6 ≠ 0 ∧ (kyN (vF Ls) (X a1.toNat) ∨ ∃ W, kyR (vF Ls) (vE Ls) (cLK Cs) (yD Ls) false (X a1.toNat) W ∧ 32768 < (KY W (lvl false a2).toNat).length)) (fun v => (((0 ≤ a1 ∧ a1 ≤ 7) ∧ 1 ≤ a2 ∧ a2 ≤ 4) ∧ qz_I h 202 6 ≠ 0 ∧ ∃ W, kyR (vF Ls) (vE Ls) (cLK Cs) (yD Ls) false (X a1.toNat) W ∧ (KY W (lvl false a2).toNat).length ≤ 32768 ∧ v = 2 * ((KY W (lvl false a2).toNat).length : Int)))) :=
  rd_ckey0 hX kc hB hw hK hL sl txh cl r1 r2 hr1 hr2 (fun w => Or.inl ⟨w, rfl⟩) (fun w z => Or.inr (Or.inl ⟨⟨w, z⟩, rfl⟩)) (fun w z y g b1 b2 b3 => Or.inr (Or.inr (Or.inl ⟨⟨w, z, y⟩, g, rfl, b1, ez_fr_mono b2 (fun q hq => cw5_k (kk_b hq)), b2.I (kb_n (by decide) (by decide)) 1, b3, cl2.e (fun j => b2.I (kb_n (by decide) (by decide)) j)⟩))) (fun w z W y1 y2 g b1 b2 b3 b4 _ _ => Or.inr (Or.inr (Or.inr ⟨_, g, ⟨w, z, W, y1, y2, rfl⟩, rfl, b1, ez_fr_mono b2 (fun q hq => cw5_k hq), b4 1 (by decide), b3, cl2.e (fun j => b2.I (by unfold kk_P; rw [kb_n (r := 744) (by decide) (by decide), nz_P2_f (by decide) (by decide)]; rfl) j)⟩)))
theorem lw_key {i : Int} (hb : dz_B tz_T (qz_X rR) τ h) (hn : qz_I h 192 1 = qz_I h 770 2) (i0 : 0 ≤ i) (i1 : i + 6 ≤ qz_N h 0) (i2 : i ≤ 4000) (hr1 : h.1 ≤ 100000) (hr2 : (h.2.1 : Int) ≤ 1029900 + 2 * qz_N h (sk h) + 2 * qz_N h (gel h) + 2 * qz_N h (gfo h) + 2 * qz_N h (got h) + 2 * qz_N h (gke h)) (k : ∀ τ2 g, dz_B tz_T (qz_X rR) τ2 g → stp h g → ez_W (d + 11) cm_0 1213 [(4, .inl (i)), (0, .inr (.inr (some (0)))), (1, .inr (.inr (some (192)))), (2, .inr (.inr (some (770)))), (3, .inr (.inr (some (805))))] [] g Q) : ez_W (d + 11) cm_0 913 [(4, .inl (i)), (0, .inr (.inr (some (0)))), (1, .inr (.inr (some (192)))), (2, .inr (.inr (some (770)))), (3, .inr (.inr (some (805))))] [] h Q := by
  have hB := dz_ezB hb
  have hX := hb.2.1
  have t0 : τ 0 = 34 := hX.1 0 (by decide)
  have t192 : τ 192 = 44 := hX.1 192 (by decide)
  have t770 : τ 770 = 75 := hX.1 770 (by decide)
  have t805 : τ 805 = 35 := hX.1 805 (by decide)
  obtain ⟨Ls, ⟨t, c, m, w, s6, s77, u, p⟩, ww, ⟨X, x1, x2⟩, q5⟩ := id hX.2.2.2.2
  obtain ⟨-, ⟨Cs, R, mc, ce, cl9⟩, ⟨ca, cb⟩, dk, n9⟩ := id q5
  have hI : jz_I τ h (vF Ls) (vE Ls) := ⟨hB, hX.1, c⟩
  obtain ⟨T, hC⟩ := pz_C_of hI
  obtain ⟨O9, hx9⟩ := ww.2.2.1
  have sl := ww.2.1
  have hz9 : h.1 ≤ 100000 ∧ (h.2.1 : Int) ≤ 1029900 + 2 * zz h := ⟨hr1, by unfold zz; omega⟩
  have rm : rmc h := by
    obtain ⟨-, a1, a2, a3, a4, a5⟩ := ez_tg5 hB t770
    have n1 : 64 ≤ qz_N h (sk h) ∧ qz_N h (sk h) ≤ 18700 := ez_len hB a1 tq_21 rfl
    have n2 : 1024 ≤ qz_N h (gel h) ∧ qz_N h (gel h) ≤ 300000 := ez_len hB a2 tq_23 rfl
    have n3 : 1024 ≤ qz_N h (gfo h) ∧ qz_N h (gfo h) ≤ 200000 := ez_len hB a3 tq_24 rfl
    have n4 : 1024 ≤ qz_N h (got h) ∧ qz_N h (got h) ≤ 600100 := ez_len hB a4 tq_25 rfl
    have n5 : 1024 ≤ qz_N h (gke h) ∧ qz_N h (gke h) ≤ 600100 := ez_len hB a5 tq_25 rfl
    have zb : 0 ≤ zz h := by unfold zz; omega
    unfold rmc; omega
  have rd9 := rmc_rd hB hX.1 rm
  have hK : ∀ x, (0 ≤ x ∧ x ≤ 1114111) → 0 ≤ (vF Ls x).1 ∧ (vF Ls x).1 ≤ 254 := fun x _ => ⟨(w x).1, n9 x⟩
  have hL : ∀ row e, cLK Cs row = some e → (∀ x ∈ e, eok x) ∧ e.length ≤ 18 := fun row e he => ⟨(ce.row he).2.1, (ce.row he).2.2.2⟩
  have hkc : qz_I h 202 6 ≠ 0 → kC τ h T (vF Ls) (vE Ls) O9 (yD Ls) (cLK Cs) R := fun z => by
    obtain ⟨-, q2, q3⟩ := ww.2.2.2.2.1 (fun y => z (s6.mpr y))
    exact ⟨hC, hx9, ce, cFl_fD hC q2, q3⟩
  refine ez_go (n := 5) (pc' := 919) (L' := [(4, .inl (i)), (0, .inr (.inr (some (0)))), (1, .inr (.inr (some (192)))), (2, .inr (.inr (some (770)))), (3, .inr (.inr (some (805))))]) (st' := [.inl ((i) + (1)), .inr (.inr (some (0))), .inr (.inr (some (192)))]) rfl ?_
  have n2 : 0 ≤ qz_N h 0 ∧ qz_N h 0 ≤ 3072 := ez_len hB t0 tq_34 rfl
  refine ez_aI hB t0 rfl tq_34 rfl rfl (by omega) (by omega) (fun (b1 : -2147483648 ≤ qz_I h 0 ((i) + (1)).toNat) (b1' : qz_I h 0 ((i) + (1)).toNat ≤ 2147483647) => ?_)
  refine ez_go (n := 4) (pc' := 925) (L' := [(4, .inl (i)), (0, .inr (.inr (some (0)))), (1, .inr (.inr (some (192)))), (2, .inr (.inr (some (770)))), (3, .inr (.inr (some (805))))]) (st' := [.inl ((i) + (2)), .inr (.inr (some (0))), .inl (qz_I h 0 ((i) + (1)).toNat), .inr (.inr (some (192)))]) rfl ?_
  have n4 : 0 ≤ qz_N h 0 ∧ qz_N h 0 ≤ 3072 := ez_len hB t0 tq_34 rfl
  refine ez_aI hB t0 rfl tq_34 rfl rfl (by omega) (by omega) (fun (b3 : -2147483648 ≤ qz_I h 0 ((i) + (2)).toNat) (b3' : qz_I h 0 ((i) + (2)).toNat ≤ 2147483647) => ?_)
  refine ez_go (n := 4) (pc' := 931) (L' := [(4, .inl (i)), (0, .inr (.inr (some (0)))), (1, .inr (.inr (some (192)))), (2, .inr (.inr (some (770)))), (3, .inr (.inr (some (805))))]) (st' := [.inl ((i) + (3)), .inr (.inr (some (0))), .inl (qz_I h 0 ((i) + (2)).toNat), .inl (qz_I h 0 ((i) + (1)).toNat), .inr (.inr (some (192)))]) rfl ?_
  have n6 : 0 ≤ qz_N h 0 ∧ qz_N h 0 ≤ 3072 := ez_len hB t0 tq_34 rfl
  refine ez_aI hB t0 rfl tq_34 rfl rfl (by omega) (by omega) (fun (b5 : -2147483648 ≤ qz_I h 0 ((i) + (3)).toNat) (b5' : qz_I h 0 ((i) + (3)).toNat ≤ 2147483647) => ?_)
  refine ez_if rfl rfl ⟨by first | omega | exact (sz_i32 _).1, by first | omega | exact (sz_i32 _).2⟩ (fun (c7 : (qz_I h 0 ((i) + (3)).toNat) = (0)) => ?_) (fun (c7 : ¬((qz_I h 0 ((i) + (3)).toNat) = (0))) => ?_)
  · skip
    refine ez_go (n := 2) (pc' := 941) (L' := [(4, .inl (i)), (0, .inr (.inr (some (0)))), (1, .inr (.inr (some (192)))), (2, .inr (.inr (some (770)))), (3, .inr (.inr (some (805))))]) (st' := [.inr (.inr (some (805))), .inl (0), .inl (qz_I h 0 ((i) + (2)).toNat), .inl (qz_I h 0 ((i) + (1)).toNat), .inr (.inr (some (192)))]) rfl ?_
    refine ez_cs hB.2.1 rfl rfl rfl rfl rfl (hp_key hB t192 (rd_keyP0 (d := d + 1) hX.1 hkc hB w hK hL sl x1 ca cb ⟨by omega, by omega⟩ ⟨by omega, by omega⟩ (by omega) (by omega)) (fun F hF => ?_))
    generalize ea1 : qz_I h 0 ((i) + (1)).toNat = a1 at *
    have ar1 : ez_rg a1 := ⟨by omega, by omega⟩
    generalize ea2 : qz_I h 0 ((i) + (2)).toNat = a2 at *
    have ar2 : ez_rg a2 := ⟨by omega, by omega⟩
    rcases hF with ⟨wA, rfl⟩ | ⟨wS, rfl⟩ | ⟨wX, gA, rfl, BA, fA, iA, cA7, cA9⟩ | ⟨v, gA, wV, rfl, BA, fA, iA, cA7, cA9⟩
    · refine Or.inr (Or.inl ⟨_, _, rfl, xc_exc hB rfl, ez_K1 ?_⟩)
      have hBx : ez_B τ (xc h 1) := xc_B hB (by omega) (by omega)
      have rH : (xc h 1).1 ≤ h.1 + 1 ∧ (xc h 1).2.1 ≤ h.2.1 + 6 := ⟨Nat.le_refl _, Nat.le_refl _⟩
      have CH9 : ∀ q, τ q ≠ 0 → pk5 (τ q) = false → τ q ≠ 35 → (xc h 1).2.2 q = h.2.2 q := fun q a _ _ => xc_t hB a
      obtain ⟨⟨pM, pN⟩, pS, pX, p7, sc, sn⟩ := tg_pre5 hX.1 t m w s77 ww x2 hBx CH9
      obtain ⟨pC, pR, pD⟩ := tg_pk5 hB hX.1 t m mc rm dk rH hz9 CH9 p7
      refine ez_go (n := 6) (pc' := 952) (L' := [(5, .inl (1)), (4, .inl (i)), (0, .inr (.inr (some (0)))), (1, .inr (.inr (some (192)))), (2, .inr (.inr (some (770)))), (3, .inr (.inr (some (805))))]) (st' := [.inl ((i) + (1)), .inr (.inr (some (0))), .inr (.inr (some (770)))]) rfl ?_
      have n9 : 0 ≤ qz_N (xc h 1) 0 ∧ qz_N (xc h 1) 0 ≤ 3072 := ez_len hBx t0 tq_34 rfl
      refine ez_aI hBx t0 rfl tq_34 rfl rfl (by omega) (by omega) (fun (b8 : -2147483648 ≤ qz_I (xc h 1) 0 ((i) + (1)).toNat) (b8' : qz_I (xc h 1) 0 ((i) + (1)).toNat ≤ 2147483647) => ?_)
      rw [show qz_I (xc h 1) 0 ((i) + (1)).toNat = qz_I h 0 ((i) + (1)).toNat from sc _, ea1]
      refine ez_go (n := 4) (pc' := 958) (L' := [(5, .inl (1)), (4, .inl (i)), (0, .inr (.inr (some (0)))), (1, .inr (.inr (some (192)))), (2, .inr (.inr (some (770)))), (3, .inr (.inr (some (805))))]) (st' := [.inl ((i) + (2)), .inr (.inr (some (0))), .inl (a1), .inr (.inr (some (770)))]) rfl ?_
      have n11 : 0 ≤ qz_N (xc h 1) 0 ∧ qz_N (xc h 1) 0 ≤ 3072 := ez_len hBx t0 tq_34 rfl
      refine ez_aI hBx t0 rfl tq_34 rfl rfl (by omega) (by omega) (fun (b10 : -2147483648 ≤ qz_I (xc h 1) 0 ((i) + (2)).toNat) (b10' : qz_I (xc h 1) 0 ((i) + (2)).toNat ≤ 2147483647) => ?_)
      rw [show qz_I (xc h 1) 0 ((i) + (2)).toNat = qz_I h 0 ((i) + (2)).toNat from sc _, ea2]
      refine ez_go (n := 4) (pc' := 964) (L' := [(5, .inl (1)), (4, .inl (i)), (0, .inr (.inr (some (0)))), (1, .inr (.inr (some (192)))), (2, .inr (.inr (some (770)))), (3, .inr (.inr (some (805))))]) (st' := [.inl ((i) + (3)), .inr (.inr (some (0))), .inl (a2), .inl (a1), .inr (.inr (some (770)))]) rfl ?_
      have n13 : 0 ≤ qz_N (xc h 1) 0 ∧ qz_N (xc h 1) 0 ≤ 3072 := ez_len hBx t0 tq_34 rfl
      refine ez_aI hBx t0 rfl tq_34 rfl rfl (by omega) (by omega) (fun (b12 : -2147483648 ≤ qz_I (xc h 1) 0 ((i) + (3)).toNat) (b12' : qz_I (xc h 1) 0 ((i) + (3)).toNat ≤ 2147483647) => ?_)
      rw [show qz_I (xc h 1) 0 ((i) + (3)).toNat = qz_I h 0 ((i) + (3)).toNat from sc _]
      refine ez_if rfl rfl ⟨by first | omega | exact (sz_i32 _).1, by first | omega | exact (sz_i32 _).2⟩ (fun (c14 : (qz_I h 0 ((i) + (3)).toNat) = (0)) => ?_) (fun (c14 : ¬((qz_I h 0 ((i) + (3)).toNat) = (0))) => ?_)
      · skip
        refine ez_go (n := 1) (pc' := 973) (L' := [(5, .inl (1)), (4, .inl (i)), (0, .inr (.inr (some (0)))), (1, .inr (.inr (some (192)))), (2, .inr (.inr (some (770)))), (3, .inr (.inr (some (805))))]) (st' := [.inl (0), .inl (a2), .inl (a1), .inr (.inr (some (770)))]) rfl ?_
        refine ez_cv hBx t770 rfl rfl rfl tq_75 rfl rfl rfl (rd_mkey0 hBx hX.1 pN pC hK hL pR pD pS pX ar1 ar2 (fun _ g3 b1 b2 => ez_K1 ?_) (fun w9 => absurd w9 (by omega)) (fun w9 => absurd w9 (by omega)) (fun w9 => absurd w9 (by omega)) (fun w9 => absurd w9 (by omega)))
        have FN := ref_X hb hn b1 b2.1 b2.2.1
        have b0 := b2.2.2
        refine ez_go (n := 2) (pc' := 979) (L' := [(6, .inl (0)), (5, .inl (1)), (4, .inl (i)), (0, .inr (.inr (some (0)))), (1, .inr (.inr (some (192)))), (2, .inr (.inr (some (770)))), (3, .inr (.inr (some (805))))]) (st' := [.inr (.inr (some (770)))]) rfl ?_
        refine ez_cv b1 t770 rfl rfl rfl tq_75 rfl rfl rfl (rd_thrown b1 t770 (ez_K1 ?_))
        rw [b0]
        refine ez_go (n := 1) (pc' := 984) (L' := [(6, .inl (0)), (5, .inl (1)), (4, .inl (i)), (0, .inr (.inr (some (0)))), (1, .inr (.inr (some (192)))), (2, .inr (.inr (some (770)))), (3, .inr (.inr (some (805))))]) (st' := [.inl (1), .inl (1)]) rfl ?_
        refine ez_icmp rfl rfl ⟨by decide, by decide⟩ ⟨by decide, by decide⟩ (fun _ => ?_) (fun (c15 : ¬((1 : Int) = (1))) => absurd c15 (by decide))
        refine ez_go (n := 1) (pc' := 991) (L' := [(6, .inl (0)), (5, .inl (1)), (4, .inl (i)), (0, .inr (.inr (some (0)))), (1, .inr (.inr (some (192)))), (2, .inr (.inr (some (770)))), (3, .inr (.inr (some (805))))]) (st' := [.inl (1)]) rfl ?_
        refine ez_if rfl rfl ⟨by decide, by decide⟩ (fun _ => ?_) (fun (c16 : ¬((1 : Int) ≠ (0))) => absurd c16 (by decide))
        refine ez_go (n := 1) (pc' := 1213) (L' := [(6, .inl (0)), (5, .inl (1)), (4, .inl (i)), (0, .inr (.inr (some (0)))), (1, .inr (.inr (some (192)))), (2, .inr (.inr (some (770)))), (3, .inr (.inr (some (805))))]) (st' := []) rfl ?_
        refine ez_less [(4, .inl (i)), (0, .inr (.inr (some (0)))), (1, .inr (.inr (some (192)))), (2, .inr (.inr (some (770)))), (3, .inr (.inr (some (805))))] rfl ⟨rfl, rfl, rfl, rfl, rfl, trivial⟩ ?_
        exact k _ _ FN.1 FN.2
      · skip
        refine ez_go (n := 2) (pc' := 973) (L' := [(5, .inl (1)), (4, .inl (i)), (0, .inr (.inr (some (0)))), (1, .inr (.inr (some (192)))), (2, .inr (.inr (some (770)))), (3, .inr (.inr (some (805))))]) (st' := [.inl (1), .inl (a2), .inl (a1), .inr (.inr (some (770)))]) rfl ?_
        exfalso; omega
    · refine Or.inr (Or.inr (Or.inl ⟨_, _, rfl, xc_exc hB rfl, ez_K1 ?_⟩))
      have hBx : ez_B τ (xc h 2) := xc_B hB (by omega) (by omega)
      have rH : (xc h 2).1 ≤ h.1 + 1 ∧ (xc h 2).2.1 ≤ h.2.1 + 6 := ⟨Nat.le_refl _, Nat.le_refl _⟩
      have CH9 : ∀ q, τ q ≠ 0 → pk5 (τ q) = false → τ q ≠ 35 → (xc h 2).2.2 q = h.2.2 q := fun q a _ _ => xc_t hB a
      obtain ⟨⟨pM, pN⟩, pS, pX, p7, sc, sn⟩ := tg_pre5 hX.1 t m w s77 ww x2 hBx CH9
      obtain ⟨pC, pR, pD⟩ := tg_pk5 hB hX.1 t m mc rm dk rH hz9 CH9 p7
      obtain ⟨ok, s0⟩ := wS
      have n7 : qz_I (xc h 2) 770 7 = 0 := (p7 7).trans (s6.mp s0)
      refine ez_go (n := 6) (pc' := 952) (L' := [(5, .inl (2)), (4, .inl (i)), (0, .inr (.inr (some (0)))), (1, .inr (.inr (some (192)))), (2, .inr (.inr (some (770)))), (3, .inr (.inr (some (805))))]) (st' := [.inl ((i) + (1)), .inr (.inr (some (0))), .inr (.inr (some (770)))]) rfl ?_
      have n18 : 0 ≤ qz_N (xc h 2) 0 ∧ qz_N (xc h 2) 0 ≤ 3072 := ez_len hBx t0 tq_34 rfl
      refine ez_aI hBx t0 rfl tq_34 rfl rfl (by omega) (by omega) (fun (b17 : -2147483648 ≤ qz_I (xc h 2) 0 ((i) + (1)).toNat) (b17' : qz_I (xc h 2) 0 ((i) + (1)).toNat ≤ 2147483647) => ?_)
      rw [show qz_I (xc h 2) 0 ((i) + (1)).toNat = qz_I h 0 ((i) + (1)).toNat from sc _, ea1]
      refine ez_go (n := 4) (pc' := 958) (L' := [(5, .inl (2)), (4, .inl (i)), (0, .inr (.inr (some (0)))), (1, .inr (.inr (some (192)))), (2, .inr (.inr (some (770)))), (3, .inr (.inr (some (805))))]) (st' := [.inl ((i) + (2)), .inr (.inr (some (0))), .inl (a1), .inr (.inr (some (770)))]) rfl ?_
      have n20 : 0 ≤ qz_N (xc h 2) 0 ∧ qz_N (xc h 2) 0 ≤ 3072 := ez_len hBx t0 tq_34 rfl
      refine ez_aI hBx t0 rfl tq_34 rfl rfl (by omega) (by omega) (fun (b19 : -2147483648 ≤ qz_I (xc h 2) 0 ((i) + (2)).toNat) (b19' : qz_I (xc h 2) 0 ((i) + (2)).toNat ≤ 2147483647) => ?_)
      rw [show qz_I (xc h 2) 0 ((i) + (2)).toNat = qz_I h 0 ((i) + (2)).toNat from sc _, ea2]
      refine ez_go (n := 4) (pc' := 964) (L' := [(5, .inl (2)), (4, .inl (i)), (0, .inr (.inr (some (0)))), (1, .inr (.inr (some (192)))), (2, .inr (.inr (some (770)))), (3, .inr (.inr (some (805))))]) (st' := [.inl ((i) + (3)), .inr (.inr (some (0))), .inl (a2), .inl (a1), .inr (.inr (some (770)))]) rfl ?_
      have n22 : 0 ≤ qz_N (xc h 2) 0 ∧ qz_N (xc h 2) 0 ≤ 3072 := ez_len hBx t0 tq_34 rfl
      refine ez_aI hBx t0 rfl tq_34 rfl rfl (by omega) (by omega) (fun (b21 : -2147483648 ≤ qz_I (xc h 2) 0 ((i) + (3)).toNat) (b21' : qz_I (xc h 2) 0 ((i) + (3)).toNat ≤ 2147483647) => ?_)
      rw [show qz_I (xc h 2) 0 ((i) + (3)).toNat = qz_I h 0 ((i) + (3)).toNat from sc _]
      refine ez_if rfl rfl ⟨by first | omega | exact (sz_i32 _).1, by first | omega | exact (sz_i32 _).2⟩ (fun (c23 : (qz_I h 0 ((i) + (3)).toNat) = (0)) => ?_) (fun (c23 : ¬((qz_I h 0 ((i) + (3)).toNat) = (0))) => ?_)
      · skip
        refine ez_go (n := 1) (pc' := 973) (L' := [(5, .inl (2)), (4, .inl (i)), (0, .inr (.inr (some (0)))), (1, .inr (.inr (some (192)))), (2, .inr (.inr (some (770)))), (3, .inr (.inr (some (805))))]) (st' := [.inl (0), .inl (a2), .inl (a1), .inr (.inr (some (770)))]) rfl ?_
        refine ez_cv hBx t770 rfl rfl rfl tq_75 rfl rfl rfl (rd_mkey0 hBx hX.1 pN pC hK hL pR pD pS pX ar1 ar2 (fun w9 => absurd w9 (by omega)) (fun _ _ g3 b1 b2 => ez_K1 ?_) (fun _ z => absurd n7 z) (fun _ z => absurd n7 z) (fun _ z => absurd n7 z))
        have FN := ref_X hb hn b1 b2.1 b2.2.1
        have b0 := b2.2.2
        refine ez_go (n := 2) (pc' := 979) (L' := [(6, .inl (0)), (5, .inl (2)), (4, .inl (i)), (0, .inr (.inr (some (0)))), (1, .inr (.inr (some (192)))), (2, .inr (.inr (some (770)))), (3, .inr (.inr (some (805))))]) (st' := [.inr (.inr (some (770)))]) rfl ?_
        refine ez_cv b1 t770 rfl rfl rfl tq_75 rfl rfl rfl (rd_thrown b1 t770 (ez_K1 ?_))
        rw [b0]
        refine ez_go (n := 1) (pc' := 984) (L' := [(6, .inl (0)), (5, .inl (2)), (4, .inl (i)), (0, .inr (.inr (some (0)))), (1, .inr (.inr (some (192)))), (2, .inr (.inr (some (770)))), (3, .inr (.inr (some (805))))]) (st' := [.inl (2), .inl (2)]) rfl ?_
        refine ez_icmp rfl rfl ⟨by decide, by decide⟩ ⟨by decide, by decide⟩ (fun _ => ?_) (fun (c24 : ¬((2 : Int) = (2))) => absurd c24 (by decide))
        refine ez_go (n := 1) (pc' := 991) (L' := [(6, .inl (0)), (5, .inl (2)), (4, .inl (i)), (0, .inr (.inr (some (0)))), (1, .inr (.inr (some (192)))), (2, .inr (.inr (some (770)))), (3, .inr (.inr (some (805))))]) (st' := [.inl (2)]) rfl ?_
        refine ez_if rfl rfl ⟨by decide, by decide⟩ (fun _ => ?_) (fun (c25 : ¬((2 : Int) ≠ (0))) => absurd c25 (by decide))
        refine ez_go (n := 1) (pc' := 1213) (L' := [(6, .inl (0)), (5, .inl (2)), (4, .inl (i)), (0, .inr (.inr (some (0)))), (1, .inr (.inr (some (192)))), (2, .inr (.inr (some (770)))), (3, .inr (.inr (some (805))))]) (st' := []) rfl ?_
        refine ez_less [(4, .inl (i)), (0, .inr (.inr (some (0)))), (1, .inr (.inr (some (192)))), (2, .inr (.inr (some (770)))), (3, .inr (.inr (some (805))))] rfl ⟨rfl, rfl, rfl, rfl, rfl, trivial⟩ ?_
        exact k _ _ FN.1 FN.2
      · skip
        refine ez_go (n := 2) (pc' := 973) (L' := [(5, .inl (2)), (4, .inl (i)), (0, .inr (.inr (some (0)))), (1, .inr (.inr (some (192)))), (2, .inr (.inr (some (770)))), (3, .inr (.inr (some (805))))]) (st' := [.inl (1), .inl (a2), .inl (a1), .inr (.inr (some (770)))]) rfl ?_
        exfalso; omega
    · have cA1 := fA.1; have cA2 := fA.2.1
      refine Or.inr (Or.inr (Or.inr (⟨_, _, rfl, xc_exc BA rfl, ez_K1 ?_⟩)))
      have hBx : ez_B τ (xc gA 0) := xc_B BA (by omega) (by omega)
      have rH : (xc gA 0).1 ≤ h.1 + 1 ∧ (xc gA 0).2.1 ≤ h.2.1 + 6 := ⟨by show gA.1 + 1 ≤ _; omega, by show gA.2.1 + 6 ≤ _; omega⟩
      obtain ⟨ok, s0, cn⟩ := wX
      have CH9 : ∀ q, τ q ≠ 0 → pk5 (τ q) = false → τ q ≠ 35 → (xc gA 0).2.2 q = h.2.2 q := fun q a b _ => (xc_t BA a).trans (fA.2.2 q (cw5_t hX.1 b))
      obtain ⟨⟨pM, pN⟩, pS, pX, p7, sc, sn⟩ := tg_pre5 hX.1 t m w s77 ww x2 hBx CH9
      obtain ⟨pC, pR, pD⟩ := tg_pk5 hB hX.1 t m mc rm dk rH hz9 CH9 p7
      have n7 : qz_I (xc gA 0) 770 7 ≠ 0 := fun z => s0 (s6.mpr ((p7 7).symm.trans z))
      refine ez_go (n := 6) (pc' := 952) (L' := [(5, .inl (3)), (4, .inl (i)), (0, .inr (.inr (some (0)))), (1, .inr (.inr (some (192)))), (2, .inr (.inr (some (770)))), (3, .inr (.inr (some (805))))]) (st' := [.inl ((i) + (1)), .inr (.inr (some (0))), .inr (.inr (some (770)))]) rfl ?_
      have n27 : 0 ≤ qz_N (xc gA 0) 0 ∧ qz_N (xc gA 0) 0 ≤ 3072 := ez_len hBx t0 tq_34 rfl
      refine ez_aI hBx t0 rfl tq_34 rfl rfl (by omega) (by omega) (fun (b26 : -2147483648 ≤ qz_I (xc gA 0) 0 ((i) + (1)).toNat) (b26' : qz_I (xc gA 0) 0 ((i) + (1)).toNat ≤ 2147483647) => ?_)
      rw [show qz_I (xc gA 0) 0 ((i) + (1)).toNat = qz_I h 0 ((i) + (1)).toNat from sc _, ea1]
      refine ez_go (n := 4) (pc' := 958) (L' := [(5, .inl (3)), (4, .inl (i)), (0, .inr (.inr (some (0)))), (1, .inr (.inr (some (192)))), (2, .inr (.inr (some (770)))), (3, .inr (.inr (some (805))))]) (st' := [.inl ((i) + (2)), .inr (.inr (some (0))), .inl (a1), .inr (.inr (some (770)))]) rfl ?_
      have n29 : 0 ≤ qz_N (xc gA 0) 0 ∧ qz_N (xc gA 0) 0 ≤ 3072 := ez_len hBx t0 tq_34 rfl
      refine ez_aI hBx t0 rfl tq_34 rfl rfl (by omega) (by omega) (fun (b28 : -2147483648 ≤ qz_I (xc gA 0) 0 ((i) + (2)).toNat) (b28' : qz_I (xc gA 0) 0 ((i) + (2)).toNat ≤ 2147483647) => ?_)
      rw [show qz_I (xc gA 0) 0 ((i) + (2)).toNat = qz_I h 0 ((i) + (2)).toNat from sc _, ea2]
      refine ez_go (n := 4) (pc' := 964) (L' := [(5, .inl (3)), (4, .inl (i)), (0, .inr (.inr (some (0)))), (1, .inr (.inr (some (192)))), (2, .inr (.inr (some (770)))), (3, .inr (.inr (some (805))))]) (st' := [.inl ((i) + (3)), .inr (.inr (some (0))), .inl (a2), .inl (a1), .inr (.inr (some (770)))]) rfl ?_
      have n31 : 0 ≤ qz_N (xc gA 0) 0 ∧ qz_N (xc gA 0) 0 ≤ 3072 := ez_len hBx t0 tq_34 rfl
      refine ez_aI hBx t0 rfl tq_34 rfl rfl (by omega) (by omega) (fun (b30 : -2147483648 ≤ qz_I (xc gA 0) 0 ((i) + (3)).toNat) (b30' : qz_I (xc gA 0) 0 ((i) + (3)).toNat ≤ 2147483647) => ?_)
      rw [show qz_I (xc gA 0) 0 ((i) + (3)).toNat = qz_I h 0 ((i) + (3)).toNat from sc _]
      refine ez_if rfl rfl ⟨by first | omega | exact (sz_i32 _).1, by first | omega | exact (sz_i32 _).2⟩ (fun (c32 : (qz_I h 0 ((i) + (3)).toNat) = (0)) => ?_) (fun (c32 : ¬((qz_I h 0 ((i) + (3)).toNat) = (0))) => ?_)
      · skip
        refine ez_go (n := 1) (pc' := 973) (L' := [(5, .inl (3)), (4, .inl (i)), (0, .inr (.inr (some (0)))), (1, .inr (.inr (some (192)))), (2, .inr (.inr (some (770)))), (3, .inr (.inr (some (805))))]) (st' := [.inl (0), .inl (a2), .inl (a1), .inr (.inr (some (770)))]) rfl ?_
        refine ez_cv hBx t770 rfl rfl rfl tq_75 rfl rfl rfl (rd_mkey0 hBx hX.1 pN pC hK hL pR pD pS pX ar1 ar2 (fun w9 => absurd w9 (by omega)) (fun _ z => absurd z n7) (fun _ _ h1 c1 c2 kn g2 τ2 c3 c4 g3 b1 b2 => ez_K1 ?_) (fun _ _ h1 c1 c2 W kr w9 kl g2 τ2 c3 c4 g3 b1 b2 => ez_K1 ?_) (fun _ _ h1 c1 c2 W kr w9 kl => absurd cn (fun q => by rcases q with q | ⟨V9, q1, q2⟩; (· exact kyR_N kr q); (· rw [kyR_u (s77 (fun z => s0 (s6.mpr z))).1.2.2.2 q1 kr] at q2; omega))))
        · skip
          have pD1 : got h1 ≠ gke h1 := by unfold got gke qz_P; rw [c2.2.1 39 (by decide), c2.2.1 40 (by decide)]; exact pD
          have nc9 := (nc.ofk c1 hX.1 c4)
          have X9 := nc9.X hX.1
          have u770 : τ2 770 = 75 := X9 770 (by decide)
          have u805 : τ2 805 = 35 := X9 805 (by decide)
          have FN := tg_k5 hb hn hBx c1 CH9 (by unfold qz_I; rw [xc_t BA (by rw [t192]; decide)]; exact iA) (clr_c5 cA7 (xc_t BA (by rw [hX.1 744 (by decide)]; decide))) (clr_c5 cA9 (xc_t BA (by rw [hX.1 749 (by decide)]; decide))) rH c2 nc9 (((ndk.ofk c1 hX.1 c4).ng c1 hX.1).dk c1 hX.1 pD1) (fun q q0 q7 _ => (b2.1.2.2 q (dz_beq_ne q7)).trans (xc_t c3 q0)) (fun j j0 _ => by rw [b2.2.1 j j0]; unfold qz_I; rw [xc_t c3 (by rw [u770]; decide)]) ⟨by rw [b2.1.1]; exact Nat.le_refl _, by rw [b2.1.2.1]; exact Nat.le_refl _⟩ c3 b1
          have b0 := b2.2.2
          refine ez_go (n := 2) (pc' := 979) (L' := [(6, .inl (0)), (5, .inl (3)), (4, .inl (i)), (0, .inr (.inr (some (0)))), (1, .inr (.inr (some (192)))), (2, .inr (.inr (some (770)))), (3, .inr (.inr (some (805))))]) (st' := [.inr (.inr (some (770)))]) rfl ?_
          refine ez_cv b1 u770 rfl rfl rfl tq_75 rfl rfl rfl (rd_thrown b1 u770 (ez_K1 ?_))
          rw [b0]
          refine ez_go (n := 1) (pc' := 984) (L' := [(6, .inl (0)), (5, .inl (3)), (4, .inl (i)), (0, .inr (.inr (some (0)))), (1, .inr (.inr (some (192)))), (2, .inr (.inr (some (770)))), (3, .inr (.inr (some (805))))]) (st' := [.inl (3), .inl (3)]) rfl ?_
          refine ez_icmp rfl rfl ⟨by decide, by decide⟩ ⟨by decide, by decide⟩ (fun _ => ?_) (fun (c33 : ¬((3 : Int) = (3))) => absurd c33 (by decide))
          refine ez_go (n := 1) (pc' := 991) (L' := [(6, .inl (0)), (5, .inl (3)), (4, .inl (i)), (0, .inr (.inr (some (0)))), (1, .inr (.inr (some (192)))), (2, .inr (.inr (some (770)))), (3, .inr (.inr (some (805))))]) (st' := [.inl (3)]) rfl ?_
          refine ez_if rfl rfl ⟨by decide, by decide⟩ (fun _ => ?_) (fun (c34 : ¬((3 : Int) ≠ (0))) => absurd c34 (by decide))
          refine ez_go (n := 1) (pc' := 1213) (L' := [(6, .inl (0)), (5, .inl (3)), (4, .inl (i)), (0, .inr (.inr (some (0)))), (1, .inr (.inr (some (192)))), (2, .inr (.inr (some (770)))), (3, .inr (.inr (some (805))))]) (st' := []) rfl ?_
          refine ez_less [(4, .inl (i)), (0, .inr (.inr (some (0)))), (1, .inr (.inr (some (192)))), (2, .inr (.inr (some (770)))), (3, .inr (.inr (some (805))))] rfl ⟨rfl, rfl, rfl, rfl, rfl, trivial⟩ ?_
          exact k _ _ FN.1 FN.2
        · skip
          have pD1 : got h1 ≠ gke h1 := by unfold got gke qz_P; rw [c2.2.1 39 (by decide), c2.2.1 40 (by decide)]; exact pD
          have nc9 := c4.1
          have X9 := nc9.X hX.1
          have u770 : τ2 770 = 75 := X9 770 (by decide)
          have u805 : τ2 805 = 35 := X9 805 (by decide)
          have FN := tg_k5 hb hn hBx c1 CH9 (by unfold qz_I; rw [xc_t BA (by rw [t192]; decide)]; exact iA) (clr_c5 cA7 (xc_t BA (by rw [hX.1 744 (by decide)]; decide))) (clr_c5 cA9 (xc_t BA (by rw [hX.1 749 (by decide)]; decide))) rH c2 nc9 (c4.dk c1 hX.1 pD1) (fun q q0 q7 _ => b2.1.2.2 q (dz_beq_ne q7)) (fun j j0 _ => b2.2.1 j j0) ⟨by rw [b2.1.1]; exact Nat.le_succ _, by rw [b2.1.2.1]; omega⟩ c3 b1
          have b0 := b2.2.2
          refine ez_go (n := 2) (pc' := 979) (L' := [(6, .inl (0)), (5, .inl (3)), (4, .inl (i)), (0, .inr (.inr (some (0)))), (1, .inr (.inr (some (192)))), (2, .inr (.inr (some (770)))), (3, .inr (.inr (some (805))))]) (st' := [.inr (.inr (some (770)))]) rfl ?_
          refine ez_cv b1 u770 rfl rfl rfl tq_75 rfl rfl rfl (rd_thrown b1 u770 (ez_K1 ?_))
          rw [b0]
          refine ez_go (n := 1) (pc' := 984) (L' := [(6, .inl (0)), (5, .inl (3)), (4, .inl (i)), (0, .inr (.inr (some (0)))), (1, .inr (.inr (some (192)))), (2, .inr (.inr (some (770)))), (3, .inr (.inr (some (805))))]) (st' := [.inl (3), .inl (3)]) rfl ?_
          refine ez_icmp rfl rfl ⟨by decide, by decide⟩ ⟨by decide, by decide⟩ (fun _ => ?_) (fun (c35 : ¬((3 : Int) = (3))) => absurd c35 (by decide))
          refine ez_go (n := 1) (pc' := 991) (L' := [(6, .inl (0)), (5, .inl (3)), (4, .inl (i)), (0, .inr (.inr (some (0)))), (1, .inr (.inr (some (192)))), (2, .inr (.inr (some (770)))), (3, .inr (.inr (some (805))))]) (st' := [.inl (3)]) rfl ?_
          refine ez_if rfl rfl ⟨by decide, by decide⟩ (fun _ => ?_) (fun (c36 : ¬((3 : Int) ≠ (0))) => absurd c36 (by decide))
          refine ez_go (n := 1) (pc' := 1213) (L' := [(6, .inl (0)), (5, .inl (3)), (4, .inl (i)), (0, .inr (.inr (some (0)))), (1, .inr (.inr (some (192)))), (2, .inr (.inr (some (770)))), (3, .inr (.inr (some (805))))]) (st' := []) rfl ?_
          refine ez_less [(4, .inl (i)), (0, .inr (.inr (some (0)))), (1, .inr (.inr (some (192)))), (2, .inr (.inr (some (770)))), (3, .inr (.inr (some (805))))] rfl ⟨rfl, rfl, rfl, rfl, rfl, trivial⟩ ?_
          exact k _ _ FN.1 FN.2
      · skip
        refine ez_go (n := 2) (pc' := 973) (L' := [(5, .inl (3)), (4, .inl (i)), (0, .inr (.inr (some (0)))), (1, .inr (.inr (some (192)))), (2, .inr (.inr (some (770)))), (3, .inr (.inr (some (805))))]) (st' := [.inl (1), .inl (a2), .inl (a1), .inr (.inr (some (770)))]) rfl ?_
        exfalso; omega
    · obtain ⟨ok, s0, iv⟩ := wV
      have cA1 := fA.1; have cA2 := fA.2.1
      obtain ⟨W, ky1, kl1, rfl⟩ := iv
      refine Or.inl ⟨_, τ, gA, rfl, BA, t805, fun hBo => ez_K1 ?_⟩
      have rH : (ow gA (2 * ((KY W (lvl false a2).toNat).length : Int))).1 ≤ h.1 + 1 ∧ (ow gA (2 * ((KY W (lvl false a2).toNat).length : Int))).2.1 ≤ h.2.1 + 6 := ⟨by show gA.1 ≤ _; omega, by show gA.2.1 ≤ _; omega⟩
      have CH9 : ∀ q, τ q ≠ 0 → pk5 (τ q) = false → τ q ≠ 35 → (ow gA (2 * ((KY W (lvl false a2).toNat).length : Int))).2.2 q = h.2.2 q := fun q a b e9 => (ow_at (fun y => e9 (by rw [y]; exact t805))).trans (fA.2.2 q (cw5_t hX.1 b))
      obtain ⟨⟨pM, pN⟩, pS, pX, p7, sc, sn⟩ := tg_pre5 hX.1 t m w s77 ww x2 hBo CH9
      obtain ⟨pC, pR, pD⟩ := tg_pk5 hB hX.1 t m mc rm dk rH hz9 CH9 p7
      have n7 : qz_I (ow gA (2 * ((KY W (lvl false a2).toNat).length : Int))) 770 7 ≠ 0 := fun z => s0 (s6.mpr ((p7 7).symm.trans z))
      refine ez_go (n := 6) (pc' := 952) (L' := [(5, .inl (0)), (4, .inl (i)), (0, .inr (.inr (some (0)))), (1, .inr (.inr (some (192)))), (2, .inr (.inr (some (770)))), (3, .inr (.inr (some (805))))]) (st' := [.inl ((i) + (1)), .inr (.inr (some (0))), .inr (.inr (some (770)))]) rfl ?_
      have n38 : 0 ≤ qz_N (ow gA (2 * ((KY W (lvl false a2).toNat).length : Int))) 0 ∧ qz_N (ow gA (2 * ((KY W (lvl false a2).toNat).length : Int))) 0 ≤ 3072 := ez_len hBo t0 tq_34 rfl
      refine ez_aI hBo t0 rfl tq_34 rfl rfl (by omega) (by omega) (fun (b37 : -2147483648 ≤ qz_I (ow gA (2 * ((KY W (lvl false a2).toNat).length : Int))) 0 ((i) + (1)).toNat) (b37' : qz_I (ow gA (2 * ((KY W (lvl false a2).toNat).length : Int))) 0 ((i) + (1)).toNat ≤ 2147483647) => ?_)
      rw [show qz_I (ow gA (2 * ((KY W (lvl false a2).toNat).length : Int))) 0 ((i) + (1)).toNat = qz_I h 0 ((i) + (1)).toNat from sc _, ea1]
      refine ez_go (n := 4) (pc' := 958) (L' := [(5, .inl (0)), (4, .inl (i)), (0, .inr (.inr (some (0)))), (1, .inr (.inr (some (192)))), (2, .inr (.inr (some (770)))), (3, .inr (.inr (some (805))))]) (st' := [.inl ((i) + (2)), .inr (.inr (some (0))), .inl (a1), .inr (.inr (some (770)))]) rfl ?_
      have n40 : 0 ≤ qz_N (ow gA (2 * ((KY W (lvl false a2).toNat).length : Int))) 0 ∧ qz_N (ow gA (2 * ((KY W (lvl false a2).toNat).length : Int))) 0 ≤ 3072 := ez_len hBo t0 tq_34 rfl
      refine ez_aI hBo t0 rfl tq_34 rfl rfl (by omega) (by omega) (fun (b39 : -2147483648 ≤ qz_I (ow gA (2 * ((KY W (lvl false a2).toNat).length : Int))) 0 ((i) + (2)).toNat) (b39' : qz_I (ow gA (2 * ((KY W (lvl false a2).toNat).length : Int))) 0 ((i) + (2)).toNat ≤ 2147483647) => ?_)
      rw [show qz_I (ow gA (2 * ((KY W (lvl false a2).toNat).length : Int))) 0 ((i) + (2)).toNat = qz_I h 0 ((i) + (2)).toNat from sc _, ea2]
      refine ez_go (n := 4) (pc' := 964) (L' := [(5, .inl (0)), (4, .inl (i)), (0, .inr (.inr (some (0)))), (1, .inr (.inr (some (192)))), (2, .inr (.inr (some (770)))), (3, .inr (.inr (some (805))))]) (st' := [.inl ((i) + (3)), .inr (.inr (some (0))), .inl (a2), .inl (a1), .inr (.inr (some (770)))]) rfl ?_
      have n42 : 0 ≤ qz_N (ow gA (2 * ((KY W (lvl false a2).toNat).length : Int))) 0 ∧ qz_N (ow gA (2 * ((KY W (lvl false a2).toNat).length : Int))) 0 ≤ 3072 := ez_len hBo t0 tq_34 rfl
      refine ez_aI hBo t0 rfl tq_34 rfl rfl (by omega) (by omega) (fun (b41 : -2147483648 ≤ qz_I (ow gA (2 * ((KY W (lvl false a2).toNat).length : Int))) 0 ((i) + (3)).toNat) (b41' : qz_I (ow gA (2 * ((KY W (lvl false a2).toNat).length : Int))) 0 ((i) + (3)).toNat ≤ 2147483647) => ?_)
      rw [show qz_I (ow gA (2 * ((KY W (lvl false a2).toNat).length : Int))) 0 ((i) + (3)).toNat = qz_I h 0 ((i) + (3)).toNat from sc _]
      refine ez_if rfl rfl ⟨by first | omega | exact (sz_i32 _).1, by first | omega | exact (sz_i32 _).2⟩ (fun (c43 : (qz_I h 0 ((i) + (3)).toNat) = (0)) => ?_) (fun (c43 : ¬((qz_I h 0 ((i) + (3)).toNat) = (0))) => ?_)
      · skip
        refine ez_go (n := 1) (pc' := 973) (L' := [(5, .inl (0)), (4, .inl (i)), (0, .inr (.inr (some (0)))), (1, .inr (.inr (some (192)))), (2, .inr (.inr (some (770)))), (3, .inr (.inr (some (805))))]) (st' := [.inl (0), .inl (a2), .inl (a1), .inr (.inr (some (770)))]) rfl ?_
        refine ez_cv hBo t770 rfl rfl rfl tq_75 rfl rfl rfl (rd_mkey0 hBo hX.1 pN pC hK hL pR pD pS pX ar1 ar2 (fun w9 => absurd w9 (by omega)) (fun _ z => absurd z n7) (fun _ _ h1 c1 c2 kn => (kyR_N ky1 kn).elim) (fun _ _ h1 c1 c2 V9 kr w9 kl => absurd kl (by rw [kyR_u (s77 (fun z => s0 (s6.mpr z))).1.2.2.2 kr ky1]; omega)) (fun _ _ h1 c1 c2 V9 kr w9 kl g2 τ2 c3 c4 g3 b1 f3 o3 i4 rb3 => ez_K1 ?_))
        have pD1 : got h1 ≠ gke h1 := by unfold got gke qz_P; rw [c2.2.1 39 (by decide), c2.2.1 40 (by decide)]; exact pD
        have nc9 := c4.1
        have X9 := nc9.X hX.1
        have u770 : τ2 770 = 75 := X9 770 (by decide)
        have u805 : τ2 805 = 35 := X9 805 (by decide)
        have FN := tg_k5 hb hn hBo c1 CH9 (by unfold qz_I; rw [ow_at (by decide)]; exact iA) (clr_c5 cA7 (ow_at (by decide))) (clr_c5 cA9 (ow_at (by decide))) rH c2 nc9 (c4.dk c1 hX.1 pD1) (fun q q0 q7 q2 => f3.2.2 q (nz_P2_f q7 q2)) (fun j _ j4 => o3 j j4) ⟨by rw [f3.1]; exact Nat.le_succ _, by rw [f3.2.1]; omega⟩ c3 b1
        have b0 : qz_I g3 770 0 = 0 := (o3 0 (by decide)).trans ((nc9.2.2.1 0 rfl).trans c2.2.2)
        have M5 : g3.2.2 805 = (ow gA (2 * ((KY W (lvl false a2).toNat).length : Int))).2.2 805 := cg5 hX.1 c2 nc9 (fun q q0 q7 q2 => f3.2.2 q (nz_P2_f q7 q2)) 805 35 t805 rfl
        have ev9 := kyR_u (s77 (fun z => s0 (s6.mpr z))).1.2.2.2 kr ky1
        subst ev9
        refine ez_go (n := 2) (pc' := 979) (L' := [(6, .inl (2 * ((KY V9 (lvl false a2).toNat).length : Int))), (5, .inl (0)), (4, .inl (i)), (0, .inr (.inr (some (0)))), (1, .inr (.inr (some (192)))), (2, .inr (.inr (some (770)))), (3, .inr (.inr (some (805))))]) (st' := [.inr (.inr (some (770)))]) rfl ?_
        refine ez_cv b1 u770 rfl rfl rfl tq_75 rfl rfl rfl (rd_thrown b1 u770 (ez_K1 ?_))
        rw [b0]
        refine ez_go (n := 1) (pc' := 984) (L' := [(6, .inl (2 * ((KY V9 (lvl false a2).toNat).length : Int))), (5, .inl (0)), (4, .inl (i)), (0, .inr (.inr (some (0)))), (1, .inr (.inr (some (192)))), (2, .inr (.inr (some (770)))), (3, .inr (.inr (some (805))))]) (st' := [.inl (0), .inl (0)]) rfl ?_
        refine ez_icmp rfl rfl ⟨by decide, by decide⟩ ⟨by decide, by decide⟩ (fun _ => ?_) (fun (c44 : ¬((0 : Int) = (0))) => absurd c44 (by decide))
        refine ez_go (n := 1) (pc' := 991) (L' := [(6, .inl (2 * ((KY V9 (lvl false a2).toNat).length : Int))), (5, .inl (0)), (4, .inl (i)), (0, .inr (.inr (some (0)))), (1, .inr (.inr (some (192)))), (2, .inr (.inr (some (770)))), (3, .inr (.inr (some (805))))]) (st' := [.inl (0)]) rfl ?_
        refine ez_if rfl rfl ⟨by decide, by decide⟩ (fun (c45 : (0 : Int) ≠ (0)) => absurd c45 (by decide)) (fun _ => ?_)
        refine ez_go (n := 2) (pc' := 996) (L' := [(6, .inl (2 * ((KY V9 (lvl false a2).toNat).length : Int))), (5, .inl (0)), (4, .inl (i)), (0, .inr (.inr (some (0)))), (1, .inr (.inr (some (192)))), (2, .inr (.inr (some (770)))), (3, .inr (.inr (some (805))))]) (st' := [.inl (0), .inr (.inr (some (805)))]) rfl ?_
        have n46 : 1 ≤ qz_N g3 805 ∧ qz_N g3 805 ≤ 1 := ez_len b1 u805 tq_35 rfl
        refine ez_aL b1 u805 rfl tq_35 rfl rfl (by omega) (by omega) ?_
        refine ez_go (n := 3) (pc' := 1001) (L' := [(6, .inl (2 * ((KY V9 (lvl false a2).toNat).length : Int))), (5, .inl (0)), (4, .inl (i)), (0, .inr (.inr (some (0)))), (1, .inr (.inr (some (192)))), (2, .inr (.inr (some (770)))), (3, .inr (.inr (some (805))))]) (st' := [.inl ((lg_cmp (Int64.ofInt (qz_I g3 805 (0 : Int).toNat)) ((Int32.ofInt (2 * ((KY V9 (lvl false a2).toNat).length : Int))).toInt64)).toInt)]) rfl ?_
        rw [show (lg_cmp (Int64.ofInt (qz_I g3 805 (0 : Int).toNat)) ((Int32.ofInt (2 * ((KY V9 (lvl false a2).toNat).length : Int))).toInt64)).toInt = 0 by rw [show qz_I g3 805 (0 : Int).toNat = ((Int32.ofInt (2 * ((KY V9 (lvl false a2).toNat).length : Int))).toInt64).toInt from (show qz_I g3 805 (0 : Int).toNat = qz_I (ow gA (2 * ((KY V9 (lvl false a2).toNat).length : Int))) 805 (0 : Int).toNat by unfold qz_I; rw [M5]).trans (ow_0 BA t805), Int64.ofInt_toInt]; exact lg_same _]
        refine ez_if rfl rfl ⟨by decide, by decide⟩ (fun _ => ?_) (fun (c47 : ¬((0 : Int) = (0))) => absurd c47 (by decide))
        refine ez_go (n := 1) (pc' := 1213) (L' := [(6, .inl (2 * ((KY V9 (lvl false a2).toNat).length : Int))), (5, .inl (0)), (4, .inl (i)), (0, .inr (.inr (some (0)))), (1, .inr (.inr (some (192)))), (2, .inr (.inr (some (770)))), (3, .inr (.inr (some (805))))]) (st' := []) rfl ?_
        refine ez_less [(4, .inl (i)), (0, .inr (.inr (some (0)))), (1, .inr (.inr (some (192)))), (2, .inr (.inr (some (770)))), (3, .inr (.inr (some (805))))] rfl ⟨rfl, rfl, rfl, rfl, rfl, trivial⟩ ?_
        exact k _ _ FN.1 FN.2
      · skip
        refine ez_go (n := 2) (pc' := 973) (L' := [(5, .inl (0)), (4, .inl (i)), (0, .inr (.inr (some (0)))), (1, .inr (.inr (some (192)))), (2, .inr (.inr (some (770)))), (3, .inr (.inr (some (805))))]) (st' := [.inl (1), .inl (a2), .inl (a1), .inr (.inr (some (770)))]) rfl ?_
        exfalso; omega
  · skip
    refine ez_go (n := 3) (pc' := 941) (L' := [(4, .inl (i)), (0, .inr (.inr (some (0)))), (1, .inr (.inr (some (192)))), (2, .inr (.inr (some (770)))), (3, .inr (.inr (some (805))))]) (st' := [.inr (.inr (some (805))), .inl (1), .inl (qz_I h 0 ((i) + (2)).toNat), .inl (qz_I h 0 ((i) + (1)).toNat), .inr (.inr (some (192)))]) rfl ?_
    refine ez_cs hB.2.1 rfl rfl rfl rfl rfl (hp_key hB t192 (rd_keyP1 (d := d + 1) hX.1 hkc hB w hK hL sl x1 ca cb ⟨by omega, by omega⟩ ⟨by omega, by omega⟩ (by omega) (by omega)) (fun F hF => ?_))
    generalize ea1 : qz_I h 0 ((i) + (1)).toNat = a1 at *
    have ar1 : ez_rg a1 := ⟨by omega, by omega⟩
    generalize ea2 : qz_I h 0 ((i) + (2)).toNat = a2 at *
    have ar2 : ez_rg a2 := ⟨by omega, by omega⟩
    rcases hF with ⟨wA, rfl⟩ | ⟨wS, rfl⟩ | ⟨wX, gA, rfl, BA, fA, iA, cA7, cA9⟩ | ⟨v, gA, wV, rfl, BA, fA, iA, cA7, cA9⟩
    · refine Or.inr (Or.inl ⟨_, _, rfl, xc_exc hB rfl, ez_K1 ?_⟩)
      have hBx : ez_B τ (xc h 1) := xc_B hB (by omega) (by omega)
      have rH : (xc h 1).1 ≤ h.1 + 1 ∧ (xc h 1).2.1 ≤ h.2.1 + 6 := ⟨Nat.le_refl _, Nat.le_refl _⟩
      have CH9 : ∀ q, τ q ≠ 0 → pk5 (τ q) = false → τ q ≠ 35 → (xc h 1).2.2 q = h.2.2 q := fun q a _ _ => xc_t hB a
      obtain ⟨⟨pM, pN⟩, pS, pX, p7, sc, sn⟩ := tg_pre5 hX.1 t m w s77 ww x2 hBx CH9
      obtain ⟨pC, pR, pD⟩ := tg_pk5 hB hX.1 t m mc rm dk rH hz9 CH9 p7
      refine ez_go (n := 6) (pc' := 952) (L' := [(5, .inl (1)), (4, .inl (i)), (0, .inr (.inr (some (0)))), (1, .inr (.inr (some (192)))), (2, .inr (.inr (some (770)))), (3, .inr (.inr (some (805))))]) (st' := [.inl ((i) + (1)), .inr (.inr (some (0))), .inr (.inr (some (770)))]) rfl ?_
      have n49 : 0 ≤ qz_N (xc h 1) 0 ∧ qz_N (xc h 1) 0 ≤ 3072 := ez_len hBx t0 tq_34 rfl
      refine ez_aI hBx t0 rfl tq_34 rfl rfl (by omega) (by omega) (fun (b48 : -2147483648 ≤ qz_I (xc h 1) 0 ((i) + (1)).toNat) (b48' : qz_I (xc h 1) 0 ((i) + (1)).toNat ≤ 2147483647) => ?_)
      rw [show qz_I (xc h 1) 0 ((i) + (1)).toNat = qz_I h 0 ((i) + (1)).toNat from sc _, ea1]
      refine ez_go (n := 4) (pc' := 958) (L' := [(5, .inl (1)), (4, .inl (i)), (0, .inr (.inr (some (0)))), (1, .inr (.inr (some (192)))), (2, .inr (.inr (some (770)))), (3, .inr (.inr (some (805))))]) (st' := [.inl ((i) + (2)), .inr (.inr (some (0))), .inl (a1), .inr (.inr (some (770)))]) rfl ?_
      have n51 : 0 ≤ qz_N (xc h 1) 0 ∧ qz_N (xc h 1) 0 ≤ 3072 := ez_len hBx t0 tq_34 rfl
      refine ez_aI hBx t0 rfl tq_34 rfl rfl (by omega) (by omega) (fun (b50 : -2147483648 ≤ qz_I (xc h 1) 0 ((i) + (2)).toNat) (b50' : qz_I (xc h 1) 0 ((i) + (2)).toNat ≤ 2147483647) => ?_)
      rw [show qz_I (xc h 1) 0 ((i) + (2)).toNat = qz_I h 0 ((i) + (2)).toNat from sc _, ea2]
      refine ez_go (n := 4) (pc' := 964) (L' := [(5, .inl (1)), (4, .inl (i)), (0, .inr (.inr (some (0)))), (1, .inr (.inr (some (192)))), (2, .inr (.inr (some (770)))), (3, .inr (.inr (some (805))))]) (st' := [.inl ((i) + (3)), .inr (.inr (some (0))), .inl (a2), .inl (a1), .inr (.inr (some (770)))]) rfl ?_
      have n53 : 0 ≤ qz_N (xc h 1) 0 ∧ qz_N (xc h 1) 0 ≤ 3072 := ez_len hBx t0 tq_34 rfl
      refine ez_aI hBx t0 rfl tq_34 rfl rfl (by omega) (by omega) (fun (b52 : -2147483648 ≤ qz_I (xc h 1) 0 ((i) + (3)).toNat) (b52' : qz_I (xc h 1) 0 ((i) + (3)).toNat ≤ 2147483647) => ?_)
      rw [show qz_I (xc h 1) 0 ((i) + (3)).toNat = qz_I h 0 ((i) + (3)).toNat from sc _]
      refine ez_if rfl rfl ⟨by first | omega | exact (sz_i32 _).1, by first | omega | exact (sz_i32 _).2⟩ (fun (c54 : (qz_I h 0 ((i) + (3)).toNat) = (0)) => ?_) (fun (c54 : ¬((qz_I h 0 ((i) + (3)).toNat) = (0))) => ?_)
      · skip
        refine ez_go (n := 1) (pc' := 973) (L' := [(5, .inl (1)), (4, .inl (i)), (0, .inr (.inr (some (0)))), (1, .inr (.inr (some (192)))), (2, .inr (.inr (some (770)))), (3, .inr (.inr (some (805))))]) (st' := [.inl (0), .inl (a2), .inl (a1), .inr (.inr (some (770)))]) rfl ?_
        exfalso; omega
      · skip
        refine ez_go (n := 2) (pc' := 973) (L' := [(5, .inl (1)), (4, .inl (i)), (0, .inr (.inr (some (0)))), (1, .inr (.inr (some (192)))), (2, .inr (.inr (some (770)))), (3, .inr (.inr (some (805))))]) (st' := [.inl (1), .inl (a2), .inl (a1), .inr (.inr (some (770)))]) rfl ?_
        refine ez_cv hBx t770 rfl rfl rfl tq_75 rfl rfl rfl (rd_mkey1 hBx hX.1 pN pC hK hL pR pD pS pX ar1 ar2 (fun _ g3 b1 b2 => ez_K1 ?_) (fun w9 => absurd w9 (by omega)) (fun w9 => absurd w9 (by omega)) (fun w9 => absurd w9 (by omega)) (fun w9 => absurd w9 (by omega)))
        have FN := ref_X hb hn b1 b2.1 b2.2.1
        have b0 := b2.2.2
        refine ez_go (n := 2) (pc' := 979) (L' := [(6, .inl (0)), (5, .inl (1)), (4, .inl (i)), (0, .inr (.inr (some (0)))), (1, .inr (.inr (some (192)))), (2, .inr (.inr (some (770)))), (3, .inr (.inr (some (805))))]) (st' := [.inr (.inr (some (770)))]) rfl ?_
        refine ez_cv b1 t770 rfl rfl rfl tq_75 rfl rfl rfl (rd_thrown b1 t770 (ez_K1 ?_))
        rw [b0]
        refine ez_go (n := 1) (pc' := 984) (L' := [(6, .inl (0)), (5, .inl (1)), (4, .inl (i)), (0, .inr (.inr (some (0)))), (1, .inr (.inr (some (192)))), (2, .inr (.inr (some (770)))), (3, .inr (.inr (some (805))))]) (st' := [.inl (1), .inl (1)]) rfl ?_
        refine ez_icmp rfl rfl ⟨by decide, by decide⟩ ⟨by decide, by decide⟩ (fun _ => ?_) (fun (c55 : ¬((1 : Int) = (1))) => absurd c55 (by decide))
        refine ez_go (n := 1) (pc' := 991) (L' := [(6, .inl (0)), (5, .inl (1)), (4, .inl (i)), (0, .inr (.inr (some (0)))), (1, .inr (.inr (some (192)))), (2, .inr (.inr (some (770)))), (3, .inr (.inr (some (805))))]) (st' := [.inl (1)]) rfl ?_
        refine ez_if rfl rfl ⟨by decide, by decide⟩ (fun _ => ?_) (fun (c56 : ¬((1 : Int) ≠ (0))) => absurd c56 (by decide))
        refine ez_go (n := 1) (pc' := 1213) (L' := [(6, .inl (0)), (5, .inl (1)), (4, .inl (i)), (0, .inr (.inr (some (0)))), (1, .inr (.inr (some (192)))), (2, .inr (.inr (some (770)))), (3, .inr (.inr (some (805))))]) (st' := []) rfl ?_
        refine ez_less [(4, .inl (i)), (0, .inr (.inr (some (0)))), (1, .inr (.inr (some (192)))), (2, .inr (.inr (some (770)))), (3, .inr (.inr (some (805))))] rfl ⟨rfl, rfl, rfl, rfl, rfl, trivial⟩ ?_
        exact k _ _ FN.1 FN.2
    · refine Or.inr (Or.inr (Or.inl ⟨_, _, rfl, xc_exc hB rfl, ez_K1 ?_⟩))
      have hBx : ez_B τ (xc h 2) := xc_B hB (by omega) (by omega)
      have rH : (xc h 2).1 ≤ h.1 + 1 ∧ (xc h 2).2.1 ≤ h.2.1 + 6 := ⟨Nat.le_refl _, Nat.le_refl _⟩
      have CH9 : ∀ q, τ q ≠ 0 → pk5 (τ q) = false → τ q ≠ 35 → (xc h 2).2.2 q = h.2.2 q := fun q a _ _ => xc_t hB a
      obtain ⟨⟨pM, pN⟩, pS, pX, p7, sc, sn⟩ := tg_pre5 hX.1 t m w s77 ww x2 hBx CH9
      obtain ⟨pC, pR, pD⟩ := tg_pk5 hB hX.1 t m mc rm dk rH hz9 CH9 p7
      obtain ⟨ok, s0⟩ := wS
      have n7 : qz_I (xc h 2) 770 7 = 0 := (p7 7).trans (s6.mp s0)
      refine ez_go (n := 6) (pc' := 952) (L' := [(5, .inl (2)), (4, .inl (i)), (0, .inr (.inr (some (0)))), (1, .inr (.inr (some (192)))), (2, .inr (.inr (some (770)))), (3, .inr (.inr (some (805))))]) (st' := [.inl ((i) + (1)), .inr (.inr (some (0))), .inr (.inr (some (770)))]) rfl ?_
      have n58 : 0 ≤ qz_N (xc h 2) 0 ∧ qz_N (xc h 2) 0 ≤ 3072 := ez_len hBx t0 tq_34 rfl
      refine ez_aI hBx t0 rfl tq_34 rfl rfl (by omega) (by omega) (fun (b57 : -2147483648 ≤ qz_I (xc h 2) 0 ((i) + (1)).toNat) (b57' : qz_I (xc h 2) 0 ((i) + (1)).toNat ≤ 2147483647) => ?_)
      rw [show qz_I (xc h 2) 0 ((i) + (1)).toNat = qz_I h 0 ((i) + (1)).toNat from sc _, ea1]
      refine ez_go (n := 4) (pc' := 958) (L' := [(5, .inl (2)), (4, .inl (i)), (0, .inr (.inr (some (0)))), (1, .inr (.inr (some (192)))), (2, .inr (.inr (some (770)))), (3, .inr (.inr (some (805))))]) (st' := [.inl ((i) + (2)), .inr (.inr (some (0))), .inl (a1), .inr (.inr (some (770)))]) rfl ?_
      have n60 : 0 ≤ qz_N (xc h 2) 0 ∧ qz_N (xc h 2) 0 ≤ 3072 := ez_len hBx t0 tq_34 rfl
      refine ez_aI hBx t0 rfl tq_34 rfl rfl (by omega) (by omega) (fun (b59 : -2147483648 ≤ qz_I (xc h 2) 0 ((i) + (2)).toNat) (b59' : qz_I (xc h 2) 0 ((i) + (2)).toNat ≤ 2147483647) => ?_)
      rw [show qz_I (xc h 2) 0 ((i) + (2)).toNat = qz_I h 0 ((i) + (2)).toNat from sc _, ea2]
      refine ez_go (n := 4) (pc' := 964) (L' := [(5, .inl (2)), (4, .inl (i)), (0, .inr (.inr (some (0)))), (1, .inr (.inr (some (192)))), (2, .inr (.inr (some (770)))), (3, .inr (.inr (some (805))))]) (st' := [.inl ((i) + (3)), .inr (.inr (some (0))), .inl (a2), .inl (a1), .inr (.inr (some (770)))]) rfl ?_
      have n62 : 0 ≤ qz_N (xc h 2) 0 ∧ qz_N (xc h 2) 0 ≤ 3072 := ez_len hBx t0 tq_34 rfl
      refine ez_aI hBx t0 rfl tq_34 rfl rfl (by omega) (by omega) (fun (b61 : -2147483648 ≤ qz_I (xc h 2) 0 ((i) + (3)).toNat) (b61' : qz_I (xc h 2) 0 ((i) + (3)).toNat ≤ 2147483647) => ?_)
      rw [show qz_I (xc h 2) 0 ((i) + (3)).toNat = qz_I h 0 ((i) + (3)).toNat from sc _]
      refine ez_if rfl rfl ⟨by first | omega | exact (sz_i32 _).1, by first | omega | exact (sz_i32 _).2⟩ (fun (c63 : (qz_I h 0 ((i) + (3)).toNat) = (0)) => ?_) (fun (c63 : ¬((qz_I h 0 ((i) + (3)).toNat) = (0))) => ?_)
      · skip
        refine ez_go (n := 1) (pc' := 973) (L' := [(5, .inl (2)), (4, .inl (i)), (0, .inr (.inr (some (0)))), (1, .inr (.inr (some (192)))), (2, .inr (.inr (some (770)))), (3, .inr (.inr (some (805))))]) (st' := [.inl (0), .inl (a2), .inl (a1), .inr (.inr (some (770)))]) rfl ?_
        exfalso; omega
      · skip
        refine ez_go (n := 2) (pc' := 973) (L' := [(5, .inl (2)), (4, .inl (i)), (0, .inr (.inr (some (0)))), (1, .inr (.inr (some (192)))), (2, .inr (.inr (some (770)))), (3, .inr (.inr (some (805))))]) (st' := [.inl (1), .inl (a2), .inl (a1), .inr (.inr (some (770)))]) rfl ?_
        refine ez_cv hBx t770 rfl rfl rfl tq_75 rfl rfl rfl (rd_mkey1 hBx hX.1 pN pC hK hL pR pD pS pX ar1 ar2 (fun w9 => absurd w9 (by omega)) (fun _ _ g3 b1 b2 => ez_K1 ?_) (fun _ z => absurd n7 z) (fun _ z => absurd n7 z) (fun _ z => absurd n7 z))
        have FN := ref_X hb hn b1 b2.1 b2.2.1
        have b0 := b2.2.2
        refine ez_go (n := 2) (pc' := 979) (L' := [(6, .inl (0)), (5, .inl (2)), (4, .inl (i)), (0, .inr (.inr (some (0)))), (1, .inr (.inr (some (192)))), (2, .inr (.inr (some (770)))), (3, .inr (.inr (some (805))))]) (st' := [.inr (.inr (some (770)))]) rfl ?_
        refine ez_cv b1 t770 rfl rfl rfl tq_75 rfl rfl rfl (rd_thrown b1 t770 (ez_K1 ?_))
        rw [b0]
        refine ez_go (n := 1) (pc' := 984) (L' := [(6, .inl (0)), (5, .inl (2)), (4, .inl (i)), (0, .inr (.inr (some (0)))), (1, .inr (.inr (some (192)))), (2, .inr (.inr (some (770)))), (3, .inr (.inr (some (805))))]) (st' := [.inl (2), .inl (2)]) rfl ?_
        refine ez_icmp rfl rfl ⟨by decide, by decide⟩ ⟨by decide, by decide⟩ (fun _ => ?_) (fun (c64 : ¬((2 : Int) = (2))) => absurd c64 (by decide))
        refine ez_go (n := 1) (pc' := 991) (L' := [(6, .inl (0)), (5, .inl (2)), (4, .inl (i)), (0, .inr (.inr (some (0)))), (1, .inr (.inr (some (192)))), (2, .inr (.inr (some (770)))), (3, .inr (.inr (some (805))))]) (st' := [.inl (2)]) rfl ?_
        refine ez_if rfl rfl ⟨by decide, by decide⟩ (fun _ => ?_) (fun (c65 : ¬((2 : Int) ≠ (0))) => absurd c65 (by decide))
        refine ez_go (n := 1) (pc' := 1213) (L' := [(6, .inl (0)), (5, .inl (2)), (4, .inl (i)), (0, .inr (.inr (some (0)))), (1, .inr (.inr (some (192)))), (2, .inr (.inr (some (770)))), (3, .inr (.inr (some (805))))]) (st' := []) rfl ?_
        refine ez_less [(4, .inl (i)), (0, .inr (.inr (some (0)))), (1, .inr (.inr (some (192)))), (2, .inr (.inr (some (770)))), (3, .inr (.inr (some (805))))] rfl ⟨rfl, rfl, rfl, rfl, rfl, trivial⟩ ?_
        exact k _ _ FN.1 FN.2
    · have cA1 := fA.1; have cA2 := fA.2.1
      refine Or.inr (Or.inr (Or.inr (⟨_, _, rfl, xc_exc BA rfl, ez_K1 ?_⟩)))
      have hBx : ez_B τ (xc gA 0) := xc_B BA (by omega) (by omega)
      have rH : (xc gA 0).1 ≤ h.1 + 1 ∧ (xc gA 0).2.1 ≤ h.2.1 + 6 := ⟨by show gA.1 + 1 ≤ _; omega, by show gA.2.1 + 6 ≤ _; omega⟩
      obtain ⟨ok, s0, cn⟩ := wX
      have CH9 : ∀ q, τ q ≠ 0 → pk5 (τ q) = false → τ q ≠ 35 → (xc gA 0).2.2 q = h.2.2 q := fun q a b _ => (xc_t BA a).trans (fA.2.2 q (cw5_t hX.1 b))
      obtain ⟨⟨pM, pN⟩, pS, pX, p7, sc, sn⟩ := tg_pre5 hX.1 t m w s77 ww x2 hBx CH9
      obtain ⟨pC, pR, pD⟩ := tg_pk5 hB hX.1 t m mc rm dk rH hz9 CH9 p7
      have n7 : qz_I (xc gA 0) 770 7 ≠ 0 := fun z => s0 (s6.mpr ((p7 7).symm.trans z))
      refine ez_go (n := 6) (pc' := 952) (L' := [(5, .inl (3)), (4, .inl (i)), (0, .inr (.inr (some (0)))), (1, .inr (.inr (some (192)))), (2, .inr (.inr (some (770)))), (3, .inr (.inr (some (805))))]) (st' := [.inl ((i) + (1)), .inr (.inr (some (0))), .inr (.inr (some (770)))]) rfl ?_
      have n67 : 0 ≤ qz_N (xc gA 0) 0 ∧ qz_N (xc gA 0) 0 ≤ 3072 := ez_len hBx t0 tq_34 rfl
      refine ez_aI hBx t0 rfl tq_34 rfl rfl (by omega) (by omega) (fun (b66 : -2147483648 ≤ qz_I (xc gA 0) 0 ((i) + (1)).toNat) (b66' : qz_I (xc gA 0) 0 ((i) + (1)).toNat ≤ 2147483647) => ?_)
      rw [show qz_I (xc gA 0) 0 ((i) + (1)).toNat = qz_I h 0 ((i) + (1)).toNat from sc _, ea1]
      refine ez_go (n := 4) (pc' := 958) (L' := [(5, .inl (3)), (4, .inl (i)), (0, .inr (.inr (some (0)))), (1, .inr (.inr (some (192)))), (2, .inr (.inr (some (770)))), (3, .inr (.inr (some (805))))]) (st' := [.inl ((i) + (2)), .inr (.inr (some (0))), .inl (a1), .inr (.inr (some (770)))]) rfl ?_
      have n69 : 0 ≤ qz_N (xc gA 0) 0 ∧ qz_N (xc gA 0) 0 ≤ 3072 := ez_len hBx t0 tq_34 rfl
      refine ez_aI hBx t0 rfl tq_34 rfl rfl (by omega) (by omega) (fun (b68 : -2147483648 ≤ qz_I (xc gA 0) 0 ((i) + (2)).toNat) (b68' : qz_I (xc gA 0) 0 ((i) + (2)).toNat ≤ 2147483647) => ?_)
      rw [show qz_I (xc gA 0) 0 ((i) + (2)).toNat = qz_I h 0 ((i) + (2)).toNat from sc _, ea2]
      refine ez_go (n := 4) (pc' := 964) (L' := [(5, .inl (3)), (4, .inl (i)), (0, .inr (.inr (some (0)))), (1, .inr (.inr (some (192)))), (2, .inr (.inr (some (770)))), (3, .inr (.inr (some (805))))]) (st' := [.inl ((i) + (3)), .inr (.inr (some (0))), .inl (a2), .inl (a1), .inr (.inr (some (770)))]) rfl ?_
      have n71 : 0 ≤ qz_N (xc gA 0) 0 ∧ qz_N (xc gA 0) 0 ≤ 3072 := ez_len hBx t0 tq_34 rfl
      refine ez_aI hBx t0 rfl tq_34 rfl rfl (by omega) (by omega) (fun (b70 : -2147483648 ≤ qz_I (xc gA 0) 0 ((i) + (3)).toNat) (b70' : qz_I (xc gA 0) 0 ((i) + (3)).toNat ≤ 2147483647) => ?_)
      rw [show qz_I (xc gA 0) 0 ((i) + (3)).toNat = qz_I h 0 ((i) + (3)).toNat from sc _]
      refine ez_if rfl rfl ⟨by first | omega | exact (sz_i32 _).1, by first | omega | exact (sz_i32 _).2⟩ (fun (c72 : (qz_I h 0 ((i) + (3)).toNat) = (0)) => ?_) (fun (c72 : ¬((qz_I h 0 ((i) + (3)).toNat) = (0))) => ?_)
      · skip
        refine ez_go (n := 1) (pc' := 973) (L' := [(5, .inl (3)), (4, .inl (i)), (0, .inr (.inr (some (0)))), (1, .inr (.inr (some (192)))), (2, .inr (.inr (some (770)))), (3, .inr (.inr (some (805))))]) (st' := [.inl (0), .inl (a2), .inl (a1), .inr (.inr (some (770)))]) rfl ?_
        exfalso; omega
      · skip
        refine ez_go (n := 2) (pc' := 973) (L' := [(5, .inl (3)), (4, .inl (i)), (0, .inr (.inr (some (0)))), (1, .inr (.inr (some (192)))), (2, .inr (.inr (some (770)))), (3, .inr (.inr (some (805))))]) (st' := [.inl (1), .inl (a2), .inl (a1), .inr (.inr (some (770)))]) rfl ?_
        refine ez_cv hBx t770 rfl rfl rfl tq_75 rfl rfl rfl (rd_mkey1 hBx hX.1 pN pC hK hL pR pD pS pX ar1 ar2 (fun w9 => absurd w9 (by omega)) (fun _ z => absurd z n7) (fun _ _ h1 c1 c2 kn g2 τ2 c3 c4 g3 b1 b2 => ez_K1 ?_) (fun _ _ h1 c1 c2 W kr w9 kl g2 τ2 c3 c4 g3 b1 b2 => ez_K1 ?_) (fun _ _ h1 c1 c2 W kr w9 kl => absurd cn (fun q => by rcases q with q | ⟨V9, q1, q2⟩; (· exact kyR_N kr q); (· rw [kyR_u (s77 (fun z => s0 (s6.mpr z))).1.2.2.2 q1 kr] at q2; omega))))
        · skip
          have pD1 : got h1 ≠ gke h1 := by unfold got gke qz_P; rw [c2.2.1 39 (by decide), c2.2.1 40 (by decide)]; exact pD
          have nc9 := (nc.ofk c1 hX.1 c4)
          have X9 := nc9.X hX.1
          have u770 : τ2 770 = 75 := X9 770 (by decide)
          have u805 : τ2 805 = 35 := X9 805 (by decide)
          have FN := tg_k5 hb hn hBx c1 CH9 (by unfold qz_I; rw [xc_t BA (by rw [t192]; decide)]; exact iA) (clr_c5 cA7 (xc_t BA (by rw [hX.1 744 (by decide)]; decide))) (clr_c5 cA9 (xc_t BA (by rw [hX.1 749 (by decide)]; decide))) rH c2 nc9 (((ndk.ofk c1 hX.1 c4).ng c1 hX.1).dk c1 hX.1 pD1) (fun q q0 q7 _ => (b2.1.2.2 q (dz_beq_ne q7)).trans (xc_t c3 q0)) (fun j j0 _ => by rw [b2.2.1 j j0]; unfold qz_I; rw [xc_t c3 (by rw [u770]; decide)]) ⟨by rw [b2.1.1]; exact Nat.le_refl _, by rw [b2.1.2.1]; exact Nat.le_refl _⟩ c3 b1
          have b0 := b2.2.2
          refine ez_go (n := 2) (pc' := 979) (L' := [(6, .inl (0)), (5, .inl (3)), (4, .inl (i)), (0, .inr (.inr (some (0)))), (1, .inr (.inr (some (192)))), (2, .inr (.inr (some (770)))), (3, .inr (.inr (some (805))))]) (st' := [.inr (.inr (some (770)))]) rfl ?_
          refine ez_cv b1 u770 rfl rfl rfl tq_75 rfl rfl rfl (rd_thrown b1 u770 (ez_K1 ?_))
          rw [b0]
          refine ez_go (n := 1) (pc' := 984) (L' := [(6, .inl (0)), (5, .inl (3)), (4, .inl (i)), (0, .inr (.inr (some (0)))), (1, .inr (.inr (some (192)))), (2, .inr (.inr (some (770)))), (3, .inr (.inr (some (805))))]) (st' := [.inl (3), .inl (3)]) rfl ?_
          refine ez_icmp rfl rfl ⟨by decide, by decide⟩ ⟨by decide, by decide⟩ (fun _ => ?_) (fun (c73 : ¬((3 : Int) = (3))) => absurd c73 (by decide))
          refine ez_go (n := 1) (pc' := 991) (L' := [(6, .inl (0)), (5, .inl (3)), (4, .inl (i)), (0, .inr (.inr (some (0)))), (1, .inr (.inr (some (192)))), (2, .inr (.inr (some (770)))), (3, .inr (.inr (some (805))))]) (st' := [.inl (3)]) rfl ?_
          refine ez_if rfl rfl ⟨by decide, by decide⟩ (fun _ => ?_) (fun (c74 : ¬((3 : Int) ≠ (0))) => absurd c74 (by decide))
          refine ez_go (n := 1) (pc' := 1213) (L' := [(6, .inl (0)), (5, .inl (3)), (4, .inl (i)), (0, .inr (.inr (some (0)))), (1, .inr (.inr (some (192)))), (2, .inr (.inr (some (770)))), (3, .inr (.inr (some (805))))]) (st' := []) rfl ?_
          refine ez_less [(4, .inl (i)), (0, .inr (.inr (some (0)))), (1, .inr (.inr (some (192)))), (2, .inr (.inr (some (770)))), (3, .inr (.inr (some (805))))] rfl ⟨rfl, rfl, rfl, rfl, rfl, trivial⟩ ?_
          exact k _ _ FN.1 FN.2
        · skip
          have pD1 : got h1 ≠ gke h1 := by unfold got gke qz_P; rw [c2.2.1 39 (by decide), c2.2.1 40 (by decide)]; exact pD
          have nc9 := c4.1
          have X9 := nc9.X hX.1
          have u770 : τ2 770 = 75 := X9 770 (by decide)
          have u805 : τ2 805 = 35 := X9 805 (by decide)
          have FN := tg_k5 hb hn hBx c1 CH9 (by unfold qz_I; rw [xc_t BA (by rw [t192]; decide)]; exact iA) (clr_c5 cA7 (xc_t BA (by rw [hX.1 744 (by decide)]; decide))) (clr_c5 cA9 (xc_t BA (by rw [hX.1 749 (by decide)]; decide))) rH c2 nc9 (c4.dk c1 hX.1 pD1) (fun q q0 q7 _ => b2.1.2.2 q (dz_beq_ne q7)) (fun j j0 _ => b2.2.1 j j0) ⟨by rw [b2.1.1]; exact Nat.le_succ _, by rw [b2.1.2.1]; omega⟩ c3 b1
          have b0 := b2.2.2
          refine ez_go (n := 2) (pc' := 979) (L' := [(6, .inl (0)), (5, .inl (3)), (4, .inl (i)), (0, .inr (.inr (some (0)))), (1, .inr (.inr (some (192)))), (2, .inr (.inr (some (770)))), (3, .inr (.inr (some (805))))]) (st' := [.inr (.inr (some (770)))]) rfl ?_
          refine ez_cv b1 u770 rfl rfl rfl tq_75 rfl rfl rfl (rd_thrown b1 u770 (ez_K1 ?_))
          rw [b0]
          refine ez_go (n := 1) (pc' := 984) (L' := [(6, .inl (0)), (5, .inl (3)), (4, .inl (i)), (0, .inr (.inr (some (0)))), (1, .inr (.inr (some (192)))), (2, .inr (.inr (some (770)))), (3, .inr (.inr (some (805))))]) (st' := [.inl (3), .inl (3)]) rfl ?_
          refine ez_icmp rfl rfl ⟨by decide, by decide⟩ ⟨by decide, by decide⟩ (fun _ => ?_) (fun (c75 : ¬((3 : Int) = (3))) => absurd c75 (by decide))
          refine ez_go (n := 1) (pc' := 991) (L' := [(6, .inl (0)), (5, .inl (3)), (4, .inl (i)), (0, .inr (.inr (some (0)))), (1, .inr (.inr (some (192)))), (2, .inr (.inr (some (770)))), (3, .inr (.inr (some (805))))]) (st' := [.inl (3)]) rfl ?_
          refine ez_if rfl rfl ⟨by decide, by decide⟩ (fun _ => ?_) (fun (c76 : ¬((3 : Int) ≠ (0))) => absurd c76 (by decide))
          refine ez_go (n := 1) (pc' := 1213) (L' := [(6, .inl (0)), (5, .inl (3)), (4, .inl (i)), (0, .inr (.inr (some (0)))), (1, .inr (.inr (some (192)))), (2, .inr (.inr (some (770)))), (3, .inr (.inr (some (805))))]) (st' := []) rfl ?_
          refine ez_less [(4, .inl (i)), (0, .inr (.inr (some (0)))), (1, .inr (.inr (some (192)))), (2, .inr (.inr (some (770)))), (3, .inr (.inr (some (805))))] rfl ⟨rfl, rfl, rfl, rfl, rfl, trivial⟩ ?_
          exact k _ _ FN.1 FN.2
    · obtain ⟨ok, s0, iv⟩ := wV
      have cA1 := fA.1; have cA2 := fA.2.1
      obtain ⟨W, ky1, kl1, rfl⟩ := iv
      refine Or.inl ⟨_, τ, gA, rfl, BA, t805, fun hBo => ez_K1 ?_⟩
      have rH : (ow gA (2 * ((KY W (lvl true a2).toNat).length : Int))).1 ≤ h.1 + 1 ∧ (ow gA (2 * ((KY W (lvl true a2).toNat).length : Int))).2.1 ≤ h.2.1 + 6 := ⟨by show gA.1 ≤ _; omega, by show gA.2.1 ≤ _; omega⟩
      have CH9 : ∀ q, τ q ≠ 0 → pk5 (τ q) = false → τ q ≠ 35 → (ow gA (2 * ((KY W (lvl true a2).toNat).length : Int))).2.2 q = h.2.2 q := fun q a b e9 => (ow_at (fun y => e9 (by rw [y]; exact t805))).trans (fA.2.2 q (cw5_t hX.1 b))
      obtain ⟨⟨pM, pN⟩, pS, pX, p7, sc, sn⟩ := tg_pre5 hX.1 t m w s77 ww x2 hBo CH9
      obtain ⟨pC, pR, pD⟩ := tg_pk5 hB hX.1 t m mc rm dk rH hz9 CH9 p7
      have n7 : qz_I (ow gA (2 * ((KY W (lvl true a2).toNat).length : Int))) 770 7 ≠ 0 := fun z => s0 (s6.mpr ((p7 7).symm.trans z))
      refine ez_go (n := 6) (pc' := 952) (L' := [(5, .inl (0)), (4, .inl (i)), (0, .inr (.inr (some (0)))), (1, .inr (.inr (some (192)))), (2, .inr (.inr (some (770)))), (3, .inr (.inr (some (805))))]) (st' := [.inl ((i) + (1)), .inr (.inr (some (0))), .inr (.inr (some (770)))]) rfl ?_
      have n78 : 0 ≤ qz_N (ow gA (2 * ((KY W (lvl true a2).toNat).length : Int))) 0 ∧ qz_N (ow gA (2 * ((KY W (lvl true a2).toNat).length : Int))) 0 ≤ 3072 := ez_len hBo t0 tq_34 rfl
      refine ez_aI hBo t0 rfl tq_34 rfl rfl (by omega) (by omega) (fun (b77 : -2147483648 ≤ qz_I (ow gA (2 * ((KY W (lvl true a2).toNat).length : Int))) 0 ((i) + (1)).toNat) (b77' : qz_I (ow gA (2 * ((KY W (lvl true a2).toNat).length : Int))) 0 ((i) + (1)).toNat ≤ 2147483647) => ?_)
      rw [show qz_I (ow gA (2 * ((KY W (lvl true a2).toNat).length : Int))) 0 ((i) + (1)).toNat = qz_I h 0 ((i) + (1)).toNat from sc _, ea1]
      refine ez_go (n := 4) (pc' := 958) (L' := [(5, .inl (0)), (4, .inl (i)), (0, .inr (.inr (some (0)))), (1, .inr (.inr (some (192)))), (2, .inr (.inr (some (770)))), (3, .inr (.inr (some (805))))]) (st' := [.inl ((i) + (2)), .inr (.inr (some (0))), .inl (a1), .inr (.inr (some (770)))]) rfl ?_
      have n80 : 0 ≤ qz_N (ow gA (2 * ((KY W (lvl true a2).toNat).length : Int))) 0 ∧ qz_N (ow gA (2 * ((KY W (lvl true a2).toNat).length : Int))) 0 ≤ 3072 := ez_len hBo t0 tq_34 rfl
      refine ez_aI hBo t0 rfl tq_34 rfl rfl (by omega) (by omega) (fun (b79 : -2147483648 ≤ qz_I (ow gA (2 * ((KY W (lvl true a2).toNat).length : Int))) 0 ((i) + (2)).toNat) (b79' : qz_I (ow gA (2 * ((KY W (lvl true a2).toNat).length : Int))) 0 ((i) + (2)).toNat ≤ 2147483647) => ?_)
      rw [show qz_I (ow gA (2 * ((KY W (lvl true a2).toNat).length : Int))) 0 ((i) + (2)).toNat = qz_I h 0 ((i) + (2)).toNat from sc _, ea2]
      refine ez_go (n := 4) (pc' := 964) (L' := [(5, .inl (0)), (4, .inl (i)), (0, .inr (.inr (some (0)))), (1, .inr (.inr (some (192)))), (2, .inr (.inr (some (770)))), (3, .inr (.inr (some (805))))]) (st' := [.inl ((i) + (3)), .inr (.inr (some (0))), .inl (a2), .inl (a1), .inr (.inr (some (770)))]) rfl ?_
      have n82 : 0 ≤ qz_N (ow gA (2 * ((KY W (lvl true a2).toNat).length : Int))) 0 ∧ qz_N (ow gA (2 * ((KY W (lvl true a2).toNat).length : Int))) 0 ≤ 3072 := ez_len hBo t0 tq_34 rfl
      refine ez_aI hBo t0 rfl tq_34 rfl rfl (by omega) (by omega) (fun (b81 : -2147483648 ≤ qz_I (ow gA (2 * ((KY W (lvl true a2).toNat).length : Int))) 0 ((i) + (3)).toNat) (b81' : qz_I (ow gA (2 * ((KY W (lvl true a2).toNat).length : Int))) 0 ((i) + (3)).toNat ≤ 2147483647) => ?_)
      rw [show qz_I (ow gA (2 * ((KY W (lvl true a2).toNat).length : Int))) 0 ((i) + (3)).toNat = qz_I h 0 ((i) + (3)).toNat from sc _]
      refine ez_if rfl rfl ⟨by first | omega | exact (sz_i32 _).1, by first | omega | exact (sz_i32 _).2⟩ (fun (c83 : (qz_I h 0 ((i) + (3)).toNat) = (0)) => ?_) (fun (c83 : ¬((qz_I h 0 ((i) + (3)).toNat) = (0))) => ?_)
      · skip
        refine ez_go (n := 1) (pc' := 973) (L' := [(5, .inl (0)), (4, .inl (i)), (0, .inr (.inr (some (0)))), (1, .inr (.inr (some (192)))), (2, .inr (.inr (some (770)))), (3, .inr (.inr (some (805))))]) (st' := [.inl (0), .inl (a2), .inl (a1), .inr (.inr (some (770)))]) rfl ?_
        exfalso; omega
      · skip
        refine ez_go (n := 2) (pc' := 973) (L' := [(5, .inl (0)), (4, .inl (i)), (0, .inr (.inr (some (0)))), (1, .inr (.inr (some (192)))), (2, .inr (.inr (some (770)))), (3, .inr (.inr (some (805))))]) (st' := [.inl (1), .inl (a2), .inl (a1), .inr (.inr (some (770)))]) rfl ?_
        refine ez_cv hBo t770 rfl rfl rfl tq_75 rfl rfl rfl (rd_mkey1 hBo hX.1 pN pC hK hL pR pD pS pX ar1 ar2 (fun w9 => absurd w9 (by omega)) (fun _ z => absurd z n7) (fun _ _ h1 c1 c2 kn => (kyR_N ky1 kn).elim) (fun _ _ h1 c1 c2 V9 kr w9 kl => absurd kl (by rw [kyR_u (s77 (fun z => s0 (s6.mpr z))).1.2.2.2 kr ky1]; omega)) (fun _ _ h1 c1 c2 V9 kr w9 kl g2 τ2 c3 c4 g3 b1 f3 o3 i4 rb3 => ez_K1 ?_))
        have pD1 : got h1 ≠ gke h1 := by unfold got gke qz_P; rw [c2.2.1 39 (by decide), c2.2.1 40 (by decide)]; exact pD
        have nc9 := c4.1
        have X9 := nc9.X hX.1
        have u770 : τ2 770 = 75 := X9 770 (by decide)
        have u805 : τ2 805 = 35 := X9 805 (by decide)
        have FN := tg_k5 hb hn hBo c1 CH9 (by unfold qz_I; rw [ow_at (by decide)]; exact iA) (clr_c5 cA7 (ow_at (by decide))) (clr_c5 cA9 (ow_at (by decide))) rH c2 nc9 (c4.dk c1 hX.1 pD1) (fun q q0 q7 q2 => f3.2.2 q (nz_P2_f q7 q2)) (fun j _ j4 => o3 j j4) ⟨by rw [f3.1]; exact Nat.le_succ _, by rw [f3.2.1]; omega⟩ c3 b1
        have b0 : qz_I g3 770 0 = 0 := (o3 0 (by decide)).trans ((nc9.2.2.1 0 rfl).trans c2.2.2)
        have M5 : g3.2.2 805 = (ow gA (2 * ((KY W (lvl true a2).toNat).length : Int))).2.2 805 := cg5 hX.1 c2 nc9 (fun q q0 q7 q2 => f3.2.2 q (nz_P2_f q7 q2)) 805 35 t805 rfl
        have ev9 := kyR_u (s77 (fun z => s0 (s6.mpr z))).1.2.2.2 kr ky1
        subst ev9
        refine ez_go (n := 2) (pc' := 979) (L' := [(6, .inl (2 * ((KY V9 (lvl true a2).toNat).length : Int))), (5, .inl (0)), (4, .inl (i)), (0, .inr (.inr (some (0)))), (1, .inr (.inr (some (192)))), (2, .inr (.inr (some (770)))), (3, .inr (.inr (some (805))))]) (st' := [.inr (.inr (some (770)))]) rfl ?_
        refine ez_cv b1 u770 rfl rfl rfl tq_75 rfl rfl rfl (rd_thrown b1 u770 (ez_K1 ?_))
        rw [b0]
        refine ez_go (n := 1) (pc' := 984) (L' := [(6, .inl (2 * ((KY V9 (lvl true a2).toNat).length : Int))), (5, .inl (0)), (4, .inl (i)), (0, .inr (.inr (some (0)))), (1, .inr (.inr (some (192)))), (2, .inr (.inr (some (770)))), (3, .inr (.inr (some (805))))]) (st' := [.inl (0), .inl (0)]) rfl ?_
        refine ez_icmp rfl rfl ⟨by decide, by decide⟩ ⟨by decide, by decide⟩ (fun _ => ?_) (fun (c84 : ¬((0 : Int) = (0))) => absurd c84 (by decide))
        refine ez_go (n := 1) (pc' := 991) (L' := [(6, .inl (2 * ((KY V9 (lvl true a2).toNat).length : Int))), (5, .inl (0)), (4, .inl (i)), (0, .inr (.inr (some (0)))), (1, .inr (.inr (some (192)))), (2, .inr (.inr (some (770)))), (3, .inr (.inr (some (805))))]) (st' := [.inl (0)]) rfl ?_
        refine ez_if rfl rfl ⟨by decide, by decide⟩ (fun (c85 : (0 : Int) ≠ (0)) => absurd c85 (by decide)) (fun _ => ?_)
        refine ez_go (n := 2) (pc' := 996) (L' := [(6, .inl (2 * ((KY V9 (lvl true a2).toNat).length : Int))), (5, .inl (0)), (4, .inl (i)), (0, .inr (.inr (some (0)))), (1, .inr (.inr (some (192)))), (2, .inr (.inr (some (770)))), (3, .inr (.inr (some (805))))]) (st' := [.inl (0), .inr (.inr (some (805)))]) rfl ?_
        have n86 : 1 ≤ qz_N g3 805 ∧ qz_N g3 805 ≤ 1 := ez_len b1 u805 tq_35 rfl
        refine ez_aL b1 u805 rfl tq_35 rfl rfl (by omega) (by omega) ?_
        refine ez_go (n := 3) (pc' := 1001) (L' := [(6, .inl (2 * ((KY V9 (lvl true a2).toNat).length : Int))), (5, .inl (0)), (4, .inl (i)), (0, .inr (.inr (some (0)))), (1, .inr (.inr (some (192)))), (2, .inr (.inr (some (770)))), (3, .inr (.inr (some (805))))]) (st' := [.inl ((lg_cmp (Int64.ofInt (qz_I g3 805 (0 : Int).toNat)) ((Int32.ofInt (2 * ((KY V9 (lvl true a2).toNat).length : Int))).toInt64)).toInt)]) rfl ?_
        rw [show (lg_cmp (Int64.ofInt (qz_I g3 805 (0 : Int).toNat)) ((Int32.ofInt (2 * ((KY V9 (lvl true a2).toNat).length : Int))).toInt64)).toInt = 0 by rw [show qz_I g3 805 (0 : Int).toNat = ((Int32.ofInt (2 * ((KY V9 (lvl true a2).toNat).length : Int))).toInt64).toInt from (show qz_I g3 805 (0 : Int).toNat = qz_I (ow gA (2 * ((KY V9 (lvl true a2).toNat).length : Int))) 805 (0 : Int).toNat by unfold qz_I; rw [M5]).trans (ow_0 BA t805), Int64.ofInt_toInt]; exact lg_same _]
        refine ez_if rfl rfl ⟨by decide, by decide⟩ (fun _ => ?_) (fun (c87 : ¬((0 : Int) = (0))) => absurd c87 (by decide))
        refine ez_go (n := 1) (pc' := 1213) (L' := [(6, .inl (2 * ((KY V9 (lvl true a2).toNat).length : Int))), (5, .inl (0)), (4, .inl (i)), (0, .inr (.inr (some (0)))), (1, .inr (.inr (some (192)))), (2, .inr (.inr (some (770)))), (3, .inr (.inr (some (805))))]) (st' := []) rfl ?_
        refine ez_less [(4, .inl (i)), (0, .inr (.inr (some (0)))), (1, .inr (.inr (some (192)))), (2, .inr (.inr (some (770)))), (3, .inr (.inr (some (805))))] rfl ⟨rfl, rfl, rfl, rfl, rfl, trivial⟩ ?_
        exact k _ _ FN.1 FN.2

theorem hp_compare {a1 a2 a3 a4 : Int} (hB : ez_B τ h) (t192 : τ 192 = 44) (hc : ez_W d cm_6 0 [(0, .inr (.inr (some (192)))), (1, .inl (a1)), (2, .inl (a2)), (3, .inl (a3)), (4, .inl (a4))] [] h P) (k : ∀ F, P F → (∃ v τ1 g, F = (.inl (some (ez_v (.inl v))), g) ∧ ez_B τ1 g ∧ τ1 805 = 35 ∧ (ez_B τ1 (ow g v) → Q (.inl (some (ez_v (.inl 0))), ow g v))) ∨ (∃ r g, F = (.inr r, g) ∧ cz_exc g r = some 1 ∧ Q (.inl (some (ez_v (.inl 1))), g)) ∨ (∃ r g, F = (.inr r, g) ∧ cz_exc g r = some 2 ∧ Q (.inl (some (ez_v (.inl 2))), g)) ∨ (∃ r g, F = (.inr r, g) ∧ cz_exc g r = some 0 ∧ Q (.inl (some (ez_v (.inl 3))), g))) : ez_W (d + 1) cm_197 0 [(0, .inr (.inr (some (192)))), (1, .inl (a1)), (2, .inl (a2)), (3, .inl (a3)), (4, .inl (a4)), (5, .inr (.inr (some (805))))] [] h Q := by
  refine ez_go (n := 7) (pc' := 9) (L' := [(0, .inr (.inr (some (192)))), (1, .inl (a1)), (2, .inl (a2)), (3, .inl (a3)), (4, .inl (a4)), (5, .inr (.inr (some (805))))]) (st' := [.inl (a4), .inl (a3), .inl (a2), .inl (a1), .inr (.inr (some (192))), .inl (0), .inr (.inr (some (805)))]) rfl ?_
  refine ez_cv hB t192 rfl rfl rfl tq_44 rfl rfl rfl (ez_mono hc (fun F hF => ?_))
  rcases k F hF with ⟨v, τ1, g, rfl, hB1, u805, kq⟩ | ⟨r, g, rfl, he, kq⟩ | ⟨r, g, rfl, he, kq⟩ | ⟨r, g, rfl, he, kq⟩
  · refine ez_K1 ?_
    refine ez_go (n := 1) (pc' := 13) (L' := [(0, .inr (.inr (some (192)))), (1, .inl (a1)), (2, .inl (a2)), (3, .inl (a3)), (4, .inl (a4)), (5, .inr (.inr (some (805))))]) (st' := [.inr (.inl ((Int32.ofInt (v)).toInt64)), .inl (0), .inr (.inr (some (805)))]) rfl ?_
    have n3 : 1 ≤ qz_N g 805 ∧ qz_N g 805 ≤ 1 := ez_len hB1 u805 tq_35 rfl
    refine ez_as hB1 u805 rfl tq_35 rfl rfl (by omega) (by omega) ez_vdJ (fun hB1 w2 => ?_)
    refine ez_go (n := 2) (pc' := 30) (L' := [(0, .inr (.inr (some (192)))), (1, .inl (a1)), (2, .inl (a2)), (3, .inl (a3)), (4, .inl (a4)), (5, .inr (.inr (some (805))))]) (st' := [.inl (0)]) rfl ?_
    exact ez_retI rfl rfl (kq hB1)
  · refine ez_Kc he rfl ?_
    refine ez_go (n := 2) (pc' := 20) (L' := [(6, .inr (.inr (some (r)))), (0, .inr (.inr (some (192)))), (1, .inl (a1)), (2, .inl (a2)), (3, .inl (a3)), (4, .inl (a4)), (5, .inr (.inr (some (805))))]) (st' := [.inl (1)]) rfl ?_
    exact ez_retI rfl rfl kq
  · refine ez_Kc he rfl ?_
    refine ez_go (n := 2) (pc' := 24) (L' := [(6, .inr (.inr (some (r)))), (0, .inr (.inr (some (192)))), (1, .inl (a1)), (2, .inl (a2)), (3, .inl (a3)), (4, .inl (a4)), (5, .inr (.inr (some (805))))]) (st' := [.inl (2)]) rfl ?_
    exact ez_retI rfl rfl kq
  · refine ez_Kc he rfl ?_
    refine ez_go (n := 2) (pc' := 28) (L' := [(6, .inr (.inr (some (r)))), (0, .inr (.inr (some (192)))), (1, .inl (a1)), (2, .inl (a2)), (3, .inl (a3)), (4, .inl (a4)), (5, .inr (.inr (some (805))))]) (st' := [.inl (3)]) rfl ?_
    exact ez_retI rfl rfl kq

theorem rd_compareP1 {Ls : List vz} {X : Nat → List Int} {a1 a2 a3 : Int} {T : Int → Nat} {O : Nat → Int} {Cs : List cEo} {R : List (List Int × List eL)} (hX : jz_X τ) (kc : qz_I h 202 6 ≠ 0 → kC τ h T (vF Ls) (vE Ls) O (yD Ls) (cLK Cs) R) (hB : ez_B τ h) (hw : uz_wf (vF Ls)) (hK : ∀ x, (0 ≤ x ∧ x ≤ 1114111) → 0 ≤ (vF Ls x).1 ∧ (vF Ls x).1 ≤ 254) (hL : ∀ row e, cLK Cs row = some e → (∀ x ∈ e, eok x) ∧ e.length ≤ 18) (sl : slt h) (txh : txs h X) (cl : clr h 744) (cl2 : clr h 749) (r1 : ez_rg a1) (r2 : ez_rg a2) (r3 : ez_rg a3) (hr1 : h.1 + 1 ≤ 600192) (hr2 : h.2.1 + 6 ≤ 7302232) : ez_W (d + 8) cm_6 0 [(0, .inr (.inr (some (192)))), (1, .inl (a1)), (2, .inl (a2)), (3, .inl (a3)), (4, .inl (1))] [] h (qkP τ h (a1 < 0 ∨ 7 < a1 ∨ a2 < 0 ∨ 7 < a2 ∨ a3 < 1 ∨ 4 < a3) (((0 ≤ a1 ∧ a1 ≤ 7) ∧ (0 ≤ a2 ∧ a2 ≤ 7) ∧ 1 ≤ a3 ∧ a3 ≤ 4) ∧ qz_I h 202 6 = 0) (((0 ≤ a1 ∧ a1 ≤ 7) ∧ (0 ≤ a2 ∧ a2 ≤ 7) ∧ 1 ≤ a3 ∧ a3 ≤ 4) ∧ qz_I h 202 6 ≠ 0 ∧ (kyN (vF Ls) (X a1.toNat) ∨ (∃ W, kyR (vF Ls) (vE Ls) (cLK Cs) (yD Ls) true (X a1.toNat) W) ∧ kyN (vF Ls) (X a2.toNat))) (fun v => (((0 ≤ a1 ∧ a1 ≤ 7) ∧ (0 ≤ a2 ∧ a2 ≤ 7) ∧ 1 ≤ a3 ∧ a3 ≤ 4) ∧ qz_I h 202 6 ≠ 0 ∧ ∃ W U, kyR (vF Ls) (vE Ls) (cLK Cs) (yD Ls) true (X a1.toNat) W ∧ kyR (vF Ls) (vE Ls) (cLK Cs) (yD Ls) true (X a2.toNat) U ∧ v = lvc W U (lvl true a3).toNat))) :=
  rd_ccmp1 hX kc hB hw hK hL sl txh cl cl2 r1 r2 r3 hr1 hr2 (fun w => Or.inl ⟨w, rfl⟩) (fun w z => Or.inr (Or.inl ⟨⟨w, z⟩, rfl⟩)) (fun w z y g b1 b2 b3 b4 => Or.inr (Or.inr (Or.inl ⟨⟨w, z, y⟩, g, rfl, b1, ez_fr_mono b2 (fun q hq => cw5_c hq), b2.I (by unfold kc_P; rw [kb_n (r := 744) (by decide) (by decide), kb_n (r := 749) (by decide) (by decide)]; rfl) 1, b3, b4⟩))) (fun w z W U y1 y2 _ _ g b1 b2 b3 b4 => Or.inr (Or.inr (Or.inr ⟨_, g, ⟨w, z, W, U, y1, y2, rfl⟩, rfl, b1, ez_fr_mono b2 (fun q hq => cw5_c hq), b2.I (by unfold kc_P; rw [kb_n (r := 744) (by decide) (by decide), kb_n (r := 749) (by decide) (by decide)]; rfl) 1, b3, b4⟩)))
theorem rd_compareP0 {Ls : List vz} {X : Nat → List Int} {a1 a2 a3 : Int} {T : Int → Nat} {O : Nat → Int} {Cs : List cEo} {R : List (List Int × List eL)} (hX : jz_X τ) (kc : qz_I h 202 6 ≠ 0 → kC τ h T (vF Ls) (vE Ls) O (yD Ls) (cLK Cs) R) (hB : ez_B τ h) (hw : uz_wf (vF Ls)) (hK : ∀ x, (0 ≤ x ∧ x ≤ 1114111) → 0 ≤ (vF Ls x).1 ∧ (vF Ls x).1 ≤ 254) (hL : ∀ row e, cLK Cs row = some e → (∀ x ∈ e, eok x) ∧ e.length ≤ 18) (sl : slt h) (txh : txs h X) (cl : clr h 744) (cl2 : clr h 749) (r1 : ez_rg a1) (r2 : ez_rg a2) (r3 : ez_rg a3) (hr1 : h.1 + 1 ≤ 600192) (hr2 : h.2.1 + 6 ≤ 7302232) : ez_W (d + 8) cm_6 0 [(0, .inr (.inr (some (192)))), (1, .inl (a1)), (2, .inl (a2)), (3, .inl (a3)), (4, .inl (0))] [] h (qkP τ h (a1 < 0 ∨ 7 < a1 ∨ a2 < 0 ∨ 7 < a2 ∨ a3 < 1 ∨ 4 < a3) (((0 ≤ a1 ∧ a1 ≤ 7) ∧ (0 ≤ a2 ∧ a2 ≤ 7) ∧ 1 ≤ a3 ∧ a3 ≤ 4) ∧ qz_I h 202 6 = 0) (((0 ≤ a1 ∧ a1 ≤ 7) ∧ (0 ≤ a2 ∧ a2 ≤ 7) ∧ 1 ≤ a3 ∧ a3 ≤ 4) ∧ qz_I h 202 6 ≠ 0 ∧ (kyN (vF Ls) (X a1.toNat) ∨ (∃ W, kyR (vF Ls) (vE Ls) (cLK Cs) (yD Ls) false (X a1.toNat) W) ∧ kyN (vF Ls) (X a2.toNat))) (fun v => (((0 ≤ a1 ∧ a1 ≤ 7) ∧ (0 ≤ a2 ∧ a2 ≤ 7) ∧ 1 ≤ a3 ∧ a3 ≤ 4) ∧ qz_I h 202 6 ≠ 0 ∧ ∃ W U, kyR (vF Ls) (vE Ls) (cLK Cs) (yD Ls) false (X a1.toNat) W ∧ kyR (vF Ls) (vE Ls) (cLK Cs) (yD Ls) false (X a2.toNat) U ∧ v = lvc W U (lvl false a3).toNat))) :=
  rd_ccmp0 hX kc hB hw hK hL sl txh cl cl2 r1 r2 r3 hr1 hr2 (fun w => Or.inl ⟨w, rfl⟩) (fun w z => Or.inr (Or.inl ⟨⟨w, z⟩, rfl⟩)) (fun w z y g b1 b2 b3 b4 => Or.inr (Or.inr (Or.inl ⟨⟨w, z, y⟩, g, rfl, b1, ez_fr_mono b2 (fun q hq => cw5_c hq), b2.I (by unfold kc_P; rw [kb_n (r := 744) (by decide) (by decide), kb_n (r := 749) (by decide) (by decide)]; rfl) 1, b3, b4⟩))) (fun w z W U y1 y2 _ _ g b1 b2 b3 b4 => Or.inr (Or.inr (Or.inr ⟨_, g, ⟨w, z, W, U, y1, y2, rfl⟩, rfl, b1, ez_fr_mono b2 (fun q hq => cw5_c hq), b2.I (by unfold kc_P; rw [kb_n (r := 744) (by decide) (by decide), kb_n (r := 749) (by decide) (by decide)]; rfl) 1, b3, b4⟩)))
theorem lw_compare {i : Int} (hb : dz_B tz_T (qz_X rR) τ h) (hn : qz_I h 192 1 = qz_I h 770 2) (i0 : 0 ≤ i) (i1 : i + 6 ≤ qz_N h 0) (i2 : i ≤ 4000) (hr1 : h.1 ≤ 100000) (hr2 : (h.2.1 : Int) ≤ 1029900 + 2 * qz_N h (sk h) + 2 * qz_N h (gel h) + 2 * qz_N h (gfo h) + 2 * qz_N h (got h) + 2 * qz_N h (gke h)) (k : ∀ τ2 g, dz_B tz_T (qz_X rR) τ2 g → stp h g → ez_W (d + 11) cm_0 1213 [(4, .inl (i)), (0, .inr (.inr (some (0)))), (1, .inr (.inr (some (192)))), (2, .inr (.inr (some (770)))), (3, .inr (.inr (some (805))))] [] g Q) : ez_W (d + 11) cm_0 1009 [(4, .inl (i)), (0, .inr (.inr (some (0)))), (1, .inr (.inr (some (192)))), (2, .inr (.inr (some (770)))), (3, .inr (.inr (some (805))))] [] h Q := by
  have hB := dz_ezB hb
  have hX := hb.2.1
  have t0 : τ 0 = 34 := hX.1 0 (by decide)
  have t192 : τ 192 = 44 := hX.1 192 (by decide)
  have t770 : τ 770 = 75 := hX.1 770 (by decide)
  have t805 : τ 805 = 35 := hX.1 805 (by decide)
  obtain ⟨Ls, ⟨t, c, m, w, s6, s77, u, p⟩, ww, ⟨X, x1, x2⟩, q5⟩ := id hX.2.2.2.2
  obtain ⟨-, ⟨Cs, R, mc, ce, cl9⟩, ⟨ca, cb⟩, dk, n9⟩ := id q5
  have hI : jz_I τ h (vF Ls) (vE Ls) := ⟨hB, hX.1, c⟩
  obtain ⟨T, hC⟩ := pz_C_of hI
  obtain ⟨O9, hx9⟩ := ww.2.2.1
  have sl := ww.2.1
  have hz9 : h.1 ≤ 100000 ∧ (h.2.1 : Int) ≤ 1029900 + 2 * zz h := ⟨hr1, by unfold zz; omega⟩
  have rm : rmc h := by
    obtain ⟨-, a1, a2, a3, a4, a5⟩ := ez_tg5 hB t770
    have n1 : 64 ≤ qz_N h (sk h) ∧ qz_N h (sk h) ≤ 18700 := ez_len hB a1 tq_21 rfl
    have n2 : 1024 ≤ qz_N h (gel h) ∧ qz_N h (gel h) ≤ 300000 := ez_len hB a2 tq_23 rfl
    have n3 : 1024 ≤ qz_N h (gfo h) ∧ qz_N h (gfo h) ≤ 200000 := ez_len hB a3 tq_24 rfl
    have n4 : 1024 ≤ qz_N h (got h) ∧ qz_N h (got h) ≤ 600100 := ez_len hB a4 tq_25 rfl
    have n5 : 1024 ≤ qz_N h (gke h) ∧ qz_N h (gke h) ≤ 600100 := ez_len hB a5 tq_25 rfl
    have zb : 0 ≤ zz h := by unfold zz; omega
    unfold rmc; omega
  have rd9 := rmc_rd hB hX.1 rm
  have hK : ∀ x, (0 ≤ x ∧ x ≤ 1114111) → 0 ≤ (vF Ls x).1 ∧ (vF Ls x).1 ≤ 254 := fun x _ => ⟨(w x).1, n9 x⟩
  have hL : ∀ row e, cLK Cs row = some e → (∀ x ∈ e, eok x) ∧ e.length ≤ 18 := fun row e he => ⟨(ce.row he).2.1, (ce.row he).2.2.2⟩
  have hkc : qz_I h 202 6 ≠ 0 → kC τ h T (vF Ls) (vE Ls) O9 (yD Ls) (cLK Cs) R := fun z => by
    obtain ⟨-, q2, q3⟩ := ww.2.2.2.2.1 (fun y => z (s6.mpr y))
    exact ⟨hC, hx9, ce, cFl_fD hC q2, q3⟩
  refine ez_go (n := 5) (pc' := 1015) (L' := [(4, .inl (i)), (0, .inr (.inr (some (0)))), (1, .inr (.inr (some (192)))), (2, .inr (.inr (some (770)))), (3, .inr (.inr (some (805))))]) (st' := [.inl ((i) + (1)), .inr (.inr (some (0))), .inr (.inr (some (192)))]) rfl ?_
  have n2 : 0 ≤ qz_N h 0 ∧ qz_N h 0 ≤ 3072 := ez_len hB t0 tq_34 rfl
  refine ez_aI hB t0 rfl tq_34 rfl rfl (by omega) (by omega) (fun (b1 : -2147483648 ≤ qz_I h 0 ((i) + (1)).toNat) (b1' : qz_I h 0 ((i) + (1)).toNat ≤ 2147483647) => ?_)
  refine ez_go (n := 4) (pc' := 1021) (L' := [(4, .inl (i)), (0, .inr (.inr (some (0)))), (1, .inr (.inr (some (192)))), (2, .inr (.inr (some (770)))), (3, .inr (.inr (some (805))))]) (st' := [.inl ((i) + (2)), .inr (.inr (some (0))), .inl (qz_I h 0 ((i) + (1)).toNat), .inr (.inr (some (192)))]) rfl ?_
  have n4 : 0 ≤ qz_N h 0 ∧ qz_N h 0 ≤ 3072 := ez_len hB t0 tq_34 rfl
  refine ez_aI hB t0 rfl tq_34 rfl rfl (by omega) (by omega) (fun (b3 : -2147483648 ≤ qz_I h 0 ((i) + (2)).toNat) (b3' : qz_I h 0 ((i) + (2)).toNat ≤ 2147483647) => ?_)
  refine ez_go (n := 4) (pc' := 1027) (L' := [(4, .inl (i)), (0, .inr (.inr (some (0)))), (1, .inr (.inr (some (192)))), (2, .inr (.inr (some (770)))), (3, .inr (.inr (some (805))))]) (st' := [.inl ((i) + (3)), .inr (.inr (some (0))), .inl (qz_I h 0 ((i) + (2)).toNat), .inl (qz_I h 0 ((i) + (1)).toNat), .inr (.inr (some (192)))]) rfl ?_
  have n6 : 0 ≤ qz_N h 0 ∧ qz_N h 0 ≤ 3072 := ez_len hB t0 tq_34 rfl
  refine ez_aI hB t0 rfl tq_34 rfl rfl (by omega) (by omega) (fun (b5 : -2147483648 ≤ qz_I h 0 ((i) + (3)).toNat) (b5' : qz_I h 0 ((i) + (3)).toNat ≤ 2147483647) => ?_)
  refine ez_go (n := 4) (pc' := 1033) (L' := [(4, .inl (i)), (0, .inr (.inr (some (0)))), (1, .inr (.inr (some (192)))), (2, .inr (.inr (some (770)))), (3, .inr (.inr (some (805))))]) (st' := [.inl ((i) + (4)), .inr (.inr (some (0))), .inl (qz_I h 0 ((i) + (3)).toNat), .inl (qz_I h 0 ((i) + (2)).toNat), .inl (qz_I h 0 ((i) + (1)).toNat), .inr (.inr (some (192)))]) rfl ?_
  have n8 : 0 ≤ qz_N h 0 ∧ qz_N h 0 ≤ 3072 := ez_len hB t0 tq_34 rfl
  refine ez_aI hB t0 rfl tq_34 rfl rfl (by omega) (by omega) (fun (b7 : -2147483648 ≤ qz_I h 0 ((i) + (4)).toNat) (b7' : qz_I h 0 ((i) + (4)).toNat ≤ 2147483647) => ?_)
  refine ez_if rfl rfl ⟨by first | omega | exact (sz_i32 _).1, by first | omega | exact (sz_i32 _).2⟩ (fun (c9 : (qz_I h 0 ((i) + (4)).toNat) = (0)) => ?_) (fun (c9 : ¬((qz_I h 0 ((i) + (4)).toNat) = (0))) => ?_)
  · skip
    refine ez_go (n := 2) (pc' := 1043) (L' := [(4, .inl (i)), (0, .inr (.inr (some (0)))), (1, .inr (.inr (some (192)))), (2, .inr (.inr (some (770)))), (3, .inr (.inr (some (805))))]) (st' := [.inr (.inr (some (805))), .inl (0), .inl (qz_I h 0 ((i) + (3)).toNat), .inl (qz_I h 0 ((i) + (2)).toNat), .inl (qz_I h 0 ((i) + (1)).toNat), .inr (.inr (some (192)))]) rfl ?_
    refine ez_cs hB.2.1 rfl rfl rfl rfl rfl (hp_compare hB t192 (rd_compareP0 (d := d + 1) hX.1 hkc hB w hK hL sl x1 ca cb ⟨by omega, by omega⟩ ⟨by omega, by omega⟩ ⟨by omega, by omega⟩ (by omega) (by omega)) (fun F hF => ?_))
    generalize ea1 : qz_I h 0 ((i) + (1)).toNat = a1 at *
    have ar1 : ez_rg a1 := ⟨by omega, by omega⟩
    generalize ea2 : qz_I h 0 ((i) + (2)).toNat = a2 at *
    have ar2 : ez_rg a2 := ⟨by omega, by omega⟩
    generalize ea3 : qz_I h 0 ((i) + (3)).toNat = a3 at *
    have ar3 : ez_rg a3 := ⟨by omega, by omega⟩
    rcases hF with ⟨wA, rfl⟩ | ⟨wS, rfl⟩ | ⟨wX, gA, rfl, BA, fA, iA, cA7, cA9⟩ | ⟨v, gA, wV, rfl, BA, fA, iA, cA7, cA9⟩
    · refine Or.inr (Or.inl ⟨_, _, rfl, xc_exc hB rfl, ez_K1 ?_⟩)
      have hBx : ez_B τ (xc h 1) := xc_B hB (by omega) (by omega)
      have rH : (xc h 1).1 ≤ h.1 + 1 ∧ (xc h 1).2.1 ≤ h.2.1 + 6 := ⟨Nat.le_refl _, Nat.le_refl _⟩
      have CH9 : ∀ q, τ q ≠ 0 → pk5 (τ q) = false → τ q ≠ 35 → (xc h 1).2.2 q = h.2.2 q := fun q a _ _ => xc_t hB a
      obtain ⟨⟨pM, pN⟩, pS, pX, p7, sc, sn⟩ := tg_pre5 hX.1 t m w s77 ww x2 hBx CH9
      obtain ⟨pC, pR, pD⟩ := tg_pk5 hB hX.1 t m mc rm dk rH hz9 CH9 p7
      refine ez_go (n := 6) (pc' := 1054) (L' := [(5, .inl (1)), (4, .inl (i)), (0, .inr (.inr (some (0)))), (1, .inr (.inr (some (192)))), (2, .inr (.inr (some (770)))), (3, .inr (.inr (some (805))))]) (st' := [.inl ((i) + (1)), .inr (.inr (some (0))), .inr (.inr (some (770)))]) rfl ?_
      have n11 : 0 ≤ qz_N (xc h 1) 0 ∧ qz_N (xc h 1) 0 ≤ 3072 := ez_len hBx t0 tq_34 rfl
      refine ez_aI hBx t0 rfl tq_34 rfl rfl (by omega) (by omega) (fun (b10 : -2147483648 ≤ qz_I (xc h 1) 0 ((i) + (1)).toNat) (b10' : qz_I (xc h 1) 0 ((i) + (1)).toNat ≤ 2147483647) => ?_)
      rw [show qz_I (xc h 1) 0 ((i) + (1)).toNat = qz_I h 0 ((i) + (1)).toNat from sc _, ea1]
      refine ez_go (n := 4) (pc' := 1060) (L' := [(5, .inl (1)), (4, .inl (i)), (0, .inr (.inr (some (0)))), (1, .inr (.inr (some (192)))), (2, .inr (.inr (some (770)))), (3, .inr (.inr (some (805))))]) (st' := [.inl ((i) + (2)), .inr (.inr (some (0))), .inl (a1), .inr (.inr (some (770)))]) rfl ?_
      have n13 : 0 ≤ qz_N (xc h 1) 0 ∧ qz_N (xc h 1) 0 ≤ 3072 := ez_len hBx t0 tq_34 rfl
      refine ez_aI hBx t0 rfl tq_34 rfl rfl (by omega) (by omega) (fun (b12 : -2147483648 ≤ qz_I (xc h 1) 0 ((i) + (2)).toNat) (b12' : qz_I (xc h 1) 0 ((i) + (2)).toNat ≤ 2147483647) => ?_)
      rw [show qz_I (xc h 1) 0 ((i) + (2)).toNat = qz_I h 0 ((i) + (2)).toNat from sc _, ea2]
      refine ez_go (n := 4) (pc' := 1066) (L' := [(5, .inl (1)), (4, .inl (i)), (0, .inr (.inr (some (0)))), (1, .inr (.inr (some (192)))), (2, .inr (.inr (some (770)))), (3, .inr (.inr (some (805))))]) (st' := [.inl ((i) + (3)), .inr (.inr (some (0))), .inl (a2), .inl (a1), .inr (.inr (some (770)))]) rfl ?_
      have n15 : 0 ≤ qz_N (xc h 1) 0 ∧ qz_N (xc h 1) 0 ≤ 3072 := ez_len hBx t0 tq_34 rfl
      refine ez_aI hBx t0 rfl tq_34 rfl rfl (by omega) (by omega) (fun (b14 : -2147483648 ≤ qz_I (xc h 1) 0 ((i) + (3)).toNat) (b14' : qz_I (xc h 1) 0 ((i) + (3)).toNat ≤ 2147483647) => ?_)
      rw [show qz_I (xc h 1) 0 ((i) + (3)).toNat = qz_I h 0 ((i) + (3)).toNat from sc _, ea3]
      refine ez_go (n := 4) (pc' := 1072) (L' := [(5, .inl (1)), (4, .inl (i)), (0, .inr (.inr (some (0)))), (1, .inr (.inr (some (192)))), (2, .inr (.inr (some (770)))), (3, .inr (.inr (some (805))))]) (st' := [.inl ((i) + (4)), .inr (.inr (some (0))), .inl (a3), .inl (a2), .inl (a1), .inr (.inr (some (770)))]) rfl ?_
      have n17 : 0 ≤ qz_N (xc h 1) 0 ∧ qz_N (xc h 1) 0 ≤ 3072 := ez_len hBx t0 tq_34 rfl
      refine ez_aI hBx t0 rfl tq_34 rfl rfl (by omega) (by omega) (fun (b16 : -2147483648 ≤ qz_I (xc h 1) 0 ((i) + (4)).toNat) (b16' : qz_I (xc h 1) 0 ((i) + (4)).toNat ≤ 2147483647) => ?_)
      rw [show qz_I (xc h 1) 0 ((i) + (4)).toNat = qz_I h 0 ((i) + (4)).toNat from sc _]
      refine ez_if rfl rfl ⟨by first | omega | exact (sz_i32 _).1, by first | omega | exact (sz_i32 _).2⟩ (fun (c18 : (qz_I h 0 ((i) + (4)).toNat) = (0)) => ?_) (fun (c18 : ¬((qz_I h 0 ((i) + (4)).toNat) = (0))) => ?_)
      · skip
        refine ez_go (n := 1) (pc' := 1081) (L' := [(5, .inl (1)), (4, .inl (i)), (0, .inr (.inr (some (0)))), (1, .inr (.inr (some (192)))), (2, .inr (.inr (some (770)))), (3, .inr (.inr (some (805))))]) (st' := [.inl (0), .inl (a3), .inl (a2), .inl (a1), .inr (.inr (some (770)))]) rfl ?_
        refine ez_cv hBx t770 rfl rfl rfl tq_75 rfl rfl rfl (rd_mcmp0 hBx hX.1 pN pC hK hL pR pD pS pX ar1 ar2 ar3 (fun _ g3 b1 b2 => ez_K1 ?_) (fun w9 => absurd w9 (by omega)) (fun w9 => absurd w9 (by omega)) (fun w9 => absurd w9 (by omega)))
        have FN := ref_X hb hn b1 b2.1 b2.2.1
        have b0 := b2.2.2
        refine ez_go (n := 2) (pc' := 1213) (L' := [(6, .inl (0)), (5, .inl (1)), (4, .inl (i)), (0, .inr (.inr (some (0)))), (1, .inr (.inr (some (192)))), (2, .inr (.inr (some (770)))), (3, .inr (.inr (some (805))))]) (st' := []) rfl ?_
        refine ez_less [(4, .inl (i)), (0, .inr (.inr (some (0)))), (1, .inr (.inr (some (192)))), (2, .inr (.inr (some (770)))), (3, .inr (.inr (some (805))))] rfl ⟨rfl, rfl, rfl, rfl, rfl, trivial⟩ ?_
        exact k _ _ FN.1 FN.2
      · skip
        refine ez_go (n := 2) (pc' := 1081) (L' := [(5, .inl (1)), (4, .inl (i)), (0, .inr (.inr (some (0)))), (1, .inr (.inr (some (192)))), (2, .inr (.inr (some (770)))), (3, .inr (.inr (some (805))))]) (st' := [.inl (1), .inl (a3), .inl (a2), .inl (a1), .inr (.inr (some (770)))]) rfl ?_
        exfalso; omega
    · refine Or.inr (Or.inr (Or.inl ⟨_, _, rfl, xc_exc hB rfl, ez_K1 ?_⟩))
      have hBx : ez_B τ (xc h 2) := xc_B hB (by omega) (by omega)
      have rH : (xc h 2).1 ≤ h.1 + 1 ∧ (xc h 2).2.1 ≤ h.2.1 + 6 := ⟨Nat.le_refl _, Nat.le_refl _⟩
      have CH9 : ∀ q, τ q ≠ 0 → pk5 (τ q) = false → τ q ≠ 35 → (xc h 2).2.2 q = h.2.2 q := fun q a _ _ => xc_t hB a
      obtain ⟨⟨pM, pN⟩, pS, pX, p7, sc, sn⟩ := tg_pre5 hX.1 t m w s77 ww x2 hBx CH9
      obtain ⟨pC, pR, pD⟩ := tg_pk5 hB hX.1 t m mc rm dk rH hz9 CH9 p7
      obtain ⟨ok, s0⟩ := wS
      have n7 : qz_I (xc h 2) 770 7 = 0 := (p7 7).trans (s6.mp s0)
      refine ez_go (n := 6) (pc' := 1054) (L' := [(5, .inl (2)), (4, .inl (i)), (0, .inr (.inr (some (0)))), (1, .inr (.inr (some (192)))), (2, .inr (.inr (some (770)))), (3, .inr (.inr (some (805))))]) (st' := [.inl ((i) + (1)), .inr (.inr (some (0))), .inr (.inr (some (770)))]) rfl ?_
      have n20 : 0 ≤ qz_N (xc h 2) 0 ∧ qz_N (xc h 2) 0 ≤ 3072 := ez_len hBx t0 tq_34 rfl
      refine ez_aI hBx t0 rfl tq_34 rfl rfl (by omega) (by omega) (fun (b19 : -2147483648 ≤ qz_I (xc h 2) 0 ((i) + (1)).toNat) (b19' : qz_I (xc h 2) 0 ((i) + (1)).toNat ≤ 2147483647) => ?_)
      rw [show qz_I (xc h 2) 0 ((i) + (1)).toNat = qz_I h 0 ((i) + (1)).toNat from sc _, ea1]
      refine ez_go (n := 4) (pc' := 1060) (L' := [(5, .inl (2)), (4, .inl (i)), (0, .inr (.inr (some (0)))), (1, .inr (.inr (some (192)))), (2, .inr (.inr (some (770)))), (3, .inr (.inr (some (805))))]) (st' := [.inl ((i) + (2)), .inr (.inr (some (0))), .inl (a1), .inr (.inr (some (770)))]) rfl ?_
      have n22 : 0 ≤ qz_N (xc h 2) 0 ∧ qz_N (xc h 2) 0 ≤ 3072 := ez_len hBx t0 tq_34 rfl
      refine ez_aI hBx t0 rfl tq_34 rfl rfl (by omega) (by omega) (fun (b21 : -2147483648 ≤ qz_I (xc h 2) 0 ((i) + (2)).toNat) (b21' : qz_I (xc h 2) 0 ((i) + (2)).toNat ≤ 2147483647) => ?_)
      rw [show qz_I (xc h 2) 0 ((i) + (2)).toNat = qz_I h 0 ((i) + (2)).toNat from sc _, ea2]
      refine ez_go (n := 4) (pc' := 1066) (L' := [(5, .inl (2)), (4, .inl (i)), (0, .inr (.inr (some (0)))), (1, .inr (.inr (some (192)))), (2, .inr (.inr (some (770)))), (3, .inr (.inr (some (805))))]) (st' := [.inl ((i) + (3)), .inr (.inr (some (0))), .inl (a2), .inl (a1), .inr (.inr (some (770)))]) rfl ?_
      have n24 : 0 ≤ qz_N (xc h 2) 0 ∧ qz_N (xc h 2) 0 ≤ 3072 := ez_len hBx t0 tq_34 rfl
      refine ez_aI hBx t0 rfl tq_34 rfl rfl (by omega) (by omega) (fun (b23 : -2147483648 ≤ qz_I (xc h 2) 0 ((i) + (3)).toNat) (b23' : qz_I (xc h 2) 0 ((i) + (3)).toNat ≤ 2147483647) => ?_)
      rw [show qz_I (xc h 2) 0 ((i) + (3)).toNat = qz_I h 0 ((i) + (3)).toNat from sc _, ea3]
      refine ez_go (n := 4) (pc' := 1072) (L' := [(5, .inl (2)), (4, .inl (i)), (0, .inr (.inr (some (0)))), (1, .inr (.inr (some (192)))), (2, .inr (.inr (some (770)))), (3, .inr (.inr (some (805))))]) (st' := [.inl ((i) + (4)), .inr (.inr (some (0))), .inl (a3), .inl (a2), .inl (a1), .inr (.inr (some (770)))]) rfl ?_
      have n26 : 0 ≤ qz_N (xc h 2) 0 ∧ qz_N (xc h 2) 0 ≤ 3072 := ez_len hBx t0 tq_34 rfl
      refine ez_aI hBx t0 rfl tq_34 rfl rfl (by omega) (by omega) (fun (b25 : -2147483648 ≤ qz_I (xc h 2) 0 ((i) + (4)).toNat) (b25' : qz_I (xc h 2) 0 ((i) + (4)).toNat ≤ 2147483647) => ?_)
      rw [show qz_I (xc h 2) 0 ((i) + (4)).toNat = qz_I h 0 ((i) + (4)).toNat from sc _]
      refine ez_if rfl rfl ⟨by first | omega | exact (sz_i32 _).1, by first | omega | exact (sz_i32 _).2⟩ (fun (c27 : (qz_I h 0 ((i) + (4)).toNat) = (0)) => ?_) (fun (c27 : ¬((qz_I h 0 ((i) + (4)).toNat) = (0))) => ?_)
      · skip
        refine ez_go (n := 1) (pc' := 1081) (L' := [(5, .inl (2)), (4, .inl (i)), (0, .inr (.inr (some (0)))), (1, .inr (.inr (some (192)))), (2, .inr (.inr (some (770)))), (3, .inr (.inr (some (805))))]) (st' := [.inl (0), .inl (a3), .inl (a2), .inl (a1), .inr (.inr (some (770)))]) rfl ?_
        refine ez_cv hBx t770 rfl rfl rfl tq_75 rfl rfl rfl (rd_mcmp0 hBx hX.1 pN pC hK hL pR pD pS pX ar1 ar2 ar3 (fun w9 => absurd w9 (by omega)) (fun _ _ g3 b1 b2 => ez_K1 ?_) (fun _ z => absurd n7 z) (fun _ z => absurd n7 z))
        have FN := ref_X hb hn b1 b2.1 b2.2.1
        have b0 := b2.2.2
        refine ez_go (n := 2) (pc' := 1213) (L' := [(6, .inl (0)), (5, .inl (2)), (4, .inl (i)), (0, .inr (.inr (some (0)))), (1, .inr (.inr (some (192)))), (2, .inr (.inr (some (770)))), (3, .inr (.inr (some (805))))]) (st' := []) rfl ?_
        refine ez_less [(4, .inl (i)), (0, .inr (.inr (some (0)))), (1, .inr (.inr (some (192)))), (2, .inr (.inr (some (770)))), (3, .inr (.inr (some (805))))] rfl ⟨rfl, rfl, rfl, rfl, rfl, trivial⟩ ?_
        exact k _ _ FN.1 FN.2
      · skip
        refine ez_go (n := 2) (pc' := 1081) (L' := [(5, .inl (2)), (4, .inl (i)), (0, .inr (.inr (some (0)))), (1, .inr (.inr (some (192)))), (2, .inr (.inr (some (770)))), (3, .inr (.inr (some (805))))]) (st' := [.inl (1), .inl (a3), .inl (a2), .inl (a1), .inr (.inr (some (770)))]) rfl ?_
        exfalso; omega
    · have cA1 := fA.1; have cA2 := fA.2.1
      refine Or.inr (Or.inr (Or.inr (⟨_, _, rfl, xc_exc BA rfl, ez_K1 ?_⟩)))
      have hBx : ez_B τ (xc gA 0) := xc_B BA (by omega) (by omega)
      have rH : (xc gA 0).1 ≤ h.1 + 1 ∧ (xc gA 0).2.1 ≤ h.2.1 + 6 := ⟨by show gA.1 + 1 ≤ _; omega, by show gA.2.1 + 6 ≤ _; omega⟩
      obtain ⟨ok, s0, cn⟩ := wX
      have CH9 : ∀ q, τ q ≠ 0 → pk5 (τ q) = false → τ q ≠ 35 → (xc gA 0).2.2 q = h.2.2 q := fun q a b _ => (xc_t BA a).trans (fA.2.2 q (cw5_t hX.1 b))
      obtain ⟨⟨pM, pN⟩, pS, pX, p7, sc, sn⟩ := tg_pre5 hX.1 t m w s77 ww x2 hBx CH9
      obtain ⟨pC, pR, pD⟩ := tg_pk5 hB hX.1 t m mc rm dk rH hz9 CH9 p7
      have n7 : qz_I (xc gA 0) 770 7 ≠ 0 := fun z => s0 (s6.mpr ((p7 7).symm.trans z))
      refine ez_go (n := 6) (pc' := 1054) (L' := [(5, .inl (3)), (4, .inl (i)), (0, .inr (.inr (some (0)))), (1, .inr (.inr (some (192)))), (2, .inr (.inr (some (770)))), (3, .inr (.inr (some (805))))]) (st' := [.inl ((i) + (1)), .inr (.inr (some (0))), .inr (.inr (some (770)))]) rfl ?_
      have n29 : 0 ≤ qz_N (xc gA 0) 0 ∧ qz_N (xc gA 0) 0 ≤ 3072 := ez_len hBx t0 tq_34 rfl
      refine ez_aI hBx t0 rfl tq_34 rfl rfl (by omega) (by omega) (fun (b28 : -2147483648 ≤ qz_I (xc gA 0) 0 ((i) + (1)).toNat) (b28' : qz_I (xc gA 0) 0 ((i) + (1)).toNat ≤ 2147483647) => ?_)
      rw [show qz_I (xc gA 0) 0 ((i) + (1)).toNat = qz_I h 0 ((i) + (1)).toNat from sc _, ea1]
      refine ez_go (n := 4) (pc' := 1060) (L' := [(5, .inl (3)), (4, .inl (i)), (0, .inr (.inr (some (0)))), (1, .inr (.inr (some (192)))), (2, .inr (.inr (some (770)))), (3, .inr (.inr (some (805))))]) (st' := [.inl ((i) + (2)), .inr (.inr (some (0))), .inl (a1), .inr (.inr (some (770)))]) rfl ?_
      have n31 : 0 ≤ qz_N (xc gA 0) 0 ∧ qz_N (xc gA 0) 0 ≤ 3072 := ez_len hBx t0 tq_34 rfl
      refine ez_aI hBx t0 rfl tq_34 rfl rfl (by omega) (by omega) (fun (b30 : -2147483648 ≤ qz_I (xc gA 0) 0 ((i) + (2)).toNat) (b30' : qz_I (xc gA 0) 0 ((i) + (2)).toNat ≤ 2147483647) => ?_)
      rw [show qz_I (xc gA 0) 0 ((i) + (2)).toNat = qz_I h 0 ((i) + (2)).toNat from sc _, ea2]
      refine ez_go (n := 4) (pc' := 1066) (L' := [(5, .inl (3)), (4, .inl (i)), (0, .inr (.inr (some (0)))), (1, .inr (.inr (some (192)))), (2, .inr (.inr (some (770)))), (3, .inr (.inr (some (805))))]) (st' := [.inl ((i) + (3)), .inr (.inr (some (0))), .inl (a2), .inl (a1), .inr (.inr (some (770)))]) rfl ?_
      have n33 : 0 ≤ qz_N (xc gA 0) 0 ∧ qz_N (xc gA 0) 0 ≤ 3072 := ez_len hBx t0 tq_34 rfl
      refine ez_aI hBx t0 rfl tq_34 rfl rfl (by omega) (by omega) (fun (b32 : -2147483648 ≤ qz_I (xc gA 0) 0 ((i) + (3)).toNat) (b32' : qz_I (xc gA 0) 0 ((i) + (3)).toNat ≤ 2147483647) => ?_)
      rw [show qz_I (xc gA 0) 0 ((i) + (3)).toNat = qz_I h 0 ((i) + (3)).toNat from sc _, ea3]
      refine ez_go (n := 4) (pc' := 1072) (L' := [(5, .inl (3)), (4, .inl (i)), (0, .inr (.inr (some (0)))), (1, .inr (.inr (some (192)))), (2, .inr (.inr (some (770)))), (3, .inr (.inr (some (805))))]) (st' := [.inl ((i) + (4)), .inr (.inr (some (0))), .inl (a3), .inl (a2), .inl (a1), .inr (.inr (some (770)))]) rfl ?_
      have n35 : 0 ≤ qz_N (xc gA 0) 0 ∧ qz_N (xc gA 0) 0 ≤ 3072 := ez_len hBx t0 tq_34 rfl
      refine ez_aI hBx t0 rfl tq_34 rfl rfl (by omega) (by omega) (fun (b34 : -2147483648 ≤ qz_I (xc gA 0) 0 ((i) + (4)).toNat) (b34' : qz_I (xc gA 0) 0 ((i) + (4)).toNat ≤ 2147483647) => ?_)
      rw [show qz_I (xc gA 0) 0 ((i) + (4)).toNat = qz_I h 0 ((i) + (4)).toNat from sc _]
      refine ez_if rfl rfl ⟨by first | omega | exact (sz_i32 _).1, by first | omega | exact (sz_i32 _).2⟩ (fun (c36 : (qz_I h 0 ((i) + (4)).toNat) = (0)) => ?_) (fun (c36 : ¬((qz_I h 0 ((i) + (4)).toNat) = (0))) => ?_)
      · skip
        refine ez_go (n := 1) (pc' := 1081) (L' := [(5, .inl (3)), (4, .inl (i)), (0, .inr (.inr (some (0)))), (1, .inr (.inr (some (192)))), (2, .inr (.inr (some (770)))), (3, .inr (.inr (some (805))))]) (st' := [.inl (0), .inl (a3), .inl (a2), .inl (a1), .inr (.inr (some (770)))]) rfl ?_
        refine ez_cv hBx t770 rfl rfl rfl tq_75 rfl rfl rfl (rd_mcmp0 hBx hX.1 pN pC hK hL pR pD pS pX ar1 ar2 ar3 (fun w9 => absurd w9 (by omega)) (fun _ z => absurd z n7) (fun _ _ h1 c1 c2 kn g2 τ2 c3 c4 dk2 g3 b1 b2 => ez_K1 ?_) (fun _ _ h1 c1 c2 W V9 kr kv => absurd cn (fun q => by rcases q with q | ⟨-, q⟩; (· exact kyR_N kr q); (· exact kyR_N kv q))))
        have pD1 : got h1 ≠ gke h1 := by unfold got gke qz_P; rw [c2.2.1 39 (by decide), c2.2.1 40 (by decide)]; exact pD
        have nc9 := c4
        have X9 := nc9.X hX.1
        have u770 : τ2 770 = 75 := X9 770 (by decide)
        have u805 : τ2 805 = 35 := X9 805 (by decide)
        have FN := tg_k5 hb hn hBx c1 CH9 (by unfold qz_I; rw [xc_t BA (by rw [t192]; decide)]; exact iA) (clr_c5 cA7 (xc_t BA (by rw [hX.1 744 (by decide)]; decide))) (clr_c5 cA9 (xc_t BA (by rw [hX.1 749 (by decide)]; decide))) rH c2 nc9 dk2 (fun q q0 q7 _ => (b2.1.2.2 q (dz_beq_ne q7)).trans (xc_t c3 q0)) (fun j j0 _ => by rw [b2.2.1 j j0]; unfold qz_I; rw [xc_t c3 (by rw [u770]; decide)]) ⟨by rw [b2.1.1]; exact Nat.le_refl _, by rw [b2.1.2.1]; exact Nat.le_refl _⟩ c3 b1
        have b0 := b2.2.2
        refine ez_go (n := 2) (pc' := 1213) (L' := [(6, .inl (0)), (5, .inl (3)), (4, .inl (i)), (0, .inr (.inr (some (0)))), (1, .inr (.inr (some (192)))), (2, .inr (.inr (some (770)))), (3, .inr (.inr (some (805))))]) (st' := []) rfl ?_
        refine ez_less [(4, .inl (i)), (0, .inr (.inr (some (0)))), (1, .inr (.inr (some (192)))), (2, .inr (.inr (some (770)))), (3, .inr (.inr (some (805))))] rfl ⟨rfl, rfl, rfl, rfl, rfl, trivial⟩ ?_
        exact k _ _ FN.1 FN.2
      · skip
        refine ez_go (n := 2) (pc' := 1081) (L' := [(5, .inl (3)), (4, .inl (i)), (0, .inr (.inr (some (0)))), (1, .inr (.inr (some (192)))), (2, .inr (.inr (some (770)))), (3, .inr (.inr (some (805))))]) (st' := [.inl (1), .inl (a3), .inl (a2), .inl (a1), .inr (.inr (some (770)))]) rfl ?_
        exfalso; omega
    · obtain ⟨ok, s0, iv⟩ := wV
      have cA1 := fA.1; have cA2 := fA.2.1
      obtain ⟨W, U9, ky1, ky2, rfl⟩ := iv
      have v2 := lvc_bd W U9 (lvl false a3).toNat
      refine Or.inl ⟨_, τ, gA, rfl, BA, t805, fun hBo => ez_K1 ?_⟩
      have rH : (ow gA (lvc W U9 (lvl false a3).toNat)).1 ≤ h.1 + 1 ∧ (ow gA (lvc W U9 (lvl false a3).toNat)).2.1 ≤ h.2.1 + 6 := ⟨by show gA.1 ≤ _; omega, by show gA.2.1 ≤ _; omega⟩
      have CH9 : ∀ q, τ q ≠ 0 → pk5 (τ q) = false → τ q ≠ 35 → (ow gA (lvc W U9 (lvl false a3).toNat)).2.2 q = h.2.2 q := fun q a b e9 => (ow_at (fun y => e9 (by rw [y]; exact t805))).trans (fA.2.2 q (cw5_t hX.1 b))
      obtain ⟨⟨pM, pN⟩, pS, pX, p7, sc, sn⟩ := tg_pre5 hX.1 t m w s77 ww x2 hBo CH9
      obtain ⟨pC, pR, pD⟩ := tg_pk5 hB hX.1 t m mc rm dk rH hz9 CH9 p7
      have n7 : qz_I (ow gA (lvc W U9 (lvl false a3).toNat)) 770 7 ≠ 0 := fun z => s0 (s6.mpr ((p7 7).symm.trans z))
      refine ez_go (n := 6) (pc' := 1054) (L' := [(5, .inl (0)), (4, .inl (i)), (0, .inr (.inr (some (0)))), (1, .inr (.inr (some (192)))), (2, .inr (.inr (some (770)))), (3, .inr (.inr (some (805))))]) (st' := [.inl ((i) + (1)), .inr (.inr (some (0))), .inr (.inr (some (770)))]) rfl ?_
      have n38 : 0 ≤ qz_N (ow gA (lvc W U9 (lvl false a3).toNat)) 0 ∧ qz_N (ow gA (lvc W U9 (lvl false a3).toNat)) 0 ≤ 3072 := ez_len hBo t0 tq_34 rfl
      refine ez_aI hBo t0 rfl tq_34 rfl rfl (by omega) (by omega) (fun (b37 : -2147483648 ≤ qz_I (ow gA (lvc W U9 (lvl false a3).toNat)) 0 ((i) + (1)).toNat) (b37' : qz_I (ow gA (lvc W U9 (lvl false a3).toNat)) 0 ((i) + (1)).toNat ≤ 2147483647) => ?_)
      rw [show qz_I (ow gA (lvc W U9 (lvl false a3).toNat)) 0 ((i) + (1)).toNat = qz_I h 0 ((i) + (1)).toNat from sc _, ea1]
      refine ez_go (n := 4) (pc' := 1060) (L' := [(5, .inl (0)), (4, .inl (i)), (0, .inr (.inr (some (0)))), (1, .inr (.inr (some (192)))), (2, .inr (.inr (some (770)))), (3, .inr (.inr (some (805))))]) (st' := [.inl ((i) + (2)), .inr (.inr (some (0))), .inl (a1), .inr (.inr (some (770)))]) rfl ?_
      have n40 : 0 ≤ qz_N (ow gA (lvc W U9 (lvl false a3).toNat)) 0 ∧ qz_N (ow gA (lvc W U9 (lvl false a3).toNat)) 0 ≤ 3072 := ez_len hBo t0 tq_34 rfl
      refine ez_aI hBo t0 rfl tq_34 rfl rfl (by omega) (by omega) (fun (b39 : -2147483648 ≤ qz_I (ow gA (lvc W U9 (lvl false a3).toNat)) 0 ((i) + (2)).toNat) (b39' : qz_I (ow gA (lvc W U9 (lvl false a3).toNat)) 0 ((i) + (2)).toNat ≤ 2147483647) => ?_)
      rw [show qz_I (ow gA (lvc W U9 (lvl false a3).toNat)) 0 ((i) + (2)).toNat = qz_I h 0 ((i) + (2)).toNat from sc _, ea2]
      refine ez_go (n := 4) (pc' := 1066) (L' := [(5, .inl (0)), (4, .inl (i)), (0, .inr (.inr (some (0)))), (1, .inr (.inr (some (192)))), (2, .inr (.inr (some (770)))), (3, .inr (.inr (some (805))))]) (st' := [.inl ((i) + (3)), .inr (.inr (some (0))), .inl (a2), .inl (a1), .inr (.inr (some (770)))]) rfl ?_
      have n42 : 0 ≤ qz_N (ow gA (lvc W U9 (lvl false a3).toNat)) 0 ∧ qz_N (ow gA (lvc W U9 (lvl false a3).toNat)) 0 ≤ 3072 := ez_len hBo t0 tq_34 rfl
      refine ez_aI hBo t0 rfl tq_34 rfl rfl (by omega) (by omega) (fun (b41 : -2147483648 ≤ qz_I (ow gA (lvc W U9 (lvl false a3).toNat)) 0 ((i) + (3)).toNat) (b41' : qz_I (ow gA (lvc W U9 (lvl false a3).toNat)) 0 ((i) + (3)).toNat ≤ 2147483647) => ?_)
      rw [show qz_I (ow gA (lvc W U9 (lvl false a3).toNat)) 0 ((i) + (3)).toNat = qz_I h 0 ((i) + (3)).toNat from sc _, ea3]
      refine ez_go (n := 4) (pc' := 1072) (L' := [(5, .inl (0)), (4, .inl (i)), (0, .inr (.inr (some (0)))), (1, .inr (.inr (some (192)))), (2, .inr (.inr (some (770)))), (3, .inr (.inr (some (805))))]) (st' := [.inl ((i) + (4)), .inr (.inr (some (0))), .inl (a3), .inl (a2), .inl (a1), .inr (.inr (some (770)))]) rfl ?_
      have n44 : 0 ≤ qz_N (ow gA (lvc W U9 (lvl false a3).toNat)) 0 ∧ qz_N (ow gA (lvc W U9 (lvl false a3).toNat)) 0 ≤ 3072 := ez_len hBo t0 tq_34 rfl
      refine ez_aI hBo t0 rfl tq_34 rfl rfl (by omega) (by omega) (fun (b43 : -2147483648 ≤ qz_I (ow gA (lvc W U9 (lvl false a3).toNat)) 0 ((i) + (4)).toNat) (b43' : qz_I (ow gA (lvc W U9 (lvl false a3).toNat)) 0 ((i) + (4)).toNat ≤ 2147483647) => ?_)
      rw [show qz_I (ow gA (lvc W U9 (lvl false a3).toNat)) 0 ((i) + (4)).toNat = qz_I h 0 ((i) + (4)).toNat from sc _]
      refine ez_if rfl rfl ⟨by first | omega | exact (sz_i32 _).1, by first | omega | exact (sz_i32 _).2⟩ (fun (c45 : (qz_I h 0 ((i) + (4)).toNat) = (0)) => ?_) (fun (c45 : ¬((qz_I h 0 ((i) + (4)).toNat) = (0))) => ?_)
      · skip
        refine ez_go (n := 1) (pc' := 1081) (L' := [(5, .inl (0)), (4, .inl (i)), (0, .inr (.inr (some (0)))), (1, .inr (.inr (some (192)))), (2, .inr (.inr (some (770)))), (3, .inr (.inr (some (805))))]) (st' := [.inl (0), .inl (a3), .inl (a2), .inl (a1), .inr (.inr (some (770)))]) rfl ?_
        refine ez_cv hBo t770 rfl rfl rfl tq_75 rfl rfl rfl (rd_mcmp0 hBo hX.1 pN pC hK hL pR pD pS pX ar1 ar2 ar3 (fun w9 => absurd w9 (by omega)) (fun _ z => absurd z n7) (fun _ _ h1 c1 c2 kn => absurd kn (fun q => by rcases q with q | ⟨-, q⟩; (· exact kyR_N ky1 q); (· exact kyR_N ky2 q))) (fun _ _ h1 c1 c2 V9 V8 kr kv w9 w8 g3 τ2 b1 c4 dk2 => ez_K1 ?_))
        have pD1 : got h1 ≠ gke h1 := by unfold got gke qz_P; rw [c2.2.1 39 (by decide), c2.2.1 40 (by decide)]; exact pD
        have nc9 := c4
        have X9 := nc9.X hX.1
        have u770 : τ2 770 = 75 := X9 770 (by decide)
        have u805 : τ2 805 = 35 := X9 805 (by decide)
        have FN := tg_k5 hb hn hBo c1 CH9 (by unfold qz_I; rw [ow_at (by decide)]; exact iA) (clr_c5 cA7 (ow_at (by decide))) (clr_c5 cA9 (ow_at (by decide))) rH c2 nc9 dk2 (fun q _ _ _ => rfl) (fun j _ _ => rfl) ⟨Nat.le_succ _, by omega⟩ b1 b1
        have b0 : qz_I g3 770 0 = 0 := (nc9.2.2.1 0 rfl).trans c2.2.2
        have M5 : g3.2.2 805 = (ow gA (lvc W U9 (lvl false a3).toNat)).2.2 805 := cg5 hX.1 c2 nc9 (fun q _ _ _ => rfl) 805 35 t805 rfl
        have ev9 := kyR_u (s77 (fun z => s0 (s6.mpr z))).1.2.2.2 kr ky1
        subst ev9
        have ev8 := kyR_u (s77 (fun z => s0 (s6.mpr z))).1.2.2.2 kv ky2
        subst ev8
        refine ez_go (n := 2) (pc' := 1213) (L' := [(6, .inl (lvc V9 V8 (lvl false a3).toNat)), (5, .inl (0)), (4, .inl (i)), (0, .inr (.inr (some (0)))), (1, .inr (.inr (some (192)))), (2, .inr (.inr (some (770)))), (3, .inr (.inr (some (805))))]) (st' := []) rfl ?_
        refine ez_less [(4, .inl (i)), (0, .inr (.inr (some (0)))), (1, .inr (.inr (some (192)))), (2, .inr (.inr (some (770)))), (3, .inr (.inr (some (805))))] rfl ⟨rfl, rfl, rfl, rfl, rfl, trivial⟩ ?_
        exact k _ _ FN.1 FN.2
      · skip
        refine ez_go (n := 2) (pc' := 1081) (L' := [(5, .inl (0)), (4, .inl (i)), (0, .inr (.inr (some (0)))), (1, .inr (.inr (some (192)))), (2, .inr (.inr (some (770)))), (3, .inr (.inr (some (805))))]) (st' := [.inl (1), .inl (a3), .inl (a2), .inl (a1), .inr (.inr (some (770)))]) rfl ?_
        exfalso; omega
  · skip
    refine ez_go (n := 3) (pc' := 1043) (L' := [(4, .inl (i)), (0, .inr (.inr (some (0)))), (1, .inr (.inr (some (192)))), (2, .inr (.inr (some (770)))), (3, .inr (.inr (some (805))))]) (st' := [.inr (.inr (some (805))), .inl (1), .inl (qz_I h 0 ((i) + (3)).toNat), .inl (qz_I h 0 ((i) + (2)).toNat), .inl (qz_I h 0 ((i) + (1)).toNat), .inr (.inr (some (192)))]) rfl ?_
    refine ez_cs hB.2.1 rfl rfl rfl rfl rfl (hp_compare hB t192 (rd_compareP1 (d := d + 1) hX.1 hkc hB w hK hL sl x1 ca cb ⟨by omega, by omega⟩ ⟨by omega, by omega⟩ ⟨by omega, by omega⟩ (by omega) (by omega)) (fun F hF => ?_))
    generalize ea1 : qz_I h 0 ((i) + (1)).toNat = a1 at *
    have ar1 : ez_rg a1 := ⟨by omega, by omega⟩
    generalize ea2 : qz_I h 0 ((i) + (2)).toNat = a2 at *
    have ar2 : ez_rg a2 := ⟨by omega, by omega⟩
    generalize ea3 : qz_I h 0 ((i) + (3)).toNat = a3 at *
    have ar3 : ez_rg a3 := ⟨by omega, by omega⟩
    rcases hF with ⟨wA, rfl⟩ | ⟨wS, rfl⟩ | ⟨wX, gA, rfl, BA, fA, iA, cA7, cA9⟩ | ⟨v, gA, wV, rfl, BA, fA, iA, cA7, cA9⟩
    · refine Or.inr (Or.inl ⟨_, _, rfl, xc_exc hB rfl, ez_K1 ?_⟩)
      have hBx : ez_B τ (xc h 1) := xc_B hB (by omega) (by omega)
      have rH : (xc h 1).1 ≤ h.1 + 1 ∧ (xc h 1).2.1 ≤ h.2.1 + 6 := ⟨Nat.le_refl _, Nat.le_refl _⟩
      have CH9 : ∀ q, τ q ≠ 0 → pk5 (τ q) = false → τ q ≠ 35 → (xc h 1).2.2 q = h.2.2 q := fun q a _ _ => xc_t hB a
      obtain ⟨⟨pM, pN⟩, pS, pX, p7, sc, sn⟩ := tg_pre5 hX.1 t m w s77 ww x2 hBx CH9
      obtain ⟨pC, pR, pD⟩ := tg_pk5 hB hX.1 t m mc rm dk rH hz9 CH9 p7
      refine ez_go (n := 6) (pc' := 1054) (L' := [(5, .inl (1)), (4, .inl (i)), (0, .inr (.inr (some (0)))), (1, .inr (.inr (some (192)))), (2, .inr (.inr (some (770)))), (3, .inr (.inr (some (805))))]) (st' := [.inl ((i) + (1)), .inr (.inr (some (0))), .inr (.inr (some (770)))]) rfl ?_
      have n47 : 0 ≤ qz_N (xc h 1) 0 ∧ qz_N (xc h 1) 0 ≤ 3072 := ez_len hBx t0 tq_34 rfl
      refine ez_aI hBx t0 rfl tq_34 rfl rfl (by omega) (by omega) (fun (b46 : -2147483648 ≤ qz_I (xc h 1) 0 ((i) + (1)).toNat) (b46' : qz_I (xc h 1) 0 ((i) + (1)).toNat ≤ 2147483647) => ?_)
      rw [show qz_I (xc h 1) 0 ((i) + (1)).toNat = qz_I h 0 ((i) + (1)).toNat from sc _, ea1]
      refine ez_go (n := 4) (pc' := 1060) (L' := [(5, .inl (1)), (4, .inl (i)), (0, .inr (.inr (some (0)))), (1, .inr (.inr (some (192)))), (2, .inr (.inr (some (770)))), (3, .inr (.inr (some (805))))]) (st' := [.inl ((i) + (2)), .inr (.inr (some (0))), .inl (a1), .inr (.inr (some (770)))]) rfl ?_
      have n49 : 0 ≤ qz_N (xc h 1) 0 ∧ qz_N (xc h 1) 0 ≤ 3072 := ez_len hBx t0 tq_34 rfl
      refine ez_aI hBx t0 rfl tq_34 rfl rfl (by omega) (by omega) (fun (b48 : -2147483648 ≤ qz_I (xc h 1) 0 ((i) + (2)).toNat) (b48' : qz_I (xc h 1) 0 ((i) + (2)).toNat ≤ 2147483647) => ?_)
      rw [show qz_I (xc h 1) 0 ((i) + (2)).toNat = qz_I h 0 ((i) + (2)).toNat from sc _, ea2]
      refine ez_go (n := 4) (pc' := 1066) (L' := [(5, .inl (1)), (4, .inl (i)), (0, .inr (.inr (some (0)))), (1, .inr (.inr (some (192)))), (2, .inr (.inr (some (770)))), (3, .inr (.inr (some (805))))]) (st' := [.inl ((i) + (3)), .inr (.inr (some (0))), .inl (a2), .inl (a1), .inr (.inr (some (770)))]) rfl ?_
      have n51 : 0 ≤ qz_N (xc h 1) 0 ∧ qz_N (xc h 1) 0 ≤ 3072 := ez_len hBx t0 tq_34 rfl
      refine ez_aI hBx t0 rfl tq_34 rfl rfl (by omega) (by omega) (fun (b50 : -2147483648 ≤ qz_I (xc h 1) 0 ((i) + (3)).toNat) (b50' : qz_I (xc h 1) 0 ((i) + (3)).toNat ≤ 2147483647) => ?_)
      rw [show qz_I (xc h 1) 0 ((i) + (3)).toNat = qz_I h 0 ((i) + (3)).toNat from sc _, ea3]
      refine ez_go (n := 4) (pc' := 1072) (L' := [(5, .inl (1)), (4, .inl (i)), (0, .inr (.inr (some (0)))), (1, .inr (.inr (some (192)))), (2, .inr (.inr (some (770)))), (3, .inr (.inr (some (805))))]) (st' := [.inl ((i) + (4)), .inr (.inr (some (0))), .inl (a3), .inl (a2), .inl (a1), .inr (.inr (some (770)))]) rfl ?_
      have n53 : 0 ≤ qz_N (xc h 1) 0 ∧ qz_N (xc h 1) 0 ≤ 3072 := ez_len hBx t0 tq_34 rfl
      refine ez_aI hBx t0 rfl tq_34 rfl rfl (by omega) (by omega) (fun (b52 : -2147483648 ≤ qz_I (xc h 1) 0 ((i) + (4)).toNat) (b52' : qz_I (xc h 1) 0 ((i) + (4)).toNat ≤ 2147483647) => ?_)
      rw [show qz_I (xc h 1) 0 ((i) + (4)).toNat = qz_I h 0 ((i) + (4)).toNat from sc _]
      refine ez_if rfl rfl ⟨by first | omega | exact (sz_i32 _).1, by first | omega | exact (sz_i32 _).2⟩ (fun (c54 : (qz_I h 0 ((i) + (4)).toNat) = (0)) => ?_) (fun (c54 : ¬((qz_I h 0 ((i) + (4)).toNat) = (0))) => ?_)
      · skip
        refine ez_go (n := 1) (pc' := 1081) (L' := [(5, .inl (1)), (4, .inl (i)), (0, .inr (.inr (some (0)))), (1, .inr (.inr (some (192)))), (2, .inr (.inr (some (770)))), (3, .inr (.inr (some (805))))]) (st' := [.inl (0), .inl (a3), .inl (a2), .inl (a1), .inr (.inr (some (770)))]) rfl ?_
        exfalso; omega
      · skip
        refine ez_go (n := 2) (pc' := 1081) (L' := [(5, .inl (1)), (4, .inl (i)), (0, .inr (.inr (some (0)))), (1, .inr (.inr (some (192)))), (2, .inr (.inr (some (770)))), (3, .inr (.inr (some (805))))]) (st' := [.inl (1), .inl (a3), .inl (a2), .inl (a1), .inr (.inr (some (770)))]) rfl ?_
        refine ez_cv hBx t770 rfl rfl rfl tq_75 rfl rfl rfl (rd_mcmp1 hBx hX.1 pN pC hK hL pR pD pS pX ar1 ar2 ar3 (fun _ g3 b1 b2 => ez_K1 ?_) (fun w9 => absurd w9 (by omega)) (fun w9 => absurd w9 (by omega)) (fun w9 => absurd w9 (by omega)))
        have FN := ref_X hb hn b1 b2.1 b2.2.1
        have b0 := b2.2.2
        refine ez_go (n := 2) (pc' := 1213) (L' := [(6, .inl (0)), (5, .inl (1)), (4, .inl (i)), (0, .inr (.inr (some (0)))), (1, .inr (.inr (some (192)))), (2, .inr (.inr (some (770)))), (3, .inr (.inr (some (805))))]) (st' := []) rfl ?_
        refine ez_less [(4, .inl (i)), (0, .inr (.inr (some (0)))), (1, .inr (.inr (some (192)))), (2, .inr (.inr (some (770)))), (3, .inr (.inr (some (805))))] rfl ⟨rfl, rfl, rfl, rfl, rfl, trivial⟩ ?_
        exact k _ _ FN.1 FN.2
    · refine Or.inr (Or.inr (Or.inl ⟨_, _, rfl, xc_exc hB rfl, ez_K1 ?_⟩))
      have hBx : ez_B τ (xc h 2) := xc_B hB (by omega) (by omega)
      have rH : (xc h 2).1 ≤ h.1 + 1 ∧ (xc h 2).2.1 ≤ h.2.1 + 6 := ⟨Nat.le_refl _, Nat.le_refl _⟩
      have CH9 : ∀ q, τ q ≠ 0 → pk5 (τ q) = false → τ q ≠ 35 → (xc h 2).2.2 q = h.2.2 q := fun q a _ _ => xc_t hB a
      obtain ⟨⟨pM, pN⟩, pS, pX, p7, sc, sn⟩ := tg_pre5 hX.1 t m w s77 ww x2 hBx CH9
      obtain ⟨pC, pR, pD⟩ := tg_pk5 hB hX.1 t m mc rm dk rH hz9 CH9 p7
      obtain ⟨ok, s0⟩ := wS
      have n7 : qz_I (xc h 2) 770 7 = 0 := (p7 7).trans (s6.mp s0)
      refine ez_go (n := 6) (pc' := 1054) (L' := [(5, .inl (2)), (4, .inl (i)), (0, .inr (.inr (some (0)))), (1, .inr (.inr (some (192)))), (2, .inr (.inr (some (770)))), (3, .inr (.inr (some (805))))]) (st' := [.inl ((i) + (1)), .inr (.inr (some (0))), .inr (.inr (some (770)))]) rfl ?_
      have n56 : 0 ≤ qz_N (xc h 2) 0 ∧ qz_N (xc h 2) 0 ≤ 3072 := ez_len hBx t0 tq_34 rfl
      refine ez_aI hBx t0 rfl tq_34 rfl rfl (by omega) (by omega) (fun (b55 : -2147483648 ≤ qz_I (xc h 2) 0 ((i) + (1)).toNat) (b55' : qz_I (xc h 2) 0 ((i) + (1)).toNat ≤ 2147483647) => ?_)
      rw [show qz_I (xc h 2) 0 ((i) + (1)).toNat = qz_I h 0 ((i) + (1)).toNat from sc _, ea1]
      refine ez_go (n := 4) (pc' := 1060) (L' := [(5, .inl (2)), (4, .inl (i)), (0, .inr (.inr (some (0)))), (1, .inr (.inr (some (192)))), (2, .inr (.inr (some (770)))), (3, .inr (.inr (some (805))))]) (st' := [.inl ((i) + (2)), .inr (.inr (some (0))), .inl (a1), .inr (.inr (some (770)))]) rfl ?_
      have n58 : 0 ≤ qz_N (xc h 2) 0 ∧ qz_N (xc h 2) 0 ≤ 3072 := ez_len hBx t0 tq_34 rfl
      refine ez_aI hBx t0 rfl tq_34 rfl rfl (by omega) (by omega) (fun (b57 : -2147483648 ≤ qz_I (xc h 2) 0 ((i) + (2)).toNat) (b57' : qz_I (xc h 2) 0 ((i) + (2)).toNat ≤ 2147483647) => ?_)
      rw [show qz_I (xc h 2) 0 ((i) + (2)).toNat = qz_I h 0 ((i) + (2)).toNat from sc _, ea2]
      refine ez_go (n := 4) (pc' := 1066) (L' := [(5, .inl (2)), (4, .inl (i)), (0, .inr (.inr (some (0)))), (1, .inr (.inr (some (192)))), (2, .inr (.inr (some (770)))), (3, .inr (.inr (some (805))))]) (st' := [.inl ((i) + (3)), .inr (.inr (some (0))), .inl (a2), .inl (a1), .inr (.inr (some (770)))]) rfl ?_
      have n60 : 0 ≤ qz_N (xc h 2) 0 ∧ qz_N (xc h 2) 0 ≤ 3072 := ez_len hBx t0 tq_34 rfl
      refine ez_aI hBx t0 rfl tq_34 rfl rfl (by omega) (by omega) (fun (b59 : -2147483648 ≤ qz_I (xc h 2) 0 ((i) + (3)).toNat) (b59' : qz_I (xc h 2) 0 ((i) + (3)).toNat ≤ 2147483647) => ?_)
      rw [show qz_I (xc h 2) 0 ((i) + (3)).toNat = qz_I h 0 ((i) + (3)).toNat from sc _, ea3]
      refine ez_go (n := 4) (pc' := 1072) (L' := [(5, .inl (2)), (4, .inl (i)), (0, .inr (.inr (some (0)))), (1, .inr (.inr (some (192)))), (2, .inr (.inr (some (770)))), (3, .inr (.inr (some (805))))]) (st' := [.inl ((i) + (4)), .inr (.inr (some (0))), .inl (a3), .inl (a2), .inl (a1), .inr (.inr (some (770)))]) rfl ?_
      have n62 : 0 ≤ qz_N (xc h 2) 0 ∧ qz_N (xc h 2) 0 ≤ 3072 := ez_len hBx t0 tq_34 rfl
      refine ez_aI hBx t0 rfl tq_34 rfl rfl (by omega) (by omega) (fun (b61 : -2147483648 ≤ qz_I (xc h 2) 0 ((i) + (4)).toNat) (b61' : qz_I (xc h 2) 0 ((i) + (4)).toNat ≤ 2147483647) => ?_)
      rw [show qz_I (xc h 2) 0 ((i) + (4)).toNat = qz_I h 0 ((i) + (4)).toNat from sc _]
      refine ez_if rfl rfl ⟨by first | omega | exact (sz_i32 _).1, by first | omega | exact (sz_i32 _).2⟩ (fun (c63 : (qz_I h 0 ((i) + (4)).toNat) = (0)) => ?_) (fun (c63 : ¬((qz_I h 0 ((i) + (4)).toNat) = (0))) => ?_)
      · skip
        refine ez_go (n := 1) (pc' := 1081) (L' := [(5, .inl (2)), (4, .inl (i)), (0, .inr (.inr (some (0)))), (1, .inr (.inr (some (192)))), (2, .inr (.inr (some (770)))), (3, .inr (.inr (some (805))))]) (st' := [.inl (0), .inl (a3), .inl (a2), .inl (a1), .inr (.inr (some (770)))]) rfl ?_
        exfalso; omega
      · skip
        refine ez_go (n := 2) (pc' := 1081) (L' := [(5, .inl (2)), (4, .inl (i)), (0, .inr (.inr (some (0)))), (1, .inr (.inr (some (192)))), (2, .inr (.inr (some (770)))), (3, .inr (.inr (some (805))))]) (st' := [.inl (1), .inl (a3), .inl (a2), .inl (a1), .inr (.inr (some (770)))]) rfl ?_
        refine ez_cv hBx t770 rfl rfl rfl tq_75 rfl rfl rfl (rd_mcmp1 hBx hX.1 pN pC hK hL pR pD pS pX ar1 ar2 ar3 (fun w9 => absurd w9 (by omega)) (fun _ _ g3 b1 b2 => ez_K1 ?_) (fun _ z => absurd n7 z) (fun _ z => absurd n7 z))
        have FN := ref_X hb hn b1 b2.1 b2.2.1
        have b0 := b2.2.2
        refine ez_go (n := 2) (pc' := 1213) (L' := [(6, .inl (0)), (5, .inl (2)), (4, .inl (i)), (0, .inr (.inr (some (0)))), (1, .inr (.inr (some (192)))), (2, .inr (.inr (some (770)))), (3, .inr (.inr (some (805))))]) (st' := []) rfl ?_
        refine ez_less [(4, .inl (i)), (0, .inr (.inr (some (0)))), (1, .inr (.inr (some (192)))), (2, .inr (.inr (some (770)))), (3, .inr (.inr (some (805))))] rfl ⟨rfl, rfl, rfl, rfl, rfl, trivial⟩ ?_
        exact k _ _ FN.1 FN.2
    · have cA1 := fA.1; have cA2 := fA.2.1
      refine Or.inr (Or.inr (Or.inr (⟨_, _, rfl, xc_exc BA rfl, ez_K1 ?_⟩)))
      have hBx : ez_B τ (xc gA 0) := xc_B BA (by omega) (by omega)
      have rH : (xc gA 0).1 ≤ h.1 + 1 ∧ (xc gA 0).2.1 ≤ h.2.1 + 6 := ⟨by show gA.1 + 1 ≤ _; omega, by show gA.2.1 + 6 ≤ _; omega⟩
      obtain ⟨ok, s0, cn⟩ := wX
      have CH9 : ∀ q, τ q ≠ 0 → pk5 (τ q) = false → τ q ≠ 35 → (xc gA 0).2.2 q = h.2.2 q := fun q a b _ => (xc_t BA a).trans (fA.2.2 q (cw5_t hX.1 b))
      obtain ⟨⟨pM, pN⟩, pS, pX, p7, sc, sn⟩ := tg_pre5 hX.1 t m w s77 ww x2 hBx CH9
      obtain ⟨pC, pR, pD⟩ := tg_pk5 hB hX.1 t m mc rm dk rH hz9 CH9 p7
      have n7 : qz_I (xc gA 0) 770 7 ≠ 0 := fun z => s0 (s6.mpr ((p7 7).symm.trans z))
      refine ez_go (n := 6) (pc' := 1054) (L' := [(5, .inl (3)), (4, .inl (i)), (0, .inr (.inr (some (0)))), (1, .inr (.inr (some (192)))), (2, .inr (.inr (some (770)))), (3, .inr (.inr (some (805))))]) (st' := [.inl ((i) + (1)), .inr (.inr (some (0))), .inr (.inr (some (770)))]) rfl ?_
      have n65 : 0 ≤ qz_N (xc gA 0) 0 ∧ qz_N (xc gA 0) 0 ≤ 3072 := ez_len hBx t0 tq_34 rfl
      refine ez_aI hBx t0 rfl tq_34 rfl rfl (by omega) (by omega) (fun (b64 : -2147483648 ≤ qz_I (xc gA 0) 0 ((i) + (1)).toNat) (b64' : qz_I (xc gA 0) 0 ((i) + (1)).toNat ≤ 2147483647) => ?_)
      rw [show qz_I (xc gA 0) 0 ((i) + (1)).toNat = qz_I h 0 ((i) + (1)).toNat from sc _, ea1]
      refine ez_go (n := 4) (pc' := 1060) (L' := [(5, .inl (3)), (4, .inl (i)), (0, .inr (.inr (some (0)))), (1, .inr (.inr (some (192)))), (2, .inr (.inr (some (770)))), (3, .inr (.inr (some (805))))]) (st' := [.inl ((i) + (2)), .inr (.inr (some (0))), .inl (a1), .inr (.inr (some (770)))]) rfl ?_
      have n67 : 0 ≤ qz_N (xc gA 0) 0 ∧ qz_N (xc gA 0) 0 ≤ 3072 := ez_len hBx t0 tq_34 rfl
      refine ez_aI hBx t0 rfl tq_34 rfl rfl (by omega) (by omega) (fun (b66 : -2147483648 ≤ qz_I (xc gA 0) 0 ((i) + (2)).toNat) (b66' : qz_I (xc gA 0) 0 ((i) + (2)).toNat ≤ 2147483647) => ?_)
      rw [show qz_I (xc gA 0) 0 ((i) + (2)).toNat = qz_I h 0 ((i) + (2)).toNat from sc _, ea2]
      refine ez_go (n := 4) (pc' := 1066) (L' := [(5, .inl (3)), (4, .inl (i)), (0, .inr (.inr (some (0)))), (1, .inr (.inr (some (192)))), (2, .inr (.inr (some (770)))), (3, .inr (.inr (some (805))))]) (st' := [.inl ((i) + (3)), .inr (.inr (some (0))), .inl (a2), .inl (a1), .inr (.inr (some (770)))]) rfl ?_
      have n69 : 0 ≤ qz_N (xc gA 0) 0 ∧ qz_N (xc gA 0) 0 ≤ 3072 := ez_len hBx t0 tq_34 rfl
      refine ez_aI hBx t0 rfl tq_34 rfl rfl (by omega) (by omega) (fun (b68 : -2147483648 ≤ qz_I (xc gA 0) 0 ((i) + (3)).toNat) (b68' : qz_I (xc gA 0) 0 ((i) + (3)).toNat ≤ 2147483647) => ?_)
      rw [show qz_I (xc gA 0) 0 ((i) + (3)).toNat = qz_I h 0 ((i) + (3)).toNat from sc _, ea3]
      refine ez_go (n := 4) (pc' := 1072) (L' := [(5, .inl (3)), (4, .inl (i)), (0, .inr (.inr (some (0)))), (1, .inr (.inr (some (192)))), (2, .inr (.inr (some (770)))), (3, .inr (.inr (some (805))))]) (st' := [.inl ((i) + (4)), .inr (.inr (some (0))), .inl (a3), .inl (a2), .inl (a1), .inr (.inr (some (770)))]) rfl ?_
      have n71 : 0 ≤ qz_N (xc gA 0) 0 ∧ qz_N (xc gA 0) 0 ≤ 3072 := ez_len hBx t0 tq_34 rfl
      refine ez_aI hBx t0 rfl tq_34 rfl rfl (by omega) (by omega) (fun (b70 : -2147483648 ≤ qz_I (xc gA 0) 0 ((i) + (4)).toNat) (b70' : qz_I (xc gA 0) 0 ((i) + (4)).toNat ≤ 2147483647) => ?_)
      rw [show qz_I (xc gA 0) 0 ((i) + (4)).toNat = qz_I h 0 ((i) + (4)).toNat from sc _]
      refine ez_if rfl rfl ⟨by first | omega | exact (sz_i32 _).1, by first | omega | exact (sz_i32 _).2⟩ (fun (c72 : (qz_I h 0 ((i) + (4)).toNat) = (0)) => ?_) (fun (c72 : ¬((qz_I h 0 ((i) + (4)).toNat) = (0))) => ?_)
      · skip
        refine ez_go (n := 1) (pc' := 1081) (L' := [(5, .inl (3)), (4, .inl (i)), (0, .inr (.inr (some (0)))), (1, .inr (.inr (some (192)))), (2, .inr (.inr (some (770)))), (3, .inr (.inr (some (805))))]) (st' := [.inl (0), .inl (a3), .inl (a2), .inl (a1), .inr (.inr (some (770)))]) rfl ?_
        exfalso; omega
      · skip
        refine ez_go (n := 2) (pc' := 1081) (L' := [(5, .inl (3)), (4, .inl (i)), (0, .inr (.inr (some (0)))), (1, .inr (.inr (some (192)))), (2, .inr (.inr (some (770)))), (3, .inr (.inr (some (805))))]) (st' := [.inl (1), .inl (a3), .inl (a2), .inl (a1), .inr (.inr (some (770)))]) rfl ?_
        refine ez_cv hBx t770 rfl rfl rfl tq_75 rfl rfl rfl (rd_mcmp1 hBx hX.1 pN pC hK hL pR pD pS pX ar1 ar2 ar3 (fun w9 => absurd w9 (by omega)) (fun _ z => absurd z n7) (fun _ _ h1 c1 c2 kn g2 τ2 c3 c4 dk2 g3 b1 b2 => ez_K1 ?_) (fun _ _ h1 c1 c2 W V9 kr kv => absurd cn (fun q => by rcases q with q | ⟨-, q⟩; (· exact kyR_N kr q); (· exact kyR_N kv q))))
        have pD1 : got h1 ≠ gke h1 := by unfold got gke qz_P; rw [c2.2.1 39 (by decide), c2.2.1 40 (by decide)]; exact pD
        have nc9 := c4
        have X9 := nc9.X hX.1
        have u770 : τ2 770 = 75 := X9 770 (by decide)
        have u805 : τ2 805 = 35 := X9 805 (by decide)
        have FN := tg_k5 hb hn hBx c1 CH9 (by unfold qz_I; rw [xc_t BA (by rw [t192]; decide)]; exact iA) (clr_c5 cA7 (xc_t BA (by rw [hX.1 744 (by decide)]; decide))) (clr_c5 cA9 (xc_t BA (by rw [hX.1 749 (by decide)]; decide))) rH c2 nc9 dk2 (fun q q0 q7 _ => (b2.1.2.2 q (dz_beq_ne q7)).trans (xc_t c3 q0)) (fun j j0 _ => by rw [b2.2.1 j j0]; unfold qz_I; rw [xc_t c3 (by rw [u770]; decide)]) ⟨by rw [b2.1.1]; exact Nat.le_refl _, by rw [b2.1.2.1]; exact Nat.le_refl _⟩ c3 b1
        have b0 := b2.2.2
        refine ez_go (n := 2) (pc' := 1213) (L' := [(6, .inl (0)), (5, .inl (3)), (4, .inl (i)), (0, .inr (.inr (some (0)))), (1, .inr (.inr (some (192)))), (2, .inr (.inr (some (770)))), (3, .inr (.inr (some (805))))]) (st' := []) rfl ?_
        refine ez_less [(4, .inl (i)), (0, .inr (.inr (some (0)))), (1, .inr (.inr (some (192)))), (2, .inr (.inr (some (770)))), (3, .inr (.inr (some (805))))] rfl ⟨rfl, rfl, rfl, rfl, rfl, trivial⟩ ?_
        exact k _ _ FN.1 FN.2
    · obtain ⟨ok, s0, iv⟩ := wV
      have cA1 := fA.1; have cA2 := fA.2.1
      obtain ⟨W, U9, ky1, ky2, rfl⟩ := iv
      have v2 := lvc_bd W U9 (lvl true a3).toNat
      refine Or.inl ⟨_, τ, gA, rfl, BA, t805, fun hBo => ez_K1 ?_⟩
      have rH : (ow gA (lvc W U9 (lvl true a3).toNat)).1 ≤ h.1 + 1 ∧ (ow gA (lvc W U9 (lvl true a3).toNat)).2.1 ≤ h.2.1 + 6 := ⟨by show gA.1 ≤ _; omega, by show gA.2.1 ≤ _; omega⟩
      have CH9 : ∀ q, τ q ≠ 0 → pk5 (τ q) = false → τ q ≠ 35 → (ow gA (lvc W U9 (lvl true a3).toNat)).2.2 q = h.2.2 q := fun q a b e9 => (ow_at (fun y => e9 (by rw [y]; exact t805))).trans (fA.2.2 q (cw5_t hX.1 b))
      obtain ⟨⟨pM, pN⟩, pS, pX, p7, sc, sn⟩ := tg_pre5 hX.1 t m w s77 ww x2 hBo CH9
      obtain ⟨pC, pR, pD⟩ := tg_pk5 hB hX.1 t m mc rm dk rH hz9 CH9 p7
      have n7 : qz_I (ow gA (lvc W U9 (lvl true a3).toNat)) 770 7 ≠ 0 := fun z => s0 (s6.mpr ((p7 7).symm.trans z))
      refine ez_go (n := 6) (pc' := 1054) (L' := [(5, .inl (0)), (4, .inl (i)), (0, .inr (.inr (some (0)))), (1, .inr (.inr (some (192)))), (2, .inr (.inr (some (770)))), (3, .inr (.inr (some (805))))]) (st' := [.inl ((i) + (1)), .inr (.inr (some (0))), .inr (.inr (some (770)))]) rfl ?_
      have n74 : 0 ≤ qz_N (ow gA (lvc W U9 (lvl true a3).toNat)) 0 ∧ qz_N (ow gA (lvc W U9 (lvl true a3).toNat)) 0 ≤ 3072 := ez_len hBo t0 tq_34 rfl
      refine ez_aI hBo t0 rfl tq_34 rfl rfl (by omega) (by omega) (fun (b73 : -2147483648 ≤ qz_I (ow gA (lvc W U9 (lvl true a3).toNat)) 0 ((i) + (1)).toNat) (b73' : qz_I (ow gA (lvc W U9 (lvl true a3).toNat)) 0 ((i) + (1)).toNat ≤ 2147483647) => ?_)
      rw [show qz_I (ow gA (lvc W U9 (lvl true a3).toNat)) 0 ((i) + (1)).toNat = qz_I h 0 ((i) + (1)).toNat from sc _, ea1]
      refine ez_go (n := 4) (pc' := 1060) (L' := [(5, .inl (0)), (4, .inl (i)), (0, .inr (.inr (some (0)))), (1, .inr (.inr (some (192)))), (2, .inr (.inr (some (770)))), (3, .inr (.inr (some (805))))]) (st' := [.inl ((i) + (2)), .inr (.inr (some (0))), .inl (a1), .inr (.inr (some (770)))]) rfl ?_
      have n76 : 0 ≤ qz_N (ow gA (lvc W U9 (lvl true a3).toNat)) 0 ∧ qz_N (ow gA (lvc W U9 (lvl true a3).toNat)) 0 ≤ 3072 := ez_len hBo t0 tq_34 rfl
      refine ez_aI hBo t0 rfl tq_34 rfl rfl (by omega) (by omega) (fun (b75 : -2147483648 ≤ qz_I (ow gA (lvc W U9 (lvl true a3).toNat)) 0 ((i) + (2)).toNat) (b75' : qz_I (ow gA (lvc W U9 (lvl true a3).toNat)) 0 ((i) + (2)).toNat ≤ 2147483647) => ?_)
      rw [show qz_I (ow gA (lvc W U9 (lvl true a3).toNat)) 0 ((i) + (2)).toNat = qz_I h 0 ((i) + (2)).toNat from sc _, ea2]
      refine ez_go (n := 4) (pc' := 1066) (L' := [(5, .inl (0)), (4, .inl (i)), (0, .inr (.inr (some (0)))), (1, .inr (.inr (some (192)))), (2, .inr (.inr (some (770)))), (3, .inr (.inr (some (805))))]) (st' := [.inl ((i) + (3)), .inr (.inr (some (0))), .inl (a2), .inl (a1), .inr (.inr (some (770)))]) rfl ?_
      have n78 : 0 ≤ qz_N (ow gA (lvc W U9 (lvl true a3).toNat)) 0 ∧ qz_N (ow gA (lvc W U9 (lvl true a3).toNat)) 0 ≤ 3072 := ez_len hBo t0 tq_34 rfl
      refine ez_aI hBo t0 rfl tq_34 rfl rfl (by omega) (by omega) (fun (b77 : -2147483648 ≤ qz_I (ow gA (lvc W U9 (lvl true a3).toNat)) 0 ((i) + (3)).toNat) (b77' : qz_I (ow gA (lvc W U9 (lvl true a3).toNat)) 0 ((i) + (3)).toNat ≤ 2147483647) => ?_)
      rw [show qz_I (ow gA (lvc W U9 (lvl true a3).toNat)) 0 ((i) + (3)).toNat = qz_I h 0 ((i) + (3)).toNat from sc _, ea3]
      refine ez_go (n := 4) (pc' := 1072) (L' := [(5, .inl (0)), (4, .inl (i)), (0, .inr (.inr (some (0)))), (1, .inr (.inr (some (192)))), (2, .inr (.inr (some (770)))), (3, .inr (.inr (some (805))))]) (st' := [.inl ((i) + (4)), .inr (.inr (some (0))), .inl (a3), .inl (a2), .inl (a1), .inr (.inr (some (770)))]) rfl ?_
      have n80 : 0 ≤ qz_N (ow gA (lvc W U9 (lvl true a3).toNat)) 0 ∧ qz_N (ow gA (lvc W U9 (lvl true a3).toNat)) 0 ≤ 3072 := ez_len hBo t0 tq_34 rfl
      refine ez_aI hBo t0 rfl tq_34 rfl rfl (by omega) (by omega) (fun (b79 : -2147483648 ≤ qz_I (ow gA (lvc W U9 (lvl true a3).toNat)) 0 ((i) + (4)).toNat) (b79' : qz_I (ow gA (lvc W U9 (lvl true a3).toNat)) 0 ((i) + (4)).toNat ≤ 2147483647) => ?_)
      rw [show qz_I (ow gA (lvc W U9 (lvl true a3).toNat)) 0 ((i) + (4)).toNat = qz_I h 0 ((i) + (4)).toNat from sc _]
      refine ez_if rfl rfl ⟨by first | omega | exact (sz_i32 _).1, by first | omega | exact (sz_i32 _).2⟩ (fun (c81 : (qz_I h 0 ((i) + (4)).toNat) = (0)) => ?_) (fun (c81 : ¬((qz_I h 0 ((i) + (4)).toNat) = (0))) => ?_)
      · skip
        refine ez_go (n := 1) (pc' := 1081) (L' := [(5, .inl (0)), (4, .inl (i)), (0, .inr (.inr (some (0)))), (1, .inr (.inr (some (192)))), (2, .inr (.inr (some (770)))), (3, .inr (.inr (some (805))))]) (st' := [.inl (0), .inl (a3), .inl (a2), .inl (a1), .inr (.inr (some (770)))]) rfl ?_
        exfalso; omega
      · skip
        refine ez_go (n := 2) (pc' := 1081) (L' := [(5, .inl (0)), (4, .inl (i)), (0, .inr (.inr (some (0)))), (1, .inr (.inr (some (192)))), (2, .inr (.inr (some (770)))), (3, .inr (.inr (some (805))))]) (st' := [.inl (1), .inl (a3), .inl (a2), .inl (a1), .inr (.inr (some (770)))]) rfl ?_
        refine ez_cv hBo t770 rfl rfl rfl tq_75 rfl rfl rfl (rd_mcmp1 hBo hX.1 pN pC hK hL pR pD pS pX ar1 ar2 ar3 (fun w9 => absurd w9 (by omega)) (fun _ z => absurd z n7) (fun _ _ h1 c1 c2 kn => absurd kn (fun q => by rcases q with q | ⟨-, q⟩; (· exact kyR_N ky1 q); (· exact kyR_N ky2 q))) (fun _ _ h1 c1 c2 V9 V8 kr kv w9 w8 g3 τ2 b1 c4 dk2 => ez_K1 ?_))
        have pD1 : got h1 ≠ gke h1 := by unfold got gke qz_P; rw [c2.2.1 39 (by decide), c2.2.1 40 (by decide)]; exact pD
        have nc9 := c4
        have X9 := nc9.X hX.1
        have u770 : τ2 770 = 75 := X9 770 (by decide)
        have u805 : τ2 805 = 35 := X9 805 (by decide)
        have FN := tg_k5 hb hn hBo c1 CH9 (by unfold qz_I; rw [ow_at (by decide)]; exact iA) (clr_c5 cA7 (ow_at (by decide))) (clr_c5 cA9 (ow_at (by decide))) rH c2 nc9 dk2 (fun q _ _ _ => rfl) (fun j _ _ => rfl) ⟨Nat.le_succ _, by omega⟩ b1 b1
        have b0 : qz_I g3 770 0 = 0 := (nc9.2.2.1 0 rfl).trans c2.2.2
        have M5 : g3.2.2 805 = (ow gA (lvc W U9 (lvl true a3).toNat)).2.2 805 := cg5 hX.1 c2 nc9 (fun q _ _ _ => rfl) 805 35 t805 rfl
        have ev9 := kyR_u (s77 (fun z => s0 (s6.mpr z))).1.2.2.2 kr ky1
        subst ev9
        have ev8 := kyR_u (s77 (fun z => s0 (s6.mpr z))).1.2.2.2 kv ky2
        subst ev8
        refine ez_go (n := 2) (pc' := 1213) (L' := [(6, .inl (lvc V9 V8 (lvl true a3).toNat)), (5, .inl (0)), (4, .inl (i)), (0, .inr (.inr (some (0)))), (1, .inr (.inr (some (192)))), (2, .inr (.inr (some (770)))), (3, .inr (.inr (some (805))))]) (st' := []) rfl ?_
        refine ez_less [(4, .inl (i)), (0, .inr (.inr (some (0)))), (1, .inr (.inr (some (192)))), (2, .inr (.inr (some (770)))), (3, .inr (.inr (some (805))))] rfl ⟨rfl, rfl, rfl, rfl, rfl, trivial⟩ ?_
        exact k _ _ FN.1 FN.2

end EzKl
