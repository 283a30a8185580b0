/-! The law: calls that make texts. -/
/-- tags of what they may write -/
def tgk (t : Nat) : Bool := Nat.ble t 2 || (Nat.beq t 21 || (Nat.beq t 35 || (Nat.beq t 37 || (Nat.beq t 44 || ((Nat.ble 62 t && Nat.ble t 75) || ((Nat.beq t 79 || (Nat.ble 82 t && Nat.ble t 85)) || (Nat.beq t 88 || (Nat.beq t 89 || (Nat.beq t 46 || (Nat.beq t 77 || Nat.beq t 86))))))))))
theorem p2_no {t : Nat} (h : qz_p2 t = true) : tgk t = false ∧ t ≠ 0 := by
  have h0 : qz_pr0 t = true := (Bool.and_eq_true_iff.mp h).1
  have hlt : t < 90 := Classical.byContradiction fun w => by
    have e : Nat.shiftRight 929437283966684488999610104 t = 0 := by
      show 929437283966684488999610104 >>> t = 0
      rw [Nat.shiftRight_eq_div_pow]
      exact Nat.div_eq_of_lt (Nat.lt_of_lt_of_le (show 929437283966684488999610104 < 2 ^ 90 by decide) (Nat.pow_le_pow_right (by decide) (by omega)))
    unfold qz_pr0 at h0
    rw [e] at h0
    cases h0
  have key : ∀ j, j < 90 → qz_p2 j = true → tgk j = false ∧ j ≠ 0 := by decide
  exact key t hlt h
theorem X_s3 {τ τ1 : Nat → Nat} {h g : cz_H} (hX : qz_X rR τ h) (hB1 : ez_B τ1 g) (x1 : jz_X τ1) (s : qz_s2 τ h τ1 g) (x2 : qz_X2 τ1 g) (hp : rP g) (hx : rXt g) : dz_B tz_T (qz_X rR) τ1 g := ⟨hB1.1, ⟨x1, hB1.2.1, x2, XP_s5 s.w hX.2.2.2.1, rR_s2 s hX.2.2.2.2 hp hx⟩, hB1.2.2⟩
theorem tg_fin {τ τ3 : Nat → Nat} {h g : cz_H} (hb : dz_B tz_T (qz_X rR) τ h) (B3 : ez_B τ3 g) (T : ∀ q, τ q ≠ 0 → τ3 q = τ q) (T0 : ∀ q, τ q = 0 → τ3 q ≠ 0 → τ3 q = 21) (C : ∀ q, τ q ≠ 0 → tgk (τ q) = false → g.2.2 q = h.2.2 q) (J : ∀ j, j ≠ 0 → j ≠ 2 → j ≠ 4 → j ≠ 24 → j ≠ 25 → j ≠ 30 → j ≠ 33 → qz_I g 770 j = qz_I h 770 j) (hn : qz_I g 192 1 = qz_I g 770 2) (hl : 0 ≤ qz_I g 192 1 ∧ qz_I g 192 1 ≤ qz_I h 192 1) (S : qz_I h 770 25 ≤ qz_N h (sk h) → qz_I g 770 25 ≤ qz_N g (sk g)) (R2 : (g.2.1 : Int) - h.2.1 ≤ 2 * (qz_N g (sk g) - qz_N h (sk h)) + 18) (R1 : 64 * ((g.1 : Int) - h.1) ≤ (qz_N g (sk g) - qz_N h (sk h)) + 256) (xx : rXt g) : dz_B tz_T (qz_X rR) τ3 g ∧ stp h g := by
  have hB := dz_ezB hb
  have hX := hb.2.1
  have t770 : τ 770 = 75 := hX.1 770 (by decide)
  have X3 : jz_X τ3 := fun r hr => by rw [T r (by rw [hX.1 r hr]; exact hr)]; exact hX.1 r hr
  have u770 : τ3 770 = 75 := X3 770 (by decide)
  have cc : ∀ q t, τ q = t → (!(Nat.beq t 0) && !(tgk t)) = true → g.2.2 q = h.2.2 q := fun q t ht w => by
    rw [Bool.and_eq_true, Bool.not_eq_true', Bool.not_eq_true'] at w
    exact C q (fun e => by rw [← ht, e] at w; cases w.1) (by rw [ht]; exact w.2)
  have s : qz_s2 τ h τ3 g := by
    refine ⟨fun r hr => T r (fun e => by rw [e] at hr; cases hr), fun r hr => ?_, fun r hr => ?_, fun _ j hj => ?_⟩
    · by_cases e : τ r = 0
      · have w := T0 r e (fun w => by rw [w] at hr; cases hr)
        rw [w] at hr; cases hr
      · exact T r e
    · obtain ⟨a, b⟩ := p2_no hr
      exact C r b a
    · exact J j (fun e => by rw [e] at hj; cases hj) (fun e => by rw [e] at hj; cases hj) (fun e => by rw [e] at hj; cases hj) (fun e => by rw [e] at hj; cases hj) (fun e => by rw [e] at hj; cases hj) (fun e => by rw [e] at hj; cases hj) (fun e => by rw [e] at hj; cases hj)
  obtain ⟨⟨y1, y2⟩, y3, y4⟩ := hX.2.2.1
  have e35 : qz_P g 770 35 = qz_P h 770 35 := by unfold qz_P; rw [J 35 (by decide) (by decide) (by decide) (by decide) (by decide) (by decide) (by decide)]
  have x2 : qz_X2 τ3 g := by
    refine ⟨⟨ez_tsk B3 u770, S y2⟩, by rw [e35, T _ (by rw [y3]; decide)]; exact y3, ?_⟩
    rw [e35, J 36 (by decide) (by decide) (by decide) (by decide) (by decide) (by decide) (by decide)]
    unfold qz_N; rw [cc _ 23 y3 rfl]; exact y4
  have rp : rP g := by
    obtain ⟨Ls, ⟨t, c, m, w, s6, s7, u, p⟩, ww, x9, q5⟩ := hX.2.2.2.2
    intro j
    have a1 : qz_I g 193 j = qz_I h 193 j := by unfold qz_I; rw [cc 193 45 (hX.1 193 (by decide)) rfl]
    have a2 : qz_I g 771 j = qz_I h 771 j := by unfold qz_I; rw [cc 771 76 (hX.1 771 (by decide)) rfl]
    rw [a1, a2]; exact p j
  refine ⟨X_s3 hX B3 X3 s x2 rp xx, ?_⟩
  obtain ⟨-, t24, t35, t38, t39, t40⟩ := ez_tg5 hB t770
  have td := (ez_tdb hB t770).2
  have tt := ez_tls hB t770
  have jf : ∀ j, j ≠ 0 → j ≠ 2 → j ≠ 4 → j ≠ 24 → j ≠ 25 → j ≠ 30 → j ≠ 33 → qz_P g 770 j = qz_P h 770 j := fun j a b c d e f i => by unfold qz_P; rw [J j a b c d e f i]
  have b1 : qz_N g (bw g) = qz_N h (bw h) := by rw [show bw g = bw h from jf 22 (by decide) (by decide) (by decide) (by decide) (by decide) (by decide) (by decide)]; unfold qz_N; rw [cc _ 20 td rfl]
  have b3 : qz_N g (gel g) = qz_N h (gel h) := by rw [show gel g = gel h from jf 35 (by decide) (by decide) (by decide) (by decide) (by decide) (by decide) (by decide)]; unfold qz_N; rw [cc _ 23 t35 rfl]
  have b4 : qz_N g (gfo g) = qz_N h (gfo h) := by rw [show gfo g = gfo h from jf 38 (by decide) (by decide) (by decide) (by decide) (by decide) (by decide) (by decide)]; unfold qz_N; rw [cc _ 24 t38 rfl]
  have b5 : qz_N g (got g) = qz_N h (got h) := by rw [show got g = got h from jf 39 (by decide) (by decide) (by decide) (by decide) (by decide) (by decide) (by decide)]; unfold qz_N; rw [cc _ 25 t39 rfl]
  have b6 : qz_N g (gke g) = qz_N h (gke h) := by rw [show gke g = gke h from jf 40 (by decide) (by decide) (by decide) (by decide) (by decide) (by decide) (by decide)]; unfold qz_N; rw [cc _ 25 t40 rfl]
  have b7 : qz_N g (po g) = qz_N h (po h) := by rw [show po g = po h from jf 9 (by decide) (by decide) (by decide) (by decide) (by decide) (by decide) (by decide)]; unfold qz_N; rw [cc _ 17 tt.2 rfl]
  have b8 : qz_N g (ls g) = qz_N h (ls h) := by rw [show ls g = ls h from jf 11 (by decide) (by decide) (by decide) (by decide) (by decide) (by decide) (by decide)]; unfold qz_N; rw [cc _ 18 tt.1 rfl]
  refine stp_q (by unfold qz_N; rw [cc 0 34 (hX.1 0 (by decide)) rfl]) hn hl (by unfold qz_I; rw [cc 202 48 (hX.1 202 (by decide)) rfl]) (J 12 (by decide) (by decide) (by decide) (by decide) (by decide) (by decide) (by decide)) ?_ ?_
  · unfold psi; rw [b1, b3, b4, b5, b6, b7, b8]; omega
  · unfold phc; rw [b1, b3, b4, b5, b6, b7, b8]; omega
/-- a slot's text is another -/
def upX (X : Nat → List Int) (t : Nat) (l : List Int) : Nat → List Int := fun s => if s = t then l else X s
theorem txs_up {h g : cz_H} {X : Nat → List Int} {t : Nat} {l : List Int} (x : txs h X) (e : ∀ q, 754 ≤ q → q ≤ 769 → q ≠ 754 + 2 * t → q ≠ 754 + 2 * t + 1 → g.2.2 q = h.2.2 q) (a : tx g (754 + 2 * t) l) (pl : ptl l) (ll : l.length ≤ 2000) : txs g (upX X t l) := fun s hs => by
  unfold upX
  by_cases w : s = t
  · rw [if_pos w, w]; exact ⟨a, pl, ll⟩
  · rw [if_neg w]
    obtain ⟨b, c⟩ := x s hs
    exact ⟨tx_c b (e _ (by omega) (by omega) (by omega) (by omega)) (e _ (by omega) (by omega) (by omega) (by omega)), c⟩
theorem mxs_up {h g : cz_H} {X : Nat → List Int} {t : Nat} {l : List Int} (x : mxs h X) (e : ∀ q, 774 ≤ q → q ≤ 781 → q ≠ 774 + t → g.2.2 q = h.2.2 q) (e8 : ∀ s, s ≠ t → qz_I g 782 s = qz_I h 782 s) (a : mx g t l) (pl : ptl l) (ll : l.length ≤ 2000) : mxs g (upX X t l) := fun s hs => by
  unfold upX
  by_cases w : s = t
  · rw [if_pos w, w]; exact ⟨a, pl, ll⟩
  · rw [if_neg w]
    obtain ⟨⟨b1, b2⟩, c⟩ := x s hs
    refine ⟨⟨by rw [e8 s w]; exact b1, fun j v hv => ?_⟩, c⟩
    have := b2 j v hv
    unfold qz_I at this ⊢
    rw [e _ (by omega) (by omega) (by omega)]; exact this
/-- a class's text stays, but for one -/
theorem txs_k1 {h g : cz_H} {X : Nat → List Int} (x : txs h X) (e : ∀ q, 754 ≤ q → q ≤ 769 → g.2.2 q = h.2.2 q) : txs g X := x.k (fun q hq => e q hq.1 hq.2)
/-- all that is sealed, for FORMS -/
theorem rW_nm {τ : Nat → Nat} {h : cz_H} {Ls : List vz} (hB : ez_B τ h) (hX : jz_X τ) (m : mJ τ h Ls) (w : uz_wf (vF Ls)) (s7 : qz_I h 770 7 ≠ 0 → uz_S (vF Ls) (vE Ls) ∧ sq h ∧ eJ τ h (vF Ls) ∧ pP h (vF Ls) ∧ ∀ x, (vF Ls x).2 ≠ none → az (vF Ls) 501 x) (ww : rW τ h Ls) (s : qz_I h 770 7 ≠ 0) : nmC τ h Ls := by
  obtain ⟨a1, a2, a3, a4, a5⟩ := s7 s
  exact ⟨⟨hB, hX, m⟩, ⟨hB, hX 770 (by decide), a3⟩, (ww.2.2.2.2.1 s).1, w, a1, a5⟩
/-- what is worked with in the class -/
def pkt (t : Nat) : Bool := Nat.ble t 2 || (Nat.ble 62 t && Nat.ble t 74)
def pkf (τ : Nat → Nat) (P : Nat → Bool) : Prop := ∀ q, pkt (τ q) = false → P q = false
theorem pk_no (τ : Nat → Nat) : pkf τ (fun _ => false) := fun _ _ => rfl
theorem pk_co {τ : Nat → Nat} (hX : jz_X τ) : pkf τ (co_P 196) := fun q hq => by
  refine co_Pn (fun e => ?_) (fun e => ?_) ?_
  · rw [e, hX 196 (by decide)] at hq; cases hq
  · rw [e, hX 197 (by decide)] at hq; cases hq
  · by_cases e : 730 ≤ q ∧ q ≤ 732
    · exfalso
      have : q = 730 ∨ q = 731 ∨ q = 732 := by omega
      rcases this with w | w | w <;> (subst w; rw [hX _ (by decide)] at hq; cases hq)
    · omega
theorem pk_cg {τ : Nat → Nat} (hX : jz_X τ) : pkf τ cg_P := fun q hq => by
  refine cg_tag hX (fun e => by rw [e] at hq; cases hq) (fun e => by rw [e] at hq; cases hq) ?_
  by_cases w : 65 ≤ τ q ∧ τ q ≤ 74
  · exfalso
    have : τ q = 65 ∨ τ q = 66 ∨ τ q = 67 ∨ τ q = 68 ∨ τ q = 69 ∨ τ q = 70 ∨ τ q = 71 ∨ τ q = 72 ∨ τ q = 73 ∨ τ q = 74 := by omega
    rcases this with e | e | e | e | e | e | e | e | e | e <;> (rw [e] at hq; cases hq)
  · omega
theorem tgk_pk {t : Nat} (h : tgk t = false) : pkt t = false := by
  unfold tgk at h
  unfold pkt
  rw [Bool.or_eq_false_iff] at h
  obtain ⟨h1, h⟩ := h
  rw [h1, Bool.false_or]
  simp only [Bool.or_eq_false_iff] at h
  have h6 := h.2.2.2.2.1
  cases e1 : Nat.ble 62 t with
  | false => rfl
  | true =>
    rw [e1, Bool.true_and] at h6
    rw [Bool.true_and]
    cases e2 : Nat.ble t 74 with
    | false => rfl
    | true => rw [Nat.ble_eq_true_of_le (Nat.le_succ_of_le (Nat.le_of_ble_eq_true e2))] at h6; cases h6
/-- the model's first steps -/
def mH (H h1 : cz_H) : Prop := (∀ q, q ≠ 770 → q ≠ 797 → h1.2.2 q = H.2.2 q) ∧ (∀ j, j ≠ 0 → qz_I h1 770 j = qz_I H 770 j) ∧ h1.1 = H.1 ∧ h1.2.1 = H.2.1
theorem mF.H {H h1 : cz_H} {c : Int} (m : mF H h1 c) : mH H h1 := ⟨fun q a _ => m.1.2.2 q (dz_beq_ne a), m.2.1, m.1.1, m.1.2.1⟩
theorem mF.H7 {H h1 h2 : cz_H} {c : Int} (m : mF H h1 c) (f : ez_fr (ez_one 797) h1 h2) : mH H h2 := ⟨fun q a b => (f.2.2 q (dz_beq_ne b)).trans (m.1.2.2 q (dz_beq_ne a)), fun j hj => (f.I rfl j).trans (m.2.1 j hj), f.1.trans m.1.1, f.2.1.trans m.1.2.1⟩
section TgM
variable {τ τ2 : Nat → Nat} {h H h1 g2 g3 : cz_H}
/-- the model, behind the class -/
theorem tg_mk (hb : dz_B tz_T (qz_X rR) τ h) (hn : qz_I h 192 1 = qz_I h 770 2) (CH : ∀ q, τ q ≠ 0 → pkt (τ q) = false → τ q ≠ 35 → τ q ≠ 88 → τ q ≠ 89 → H.2.2 q = h.2.2 q) (rH : H.1 ≤ h.1 + 1 ∧ H.2.1 ≤ h.2.1 + 6) (m1 : mH H h1) (n : nk τ h1 τ2 g2) (c3 : ∀ q, τ2 q ≠ 0 → q ≠ 770 → τ2 q ≠ 37 → τ2 q ≠ 79 → g3.2.2 q = g2.2.2 q) (j3 : ∀ j, j ≠ 0 → qz_I g3 770 j = qz_I g2 770 j) (r3 : g3.1 ≤ g2.1 + 1 ∧ g3.2.1 ≤ g2.2.1 + 6) (B2 : ez_B τ2 g2) (B3 : ez_B τ2 g3) (xx : rXt g3) : dz_B tz_T (qz_X rR) τ2 g3 ∧ stp h g3 := by
  have hB := dz_ezB hb
  have hX := hb.2.1.1
  have t770 : τ 770 = 75 := hX 770 (by decide)
  have t192 : τ 192 = 44 := hX 192 (by decide)
  have u770 : τ2 770 = 75 := n.X hX 770 (by decide)
  have tsk := ez_tsk hB t770
  have C1 : ∀ q, τ q ≠ 0 → pkt (τ q) = false → τ q ≠ 35 → τ q ≠ 88 → τ q ≠ 89 → τ q ≠ 75 → τ q ≠ 84 → h1.2.2 q = h.2.2 q := fun q a b c d e f f4 => (m1.1 q (fun w => by rw [w, t770] at f; exact f rfl) (fun w => by rw [w, hX 797 (by decide)] at f4; exact f4 rfl)).trans (CH q a b c d e)
  have H7 : H.2.2 770 = h.2.2 770 := CH 770 (by rw [t770]; decide) (by rw [t770]; rfl) (by rw [t770]; decide) (by rw [t770]; decide) (by rw [t770]; decide)
  have J1 : ∀ j, j ≠ 0 → qz_I h1 770 j = qz_I h 770 j := fun j hj => by rw [m1.2.1 j hj]; unfold qz_I; rw [H7]
  have J : ∀ j, j ≠ 0 → j ≠ 24 → j ≠ 25 → j ≠ 30 → qz_I g3 770 j = qz_I h 770 j := fun j a b c d => by rw [j3 j a, n.2.2.1 j b c d, J1 j a]
  have esk : sk h1 = sk h := by unfold sk qz_P; rw [J1 24 (by decide)]
  have e3k : sk g3 = sk g2 := by unfold sk qz_P; rw [j3 24 (by decide)]
  have Nsk : qz_N h1 (sk h1) = qz_N h (sk h) := by rw [esk]; unfold qz_N; rw [C1 _ (by rw [tsk]; decide) (by rw [tsk]; rfl) (by rw [tsk]; decide) (by rw [tsk]; decide) (by rw [tsk]; decide) (by rw [tsk]; decide) (by rw [tsk]; decide)]
  have tk2 := ez_tsk B2 u770
  have N3k : qz_N g3 (sk g3) = qz_N g2 (sk g2) := by rw [e3k]; unfold qz_N; rw [c3 _ (by rw [tk2]; decide) (fun w => by rw [w, u770] at tk2; cases tk2) (by rw [tk2]; decide) (by rw [tk2]; decide)]
  have c192 : g3.2.2 192 = h.2.2 192 := by
    have u : τ2 192 = 44 := n.X hX 192 (by decide)
    rw [c3 192 (by rw [u]; decide) (by decide) (by rw [u]; decide) (by rw [u]; decide), n.C hX (by rw [t192]; decide) (by rw [t192]; decide) (by rw [t192]; decide) (by rw [t192]; decide) (by rw [t192]; decide) (by rw [t192]; decide), C1 192 (by rw [t192]; decide) (by rw [t192]; rfl) (by rw [t192]; decide) (by rw [t192]; decide) (by rw [t192]; decide) (by rw [t192]; decide) (by rw [t192]; decide)]
  have i192 : qz_I g3 192 1 = qz_I h 192 1 := by unfold qz_I; rw [c192]
  have bt : 0 ≤ qz_I h 192 1 ∧ qz_I h 192 1 ≤ 4096 := ez_fB (cl := 0) hB t192 tq_44 rfl rfl (by decide)
  have a5 := n.2.2.2.2.1
  have m11 := m1.2.2.1
  have m12 := m1.2.2.2
  rw [Nsk] at a5
  refine tg_fin hb B3 (fun q hq => (n.1 q hq).1) n.2.1 (fun q hq ht => ?_) (fun j a _ _ c d e _ => J j a c d e) (by rw [i192, J 2 (by decide) (by decide) (by decide) (by decide)]; exact hn) (by rw [i192]; omega) (fun w => ?_) (by rw [N3k]; omega) (by rw [N3k]; omega) xx
  · have pf := tgk_pk ht
    have ne : ∀ k, tgk k = true → τ q ≠ k := fun k hk e => by rw [e, hk] at ht; cases ht
    have eT := (n.1 q hq).1
    rw [c3 q (by rw [eT]; exact hq) (fun e => by rw [e, t770] at ht; cases ht) (by rw [eT]; exact ne 37 rfl) (by rw [eT]; exact ne 79 rfl), n.C hX hq (ne 75 rfl) (ne 82 rfl) (ne 83 rfl) (ne 85 rfl) (ne 21 rfl)]
    exact C1 q hq pf (ne 35 rfl) (ne 88 rfl) (ne 89 rfl) (ne 75 rfl) (ne 84 rfl)
  · rw [j3 25 (by decide), N3k]
    refine n.2.2.2.2.2.2 ?_
    rw [J1 25 (by decide), Nsk]; exact w
/-- a text made on both sides -/
theorem tg_ok {X : Nat → List Int} {t : Nat} {res : List Int} {v : Int} {P0 : Nat → Bool} {gA gB : cz_H} (hb : dz_B tz_T (qz_X rR) τ h) (hn : qz_I h 192 1 = qz_I h 770 2) (x1 : txs h X) (x2 : mxs h X) (t8 : t < 8) (hP : pkf τ P0) (fA : ez_fr P0 h gA) (fB : ez_fr (tx_P (754 + 2 * t)) gA gB) (tB : tx gB (754 + 2 * t) res) (pl : ptl res) (ll : res.length ≤ 2000) (m1 : mH (ow gB v) h1) (n : nk τ h1 τ2 g2) (B2 : ez_B τ2 g2) (B3 : ez_B τ2 g3) (f : mxf t g2 g3) (mx3 : mx g3 t res) : dz_B tz_T (qz_X rR) τ2 g3 ∧ stp h g3 := by
  have hX := hb.2.1.1
  have t770 : τ 770 = 75 := hX 770 (by decide)
  have tt := (rU_of hX).2
  have CB : ∀ q, τ q ≠ 0 → pkt (τ q) = false → τ q ≠ 88 → τ q ≠ 89 → gB.2.2 q = h.2.2 q := fun q a b c d => by
    have q1 : q ≠ 754 + 2 * t := fun e => c (by rw [e]; exact (tt t t8).2.1)
    have q2 : q ≠ 754 + 2 * t + 1 := fun e => d (by rw [e]; exact (tt t t8).2.2)
    rw [fB.2.2 q (tx_Pn q1 q2), fA.2.2 q (hP q b)]
  have CO : ∀ q, τ q ≠ 0 → pkt (τ q) = false → τ q ≠ 35 → τ q ≠ 88 → τ q ≠ 89 → (ow gB v).2.2 q = h.2.2 q := fun q a b c d e => by
    rw [ow_at (fun w => c (by rw [w]; exact hX 805 (by decide)))]; exact CB q a b d e
  have rO : (ow gB v).1 = h.1 ∧ (ow gB v).2.1 = h.2.1 := ⟨fB.1.trans fA.1, fB.2.1.trans fA.2.1⟩
  have c3 : ∀ q, τ2 q ≠ 0 → q ≠ 770 → τ2 q ≠ 37 → τ2 q ≠ 79 → g3.2.2 q = g2.2.2 q := fun q _ _ a b => f.1.2.2 q (mx_Pn (fun e => a (by rw [e, (n.1 _ (by rw [(tt t t8).1]; decide)).1]; exact (tt t t8).1)) (fun e => b (by rw [e]; exact n.X hX 782 (by decide))))
  refine tg_mk hb hn CO ⟨by rw [rO.1]; omega, by rw [rO.2]; omega⟩ m1 n c3 (fun j _ => f.1.I (mx_Pn (by omega) (by decide)) j) ⟨by rw [f.1.1]; omega, by rw [f.1.2.1]; omega⟩ B2 B3 ?_
  have up : ∀ q, τ q = 88 ∨ τ q = 89 → g3.2.2 q = gB.2.2 q := fun q hq => by
    have eT := (n.1 q (by omega)).1
    rw [c3 q (by rw [eT]; omega) (fun e => by rw [e, t770] at hq; omega) (by rw [eT]; omega) (by rw [eT]; omega), n.C hX (by omega) (by omega) (by omega) (by omega) (by omega) (by omega), m1.1 q (fun e => by rw [e, t770] at hq; omega) (fun e => by rw [e, hX 797 (by decide)] at hq; revert hq; decide), ow_at (fun e => by rw [e, hX 805 (by decide)] at hq; revert hq; decide)]
  have mo : ∀ q, τ q = 37 ∨ τ q = 79 → g2.2.2 q = h.2.2 q := fun q hq => by
    have pf : pkt (τ q) = false := by rcases hq with e | e <;> (rw [e]; rfl)
    rw [n.C hX (by omega) (by omega) (by omega) (by omega) (by omega) (by omega), m1.1 q (fun e => by rw [e, t770] at hq; omega) (fun e => by rw [e, hX 797 (by decide)] at hq; revert hq; decide)]
    exact CO q (by omega) pf (by omega) (by omega) (by omega)
  refine ⟨upX X t res, txs_up x1 (fun q a b c d => ?_) (tx_c tB (up _ (Or.inl (tt t t8).2.1)) (up _ (Or.inr (tt t t8).2.2))) pl ll, mxs_up x2 (fun q a b c => ?_) (fun s hs => ?_) mx3 pl ll⟩
  · obtain ⟨s, hs⟩ : ∃ s, s = (q - 754) / 2 := ⟨_, rfl⟩
    have ts := tt s (by omega)
    have hq : τ q = 88 ∨ τ q = 89 := by
      have : q = 754 + 2 * s ∨ q = 754 + 2 * s + 1 := by omega
      rcases this with e | e
      · exact Or.inl (by rw [e]; exact ts.2.1)
      · exact Or.inr (by rw [e]; exact ts.2.2)
    rw [up q hq, fB.2.2 q (tx_Pn c d), fA.2.2 q (hP q (by rcases hq with e | e <;> (rw [e]; rfl)))]
  · have ts := (tt (q - 774) (by omega)).1
    rw [show 774 + (q - 774) = q by omega] at ts
    rw [f.1.2.2 q (mx_Pn c (by omega)), mo q (Or.inl ts)]
  · rw [f.2 s hs]; unfold qz_I; rw [mo 782 (Or.inr (hX 782 (by decide)))]
/-- no room on either side -/
theorem tg_no {P0 : Nat → Bool} {gA : cz_H} {e0 e1 : Nat} {c1 : Int} (hb : dz_B tz_T (qz_X rR) τ h) (hn : qz_I h 192 1 = qz_I h 770 2) (hP : pkf τ P0) (BA : ez_B τ gA) (fA : ez_fr P0 h gA) (m1 : mH (xc gA e0) h1) (n : nk τ h1 τ2 g2) (B2 : ez_B τ2 g2) (m2 : mF (xc g2 e1) g3 c1) (B3 : ez_B τ2 g3) : dz_B tz_T (qz_X rR) τ2 g3 ∧ stp h g3 := by
  have hX := hb.2.1.1
  have t770 : τ 770 = 75 := hX 770 (by decide)
  have u770 : τ2 770 = 75 := n.X hX 770 (by decide)
  have tt := (rU_of hX).2
  have CO : ∀ q, τ q ≠ 0 → pkt (τ q) = false → (xc gA e0).2.2 q = h.2.2 q := fun q a b => (xc_t BA a).trans (fA.2.2 q (hP q b))
  have c3 : ∀ q, τ2 q ≠ 0 → q ≠ 770 → g3.2.2 q = g2.2.2 q := fun q a b => (m2.1.2.2 q (dz_beq_ne b)).trans (xc_t B2 a)
  refine tg_mk hb hn (fun q a b _ _ _ => CO q a b) ⟨by show gA.1 + 1 ≤ _; rw [fA.1]; omega, by show gA.2.1 + 6 ≤ _; rw [fA.2.1]; omega⟩ m1 n (fun q a b _ _ => c3 q a b) (fun j hj => ?_) ⟨by rw [m2.1.1]; exact Nat.le_refl _, by rw [m2.1.2.1]; exact Nat.le_refl _⟩ B2 B3 ?_
  · rw [m2.2.1 j hj]; unfold qz_I; rw [xc_t B2 (by rw [u770]; decide)]
  · obtain ⟨Ls, -, ww, xx, q5⟩ := hb.2.1.2.2.2.2
    refine rX_t ww.1 xx (fun q hq => ?_)
    have eT := (n.1 q (by omega)).1
    rw [c3 q (by rw [eT]; omega) (fun e => by rw [e, t770] at hq; omega), n.C hX (by omega) (by omega) (by omega) (by omega) (by omega) (by omega), m1.1 q (fun e => by rw [e, t770] at hq; omega) (fun e => by rw [e, hX 797 (by decide)] at hq; revert hq; decide)]
    exact CO q (by omega) (by rcases hq with e | e | e | e <;> (rw [e]; rfl))
end TgM
/-! The law: add, part, normal, join, change. (Written by wip/p2/py/pvw1.py.) -/
/-- what the model asks for, behind the class -/
theorem tg_pre {τ : Nat → Nat} {h H : cz_H} {Ls : List vz} {X : Nat → List Int} (hX : jz_X τ) (t : rT τ h) (m : mJ τ h Ls) (w : uz_wf (vF Ls)) (s7 : qz_I h 770 7 ≠ 0 → uz_S (vF Ls) (vE Ls) ∧ sq h ∧ eJ τ h (vF Ls) ∧ pP h (vF Ls) ∧ ∀ x, (vF Ls x).2 ≠ none → az (vF Ls) 501 x) (ww : rW τ h Ls) (x2 : mxs h X) (BH : ez_B τ H) (CH : ∀ q, τ q ≠ 0 → pkt (τ q) = false → τ q ≠ 35 → τ q ≠ 88 → τ q ≠ 89 → H.2.2 q = h.2.2 q) : (mI τ H Ls 0 ∧ (qz_I H 770 7 ≠ 0 → nmC τ H Ls)) ∧ slt H ∧ mxs H X ∧ (∀ j, qz_I H 770 j = qz_I h 770 j) ∧ (∀ j, qz_I H 0 j = qz_I h 0 j) ∧ qz_N H 0 = qz_N h 0 := by
  have t770 : τ 770 = 75 := hX 770 (by decide)
  have t0 : τ 0 = 34 := hX 0 (by decide)
  have c7 : H.2.2 770 = h.2.2 770 := CH 770 (by rw [t770]; decide) (by rw [t770]; rfl) (by rw [t770]; decide) (by rw [t770]; decide) (by rw [t770]; decide)
  have c0 : H.2.2 0 = h.2.2 0 := CH 0 (by rw [t0]; decide) (by rw [t0]; rfl) (by rw [t0]; decide) (by rw [t0]; decide) (by rw [t0]; decide)
  have e7 : ∀ j, qz_I H 770 j = qz_I h 770 j := fun j => by unfold qz_I; rw [c7]
  have s : qz_s2 τ h τ H := ⟨fun _ _ => rfl, fun _ _ => rfl, fun r hr => by
    obtain ⟨a, b⟩ := p2_no hr
    have ne : ∀ k, tgk k = true → τ r ≠ k := fun k hk e => by rw [e, hk] at a; cases a
    exact CH r b (tgk_pk a) (ne 35 rfl) (ne 88 rfl) (ne 89 rfl), fun _ j _ => e7 j⟩
  have k := rK_of s.w t
  have m2 := k.Jm m
  have wW := k.W ww
  have tt := (rU_of hX).2
  have uq : ∀ q tg, τ q = tg → (tg = 37 ∨ tg = 79) → H.2.2 q = h.2.2 q := fun q tg hq ht => by
    rcases ht with e | e <;> (subst e; exact CH q (by rw [hq]; decide) (by rw [hq]; rfl) (by rw [hq]; decide) (by rw [hq]; decide) (by rw [hq]; decide))
  refine ⟨⟨⟨BH, hX, m2⟩, fun z => rW_nm BH hX m2 w (fun z9 => ?_) wW z⟩, wW.2.1, x2.k (fun q hq => ?_), e7, fun j => by unfold qz_I; rw [c0], by unfold qz_N; rw [c0]⟩
  · obtain ⟨a1, a2, a3, a4, a5⟩ := s7 (by rw [← e7]; exact z9)
    exact ⟨a1, k.Js a2, k.Je a3, k.Jp a4, a5⟩
  · by_cases e : q = 782
    · rw [e]; exact uq 782 79 (hX 782 (by decide)) (Or.inr rfl)
    · have ts := (tt (q - 774) (by omega)).1
      rw [show 774 + (q - 774) = q by omega] at ts
      exact uq q 37 ts (Or.inl rfl)
section TgH
variable {τ : Nat → Nat} {h g3 gA gB : cz_H} {P0 : Nat → Bool}
theorem ow_CH {t : Nat} {v : Int} (hX : jz_X τ) (t8 : t < 8) (hP : pkf τ P0) (fA : ez_fr P0 h gA) (fB : ez_fr (tx_P (754 + 2 * t)) gA gB) : ∀ q, τ q ≠ 0 → pkt (τ q) = false → τ q ≠ 35 → τ q ≠ 88 → τ q ≠ 89 → (ow gB v).2.2 q = h.2.2 q := fun q _ b c d e => by
  have tt := (rU_of hX).2 t t8
  rw [ow_at (fun w => c (by rw [w]; exact hX 805 (by decide))), fB.2.2 q (tx_Pn (fun w => d (by rw [w]; exact tt.2.1)) (fun w => e (by rw [w]; exact tt.2.2))), fA.2.2 q (hP q b)]
/-- no room, told at once by the model -/
theorem tg_nl {e0 : Nat} {c1 : Int} (hb : dz_B tz_T (qz_X rR) τ h) (hn : qz_I h 192 1 = qz_I h 770 2) (hP : pkf τ P0) (BA : ez_B τ gA) (fA : ez_fr P0 h gA) (m1 : mF (xc gA e0) g3 c1) (B3 : ez_B τ g3) : dz_B tz_T (qz_X rR) τ g3 ∧ stp h g3 := by
  have hX := hb.2.1.1
  have t770 : τ 770 = 75 := hX 770 (by decide)
  have CO : ∀ q, τ q ≠ 0 → pkt (τ q) = false → (xc gA e0).2.2 q = h.2.2 q := fun q a b => (xc_t BA a).trans (fA.2.2 q (hP q b))
  refine tg_mk hb hn (fun q a b _ _ _ => CO q a b) ⟨by show gA.1 + 1 ≤ _; rw [fA.1]; omega, by show gA.2.1 + 6 ≤ _; rw [fA.2.1]; omega⟩ m1.H (nk.refl τ g3) (fun _ _ _ _ _ => rfl) (fun _ _ => rfl) ⟨by omega, by omega⟩ B3 B3 ?_
  obtain ⟨Ls, -, ww, xx, q5⟩ := hb.2.1.2.2.2.2
  refine rX_t ww.1 xx (fun q hq => ?_)
  rw [m1.1.2.2 q (dz_beq_ne (fun e => by rw [e, t770] at hq; omega))]
  exact CO q (by omega) (by rcases hq with e | e | e | e <;> (rw [e]; rfl))
end TgH
/-- what the class answers -/
def ckP (τ : Nat → Nat) (h : cz_H) (A S Xr : Prop) (P0 : Nat → Bool) (t : Nat) (R : List Int → Prop) (F : cz_F) : Prop := (A ∧ F = (.inr h.1, xc h 1)) ∨ (S ∧ F = (.inr h.1, xc h 2)) ∨ (Xr ∧ ∃ g, F = (.inr g.1, xc g 0) ∧ ez_B τ g ∧ ez_fr P0 h g) ∨ (∃ res g2 g, F = (.inl (some (ez_v (.inl (res.length : Int)))), g) ∧ R res ∧ ptl res ∧ ez_B τ g2 ∧ ez_fr P0 h g2 ∧ ez_B τ g ∧ ez_fr (tx_P (754 + 2 * t)) g2 g ∧ tx g (754 + 2 * t) res)
section EzTg
variable {d : Nat} {h : cz_H} {τ : Nat → Nat} {P Q : cz_F → Prop}
theorem hp_add {a1 a2 : Int} (hB : ez_B τ h) (t192 : τ 192 = 44) (hc : ez_W d cm_3 0 [(0, .inr (.inr (some (192)))), (1, .inl (a1)), (2, .inl (a2))] [] h P) (k : ∀ F, P F → (∃ v τ1 g, F = (.inl (some (ez_v (.inl v))), g) ∧ ez_B τ1 g ∧ τ1 805 = 35 ∧ (ez_B τ1 (ow g v) → Q (.inl (some (ez_v (.inl 0))), ow g v))) ∨ (∃ r g, F = (.inr r, g) ∧ cz_exc g r = some 1 ∧ Q (.inl (some (ez_v (.inl 1))), g)) ∨ (∃ r g, F = (.inr r, g) ∧ cz_exc g r = some 0 ∧ Q (.inl (some (ez_v (.inl 2))), g))) : ez_W (d + 1) cm_194 0 [(0, .inr (.inr (some (192)))), (1, .inl (a1)), (2, .inl (a2)), (3, .inr (.inr (some (805))))] [] h Q := by
  refine ez_go (n := 5) (pc' := 5) (L' := [(0, .inr (.inr (some (192)))), (1, .inl (a1)), (2, .inl (a2)), (3, .inr (.inr (some (805))))]) (st' := [.inl (a2), .inl (a1), .inr (.inr (some (192))), .inl (0), .inr (.inr (some (805)))]) rfl ?_
  refine ez_cv hB t192 rfl rfl rfl tq_44 rfl rfl rfl (ez_mono hc (fun F hF => ?_))
  rcases k F hF with ⟨v, τ1, g, rfl, hB1, u805, kq⟩ | ⟨r, g, rfl, he, kq⟩ | ⟨r, g, rfl, he, kq⟩
  · refine ez_K1 ?_
    refine ez_go (n := 1) (pc' := 9) (L' := [(0, .inr (.inr (some (192)))), (1, .inl (a1)), (2, .inl (a2)), (3, .inr (.inr (some (805))))]) (st' := [.inr (.inl ((Int32.ofInt (v)).toInt64)), .inl (0), .inr (.inr (some (805)))]) rfl ?_
    have n3 : 1 ≤ qz_N g 805 ∧ qz_N g 805 ≤ 1 := ez_len hB1 u805 tq_35 rfl
    refine ez_as hB1 u805 rfl tq_35 rfl rfl (by omega) (by omega) ez_vdJ (fun hB1 w2 => ?_)
    refine ez_go (n := 2) (pc' := 22) (L' := [(0, .inr (.inr (some (192)))), (1, .inl (a1)), (2, .inl (a2)), (3, .inr (.inr (some (805))))]) (st' := [.inl (0)]) rfl ?_
    exact ez_retI rfl rfl (kq hB1)
  · refine ez_Kc he rfl ?_
    refine ez_go (n := 2) (pc' := 16) (L' := [(4, .inr (.inr (some (r)))), (0, .inr (.inr (some (192)))), (1, .inl (a1)), (2, .inl (a2)), (3, .inr (.inr (some (805))))]) (st' := [.inl (1)]) rfl ?_
    exact ez_retI rfl rfl kq
  · refine ez_Kc he rfl ?_
    refine ez_go (n := 2) (pc' := 20) (L' := [(4, .inr (.inr (some (r)))), (0, .inr (.inr (some (192)))), (1, .inl (a1)), (2, .inl (a2)), (3, .inr (.inr (some (805))))]) (st' := [.inl (2)]) rfl ?_
    exact ez_retI rfl rfl kq

theorem rd_addP {X : Nat → List Int} {a1 a2 : Int} (hB : ez_B τ h) (hX : jz_X τ) (sl : slt h) (txh : txs h X) (r1 : ez_rg a1) (r2 : ez_rg a2) (hr1 : h.1 + 1 ≤ 600192) (hr2 : h.2.1 + 6 ≤ 7302232) : ez_W (d + 8) cm_3 0 [(0, .inr (.inr (some (192)))), (1, .inl (a1)), (2, .inl (a2))] [] h (ckP τ h (a1 < 0 ∨ 7 < a1 ∨ a2 < 0 ∨ 1114111 < a2) False (((0 ≤ a1 ∧ a1 ≤ 7) ∧ 0 ≤ a2 ∧ a2 ≤ 1114111) ∧ (X a1.toNat).length = 2000) (fun _ => false) a1.toNat (fun res => ((0 ≤ a1 ∧ a1 ≤ 7) ∧ 0 ≤ a2 ∧ a2 ≤ 1114111) ∧ (X a1.toNat).length < 2000 ∧ res = X a1.toNat ++ [a2])) :=
  rd_cadd hB hX sl txh r1 r2 hr1 hr2 (fun w => Or.inl ⟨w, rfl⟩) (fun w l => Or.inr (Or.inr (Or.inl ⟨⟨w, l⟩, h, rfl, hB, ez_fr.refl _ h⟩))) (fun w l g b1 b2 b3 => Or.inr (Or.inr (Or.inr ⟨X a1.toNat ++ [a2], h, g, by rw [show ((X a1.toNat).length : Int) + 1 = ((X a1.toNat ++ [a2]).length : Int) by rw [List.length_append, List.length_singleton]; omega], ⟨w, l, rfl⟩, ptl_app (txh a1.toNat (by omega)).2.1 (fun v hv => by rw [List.mem_singleton.mp hv]; exact w.2), hB, ez_fr.refl _ h, b1, b2, b3⟩)))
theorem hp_part {a1 a2 a3 a4 : Int} (hB : ez_B τ h) (t192 : τ 192 = 44) (hc : ez_W d cm_25 0 [(0, .inr (.inr (some (192)))), (1, .inl (a1)), (2, .inl (a2)), (3, .inl (a3)), (4, .inl (a4))] [] h P) (k : ∀ F, P F → (∃ v τ1 g, F = (.inl (some (ez_v (.inl v))), g) ∧ ez_B τ1 g ∧ τ1 805 = 35 ∧ (ez_B τ1 (ow g v) → Q (.inl (some (ez_v (.inl 0))), ow g v))) ∨ (∃ r g, F = (.inr r, g) ∧ cz_exc g r = some 1 ∧ Q (.inl (some (ez_v (.inl 1))), g))) : ez_W (d + 1) cm_209 0 [(0, .inr (.inr (some (192)))), (1, .inl (a1)), (2, .inl (a2)), (3, .inl (a3)), (4, .inl (a4)), (5, .inr (.inr (some (805))))] [] h Q := by
  refine ez_go (n := 7) (pc' := 9) (L' := [(0, .inr (.inr (some (192)))), (1, .inl (a1)), (2, .inl (a2)), (3, .inl (a3)), (4, .inl (a4)), (5, .inr (.inr (some (805))))]) (st' := [.inl (a4), .inl (a3), .inl (a2), .inl (a1), .inr (.inr (some (192))), .inl (0), .inr (.inr (some (805)))]) rfl ?_
  refine ez_cv hB t192 rfl rfl rfl tq_44 rfl rfl rfl (ez_mono hc (fun F hF => ?_))
  rcases k F hF with ⟨v, τ1, g, rfl, hB1, u805, kq⟩ | ⟨r, g, rfl, he, kq⟩
  · refine ez_K1 ?_
    refine ez_go (n := 1) (pc' := 13) (L' := [(0, .inr (.inr (some (192)))), (1, .inl (a1)), (2, .inl (a2)), (3, .inl (a3)), (4, .inl (a4)), (5, .inr (.inr (some (805))))]) (st' := [.inr (.inl ((Int32.ofInt (v)).toInt64)), .inl (0), .inr (.inr (some (805)))]) rfl ?_
    have n3 : 1 ≤ qz_N g 805 ∧ qz_N g 805 ≤ 1 := ez_len hB1 u805 tq_35 rfl
    refine ez_as hB1 u805 rfl tq_35 rfl rfl (by omega) (by omega) ez_vdJ (fun hB1 w2 => ?_)
    refine ez_go (n := 2) (pc' := 22) (L' := [(0, .inr (.inr (some (192)))), (1, .inl (a1)), (2, .inl (a2)), (3, .inl (a3)), (4, .inl (a4)), (5, .inr (.inr (some (805))))]) (st' := [.inl (0)]) rfl ?_
    exact ez_retI rfl rfl (kq hB1)
  · refine ez_Kc he rfl ?_
    refine ez_go (n := 2) (pc' := 20) (L' := [(6, .inr (.inr (some (r)))), (0, .inr (.inr (some (192)))), (1, .inl (a1)), (2, .inl (a2)), (3, .inl (a3)), (4, .inl (a4)), (5, .inr (.inr (some (805))))]) (st' := [.inl (1)]) rfl ?_
    exact ez_retI rfl rfl kq

theorem rd_partP {X : Nat → List Int} {a1 a2 a3 a4 : Int} (hB : ez_B τ h) (hX : jz_X τ) (sl : slt h) (txh : txs h X) (r1 : ez_rg a1) (r2 : ez_rg a2) (r3 : ez_rg a3) (r4 : ez_rg a4) (hr1 : h.1 + 1 ≤ 600192) (hr2 : h.2.1 + 6 ≤ 7302232) : ez_W (d + 8) cm_25 0 [(0, .inr (.inr (some (192)))), (1, .inl (a1)), (2, .inl (a2)), (3, .inl (a3)), (4, .inl (a4))] [] h (ckP τ h (a1 < 0 ∨ 7 < a1 ∨ a2 < 0 ∨ 7 < a2 ∨ a3 < 0 ∨ a4 < a3 ∨ ((X a2.toNat).length : Int) < a4) False False (fun _ => false) a1.toNat (fun res => ((0 ≤ a1 ∧ a1 ≤ 7) ∧ (0 ≤ a2 ∧ a2 ≤ 7) ∧ 0 ≤ a3 ∧ a3 ≤ a4 ∧ a4 ≤ ((X a2.toNat).length : Int)) ∧ res = pt (X a2.toNat) a3 a4)) :=
  rd_cpart hB hX sl txh r1 r2 r3 r4 hr1 hr2 (fun w => Or.inl ⟨w, rfl⟩) (fun w g b1 b2 b3 => Or.inr (Or.inr (Or.inr ⟨_, h, g, rfl, ⟨w, rfl⟩, pt_ptl (txh a2.toNat (by omega)).2.1, hB, ez_fr.refl _ h, b1, b2, b3⟩)))
theorem hp_normal {a1 a2 a3 : Int} (hB : ez_B τ h) (t192 : τ 192 = 44) (hc : ez_W d cm_24 0 [(0, .inr (.inr (some (192)))), (1, .inl (a1)), (2, .inl (a2)), (3, .inl (a3))] [] h P) (k : ∀ F, P F → (∃ v τ1 g, F = (.inl (some (ez_v (.inl v))), g) ∧ ez_B τ1 g ∧ τ1 805 = 35 ∧ (ez_B τ1 (ow g v) → Q (.inl (some (ez_v (.inl 0))), ow g v))) ∨ (∃ r g, F = (.inr r, g) ∧ cz_exc g r = some 1 ∧ Q (.inl (some (ez_v (.inl 1))), g)) ∨ (∃ r g, F = (.inr r, g) ∧ cz_exc g r = some 2 ∧ Q (.inl (some (ez_v (.inl 2))), g)) ∨ (∃ r g, F = (.inr r, g) ∧ cz_exc g r = some 0 ∧ Q (.inl (some (ez_v (.inl 3))), g))) : ez_W (d + 1) cm_208 0 [(0, .inr (.inr (some (192)))), (1, .inl (a1)), (2, .inl (a2)), (3, .inl (a3)), (4, .inr (.inr (some (805))))] [] h Q := by
  refine ez_go (n := 6) (pc' := 7) (L' := [(0, .inr (.inr (some (192)))), (1, .inl (a1)), (2, .inl (a2)), (3, .inl (a3)), (4, .inr (.inr (some (805))))]) (st' := [.inl (a3), .inl (a2), .inl (a1), .inr (.inr (some (192))), .inl (0), .inr (.inr (some (805)))]) rfl ?_
  refine ez_cv hB t192 rfl rfl rfl tq_44 rfl rfl rfl (ez_mono hc (fun F hF => ?_))
  rcases k F hF with ⟨v, τ1, g, rfl, hB1, u805, kq⟩ | ⟨r, g, rfl, he, kq⟩ | ⟨r, g, rfl, he, kq⟩ | ⟨r, g, rfl, he, kq⟩
  · refine ez_K1 ?_
    refine ez_go (n := 1) (pc' := 11) (L' := [(0, .inr (.inr (some (192)))), (1, .inl (a1)), (2, .inl (a2)), (3, .inl (a3)), (4, .inr (.inr (some (805))))]) (st' := [.inr (.inl ((Int32.ofInt (v)).toInt64)), .inl (0), .inr (.inr (some (805)))]) rfl ?_
    have n3 : 1 ≤ qz_N g 805 ∧ qz_N g 805 ≤ 1 := ez_len hB1 u805 tq_35 rfl
    refine ez_as hB1 u805 rfl tq_35 rfl rfl (by omega) (by omega) ez_vdJ (fun hB1 w2 => ?_)
    refine ez_go (n := 2) (pc' := 28) (L' := [(0, .inr (.inr (some (192)))), (1, .inl (a1)), (2, .inl (a2)), (3, .inl (a3)), (4, .inr (.inr (some (805))))]) (st' := [.inl (0)]) rfl ?_
    exact ez_retI rfl rfl (kq hB1)
  · refine ez_Kc he rfl ?_
    refine ez_go (n := 2) (pc' := 18) (L' := [(5, .inr (.inr (some (r)))), (0, .inr (.inr (some (192)))), (1, .inl (a1)), (2, .inl (a2)), (3, .inl (a3)), (4, .inr (.inr (some (805))))]) (st' := [.inl (1)]) rfl ?_
    exact ez_retI rfl rfl kq
  · refine ez_Kc he rfl ?_
    refine ez_go (n := 2) (pc' := 22) (L' := [(5, .inr (.inr (some (r)))), (0, .inr (.inr (some (192)))), (1, .inl (a1)), (2, .inl (a2)), (3, .inl (a3)), (4, .inr (.inr (some (805))))]) (st' := [.inl (2)]) rfl ?_
    exact ez_retI rfl rfl kq
  · refine ez_Kc he rfl ?_
    refine ez_go (n := 2) (pc' := 26) (L' := [(5, .inr (.inr (some (r)))), (0, .inr (.inr (some (192)))), (1, .inl (a1)), (2, .inl (a2)), (3, .inl (a3)), (4, .inr (.inr (some (805))))]) (st' := [.inl (3)]) rfl ?_
    exact ez_retI rfl rfl kq

theorem rd_normalP {Ls : List vz} {X : Nat → List Int} {a1 a2 a3 : Int} {T : Int → Nat} (hC : pz_C τ h T (vF Ls) (vE Ls)) (hw : uz_wf (vF Ls)) (hsl : qz_I h 202 6 ≠ 0 → fD h T (vF Ls) ∧ cP h (vF Ls) (vE Ls)) (sl : slt h) (txh : txs h X) (r1 : ez_rg a1) (r2 : ez_rg a2) (r3 : ez_rg a3) (hr1 : h.1 + 1 ≤ 600192) (hr2 : h.2.1 + 6 ≤ 7302232) : ez_W (d + 8) cm_24 0 [(0, .inr (.inr (some (192)))), (1, .inl (a1)), (2, .inl (a2)), (3, .inl (a3))] [] h (ckP τ h (a1 < 0 ∨ 7 < a1 ∨ a2 < 0 ∨ 7 < a2 ∨ a3 < 0 ∨ 3 < a3) (((0 ≤ a1 ∧ a1 ≤ 7) ∧ (0 ≤ a2 ∧ a2 ≤ 7) ∧ 0 ≤ a3 ∧ a3 ≤ 3) ∧ qz_I h 202 6 = 0) (((0 ≤ a1 ∧ a1 ≤ 7) ∧ (0 ≤ a2 ∧ a2 ≤ 7) ∧ 0 ≤ a3 ∧ a3 ≤ 3) ∧ qz_I h 202 6 ≠ 0 ∧ ∃ m, uz_FL (vF Ls) (decide (a3 = 1 ∨ a3 = 3)) (X a2.toNat) m ∧ 2000 < m.length) (co_P 196) a1.toNat (fun res => ((0 ≤ a1 ∧ a1 ≤ 7) ∧ (0 ≤ a2 ∧ a2 ≤ 7) ∧ 0 ≤ a3 ∧ a3 ≤ 3) ∧ qz_I h 202 6 ≠ 0 ∧ ∃ m, uz_FL (vF Ls) (decide (a3 = 1 ∨ a3 = 3)) (X a2.toNat) m ∧ m.length ≤ 2000 ∧ nfR (vF Ls) (vE Ls) a3 m res)) :=
  rd_cnormal hC hw hsl sl txh r1 r2 r3 hr1 hr2 (fun w => Or.inl ⟨w, rfl⟩) (fun w z => Or.inr (Or.inl ⟨⟨w, z⟩, rfl⟩)) (fun w z m u l g b1 b2 => Or.inr (Or.inr (Or.inl ⟨⟨w, z, m, u, l⟩, g, rfl, b1, b2⟩))) (fun w z m res u l n pr g2 c1 c2 g b1 b2 b3 => Or.inr (Or.inr (Or.inr ⟨res, g2, g, rfl, ⟨w, z, m, u, l, n⟩, pr, c1, c2, b1, b2, b3⟩)))
theorem hp_join {a1 a2 a3 a4 : Int} (hB : ez_B τ h) (t192 : τ 192 = 44) (hc : ez_W d cm_17 0 [(0, .inr (.inr (some (192)))), (1, .inl (a1)), (2, .inl (a2)), (3, .inl (a3)), (4, .inl (a4))] [] h P) (k : ∀ F, P F → (∃ v τ1 g, F = (.inl (some (ez_v (.inl v))), g) ∧ ez_B τ1 g ∧ τ1 805 = 35 ∧ (ez_B τ1 (ow g v) → Q (.inl (some (ez_v (.inl 0))), ow g v))) ∨ (∃ r g, F = (.inr r, g) ∧ cz_exc g r = some 1 ∧ Q (.inl (some (ez_v (.inl 1))), g)) ∨ (∃ r g, F = (.inr r, g) ∧ cz_exc g r = some 2 ∧ Q (.inl (some (ez_v (.inl 2))), g)) ∨ (∃ r g, F = (.inr r, g) ∧ cz_exc g r = some 0 ∧ Q (.inl (some (ez_v (.inl 3))), g))) : ez_W (d + 1) cm_203 0 [(0, .inr (.inr (some (192)))), (1, .inl (a1)), (2, .inl (a2)), (3, .inl (a3)), (4, .inl (a4)), (5, .inr (.inr (some (805))))] [] h Q := by
  refine ez_go (n := 7) (pc' := 9) (L' := [(0, .inr (.inr (some (192)))), (1, .inl (a1)), (2, .inl (a2)), (3, .inl (a3)), (4, .inl (a4)), (5, .inr (.inr (some (805))))]) (st' := [.inl (a4), .inl (a3), .inl (a2), .inl (a1), .inr (.inr (some (192))), .inl (0), .inr (.inr (some (805)))]) rfl ?_
  refine ez_cv hB t192 rfl rfl rfl tq_44 rfl rfl rfl (ez_mono hc (fun F hF => ?_))
  rcases k F hF with ⟨v, τ1, g, rfl, hB1, u805, kq⟩ | ⟨r, g, rfl, he, kq⟩ | ⟨r, g, rfl, he, kq⟩ | ⟨r, g, rfl, he, kq⟩
  · refine ez_K1 ?_
    refine ez_go (n := 1) (pc' := 13) (L' := [(0, .inr (.inr (some (192)))), (1, .inl (a1)), (2, .inl (a2)), (3, .inl (a3)), (4, .inl (a4)), (5, .inr (.inr (some (805))))]) (st' := [.inr (.inl ((Int32.ofInt (v)).toInt64)), .inl (0), .inr (.inr (some (805)))]) rfl ?_
    have n3 : 1 ≤ qz_N g 805 ∧ qz_N g 805 ≤ 1 := ez_len hB1 u805 tq_35 rfl
    refine ez_as hB1 u805 rfl tq_35 rfl rfl (by omega) (by omega) ez_vdJ (fun hB1 w2 => ?_)
    refine ez_go (n := 2) (pc' := 30) (L' := [(0, .inr (.inr (some (192)))), (1, .inl (a1)), (2, .inl (a2)), (3, .inl (a3)), (4, .inl (a4)), (5, .inr (.inr (some (805))))]) (st' := [.inl (0)]) rfl ?_
    exact ez_retI rfl rfl (kq hB1)
  · refine ez_Kc he rfl ?_
    refine ez_go (n := 2) (pc' := 20) (L' := [(6, .inr (.inr (some (r)))), (0, .inr (.inr (some (192)))), (1, .inl (a1)), (2, .inl (a2)), (3, .inl (a3)), (4, .inl (a4)), (5, .inr (.inr (some (805))))]) (st' := [.inl (1)]) rfl ?_
    exact ez_retI rfl rfl kq
  · refine ez_Kc he rfl ?_
    refine ez_go (n := 2) (pc' := 24) (L' := [(6, .inr (.inr (some (r)))), (0, .inr (.inr (some (192)))), (1, .inl (a1)), (2, .inl (a2)), (3, .inl (a3)), (4, .inl (a4)), (5, .inr (.inr (some (805))))]) (st' := [.inl (2)]) rfl ?_
    exact ez_retI rfl rfl kq
  · refine ez_Kc he rfl ?_
    refine ez_go (n := 2) (pc' := 28) (L' := [(6, .inr (.inr (some (r)))), (0, .inr (.inr (some (192)))), (1, .inl (a1)), (2, .inl (a2)), (3, .inl (a3)), (4, .inl (a4)), (5, .inr (.inr (some (805))))]) (st' := [.inl (3)]) rfl ?_
    exact ez_retI rfl rfl kq

theorem rd_joinP {Ls : List vz} {X : Nat → List Int} {a1 a2 a3 a4 : Int} {T : Int → Nat} (hC : pz_C τ h T (vF Ls) (vE Ls)) (hw : uz_wf (vF Ls)) (hsl : qz_I h 202 6 ≠ 0 → fD h T (vF Ls) ∧ cP h (vF Ls) (vE Ls)) (sl : slt h) (txh : txs h X) (r1 : ez_rg a1) (r2 : ez_rg a2) (r3 : ez_rg a3) (r4 : ez_rg a4) (hr1 : h.1 + 1 ≤ 600192) (hr2 : h.2.1 + 6 ≤ 7302232) : ez_W (d + 8) cm_17 0 [(0, .inr (.inr (some (192)))), (1, .inl (a1)), (2, .inl (a2)), (3, .inl (a3)), (4, .inl (a4))] [] h (ckP τ h (a1 < 0 ∨ 7 < a1 ∨ a2 < 0 ∨ 7 < a2 ∨ a3 < 0 ∨ 7 < a3 ∨ a4 < 0 ∨ 3 < a4) (((0 ≤ a1 ∧ a1 ≤ 7) ∧ (0 ≤ a2 ∧ a2 ≤ 7) ∧ (0 ≤ a3 ∧ a3 ≤ 7) ∧ 0 ≤ a4 ∧ a4 ≤ 3) ∧ qz_I h 202 6 = 0) (((0 ≤ a1 ∧ a1 ≤ 7) ∧ (0 ≤ a2 ∧ a2 ≤ 7) ∧ (0 ≤ a3 ∧ a3 ≤ 7) ∧ 0 ≤ a4 ∧ a4 ≤ 3) ∧ qz_I h 202 6 ≠ 0 ∧ ∃ m, uz_FL (vF Ls) (decide (a4 = 1 ∨ a4 = 3)) (X a2.toNat ++ X a3.toNat) m ∧ 2000 < m.length) (co_P 196) a1.toNat (fun res => ((0 ≤ a1 ∧ a1 ≤ 7) ∧ (0 ≤ a2 ∧ a2 ≤ 7) ∧ (0 ≤ a3 ∧ a3 ≤ 7) ∧ 0 ≤ a4 ∧ a4 ≤ 3) ∧ qz_I h 202 6 ≠ 0 ∧ ∃ m, uz_FL (vF Ls) (decide (a4 = 1 ∨ a4 = 3)) (X a2.toNat ++ X a3.toNat) m ∧ m.length ≤ 2000 ∧ nfR (vF Ls) (vE Ls) a4 m res)) :=
  rd_cjoin hC hw hsl sl txh r1 r2 r3 r4 hr1 hr2 (fun w => Or.inl ⟨w, rfl⟩) (fun w z => Or.inr (Or.inl ⟨⟨w, z⟩, rfl⟩)) (fun w z m u l g b1 b2 => Or.inr (Or.inr (Or.inl ⟨⟨w, z, m, u, l⟩, g, rfl, b1, b2⟩))) (fun w z m res u l n pr g2 c1 c2 g b1 b2 b3 => Or.inr (Or.inr (Or.inr ⟨res, g2, g, rfl, ⟨w, z, m, u, l, n⟩, pr, c1, c2, b1, b2, b3⟩)))
theorem hp_change {a1 a2 a3 a4 : Int} (hB : ez_B τ h) (t192 : τ 192 = 44) (hc : ez_W d cm_5 0 [(0, .inr (.inr (some (192)))), (1, .inl (a1)), (2, .inl (a2)), (3, .inl (a3)), (4, .inl (a4))] [] h P) (k : ∀ F, P F → (∃ v τ1 g, F = (.inl (some (ez_v (.inl v))), g) ∧ ez_B τ1 g ∧ τ1 805 = 35 ∧ (ez_B τ1 (ow g v) → Q (.inl (some (ez_v (.inl 0))), ow g v))) ∨ (∃ r g, F = (.inr r, g) ∧ cz_exc g r = some 1 ∧ Q (.inl (some (ez_v (.inl 1))), g)) ∨ (∃ r g, F = (.inr r, g) ∧ cz_exc g r = some 2 ∧ Q (.inl (some (ez_v (.inl 2))), g)) ∨ (∃ r g, F = (.inr r, g) ∧ cz_exc g r = some 0 ∧ Q (.inl (some (ez_v (.inl 3))), g))) : ez_W (d + 1) cm_196 0 [(0, .inr (.inr (some (192)))), (1, .inl (a1)), (2, .inl (a2)), (3, .inl (a3)), (4, .inl (a4)), (5, .inr (.inr (some (805))))] [] h Q := by
  refine ez_go (n := 7) (pc' := 9) (L' := [(0, .inr (.inr (some (192)))), (1, .inl (a1)), (2, .inl (a2)), (3, .inl (a3)), (4, .inl (a4)), (5, .inr (.inr (some (805))))]) (st' := [.inl (a4), .inl (a3), .inl (a2), .inl (a1), .inr (.inr (some (192))), .inl (0), .inr (.inr (some (805)))]) rfl ?_
  refine ez_cv hB t192 rfl rfl rfl tq_44 rfl rfl rfl (ez_mono hc (fun F hF => ?_))
  rcases k F hF with ⟨v, τ1, g, rfl, hB1, u805, kq⟩ | ⟨r, g, rfl, he, kq⟩ | ⟨r, g, rfl, he, kq⟩ | ⟨r, g, rfl, he, kq⟩
  · refine ez_K1 ?_
    refine ez_go (n := 1) (pc' := 13) (L' := [(0, .inr (.inr (some (192)))), (1, .inl (a1)), (2, .inl (a2)), (3, .inl (a3)), (4, .inl (a4)), (5, .inr (.inr (some (805))))]) (st' := [.inr (.inl ((Int32.ofInt (v)).toInt64)), .inl (0), .inr (.inr (some (805)))]) rfl ?_
    have n3 : 1 ≤ qz_N g 805 ∧ qz_N g 805 ≤ 1 := ez_len hB1 u805 tq_35 rfl
    refine ez_as hB1 u805 rfl tq_35 rfl rfl (by omega) (by omega) ez_vdJ (fun hB1 w2 => ?_)
    refine ez_go (n := 2) (pc' := 30) (L' := [(0, .inr (.inr (some (192)))), (1, .inl (a1)), (2, .inl (a2)), (3, .inl (a3)), (4, .inl (a4)), (5, .inr (.inr (some (805))))]) (st' := [.inl (0)]) rfl ?_
    exact ez_retI rfl rfl (kq hB1)
  · refine ez_Kc he rfl ?_
    refine ez_go (n := 2) (pc' := 20) (L' := [(6, .inr (.inr (some (r)))), (0, .inr (.inr (some (192)))), (1, .inl (a1)), (2, .inl (a2)), (3, .inl (a3)), (4, .inl (a4)), (5, .inr (.inr (some (805))))]) (st' := [.inl (1)]) rfl ?_
    exact ez_retI rfl rfl kq
  · refine ez_Kc he rfl ?_
    refine ez_go (n := 2) (pc' := 24) (L' := [(6, .inr (.inr (some (r)))), (0, .inr (.inr (some (192)))), (1, .inl (a1)), (2, .inl (a2)), (3, .inl (a3)), (4, .inl (a4)), (5, .inr (.inr (some (805))))]) (st' := [.inl (2)]) rfl ?_
    exact ez_retI rfl rfl kq
  · refine ez_Kc he rfl ?_
    refine ez_go (n := 2) (pc' := 28) (L' := [(6, .inr (.inr (some (r)))), (0, .inr (.inr (some (192)))), (1, .inl (a1)), (2, .inl (a2)), (3, .inl (a3)), (4, .inl (a4)), (5, .inr (.inr (some (805))))]) (st' := [.inl (3)]) rfl ?_
    exact ez_retI rfl rfl kq

theorem rd_changeP {Ls : List vz} {X : Nat → List Int} {a1 a2 a3 a4 : Int} {T : Int → Nat} {O : Nat → Int} (hC : pz_C τ h T (vF Ls) (vE Ls)) (hx : sz_X τ h O (yD Ls)) (hd : dok (yD Ls)) (sl : slt h) (txh : txs h X) (r1 : ez_rg a1) (r2 : ez_rg a2) (r3 : ez_rg a3) (r4 : ez_rg a4) (hr1 : h.1 + 1 ≤ 600192) (hr2 : h.2.1 + 6 ≤ 7302232) : ez_W (d + 8) cm_5 0 [(0, .inr (.inr (some (192)))), (1, .inl (a1)), (2, .inl (a2)), (3, .inl (a3)), (4, .inl (a4))] [] h (ckP τ h (a1 < 0 ∨ 7 < a1 ∨ a2 < 0 ∨ 7 < a2 ∨ a3 < 0 ∨ 3 < a3 ∨ a4 < 0 ∨ 3 < a4) (((0 ≤ a1 ∧ a1 ≤ 7) ∧ (0 ≤ a2 ∧ a2 ≤ 7) ∧ (0 ≤ a3 ∧ a3 ≤ 3) ∧ 0 ≤ a4 ∧ a4 ≤ 3) ∧ qz_I h 202 6 = 0) (((0 ≤ a1 ∧ a1 ≤ 7) ∧ (0 ≤ a2 ∧ a2 ≤ 7) ∧ (0 ≤ a3 ∧ a3 ≤ 3) ∧ 0 ≤ a4 ∧ a4 ≤ 3) ∧ qz_I h 202 6 ≠ 0 ∧ chN (yD Ls) (vF Ls) (X a2.toNat) a4 a3) cg_P a1.toNat (fun res => ((0 ≤ a1 ∧ a1 ≤ 7) ∧ (0 ≤ a2 ∧ a2 ≤ 7) ∧ (0 ≤ a3 ∧ a3 ≤ 3) ∧ 0 ≤ a4 ∧ a4 ≤ 3) ∧ qz_I h 202 6 ≠ 0 ∧ chS (yD Ls) (vF Ls) (X a2.toNat) a4 a3 res)) :=
  rd_cchange hC hx hd sl txh r1 r2 r3 r4 hr1 hr2 (fun w => Or.inl ⟨w, rfl⟩) (fun w z => Or.inr (Or.inl ⟨⟨w, z⟩, rfl⟩)) (fun w z cn g b1 b2 => Or.inr (Or.inr (Or.inl ⟨⟨w, z, cn⟩, g, rfl, b1, b2⟩))) (fun w z res cs pr rl g2 c1 c2 g b1 b2 b3 => Or.inr (Or.inr (Or.inr ⟨res, g2, g, rfl, ⟨w, z, cs⟩, pr, c1, c2, b1, b2, b3⟩)))
theorem lw_add {i : Int} (hb : dz_B tz_T (qz_X rR) τ h) (hn : qz_I h 192 1 = qz_I h 770 2) (i0 : 0 ≤ i) (i1 : i + 6 ≤ qz_N h 0) (i2 : i ≤ 4000) (hr1 : h.1 + 1100 ≤ 600192) (hr2 : h.2.1 + 150100 ≤ 7302232) (k : ∀ τ2 g, dz_B tz_T (qz_X rR) τ2 g → stp h g → ez_W (d + 11) cm_0 1213 [(4, .inl (i)), (0, .inr (.inr (some (0)))), (1, .inr (.inr (some (192)))), (2, .inr (.inr (some (770)))), (3, .inr (.inr (some (805))))] [] g Q) : ez_W (d + 11) cm_0 337 [(4, .inl (i)), (0, .inr (.inr (some (0)))), (1, .inr (.inr (some (192)))), (2, .inr (.inr (some (770)))), (3, .inr (.inr (some (805))))] [] h Q := by
  have hB := dz_ezB hb
  have hX := hb.2.1
  have t0 : τ 0 = 34 := hX.1 0 (by decide)
  have t192 : τ 192 = 44 := hX.1 192 (by decide)
  have t770 : τ 770 = 75 := hX.1 770 (by decide)
  have t805 : τ 805 = 35 := hX.1 805 (by decide)
  obtain ⟨Ls, ⟨t, c, m, w, s6, s77, u, p⟩, ww, ⟨X, x1, x2⟩, q5⟩ := id hX.2.2.2.2
  have hI : jz_I τ h (vF Ls) (vE Ls) := ⟨hB, hX.1, c⟩
  obtain ⟨T, hC⟩ := pz_C_of hI
  have sl := ww.2.1
  refine ez_go (n := 5) (pc' := 343) (L' := [(4, .inl (i)), (0, .inr (.inr (some (0)))), (1, .inr (.inr (some (192)))), (2, .inr (.inr (some (770)))), (3, .inr (.inr (some (805))))]) (st' := [.inl ((i) + (1)), .inr (.inr (some (0))), .inr (.inr (some (192)))]) rfl ?_
  have n2 : 0 ≤ qz_N h 0 ∧ qz_N h 0 ≤ 3072 := ez_len hB t0 tq_34 rfl
  refine ez_aI hB t0 rfl tq_34 rfl rfl (by omega) (by omega) (fun (b1 : -2147483648 ≤ qz_I h 0 ((i) + (1)).toNat) (b1' : qz_I h 0 ((i) + (1)).toNat ≤ 2147483647) => ?_)
  refine ez_go (n := 4) (pc' := 349) (L' := [(4, .inl (i)), (0, .inr (.inr (some (0)))), (1, .inr (.inr (some (192)))), (2, .inr (.inr (some (770)))), (3, .inr (.inr (some (805))))]) (st' := [.inl ((i) + (2)), .inr (.inr (some (0))), .inl (qz_I h 0 ((i) + (1)).toNat), .inr (.inr (some (192)))]) rfl ?_
  have n4 : 0 ≤ qz_N h 0 ∧ qz_N h 0 ≤ 3072 := ez_len hB t0 tq_34 rfl
  refine ez_aI hB t0 rfl tq_34 rfl rfl (by omega) (by omega) (fun (b3 : -2147483648 ≤ qz_I h 0 ((i) + (2)).toNat) (b3' : qz_I h 0 ((i) + (2)).toNat ≤ 2147483647) => ?_)
  refine ez_go (n := 1) (pc' := 351) (L' := [(4, .inl (i)), (0, .inr (.inr (some (0)))), (1, .inr (.inr (some (192)))), (2, .inr (.inr (some (770)))), (3, .inr (.inr (some (805))))]) (st' := [.inr (.inr (some (805))), .inl (qz_I h 0 ((i) + (2)).toNat), .inl (qz_I h 0 ((i) + (1)).toNat), .inr (.inr (some (192)))]) rfl ?_
  refine ez_cs hB.2.1 rfl rfl rfl rfl rfl (hp_add hB t192 (rd_addP (d := d + 1) hB hX.1 sl x1 ⟨by omega, by omega⟩ ⟨by omega, by omega⟩ (by omega) (by omega)) (fun F hF => ?_))
  generalize ea1 : qz_I h 0 ((i) + (1)).toNat = a1 at *
  have ar1 : ez_rg a1 := ⟨by omega, by omega⟩
  generalize ea2 : qz_I h 0 ((i) + (2)).toNat = a2 at *
  have ar2 : ez_rg a2 := ⟨by omega, by omega⟩
  rcases hF with ⟨wA, rfl⟩ | ⟨wS, rfl⟩ | ⟨wX, gA, rfl, BA, fA⟩ | ⟨res, gA, gB, rfl, wR, pl, BA, fA, BB, fB, tB⟩
  · refine Or.inr (Or.inl ⟨_, _, rfl, xc_exc hB rfl, ez_K1 ?_⟩)
    have hBx : ez_B τ (xc h 1) := xc_B hB (by omega) (by omega)
    obtain ⟨⟨pM, pN⟩, pS, pX, p7, sc, sn⟩ := tg_pre hX.1 t m w s77 ww x2 hBx (fun q a _ _ _ _ => xc_t hB a)
    have rH : (xc h 1).1 ≤ h.1 + 1 ∧ (xc h 1).2.1 ≤ h.2.1 + 6 := ⟨Nat.le_refl _, Nat.le_refl _⟩
    refine ez_go (n := 6) (pc' := 362) (L' := [(5, .inl (1)), (4, .inl (i)), (0, .inr (.inr (some (0)))), (1, .inr (.inr (some (192)))), (2, .inr (.inr (some (770)))), (3, .inr (.inr (some (805))))]) (st' := [.inl ((i) + (1)), .inr (.inr (some (0))), .inr (.inr (some (770)))]) rfl ?_
    have n6 : 0 ≤ qz_N (xc h 1) 0 ∧ qz_N (xc h 1) 0 ≤ 3072 := ez_len hBx t0 tq_34 rfl
    refine ez_aI hBx t0 rfl tq_34 rfl rfl (by omega) (by omega) (fun (b5 : -2147483648 ≤ qz_I (xc h 1) 0 ((i) + (1)).toNat) (b5' : qz_I (xc h 1) 0 ((i) + (1)).toNat ≤ 2147483647) => ?_)
    rw [show qz_I (xc h 1) 0 ((i) + (1)).toNat = qz_I h 0 ((i) + (1)).toNat from sc _, ea1]
    refine ez_go (n := 4) (pc' := 368) (L' := [(5, .inl (1)), (4, .inl (i)), (0, .inr (.inr (some (0)))), (1, .inr (.inr (some (192)))), (2, .inr (.inr (some (770)))), (3, .inr (.inr (some (805))))]) (st' := [.inl ((i) + (2)), .inr (.inr (some (0))), .inl (a1), .inr (.inr (some (770)))]) rfl ?_
    have n8 : 0 ≤ qz_N (xc h 1) 0 ∧ qz_N (xc h 1) 0 ≤ 3072 := ez_len hBx t0 tq_34 rfl
    refine ez_aI hBx t0 rfl tq_34 rfl rfl (by omega) (by omega) (fun (b7 : -2147483648 ≤ qz_I (xc h 1) 0 ((i) + (2)).toNat) (b7' : qz_I (xc h 1) 0 ((i) + (2)).toNat ≤ 2147483647) => ?_)
    rw [show qz_I (xc h 1) 0 ((i) + (2)).toNat = qz_I h 0 ((i) + (2)).toNat from sc _, ea2]
    refine ez_cv hBx t770 rfl rfl rfl tq_75 rfl rfl rfl (rd_madd hBx hX.1 pS pX ar1 ar2 (fun _ g3 b1 b2 => ez_K1 ?_) (fun w9 => absurd w9 (by omega)) (fun w9 => absurd w9 (by omega)))
    have FN := ref_X hb hn b1 b2.1 b2.2.1
    have b0 := b2.2.2
    refine ez_go (n := 2) (pc' := 1213) (L' := [(6, .inl (0)), (5, .inl (1)), (4, .inl (i)), (0, .inr (.inr (some (0)))), (1, .inr (.inr (some (192)))), (2, .inr (.inr (some (770)))), (3, .inr (.inr (some (805))))]) (st' := []) rfl ?_
    refine ez_less [(4, .inl (i)), (0, .inr (.inr (some (0)))), (1, .inr (.inr (some (192)))), (2, .inr (.inr (some (770)))), (3, .inr (.inr (some (805))))] rfl ⟨rfl, rfl, rfl, rfl, rfl, trivial⟩ ?_
    exact k _ _ FN.1 FN.2
  · exact wS.elim
  · have cA1 := fA.1; have cA2 := fA.2.1
    refine Or.inr (Or.inr ⟨_, _, rfl, xc_exc BA rfl, ez_K1 ?_⟩)
    have hBx : ez_B τ (xc gA 0) := xc_B BA (by omega) (by omega)
    obtain ⟨ok, lx⟩ := wX
    obtain ⟨⟨pM, pN⟩, pS, pX, p7, sc, sn⟩ := tg_pre hX.1 t m w s77 ww x2 hBx (fun q a b _ _ _ => (xc_t BA a).trans (fA.2.2 q ((pk_no τ) q b)))
    have rH : (xc gA 0).1 ≤ h.1 + 1 ∧ (xc gA 0).2.1 ≤ h.2.1 + 6 := ⟨by show gA.1 + 1 ≤ _; omega, by show gA.2.1 + 6 ≤ _; omega⟩
    refine ez_go (n := 6) (pc' := 362) (L' := [(5, .inl (2)), (4, .inl (i)), (0, .inr (.inr (some (0)))), (1, .inr (.inr (some (192)))), (2, .inr (.inr (some (770)))), (3, .inr (.inr (some (805))))]) (st' := [.inl ((i) + (1)), .inr (.inr (some (0))), .inr (.inr (some (770)))]) rfl ?_
    have n10 : 0 ≤ qz_N (xc gA 0) 0 ∧ qz_N (xc gA 0) 0 ≤ 3072 := ez_len hBx t0 tq_34 rfl
    refine ez_aI hBx t0 rfl tq_34 rfl rfl (by omega) (by omega) (fun (b9 : -2147483648 ≤ qz_I (xc gA 0) 0 ((i) + (1)).toNat) (b9' : qz_I (xc gA 0) 0 ((i) + (1)).toNat ≤ 2147483647) => ?_)
    rw [show qz_I (xc gA 0) 0 ((i) + (1)).toNat = qz_I h 0 ((i) + (1)).toNat from sc _, ea1]
    refine ez_go (n := 4) (pc' := 368) (L' := [(5, .inl (2)), (4, .inl (i)), (0, .inr (.inr (some (0)))), (1, .inr (.inr (some (192)))), (2, .inr (.inr (some (770)))), (3, .inr (.inr (some (805))))]) (st' := [.inl ((i) + (2)), .inr (.inr (some (0))), .inl (a1), .inr (.inr (some (770)))]) rfl ?_
    have n12 : 0 ≤ qz_N (xc gA 0) 0 ∧ qz_N (xc gA 0) 0 ≤ 3072 := ez_len hBx t0 tq_34 rfl
    refine ez_aI hBx t0 rfl tq_34 rfl rfl (by omega) (by omega) (fun (b11 : -2147483648 ≤ qz_I (xc gA 0) 0 ((i) + (2)).toNat) (b11' : qz_I (xc gA 0) 0 ((i) + (2)).toNat ≤ 2147483647) => ?_)
    rw [show qz_I (xc gA 0) 0 ((i) + (2)).toNat = qz_I h 0 ((i) + (2)).toNat from sc _, ea2]
    refine ez_cv hBx t770 rfl rfl rfl tq_75 rfl rfl rfl (rd_madd hBx hX.1 pS pX ar1 ar2 (fun w9 => absurd w9 (by omega)) (fun _ _ g3 b1 b2 => ez_K1 ?_) (fun _ l8 => absurd lx (by omega)))
    have FN := tg_nl hb hn (pk_no τ) BA fA b2 b1
    have b0 := b2.2.2
    refine ez_go (n := 2) (pc' := 1213) (L' := [(6, .inl (0)), (5, .inl (2)), (4, .inl (i)), (0, .inr (.inr (some (0)))), (1, .inr (.inr (some (192)))), (2, .inr (.inr (some (770)))), (3, .inr (.inr (some (805))))]) (st' := []) rfl ?_
    refine ez_less [(4, .inl (i)), (0, .inr (.inr (some (0)))), (1, .inr (.inr (some (192)))), (2, .inr (.inr (some (770)))), (3, .inr (.inr (some (805))))] rfl ⟨rfl, rfl, rfl, rfl, rfl, trivial⟩ ?_
    exact k _ _ FN.1 FN.2
  · refine Or.inl ⟨_, τ, gB, rfl, BB, t805, fun hBo => ez_K1 ?_⟩
    obtain ⟨ok, lx, er⟩ := wR
    have t8 : a1.toNat < 8 := by omega
    have ll : res.length ≤ 2000 := by have q1 := tB.1; have q2 := tx_l88 BB ((rU_of hX.1).2 _ t8).2.1; omega
    obtain ⟨⟨pM, pN⟩, pS, pX, p7, sc, sn⟩ := tg_pre hX.1 t m w s77 ww x2 hBo (ow_CH hX.1 t8 (pk_no τ) fA fB)
    have rH : (ow gB (res.length : Int)).1 ≤ h.1 + 1 ∧ (ow gB (res.length : Int)).2.1 ≤ h.2.1 + 6 := ⟨by show gB.1 ≤ _; rw [fB.1, fA.1]; omega, by show gB.2.1 ≤ _; rw [fB.2.1, fA.2.1]; omega⟩
    refine ez_go (n := 6) (pc' := 362) (L' := [(5, .inl (0)), (4, .inl (i)), (0, .inr (.inr (some (0)))), (1, .inr (.inr (some (192)))), (2, .inr (.inr (some (770)))), (3, .inr (.inr (some (805))))]) (st' := [.inl ((i) + (1)), .inr (.inr (some (0))), .inr (.inr (some (770)))]) rfl ?_
    have n14 : 0 ≤ qz_N (ow gB (res.length : Int)) 0 ∧ qz_N (ow gB (res.length : Int)) 0 ≤ 3072 := ez_len hBo t0 tq_34 rfl
    refine ez_aI hBo t0 rfl tq_34 rfl rfl (by omega) (by omega) (fun (b13 : -2147483648 ≤ qz_I (ow gB (res.length : Int)) 0 ((i) + (1)).toNat) (b13' : qz_I (ow gB (res.length : Int)) 0 ((i) + (1)).toNat ≤ 2147483647) => ?_)
    rw [show qz_I (ow gB (res.length : Int)) 0 ((i) + (1)).toNat = qz_I h 0 ((i) + (1)).toNat from sc _, ea1]
    refine ez_go (n := 4) (pc' := 368) (L' := [(5, .inl (0)), (4, .inl (i)), (0, .inr (.inr (some (0)))), (1, .inr (.inr (some (192)))), (2, .inr (.inr (some (770)))), (3, .inr (.inr (some (805))))]) (st' := [.inl ((i) + (2)), .inr (.inr (some (0))), .inl (a1), .inr (.inr (some (770)))]) rfl ?_
    have n16 : 0 ≤ qz_N (ow gB (res.length : Int)) 0 ∧ qz_N (ow gB (res.length : Int)) 0 ≤ 3072 := ez_len hBo t0 tq_34 rfl
    refine ez_aI hBo t0 rfl tq_34 rfl rfl (by omega) (by omega) (fun (b15 : -2147483648 ≤ qz_I (ow gB (res.length : Int)) 0 ((i) + (2)).toNat) (b15' : qz_I (ow gB (res.length : Int)) 0 ((i) + (2)).toNat ≤ 2147483647) => ?_)
    rw [show qz_I (ow gB (res.length : Int)) 0 ((i) + (2)).toNat = qz_I h 0 ((i) + (2)).toNat from sc _, ea2]
    refine ez_cv hBo t770 rfl rfl rfl tq_75 rfl rfl rfl (rd_madd hBo hX.1 pS pX ar1 ar2 (fun w9 => absurd w9 (by omega)) (fun _ l8 => absurd l8 (by omega)) (fun _ _ h1 c1 c2 g3 b1 f3 mx3 => ez_K1 ?_))
    have ev : ((X a1.toNat).length : Int) + 1 = (res.length : Int) := by rw [er, List.length_append, List.length_singleton]; omega
    rw [ev]
    rw [← er] at mx3
    have c3 := c1
    have c4 := nk.refl τ h1
    have FN := tg_ok hb hn x1 x2 t8 (pk_no τ) fA fB tB pl ll c2.H c4 c3 b1 f3 mx3
    have b0 : qz_I g3 770 0 = 0 := (f3.1.I (mx_Pn (by omega) (by decide)) 0).trans ((c4.2.2.1 0 (by decide) (by decide) (by decide)).trans (c2.2.2))
    refine ez_go (n := 2) (pc' := 1213) (L' := [(6, .inl ((res.length : Int))), (5, .inl (0)), (4, .inl (i)), (0, .inr (.inr (some (0)))), (1, .inr (.inr (some (192)))), (2, .inr (.inr (some (770)))), (3, .inr (.inr (some (805))))]) (st' := []) rfl ?_
    refine ez_less [(4, .inl (i)), (0, .inr (.inr (some (0)))), (1, .inr (.inr (some (192)))), (2, .inr (.inr (some (770)))), (3, .inr (.inr (some (805))))] rfl ⟨rfl, rfl, rfl, rfl, rfl, trivial⟩ ?_
    exact k _ _ FN.1 FN.2

theorem lw_part {i : Int} (hb : dz_B tz_T (qz_X rR) τ h) (hn : qz_I h 192 1 = qz_I h 770 2) (i0 : 0 ≤ i) (i1 : i + 6 ≤ qz_N h 0) (i2 : i ≤ 4000) (hr1 : h.1 + 1100 ≤ 600192) (hr2 : h.2.1 + 150100 ≤ 7302232) (k : ∀ τ2 g, dz_B tz_T (qz_X rR) τ2 g → stp h g → ez_W (d + 11) cm_0 1213 [(4, .inl (i)), (0, .inr (.inr (some (0)))), (1, .inr (.inr (some (192)))), (2, .inr (.inr (some (770)))), (3, .inr (.inr (some (805))))] [] g Q) : ez_W (d + 11) cm_0 377 [(4, .inl (i)), (0, .inr (.inr (some (0)))), (1, .inr (.inr (some (192)))), (2, .inr (.inr (some (770)))), (3, .inr (.inr (some (805))))] [] h Q := by
  have hB := dz_ezB hb
  have hX := hb.2.1
  have t0 : τ 0 = 34 := hX.1 0 (by decide)
  have t192 : τ 192 = 44 := hX.1 192 (by decide)
  have t770 : τ 770 = 75 := hX.1 770 (by decide)
  have t805 : τ 805 = 35 := hX.1 805 (by decide)
  obtain ⟨Ls, ⟨t, c, m, w, s6, s77, u, p⟩, ww, ⟨X, x1, x2⟩, q5⟩ := id hX.2.2.2.2
  have hI : jz_I τ h (vF Ls) (vE Ls) := ⟨hB, hX.1, c⟩
  obtain ⟨T, hC⟩ := pz_C_of hI
  have sl := ww.2.1
  refine ez_go (n := 5) (pc' := 383) (L' := [(4, .inl (i)), (0, .inr (.inr (some (0)))), (1, .inr (.inr (some (192)))), (2, .inr (.inr (some (770)))), (3, .inr (.inr (some (805))))]) (st' := [.inl ((i) + (1)), .inr (.inr (some (0))), .inr (.inr (some (192)))]) rfl ?_
  have n2 : 0 ≤ qz_N h 0 ∧ qz_N h 0 ≤ 3072 := ez_len hB t0 tq_34 rfl
  refine ez_aI hB t0 rfl tq_34 rfl rfl (by omega) (by omega) (fun (b1 : -2147483648 ≤ qz_I h 0 ((i) + (1)).toNat) (b1' : qz_I h 0 ((i) + (1)).toNat ≤ 2147483647) => ?_)
  refine ez_go (n := 4) (pc' := 389) (L' := [(4, .inl (i)), (0, .inr (.inr (some (0)))), (1, .inr (.inr (some (192)))), (2, .inr (.inr (some (770)))), (3, .inr (.inr (some (805))))]) (st' := [.inl ((i) + (2)), .inr (.inr (some (0))), .inl (qz_I h 0 ((i) + (1)).toNat), .inr (.inr (some (192)))]) rfl ?_
  have n4 : 0 ≤ qz_N h 0 ∧ qz_N h 0 ≤ 3072 := ez_len hB t0 tq_34 rfl
  refine ez_aI hB t0 rfl tq_34 rfl rfl (by omega) (by omega) (fun (b3 : -2147483648 ≤ qz_I h 0 ((i) + (2)).toNat) (b3' : qz_I h 0 ((i) + (2)).toNat ≤ 2147483647) => ?_)
  refine ez_go (n := 4) (pc' := 395) (L' := [(4, .inl (i)), (0, .inr (.inr (some (0)))), (1, .inr (.inr (some (192)))), (2, .inr (.inr (some (770)))), (3, .inr (.inr (some (805))))]) (st' := [.inl ((i) + (3)), .inr (.inr (some (0))), .inl (qz_I h 0 ((i) + (2)).toNat), .inl (qz_I h 0 ((i) + (1)).toNat), .inr (.inr (some (192)))]) rfl ?_
  have n6 : 0 ≤ qz_N h 0 ∧ qz_N h 0 ≤ 3072 := ez_len hB t0 tq_34 rfl
  refine ez_aI hB t0 rfl tq_34 rfl rfl (by omega) (by omega) (fun (b5 : -2147483648 ≤ qz_I h 0 ((i) + (3)).toNat) (b5' : qz_I h 0 ((i) + (3)).toNat ≤ 2147483647) => ?_)
  refine ez_go (n := 4) (pc' := 401) (L' := [(4, .inl (i)), (0, .inr (.inr (some (0)))), (1, .inr (.inr (some (192)))), (2, .inr (.inr (some (770)))), (3, .inr (.inr (some (805))))]) (st' := [.inl ((i) + (4)), .inr (.inr (some (0))), .inl (qz_I h 0 ((i) + (3)).toNat), .inl (qz_I h 0 ((i) + (2)).toNat), .inl (qz_I h 0 ((i) + (1)).toNat), .inr (.inr (some (192)))]) rfl ?_
  have n8 : 0 ≤ qz_N h 0 ∧ qz_N h 0 ≤ 3072 := ez_len hB t0 tq_34 rfl
  refine ez_aI hB t0 rfl tq_34 rfl rfl (by omega) (by omega) (fun (b7 : -2147483648 ≤ qz_I h 0 ((i) + (4)).toNat) (b7' : qz_I h 0 ((i) + (4)).toNat ≤ 2147483647) => ?_)
  refine ez_go (n := 1) (pc' := 403) (L' := [(4, .inl (i)), (0, .inr (.inr (some (0)))), (1, .inr (.inr (some (192)))), (2, .inr (.inr (some (770)))), (3, .inr (.inr (some (805))))]) (st' := [.inr (.inr (some (805))), .inl (qz_I h 0 ((i) + (4)).toNat), .inl (qz_I h 0 ((i) + (3)).toNat), .inl (qz_I h 0 ((i) + (2)).toNat), .inl (qz_I h 0 ((i) + (1)).toNat), .inr (.inr (some (192)))]) rfl ?_
  refine ez_cs hB.2.1 rfl rfl rfl rfl rfl (hp_part hB t192 (rd_partP (d := d + 1) hB hX.1 sl x1 ⟨by omega, by omega⟩ ⟨by omega, by omega⟩ ⟨by omega, by omega⟩ ⟨by omega, by omega⟩ (by omega) (by omega)) (fun F hF => ?_))
  generalize ea1 : qz_I h 0 ((i) + (1)).toNat = a1 at *
  have ar1 : ez_rg a1 := ⟨by omega, by omega⟩
  generalize ea2 : qz_I h 0 ((i) + (2)).toNat = a2 at *
  have ar2 : ez_rg a2 := ⟨by omega, by omega⟩
  generalize ea3 : qz_I h 0 ((i) + (3)).toNat = a3 at *
  have ar3 : ez_rg a3 := ⟨by omega, by omega⟩
  generalize ea4 : qz_I h 0 ((i) + (4)).toNat = a4 at *
  have ar4 : ez_rg a4 := ⟨by omega, by omega⟩
  rcases hF with ⟨wA, rfl⟩ | ⟨wS, rfl⟩ | ⟨wX, gA, rfl, BA, fA⟩ | ⟨res, gA, gB, rfl, wR, pl, BA, fA, BB, fB, tB⟩
  · refine Or.inr ⟨_, _, rfl, xc_exc hB rfl, ez_K1 ?_⟩
    have hBx : ez_B τ (xc h 1) := xc_B hB (by omega) (by omega)
    obtain ⟨⟨pM, pN⟩, pS, pX, p7, sc, sn⟩ := tg_pre hX.1 t m w s77 ww x2 hBx (fun q a _ _ _ _ => xc_t hB a)
    have rH : (xc h 1).1 ≤ h.1 + 1 ∧ (xc h 1).2.1 ≤ h.2.1 + 6 := ⟨Nat.le_refl _, Nat.le_refl _⟩
    refine ez_go (n := 6) (pc' := 414) (L' := [(5, .inl (1)), (4, .inl (i)), (0, .inr (.inr (some (0)))), (1, .inr (.inr (some (192)))), (2, .inr (.inr (some (770)))), (3, .inr (.inr (some (805))))]) (st' := [.inl ((i) + (1)), .inr (.inr (some (0))), .inr (.inr (some (770)))]) rfl ?_
    have n10 : 0 ≤ qz_N (xc h 1) 0 ∧ qz_N (xc h 1) 0 ≤ 3072 := ez_len hBx t0 tq_34 rfl
    refine ez_aI hBx t0 rfl tq_34 rfl rfl (by omega) (by omega) (fun (b9 : -2147483648 ≤ qz_I (xc h 1) 0 ((i) + (1)).toNat) (b9' : qz_I (xc h 1) 0 ((i) + (1)).toNat ≤ 2147483647) => ?_)
    rw [show qz_I (xc h 1) 0 ((i) + (1)).toNat = qz_I h 0 ((i) + (1)).toNat from sc _, ea1]
    refine ez_go (n := 4) (pc' := 420) (L' := [(5, .inl (1)), (4, .inl (i)), (0, .inr (.inr (some (0)))), (1, .inr (.inr (some (192)))), (2, .inr (.inr (some (770)))), (3, .inr (.inr (some (805))))]) (st' := [.inl ((i) + (2)), .inr (.inr (some (0))), .inl (a1), .inr (.inr (some (770)))]) rfl ?_
    have n12 : 0 ≤ qz_N (xc h 1) 0 ∧ qz_N (xc h 1) 0 ≤ 3072 := ez_len hBx t0 tq_34 rfl
    refine ez_aI hBx t0 rfl tq_34 rfl rfl (by omega) (by omega) (fun (b11 : -2147483648 ≤ qz_I (xc h 1) 0 ((i) + (2)).toNat) (b11' : qz_I (xc h 1) 0 ((i) + (2)).toNat ≤ 2147483647) => ?_)
    rw [show qz_I (xc h 1) 0 ((i) + (2)).toNat = qz_I h 0 ((i) + (2)).toNat from sc _, ea2]
    refine ez_go (n := 4) (pc' := 426) (L' := [(5, .inl (1)), (4, .inl (i)), (0, .inr (.inr (some (0)))), (1, .inr (.inr (some (192)))), (2, .inr (.inr (some (770)))), (3, .inr (.inr (some (805))))]) (st' := [.inl ((i) + (3)), .inr (.inr (some (0))), .inl (a2), .inl (a1), .inr (.inr (some (770)))]) rfl ?_
    have n14 : 0 ≤ qz_N (xc h 1) 0 ∧ qz_N (xc h 1) 0 ≤ 3072 := ez_len hBx t0 tq_34 rfl
    refine ez_aI hBx t0 rfl tq_34 rfl rfl (by omega) (by omega) (fun (b13 : -2147483648 ≤ qz_I (xc h 1) 0 ((i) + (3)).toNat) (b13' : qz_I (xc h 1) 0 ((i) + (3)).toNat ≤ 2147483647) => ?_)
    rw [show qz_I (xc h 1) 0 ((i) + (3)).toNat = qz_I h 0 ((i) + (3)).toNat from sc _, ea3]
    refine ez_go (n := 4) (pc' := 432) (L' := [(5, .inl (1)), (4, .inl (i)), (0, .inr (.inr (some (0)))), (1, .inr (.inr (some (192)))), (2, .inr (.inr (some (770)))), (3, .inr (.inr (some (805))))]) (st' := [.inl ((i) + (4)), .inr (.inr (some (0))), .inl (a3), .inl (a2), .inl (a1), .inr (.inr (some (770)))]) rfl ?_
    have n16 : 0 ≤ qz_N (xc h 1) 0 ∧ qz_N (xc h 1) 0 ≤ 3072 := ez_len hBx t0 tq_34 rfl
    refine ez_aI hBx t0 rfl tq_34 rfl rfl (by omega) (by omega) (fun (b15 : -2147483648 ≤ qz_I (xc h 1) 0 ((i) + (4)).toNat) (b15' : qz_I (xc h 1) 0 ((i) + (4)).toNat ≤ 2147483647) => ?_)
    rw [show qz_I (xc h 1) 0 ((i) + (4)).toNat = qz_I h 0 ((i) + (4)).toNat from sc _, ea4]
    refine ez_cv hBx t770 rfl rfl rfl tq_75 rfl rfl rfl (rd_mpart hBx hX.1 pS pX ar1 ar2 ar3 ar4 (fun _ g3 b1 b2 => ez_K1 ?_) (fun w9 => absurd w9 (by omega)))
    have FN := ref_X hb hn b1 b2.1 b2.2.1
    have b0 := b2.2.2
    refine ez_go (n := 2) (pc' := 1213) (L' := [(6, .inl (0)), (5, .inl (1)), (4, .inl (i)), (0, .inr (.inr (some (0)))), (1, .inr (.inr (some (192)))), (2, .inr (.inr (some (770)))), (3, .inr (.inr (some (805))))]) (st' := []) rfl ?_
    refine ez_less [(4, .inl (i)), (0, .inr (.inr (some (0)))), (1, .inr (.inr (some (192)))), (2, .inr (.inr (some (770)))), (3, .inr (.inr (some (805))))] rfl ⟨rfl, rfl, rfl, rfl, rfl, trivial⟩ ?_
    exact k _ _ FN.1 FN.2
  · exact wS.elim
  · exact wX.elim
  · refine Or.inl ⟨_, τ, gB, rfl, BB, t805, fun hBo => ez_K1 ?_⟩
    obtain ⟨ok, er⟩ := wR
    have t8 : a1.toNat < 8 := by omega
    have ll : res.length ≤ 2000 := by have q1 := tB.1; have q2 := tx_l88 BB ((rU_of hX.1).2 _ t8).2.1; omega
    obtain ⟨⟨pM, pN⟩, pS, pX, p7, sc, sn⟩ := tg_pre hX.1 t m w s77 ww x2 hBo (ow_CH hX.1 t8 (pk_no τ) fA fB)
    have rH : (ow gB (res.length : Int)).1 ≤ h.1 + 1 ∧ (ow gB (res.length : Int)).2.1 ≤ h.2.1 + 6 := ⟨by show gB.1 ≤ _; rw [fB.1, fA.1]; omega, by show gB.2.1 ≤ _; rw [fB.2.1, fA.2.1]; omega⟩
    refine ez_go (n := 6) (pc' := 414) (L' := [(5, .inl (0)), (4, .inl (i)), (0, .inr (.inr (some (0)))), (1, .inr (.inr (some (192)))), (2, .inr (.inr (some (770)))), (3, .inr (.inr (some (805))))]) (st' := [.inl ((i) + (1)), .inr (.inr (some (0))), .inr (.inr (some (770)))]) rfl ?_
    have n18 : 0 ≤ qz_N (ow gB (res.length : Int)) 0 ∧ qz_N (ow gB (res.length : Int)) 0 ≤ 3072 := ez_len hBo t0 tq_34 rfl
    refine ez_aI hBo t0 rfl tq_34 rfl rfl (by omega) (by omega) (fun (b17 : -2147483648 ≤ qz_I (ow gB (res.length : Int)) 0 ((i) + (1)).toNat) (b17' : qz_I (ow gB (res.length : Int)) 0 ((i) + (1)).toNat ≤ 2147483647) => ?_)
    rw [show qz_I (ow gB (res.length : Int)) 0 ((i) + (1)).toNat = qz_I h 0 ((i) + (1)).toNat from sc _, ea1]
    refine ez_go (n := 4) (pc' := 420) (L' := [(5, .inl (0)), (4, .inl (i)), (0, .inr (.inr (some (0)))), (1, .inr (.inr (some (192)))), (2, .inr (.inr (some (770)))), (3, .inr (.inr (some (805))))]) (st' := [.inl ((i) + (2)), .inr (.inr (some (0))), .inl (a1), .inr (.inr (some (770)))]) rfl ?_
    have n20 : 0 ≤ qz_N (ow gB (res.length : Int)) 0 ∧ qz_N (ow gB (res.length : Int)) 0 ≤ 3072 := ez_len hBo t0 tq_34 rfl
    refine ez_aI hBo t0 rfl tq_34 rfl rfl (by omega) (by omega) (fun (b19 : -2147483648 ≤ qz_I (ow gB (res.length : Int)) 0 ((i) + (2)).toNat) (b19' : qz_I (ow gB (res.length : Int)) 0 ((i) + (2)).toNat ≤ 2147483647) => ?_)
    rw [show qz_I (ow gB (res.length : Int)) 0 ((i) + (2)).toNat = qz_I h 0 ((i) + (2)).toNat from sc _, ea2]
    refine ez_go (n := 4) (pc' := 426) (L' := [(5, .inl (0)), (4, .inl (i)), (0, .inr (.inr (some (0)))), (1, .inr (.inr (some (192)))), (2, .inr (.inr (some (770)))), (3, .inr (.inr (some (805))))]) (st' := [.inl ((i) + (3)), .inr (.inr (some (0))), .inl (a2), .inl (a1), .inr (.inr (some (770)))]) rfl ?_
    have n22 : 0 ≤ qz_N (ow gB (res.length : Int)) 0 ∧ qz_N (ow gB (res.length : Int)) 0 ≤ 3072 := ez_len hBo t0 tq_34 rfl
    refine ez_aI hBo t0 rfl tq_34 rfl rfl (by omega) (by omega) (fun (b21 : -2147483648 ≤ qz_I (ow gB (res.length : Int)) 0 ((i) + (3)).toNat) (b21' : qz_I (ow gB (res.length : Int)) 0 ((i) + (3)).toNat ≤ 2147483647) => ?_)
    rw [show qz_I (ow gB (res.length : Int)) 0 ((i) + (3)).toNat = qz_I h 0 ((i) + (3)).toNat from sc _, ea3]
    refine ez_go (n := 4) (pc' := 432) (L' := [(5, .inl (0)), (4, .inl (i)), (0, .inr (.inr (some (0)))), (1, .inr (.inr (some (192)))), (2, .inr (.inr (some (770)))), (3, .inr (.inr (some (805))))]) (st' := [.inl ((i) + (4)), .inr (.inr (some (0))), .inl (a3), .inl (a2), .inl (a1), .inr (.inr (some (770)))]) rfl ?_
    have n24 : 0 ≤ qz_N (ow gB (res.length : Int)) 0 ∧ qz_N (ow gB (res.length : Int)) 0 ≤ 3072 := ez_len hBo t0 tq_34 rfl
    refine ez_aI hBo t0 rfl tq_34 rfl rfl (by omega) (by omega) (fun (b23 : -2147483648 ≤ qz_I (ow gB (res.length : Int)) 0 ((i) + (4)).toNat) (b23' : qz_I (ow gB (res.length : Int)) 0 ((i) + (4)).toNat ≤ 2147483647) => ?_)
    rw [show qz_I (ow gB (res.length : Int)) 0 ((i) + (4)).toNat = qz_I h 0 ((i) + (4)).toNat from sc _, ea4]
    refine ez_cv hBo t770 rfl rfl rfl tq_75 rfl rfl rfl (rd_mpart hBo hX.1 pS pX ar1 ar2 ar3 ar4 (fun w9 => absurd w9 (by omega)) (fun _ h1 c1 c2 g2 c3 c4 c5 g3 b1 f3 mx3 => ez_K1 ?_))
    rw [← er] at mx3 ⊢
    have c9 := c4
    have c4 := nk.fr c1 t770 hX.1 c9 (fun q9 hq9 => by unfold nz_PL at hq9; rcases Bool.or_eq_true_iff.mp hq9 with w9 | w9; (· exact Or.inl (Nat.eq_of_beq_eq_true w9)); (· exact Or.inr (Or.inl (Nat.eq_of_beq_eq_true w9)))) c5
    have FN := tg_ok hb hn x1 x2 t8 (pk_no τ) fA fB tB pl ll c2.H c4 c3 b1 f3 mx3
    have b0 : qz_I g3 770 0 = 0 := (f3.1.I (mx_Pn (by omega) (by decide)) 0).trans ((c4.2.2.1 0 (by decide) (by decide) (by decide)).trans (c2.2.2))
    refine ez_go (n := 2) (pc' := 1213) (L' := [(6, .inl ((res.length : Int))), (5, .inl (0)), (4, .inl (i)), (0, .inr (.inr (some (0)))), (1, .inr (.inr (some (192)))), (2, .inr (.inr (some (770)))), (3, .inr (.inr (some (805))))]) (st' := []) rfl ?_
    refine ez_less [(4, .inl (i)), (0, .inr (.inr (some (0)))), (1, .inr (.inr (some (192)))), (2, .inr (.inr (some (770)))), (3, .inr (.inr (some (805))))] rfl ⟨rfl, rfl, rfl, rfl, rfl, trivial⟩ ?_
    exact k _ _ FN.1 FN.2

theorem lw_normal {i : Int} (hb : dz_B tz_T (qz_X rR) τ h) (hn : qz_I h 192 1 = qz_I h 770 2) (i0 : 0 ≤ i) (i1 : i + 6 ≤ qz_N h 0) (i2 : i ≤ 4000) (hr1 : h.1 + 1100 ≤ 600192) (hr2 : h.2.1 + 150100 ≤ 7302232) (k : ∀ τ2 g, dz_B tz_T (qz_X rR) τ2 g → stp h g → ez_W (d + 11) cm_0 1213 [(4, .inl (i)), (0, .inr (.inr (some (0)))), (1, .inr (.inr (some (192)))), (2, .inr (.inr (some (770)))), (3, .inr (.inr (some (805))))] [] g Q) : ez_W (d + 11) cm_0 509 [(4, .inl (i)), (0, .inr (.inr (some (0)))), (1, .inr (.inr (some (192)))), (2, .inr (.inr (some (770)))), (3, .inr (.inr (some (805))))] [] h Q := by
  have hB := dz_ezB hb
  have hX := hb.2.1
  have t0 : τ 0 = 34 := hX.1 0 (by decide)
  have t192 : τ 192 = 44 := hX.1 192 (by decide)
  have t770 : τ 770 = 75 := hX.1 770 (by decide)
  have t805 : τ 805 = 35 := hX.1 805 (by decide)
  obtain ⟨Ls, ⟨t, c, m, w, s6, s77, u, p⟩, ww, ⟨X, x1, x2⟩, q5⟩ := id hX.2.2.2.2
  have hI : jz_I τ h (vF Ls) (vE Ls) := ⟨hB, hX.1, c⟩
  obtain ⟨T, hC⟩ := pz_C_of hI
  have sl := ww.2.1
  refine ez_go (n := 5) (pc' := 515) (L' := [(4, .inl (i)), (0, .inr (.inr (some (0)))), (1, .inr (.inr (some (192)))), (2, .inr (.inr (some (770)))), (3, .inr (.inr (some (805))))]) (st' := [.inl ((i) + (1)), .inr (.inr (some (0))), .inr (.inr (some (192)))]) rfl ?_
  have n2 : 0 ≤ qz_N h 0 ∧ qz_N h 0 ≤ 3072 := ez_len hB t0 tq_34 rfl
  refine ez_aI hB t0 rfl tq_34 rfl rfl (by omega) (by omega) (fun (b1 : -2147483648 ≤ qz_I h 0 ((i) + (1)).toNat) (b1' : qz_I h 0 ((i) + (1)).toNat ≤ 2147483647) => ?_)
  refine ez_go (n := 4) (pc' := 521) (L' := [(4, .inl (i)), (0, .inr (.inr (some (0)))), (1, .inr (.inr (some (192)))), (2, .inr (.inr (some (770)))), (3, .inr (.inr (some (805))))]) (st' := [.inl ((i) + (2)), .inr (.inr (some (0))), .inl (qz_I h 0 ((i) + (1)).toNat), .inr (.inr (some (192)))]) rfl ?_
  have n4 : 0 ≤ qz_N h 0 ∧ qz_N h 0 ≤ 3072 := ez_len hB t0 tq_34 rfl
  refine ez_aI hB t0 rfl tq_34 rfl rfl (by omega) (by omega) (fun (b3 : -2147483648 ≤ qz_I h 0 ((i) + (2)).toNat) (b3' : qz_I h 0 ((i) + (2)).toNat ≤ 2147483647) => ?_)
  refine ez_go (n := 4) (pc' := 527) (L' := [(4, .inl (i)), (0, .inr (.inr (some (0)))), (1, .inr (.inr (some (192)))), (2, .inr (.inr (some (770)))), (3, .inr (.inr (some (805))))]) (st' := [.inl ((i) + (3)), .inr (.inr (some (0))), .inl (qz_I h 0 ((i) + (2)).toNat), .inl (qz_I h 0 ((i) + (1)).toNat), .inr (.inr (some (192)))]) rfl ?_
  have n6 : 0 ≤ qz_N h 0 ∧ qz_N h 0 ≤ 3072 := ez_len hB t0 tq_34 rfl
  refine ez_aI hB t0 rfl tq_34 rfl rfl (by omega) (by omega) (fun (b5 : -2147483648 ≤ qz_I h 0 ((i) + (3)).toNat) (b5' : qz_I h 0 ((i) + (3)).toNat ≤ 2147483647) => ?_)
  refine ez_go (n := 1) (pc' := 529) (L' := [(4, .inl (i)), (0, .inr (.inr (some (0)))), (1, .inr (.inr (some (192)))), (2, .inr (.inr (some (770)))), (3, .inr (.inr (some (805))))]) (st' := [.inr (.inr (some (805))), .inl (qz_I h 0 ((i) + (3)).toNat), .inl (qz_I h 0 ((i) + (2)).toNat), .inl (qz_I h 0 ((i) + (1)).toNat), .inr (.inr (some (192)))]) rfl ?_
  have hsl : qz_I h 202 6 ≠ 0 → fD h T (vF Ls) ∧ cP h (vF Ls) (vE Ls) := fun z => by
    obtain ⟨-, q2, q3⟩ := ww.2.2.2.2.1 (fun y => z (s6.mpr y))
    exact ⟨cFl_fD hC q2, q3⟩
  refine ez_cs hB.2.1 rfl rfl rfl rfl rfl (hp_normal hB t192 (rd_normalP (d := d + 1) hC w hsl sl x1 ⟨by omega, by omega⟩ ⟨by omega, by omega⟩ ⟨by omega, by omega⟩ (by omega) (by omega)) (fun F hF => ?_))
  generalize ea1 : qz_I h 0 ((i) + (1)).toNat = a1 at *
  have ar1 : ez_rg a1 := ⟨by omega, by omega⟩
  generalize ea2 : qz_I h 0 ((i) + (2)).toNat = a2 at *
  have ar2 : ez_rg a2 := ⟨by omega, by omega⟩
  generalize ea3 : qz_I h 0 ((i) + (3)).toNat = a3 at *
  have ar3 : ez_rg a3 := ⟨by omega, by omega⟩
  rcases hF with ⟨wA, rfl⟩ | ⟨wS, rfl⟩ | ⟨wX, gA, rfl, BA, fA⟩ | ⟨res, gA, gB, rfl, wR, pl, BA, fA, BB, fB, tB⟩
  · refine Or.inr (Or.inl ⟨_, _, rfl, xc_exc hB rfl, ez_K1 ?_⟩)
    have hBx : ez_B τ (xc h 1) := xc_B hB (by omega) (by omega)
    obtain ⟨⟨pM, pN⟩, pS, pX, p7, sc, sn⟩ := tg_pre hX.1 t m w s77 ww x2 hBx (fun q a _ _ _ _ => xc_t hB a)
    have rH : (xc h 1).1 ≤ h.1 + 1 ∧ (xc h 1).2.1 ≤ h.2.1 + 6 := ⟨Nat.le_refl _, Nat.le_refl _⟩
    refine ez_go (n := 6) (pc' := 540) (L' := [(5, .inl (1)), (4, .inl (i)), (0, .inr (.inr (some (0)))), (1, .inr (.inr (some (192)))), (2, .inr (.inr (some (770)))), (3, .inr (.inr (some (805))))]) (st' := [.inl ((i) + (1)), .inr (.inr (some (0))), .inr (.inr (some (770)))]) rfl ?_
    have n8 : 0 ≤ qz_N (xc h 1) 0 ∧ qz_N (xc h 1) 0 ≤ 3072 := ez_len hBx t0 tq_34 rfl
    refine ez_aI hBx t0 rfl tq_34 rfl rfl (by omega) (by omega) (fun (b7 : -2147483648 ≤ qz_I (xc h 1) 0 ((i) + (1)).toNat) (b7' : qz_I (xc h 1) 0 ((i) + (1)).toNat ≤ 2147483647) => ?_)
    rw [show qz_I (xc h 1) 0 ((i) + (1)).toNat = qz_I h 0 ((i) + (1)).toNat from sc _, ea1]
    refine ez_go (n := 4) (pc' := 546) (L' := [(5, .inl (1)), (4, .inl (i)), (0, .inr (.inr (some (0)))), (1, .inr (.inr (some (192)))), (2, .inr (.inr (some (770)))), (3, .inr (.inr (some (805))))]) (st' := [.inl ((i) + (2)), .inr (.inr (some (0))), .inl (a1), .inr (.inr (some (770)))]) rfl ?_
    have n10 : 0 ≤ qz_N (xc h 1) 0 ∧ qz_N (xc h 1) 0 ≤ 3072 := ez_len hBx t0 tq_34 rfl
    refine ez_aI hBx t0 rfl tq_34 rfl rfl (by omega) (by omega) (fun (b9 : -2147483648 ≤ qz_I (xc h 1) 0 ((i) + (2)).toNat) (b9' : qz_I (xc h 1) 0 ((i) + (2)).toNat ≤ 2147483647) => ?_)
    rw [show qz_I (xc h 1) 0 ((i) + (2)).toNat = qz_I h 0 ((i) + (2)).toNat from sc _, ea2]
    refine ez_go (n := 4) (pc' := 552) (L' := [(5, .inl (1)), (4, .inl (i)), (0, .inr (.inr (some (0)))), (1, .inr (.inr (some (192)))), (2, .inr (.inr (some (770)))), (3, .inr (.inr (some (805))))]) (st' := [.inl ((i) + (3)), .inr (.inr (some (0))), .inl (a2), .inl (a1), .inr (.inr (some (770)))]) rfl ?_
    have n12 : 0 ≤ qz_N (xc h 1) 0 ∧ qz_N (xc h 1) 0 ≤ 3072 := ez_len hBx t0 tq_34 rfl
    refine ez_aI hBx t0 rfl tq_34 rfl rfl (by omega) (by omega) (fun (b11 : -2147483648 ≤ qz_I (xc h 1) 0 ((i) + (3)).toNat) (b11' : qz_I (xc h 1) 0 ((i) + (3)).toNat ≤ 2147483647) => ?_)
    rw [show qz_I (xc h 1) 0 ((i) + (3)).toNat = qz_I h 0 ((i) + (3)).toNat from sc _, ea3]
    refine ez_cv hBx t770 rfl rfl rfl tq_75 rfl rfl rfl (rd_mnormal hBx hX.1 pN pS pX ar1 ar2 ar3 (by omega) (by omega) (fun _ g3 b1 b2 => ez_K1 ?_) (fun w9 => absurd w9 (by omega)) (fun w9 => absurd w9 (by omega)) (fun w9 => absurd w9 (by omega)))
    have FN := ref_X hb hn b1 b2.1 b2.2.1
    have b0 := b2.2.2
    refine ez_go (n := 2) (pc' := 1213) (L' := [(6, .inl (0)), (5, .inl (1)), (4, .inl (i)), (0, .inr (.inr (some (0)))), (1, .inr (.inr (some (192)))), (2, .inr (.inr (some (770)))), (3, .inr (.inr (some (805))))]) (st' := []) rfl ?_
    refine ez_less [(4, .inl (i)), (0, .inr (.inr (some (0)))), (1, .inr (.inr (some (192)))), (2, .inr (.inr (some (770)))), (3, .inr (.inr (some (805))))] rfl ⟨rfl, rfl, rfl, rfl, rfl, trivial⟩ ?_
    exact k _ _ FN.1 FN.2
  · refine Or.inr (Or.inr (Or.inl ⟨_, _, rfl, xc_exc hB rfl, ez_K1 ?_⟩))
    have hBx : ez_B τ (xc h 2) := xc_B hB (by omega) (by omega)
    obtain ⟨⟨pM, pN⟩, pS, pX, p7, sc, sn⟩ := tg_pre hX.1 t m w s77 ww x2 hBx (fun q a _ _ _ _ => xc_t hB a)
    have rH : (xc h 2).1 ≤ h.1 + 1 ∧ (xc h 2).2.1 ≤ h.2.1 + 6 := ⟨Nat.le_refl _, Nat.le_refl _⟩
    obtain ⟨ok, s0⟩ := wS
    have n7 : qz_I (xc h 2) 770 7 = 0 := (p7 7).trans (s6.mp s0)
    refine ez_go (n := 6) (pc' := 540) (L' := [(5, .inl (2)), (4, .inl (i)), (0, .inr (.inr (some (0)))), (1, .inr (.inr (some (192)))), (2, .inr (.inr (some (770)))), (3, .inr (.inr (some (805))))]) (st' := [.inl ((i) + (1)), .inr (.inr (some (0))), .inr (.inr (some (770)))]) rfl ?_
    have n14 : 0 ≤ qz_N (xc h 2) 0 ∧ qz_N (xc h 2) 0 ≤ 3072 := ez_len hBx t0 tq_34 rfl
    refine ez_aI hBx t0 rfl tq_34 rfl rfl (by omega) (by omega) (fun (b13 : -2147483648 ≤ qz_I (xc h 2) 0 ((i) + (1)).toNat) (b13' : qz_I (xc h 2) 0 ((i) + (1)).toNat ≤ 2147483647) => ?_)
    rw [show qz_I (xc h 2) 0 ((i) + (1)).toNat = qz_I h 0 ((i) + (1)).toNat from sc _, ea1]
    refine ez_go (n := 4) (pc' := 546) (L' := [(5, .inl (2)), (4, .inl (i)), (0, .inr (.inr (some (0)))), (1, .inr (.inr (some (192)))), (2, .inr (.inr (some (770)))), (3, .inr (.inr (some (805))))]) (st' := [.inl ((i) + (2)), .inr (.inr (some (0))), .inl (a1), .inr (.inr (some (770)))]) rfl ?_
    have n16 : 0 ≤ qz_N (xc h 2) 0 ∧ qz_N (xc h 2) 0 ≤ 3072 := ez_len hBx t0 tq_34 rfl
    refine ez_aI hBx t0 rfl tq_34 rfl rfl (by omega) (by omega) (fun (b15 : -2147483648 ≤ qz_I (xc h 2) 0 ((i) + (2)).toNat) (b15' : qz_I (xc h 2) 0 ((i) + (2)).toNat ≤ 2147483647) => ?_)
    rw [show qz_I (xc h 2) 0 ((i) + (2)).toNat = qz_I h 0 ((i) + (2)).toNat from sc _, ea2]
    refine ez_go (n := 4) (pc' := 552) (L' := [(5, .inl (2)), (4, .inl (i)), (0, .inr (.inr (some (0)))), (1, .inr (.inr (some (192)))), (2, .inr (.inr (some (770)))), (3, .inr (.inr (some (805))))]) (st' := [.inl ((i) + (3)), .inr (.inr (some (0))), .inl (a2), .inl (a1), .inr (.inr (some (770)))]) rfl ?_
    have n18 : 0 ≤ qz_N (xc h 2) 0 ∧ qz_N (xc h 2) 0 ≤ 3072 := ez_len hBx t0 tq_34 rfl
    refine ez_aI hBx t0 rfl tq_34 rfl rfl (by omega) (by omega) (fun (b17 : -2147483648 ≤ qz_I (xc h 2) 0 ((i) + (3)).toNat) (b17' : qz_I (xc h 2) 0 ((i) + (3)).toNat ≤ 2147483647) => ?_)
    rw [show qz_I (xc h 2) 0 ((i) + (3)).toNat = qz_I h 0 ((i) + (3)).toNat from sc _, ea3]
    refine ez_cv hBx t770 rfl rfl rfl tq_75 rfl rfl rfl (rd_mnormal hBx hX.1 pN pS pX ar1 ar2 ar3 (by omega) (by omega) (fun w9 => absurd w9 (by omega)) (fun _ _ g3 b1 b2 => ez_K1 ?_) (fun _ z => absurd n7 z) (fun _ z => absurd n7 z))
    have FN := ref_X hb hn b1 b2.1 b2.2.1
    have b0 := b2.2.2
    refine ez_go (n := 2) (pc' := 1213) (L' := [(6, .inl (0)), (5, .inl (2)), (4, .inl (i)), (0, .inr (.inr (some (0)))), (1, .inr (.inr (some (192)))), (2, .inr (.inr (some (770)))), (3, .inr (.inr (some (805))))]) (st' := []) rfl ?_
    refine ez_less [(4, .inl (i)), (0, .inr (.inr (some (0)))), (1, .inr (.inr (some (192)))), (2, .inr (.inr (some (770)))), (3, .inr (.inr (some (805))))] rfl ⟨rfl, rfl, rfl, rfl, rfl, trivial⟩ ?_
    exact k _ _ FN.1 FN.2
  · have cA1 := fA.1; have cA2 := fA.2.1
    refine Or.inr (Or.inr (Or.inr ⟨_, _, rfl, xc_exc BA rfl, ez_K1 ?_⟩))
    have hBx : ez_B τ (xc gA 0) := xc_B BA (by omega) (by omega)
    obtain ⟨ok, s0, m9, um, lm⟩ := wX
    obtain ⟨⟨pM, pN⟩, pS, pX, p7, sc, sn⟩ := tg_pre hX.1 t m w s77 ww x2 hBx (fun q a b _ _ _ => (xc_t BA a).trans (fA.2.2 q ((pk_co hX.1) q b)))
    have rH : (xc gA 0).1 ≤ h.1 + 1 ∧ (xc gA 0).2.1 ≤ h.2.1 + 6 := ⟨by show gA.1 + 1 ≤ _; omega, by show gA.2.1 + 6 ≤ _; omega⟩
    have n7 : qz_I (xc gA 0) 770 7 ≠ 0 := fun z => s0 (s6.mpr ((p7 7).symm.trans z))
    refine ez_go (n := 6) (pc' := 540) (L' := [(5, .inl (3)), (4, .inl (i)), (0, .inr (.inr (some (0)))), (1, .inr (.inr (some (192)))), (2, .inr (.inr (some (770)))), (3, .inr (.inr (some (805))))]) (st' := [.inl ((i) + (1)), .inr (.inr (some (0))), .inr (.inr (some (770)))]) rfl ?_
    have n20 : 0 ≤ qz_N (xc gA 0) 0 ∧ qz_N (xc gA 0) 0 ≤ 3072 := ez_len hBx t0 tq_34 rfl
    refine ez_aI hBx t0 rfl tq_34 rfl rfl (by omega) (by omega) (fun (b19 : -2147483648 ≤ qz_I (xc gA 0) 0 ((i) + (1)).toNat) (b19' : qz_I (xc gA 0) 0 ((i) + (1)).toNat ≤ 2147483647) => ?_)
    rw [show qz_I (xc gA 0) 0 ((i) + (1)).toNat = qz_I h 0 ((i) + (1)).toNat from sc _, ea1]
    refine ez_go (n := 4) (pc' := 546) (L' := [(5, .inl (3)), (4, .inl (i)), (0, .inr (.inr (some (0)))), (1, .inr (.inr (some (192)))), (2, .inr (.inr (some (770)))), (3, .inr (.inr (some (805))))]) (st' := [.inl ((i) + (2)), .inr (.inr (some (0))), .inl (a1), .inr (.inr (some (770)))]) rfl ?_
    have n22 : 0 ≤ qz_N (xc gA 0) 0 ∧ qz_N (xc gA 0) 0 ≤ 3072 := ez_len hBx t0 tq_34 rfl
    refine ez_aI hBx t0 rfl tq_34 rfl rfl (by omega) (by omega) (fun (b21 : -2147483648 ≤ qz_I (xc gA 0) 0 ((i) + (2)).toNat) (b21' : qz_I (xc gA 0) 0 ((i) + (2)).toNat ≤ 2147483647) => ?_)
    rw [show qz_I (xc gA 0) 0 ((i) + (2)).toNat = qz_I h 0 ((i) + (2)).toNat from sc _, ea2]
    refine ez_go (n := 4) (pc' := 552) (L' := [(5, .inl (3)), (4, .inl (i)), (0, .inr (.inr (some (0)))), (1, .inr (.inr (some (192)))), (2, .inr (.inr (some (770)))), (3, .inr (.inr (some (805))))]) (st' := [.inl ((i) + (3)), .inr (.inr (some (0))), .inl (a2), .inl (a1), .inr (.inr (some (770)))]) rfl ?_
    have n24 : 0 ≤ qz_N (xc gA 0) 0 ∧ qz_N (xc gA 0) 0 ≤ 3072 := ez_len hBx t0 tq_34 rfl
    refine ez_aI hBx t0 rfl tq_34 rfl rfl (by omega) (by omega) (fun (b23 : -2147483648 ≤ qz_I (xc gA 0) 0 ((i) + (3)).toNat) (b23' : qz_I (xc gA 0) 0 ((i) + (3)).toNat ≤ 2147483647) => ?_)
    rw [show qz_I (xc gA 0) 0 ((i) + (3)).toNat = qz_I h 0 ((i) + (3)).toNat from sc _, ea3]
    refine ez_cv hBx t770 rfl rfl rfl tq_75 rfl rfl rfl (rd_mnormal hBx hX.1 pN pS pX ar1 ar2 ar3 (by omega) (by omega) (fun w9 => absurd w9 (by omega)) (fun _ z => absurd z n7) (fun _ _ h1 c1 c2 m8 _ _ g2 τ2 c3 c4 g3 b1 b2 => ez_K1 ?_) (fun _ _ h1 _ _ m8 r8 u8 l8 => absurd (uz_L_uniq um u8) (fun e => by rw [e] at lm; omega)))
    have u770 : τ2 770 = 75 := c4.X hX.1 770 (by decide)
    have u805 : τ2 805 = 35 := c4.X hX.1 805 (by decide)
    have FN := tg_no hb hn (pk_co hX.1) BA fA c2.H c4 c3 b2 b1
    have b0 := b2.2.2
    refine ez_go (n := 2) (pc' := 1213) (L' := [(6, .inl (0)), (5, .inl (3)), (4, .inl (i)), (0, .inr (.inr (some (0)))), (1, .inr (.inr (some (192)))), (2, .inr (.inr (some (770)))), (3, .inr (.inr (some (805))))]) (st' := []) rfl ?_
    refine ez_less [(4, .inl (i)), (0, .inr (.inr (some (0)))), (1, .inr (.inr (some (192)))), (2, .inr (.inr (some (770)))), (3, .inr (.inr (some (805))))] rfl ⟨rfl, rfl, rfl, rfl, rfl, trivial⟩ ?_
    exact k _ _ FN.1 FN.2
  · refine Or.inl ⟨_, τ, gB, rfl, BB, t805, fun hBo => ez_K1 ?_⟩
    obtain ⟨ok, s0, m9, um, lm, nr⟩ := wR
    have t8 : a1.toNat < 8 := by omega
    have ll : res.length ≤ 2000 := by have q1 := tB.1; have q2 := tx_l88 BB ((rU_of hX.1).2 _ t8).2.1; omega
    obtain ⟨⟨pM, pN⟩, pS, pX, p7, sc, sn⟩ := tg_pre hX.1 t m w s77 ww x2 hBo (ow_CH hX.1 t8 (pk_co hX.1) fA fB)
    have rH : (ow gB (res.length : Int)).1 ≤ h.1 + 1 ∧ (ow gB (res.length : Int)).2.1 ≤ h.2.1 + 6 := ⟨by show gB.1 ≤ _; rw [fB.1, fA.1]; omega, by show gB.2.1 ≤ _; rw [fB.2.1, fA.2.1]; omega⟩
    have n7 : qz_I (ow gB (res.length : Int)) 770 7 ≠ 0 := fun z => s0 (s6.mpr ((p7 7).symm.trans z))
    refine ez_go (n := 6) (pc' := 540) (L' := [(5, .inl (0)), (4, .inl (i)), (0, .inr (.inr (some (0)))), (1, .inr (.inr (some (192)))), (2, .inr (.inr (some (770)))), (3, .inr (.inr (some (805))))]) (st' := [.inl ((i) + (1)), .inr (.inr (some (0))), .inr (.inr (some (770)))]) rfl ?_
    have n26 : 0 ≤ qz_N (ow gB (res.length : Int)) 0 ∧ qz_N (ow gB (res.length : Int)) 0 ≤ 3072 := ez_len hBo t0 tq_34 rfl
    refine ez_aI hBo t0 rfl tq_34 rfl rfl (by omega) (by omega) (fun (b25 : -2147483648 ≤ qz_I (ow gB (res.length : Int)) 0 ((i) + (1)).toNat) (b25' : qz_I (ow gB (res.length : Int)) 0 ((i) + (1)).toNat ≤ 2147483647) => ?_)
    rw [show qz_I (ow gB (res.length : Int)) 0 ((i) + (1)).toNat = qz_I h 0 ((i) + (1)).toNat from sc _, ea1]
    refine ez_go (n := 4) (pc' := 546) (L' := [(5, .inl (0)), (4, .inl (i)), (0, .inr (.inr (some (0)))), (1, .inr (.inr (some (192)))), (2, .inr (.inr (some (770)))), (3, .inr (.inr (some (805))))]) (st' := [.inl ((i) + (2)), .inr (.inr (some (0))), .inl (a1), .inr (.inr (some (770)))]) rfl ?_
    have n28 : 0 ≤ qz_N (ow gB (res.length : Int)) 0 ∧ qz_N (ow gB (res.length : Int)) 0 ≤ 3072 := ez_len hBo t0 tq_34 rfl
    refine ez_aI hBo t0 rfl tq_34 rfl rfl (by omega) (by omega) (fun (b27 : -2147483648 ≤ qz_I (ow gB (res.length : Int)) 0 ((i) + (2)).toNat) (b27' : qz_I (ow gB (res.length : Int)) 0 ((i) + (2)).toNat ≤ 2147483647) => ?_)
    rw [show qz_I (ow gB (res.length : Int)) 0 ((i) + (2)).toNat = qz_I h 0 ((i) + (2)).toNat from sc _, ea2]
    refine ez_go (n := 4) (pc' := 552) (L' := [(5, .inl (0)), (4, .inl (i)), (0, .inr (.inr (some (0)))), (1, .inr (.inr (some (192)))), (2, .inr (.inr (some (770)))), (3, .inr (.inr (some (805))))]) (st' := [.inl ((i) + (3)), .inr (.inr (some (0))), .inl (a2), .inl (a1), .inr (.inr (some (770)))]) rfl ?_
    have n30 : 0 ≤ qz_N (ow gB (res.length : Int)) 0 ∧ qz_N (ow gB (res.length : Int)) 0 ≤ 3072 := ez_len hBo t0 tq_34 rfl
    refine ez_aI hBo t0 rfl tq_34 rfl rfl (by omega) (by omega) (fun (b29 : -2147483648 ≤ qz_I (ow gB (res.length : Int)) 0 ((i) + (3)).toNat) (b29' : qz_I (ow gB (res.length : Int)) 0 ((i) + (3)).toNat ≤ 2147483647) => ?_)
    rw [show qz_I (ow gB (res.length : Int)) 0 ((i) + (3)).toNat = qz_I h 0 ((i) + (3)).toNat from sc _, ea3]
    refine ez_cv hBo t770 rfl rfl rfl tq_75 rfl rfl rfl (rd_mnormal hBo hX.1 pN pS pX ar1 ar2 ar3 (by omega) (by omega) (fun w9 => absurd w9 (by omega)) (fun _ z => absurd z n7) (fun _ _ h1 _ _ m8 u8 l8 => absurd (uz_L_uniq um u8) (fun e => by rw [e] at lm; omega)) (fun _ _ h1 c1 c2 m8 r8 u8 _ nr8 _ g2 τ2 c3 c4 _ g3 b1 f3 mx3 => ez_K1 ?_))
    have em := uz_L_uniq um u8
    rw [← em] at nr8
    have er := nfR_u (s77 (fun z => s0 (s6.mpr z))).1.2.2.2 nr nr8
    rw [← er] at mx3 ⊢
    have u770 : τ2 770 = 75 := c4.X hX.1 770 (by decide)
    have u805 : τ2 805 = 35 := c4.X hX.1 805 (by decide)
    have FN := tg_ok hb hn x1 x2 t8 (pk_co hX.1) fA fB tB pl ll c2.H c4 c3 b1 f3 mx3
    have b0 : qz_I g3 770 0 = 0 := (f3.1.I (mx_Pn (by omega) (by decide)) 0).trans ((c4.2.2.1 0 (by decide) (by decide) (by decide)).trans (c2.2.2))
    refine ez_go (n := 2) (pc' := 1213) (L' := [(6, .inl ((res.length : Int))), (5, .inl (0)), (4, .inl (i)), (0, .inr (.inr (some (0)))), (1, .inr (.inr (some (192)))), (2, .inr (.inr (some (770)))), (3, .inr (.inr (some (805))))]) (st' := []) rfl ?_
    refine ez_less [(4, .inl (i)), (0, .inr (.inr (some (0)))), (1, .inr (.inr (some (192)))), (2, .inr (.inr (some (770)))), (3, .inr (.inr (some (805))))] rfl ⟨rfl, rfl, rfl, rfl, rfl, trivial⟩ ?_
    exact k _ _ FN.1 FN.2

theorem lw_join {i : Int} (hb : dz_B tz_T (qz_X rR) τ h) (hn : qz_I h 192 1 = qz_I h 770 2) (i0 : 0 ≤ i) (i1 : i + 6 ≤ qz_N h 0) (i2 : i ≤ 4000) (hr1 : h.1 + 1100 ≤ 600192) (hr2 : h.2.1 + 150100 ≤ 7302232) (k : ∀ τ2 g, dz_B tz_T (qz_X rR) τ2 g → stp h g → ez_W (d + 11) cm_0 1213 [(4, .inl (i)), (0, .inr (.inr (some (0)))), (1, .inr (.inr (some (192)))), (2, .inr (.inr (some (770)))), (3, .inr (.inr (some (805))))] [] g Q) : ez_W (d + 11) cm_0 601 [(4, .inl (i)), (0, .inr (.inr (some (0)))), (1, .inr (.inr (some (192)))), (2, .inr (.inr (some (770)))), (3, .inr (.inr (some (805))))] [] h Q := by
  have hB := dz_ezB hb
  have hX := hb.2.1
  have t0 : τ 0 = 34 := hX.1 0 (by decide)
  have t192 : τ 192 = 44 := hX.1 192 (by decide)
  have t770 : τ 770 = 75 := hX.1 770 (by decide)
  have t805 : τ 805 = 35 := hX.1 805 (by decide)
  obtain ⟨Ls, ⟨t, c, m, w, s6, s77, u, p⟩, ww, ⟨X, x1, x2⟩, q5⟩ := id hX.2.2.2.2
  have hI : jz_I τ h (vF Ls) (vE Ls) := ⟨hB, hX.1, c⟩
  obtain ⟨T, hC⟩ := pz_C_of hI
  have sl := ww.2.1
  refine ez_go (n := 5) (pc' := 607) (L' := [(4, .inl (i)), (0, .inr (.inr (some (0)))), (1, .inr (.inr (some (192)))), (2, .inr (.inr (some (770)))), (3, .inr (.inr (some (805))))]) (st' := [.inl ((i) + (1)), .inr (.inr (some (0))), .inr (.inr (some (192)))]) rfl ?_
  have n2 : 0 ≤ qz_N h 0 ∧ qz_N h 0 ≤ 3072 := ez_len hB t0 tq_34 rfl
  refine ez_aI hB t0 rfl tq_34 rfl rfl (by omega) (by omega) (fun (b1 : -2147483648 ≤ qz_I h 0 ((i) + (1)).toNat) (b1' : qz_I h 0 ((i) + (1)).toNat ≤ 2147483647) => ?_)
  refine ez_go (n := 4) (pc' := 613) (L' := [(4, .inl (i)), (0, .inr (.inr (some (0)))), (1, .inr (.inr (some (192)))), (2, .inr (.inr (some (770)))), (3, .inr (.inr (some (805))))]) (st' := [.inl ((i) + (2)), .inr (.inr (some (0))), .inl (qz_I h 0 ((i) + (1)).toNat), .inr (.inr (some (192)))]) rfl ?_
  have n4 : 0 ≤ qz_N h 0 ∧ qz_N h 0 ≤ 3072 := ez_len hB t0 tq_34 rfl
  refine ez_aI hB t0 rfl tq_34 rfl rfl (by omega) (by omega) (fun (b3 : -2147483648 ≤ qz_I h 0 ((i) + (2)).toNat) (b3' : qz_I h 0 ((i) + (2)).toNat ≤ 2147483647) => ?_)
  refine ez_go (n := 4) (pc' := 619) (L' := [(4, .inl (i)), (0, .inr (.inr (some (0)))), (1, .inr (.inr (some (192)))), (2, .inr (.inr (some (770)))), (3, .inr (.inr (some (805))))]) (st' := [.inl ((i) + (3)), .inr (.inr (some (0))), .inl (qz_I h 0 ((i) + (2)).toNat), .inl (qz_I h 0 ((i) + (1)).toNat), .inr (.inr (some (192)))]) rfl ?_
  have n6 : 0 ≤ qz_N h 0 ∧ qz_N h 0 ≤ 3072 := ez_len hB t0 tq_34 rfl
  refine ez_aI hB t0 rfl tq_34 rfl rfl (by omega) (by omega) (fun (b5 : -2147483648 ≤ qz_I h 0 ((i) + (3)).toNat) (b5' : qz_I h 0 ((i) + (3)).toNat ≤ 2147483647) => ?_)
  refine ez_go (n := 4) (pc' := 625) (L' := [(4, .inl (i)), (0, .inr (.inr (some (0)))), (1, .inr (.inr (some (192)))), (2, .inr (.inr (some (770)))), (3, .inr (.inr (some (805))))]) (st' := [.inl ((i) + (4)), .inr (.inr (some (0))), .inl (qz_I h 0 ((i) + (3)).toNat), .inl (qz_I h 0 ((i) + (2)).toNat), .inl (qz_I h 0 ((i) + (1)).toNat), .inr (.inr (some (192)))]) rfl ?_
  have n8 : 0 ≤ qz_N h 0 ∧ qz_N h 0 ≤ 3072 := ez_len hB t0 tq_34 rfl
  refine ez_aI hB t0 rfl tq_34 rfl rfl (by omega) (by omega) (fun (b7 : -2147483648 ≤ qz_I h 0 ((i) + (4)).toNat) (b7' : qz_I h 0 ((i) + (4)).toNat ≤ 2147483647) => ?_)
  refine ez_go (n := 1) (pc' := 627) (L' := [(4, .inl (i)), (0, .inr (.inr (some (0)))), (1, .inr (.inr (some (192)))), (2, .inr (.inr (some (770)))), (3, .inr (.inr (some (805))))]) (st' := [.inr (.inr (some (805))), .inl (qz_I h 0 ((i) + (4)).toNat), .inl (qz_I h 0 ((i) + (3)).toNat), .inl (qz_I h 0 ((i) + (2)).toNat), .inl (qz_I h 0 ((i) + (1)).toNat), .inr (.inr (some (192)))]) rfl ?_
  have hsl : qz_I h 202 6 ≠ 0 → fD h T (vF Ls) ∧ cP h (vF Ls) (vE Ls) := fun z => by
    obtain ⟨-, q2, q3⟩ := ww.2.2.2.2.1 (fun y => z (s6.mpr y))
    exact ⟨cFl_fD hC q2, q3⟩
  refine ez_cs hB.2.1 rfl rfl rfl rfl rfl (hp_join hB t192 (rd_joinP (d := d + 1) hC w hsl sl x1 ⟨by omega, by omega⟩ ⟨by omega, by omega⟩ ⟨by omega, by omega⟩ ⟨by omega, by omega⟩ (by omega) (by omega)) (fun F hF => ?_))
  generalize ea1 : qz_I h 0 ((i) + (1)).toNat = a1 at *
  have ar1 : ez_rg a1 := ⟨by omega, by omega⟩
  generalize ea2 : qz_I h 0 ((i) + (2)).toNat = a2 at *
  have ar2 : ez_rg a2 := ⟨by omega, by omega⟩
  generalize ea3 : qz_I h 0 ((i) + (3)).toNat = a3 at *
  have ar3 : ez_rg a3 := ⟨by omega, by omega⟩
  generalize ea4 : qz_I h 0 ((i) + (4)).toNat = a4 at *
  have ar4 : ez_rg a4 := ⟨by omega, by omega⟩
  rcases hF with ⟨wA, rfl⟩ | ⟨wS, rfl⟩ | ⟨wX, gA, rfl, BA, fA⟩ | ⟨res, gA, gB, rfl, wR, pl, BA, fA, BB, fB, tB⟩
  · refine Or.inr (Or.inl ⟨_, _, rfl, xc_exc hB rfl, ez_K1 ?_⟩)
    have hBx : ez_B τ (xc h 1) := xc_B hB (by omega) (by omega)
    obtain ⟨⟨pM, pN⟩, pS, pX, p7, sc, sn⟩ := tg_pre hX.1 t m w s77 ww x2 hBx (fun q a _ _ _ _ => xc_t hB a)
    have rH : (xc h 1).1 ≤ h.1 + 1 ∧ (xc h 1).2.1 ≤ h.2.1 + 6 := ⟨Nat.le_refl _, Nat.le_refl _⟩
    refine ez_go (n := 6) (pc' := 638) (L' := [(5, .inl (1)), (4, .inl (i)), (0, .inr (.inr (some (0)))), (1, .inr (.inr (some (192)))), (2, .inr (.inr (some (770)))), (3, .inr (.inr (some (805))))]) (st' := [.inl ((i) + (1)), .inr (.inr (some (0))), .inr (.inr (some (770)))]) rfl ?_
    have n10 : 0 ≤ qz_N (xc h 1) 0 ∧ qz_N (xc h 1) 0 ≤ 3072 := ez_len hBx t0 tq_34 rfl
    refine ez_aI hBx t0 rfl tq_34 rfl rfl (by omega) (by omega) (fun (b9 : -2147483648 ≤ qz_I (xc h 1) 0 ((i) + (1)).toNat) (b9' : qz_I (xc h 1) 0 ((i) + (1)).toNat ≤ 2147483647) => ?_)
    rw [show qz_I (xc h 1) 0 ((i) + (1)).toNat = qz_I h 0 ((i) + (1)).toNat from sc _, ea1]
    refine ez_go (n := 4) (pc' := 644) (L' := [(5, .inl (1)), (4, .inl (i)), (0, .inr (.inr (some (0)))), (1, .inr (.inr (some (192)))), (2, .inr (.inr (some (770)))), (3, .inr (.inr (some (805))))]) (st' := [.inl ((i) + (2)), .inr (.inr (some (0))), .inl (a1), .inr (.inr (some (770)))]) rfl ?_
    have n12 : 0 ≤ qz_N (xc h 1) 0 ∧ qz_N (xc h 1) 0 ≤ 3072 := ez_len hBx t0 tq_34 rfl
    refine ez_aI hBx t0 rfl tq_34 rfl rfl (by omega) (by omega) (fun (b11 : -2147483648 ≤ qz_I (xc h 1) 0 ((i) + (2)).toNat) (b11' : qz_I (xc h 1) 0 ((i) + (2)).toNat ≤ 2147483647) => ?_)
    rw [show qz_I (xc h 1) 0 ((i) + (2)).toNat = qz_I h 0 ((i) + (2)).toNat from sc _, ea2]
    refine ez_go (n := 4) (pc' := 650) (L' := [(5, .inl (1)), (4, .inl (i)), (0, .inr (.inr (some (0)))), (1, .inr (.inr (some (192)))), (2, .inr (.inr (some (770)))), (3, .inr (.inr (some (805))))]) (st' := [.inl ((i) + (3)), .inr (.inr (some (0))), .inl (a2), .inl (a1), .inr (.inr (some (770)))]) rfl ?_
    have n14 : 0 ≤ qz_N (xc h 1) 0 ∧ qz_N (xc h 1) 0 ≤ 3072 := ez_len hBx t0 tq_34 rfl
    refine ez_aI hBx t0 rfl tq_34 rfl rfl (by omega) (by omega) (fun (b13 : -2147483648 ≤ qz_I (xc h 1) 0 ((i) + (3)).toNat) (b13' : qz_I (xc h 1) 0 ((i) + (3)).toNat ≤ 2147483647) => ?_)
    rw [show qz_I (xc h 1) 0 ((i) + (3)).toNat = qz_I h 0 ((i) + (3)).toNat from sc _, ea3]
    refine ez_go (n := 4) (pc' := 656) (L' := [(5, .inl (1)), (4, .inl (i)), (0, .inr (.inr (some (0)))), (1, .inr (.inr (some (192)))), (2, .inr (.inr (some (770)))), (3, .inr (.inr (some (805))))]) (st' := [.inl ((i) + (4)), .inr (.inr (some (0))), .inl (a3), .inl (a2), .inl (a1), .inr (.inr (some (770)))]) rfl ?_
    have n16 : 0 ≤ qz_N (xc h 1) 0 ∧ qz_N (xc h 1) 0 ≤ 3072 := ez_len hBx t0 tq_34 rfl
    refine ez_aI hBx t0 rfl tq_34 rfl rfl (by omega) (by omega) (fun (b15 : -2147483648 ≤ qz_I (xc h 1) 0 ((i) + (4)).toNat) (b15' : qz_I (xc h 1) 0 ((i) + (4)).toNat ≤ 2147483647) => ?_)
    rw [show qz_I (xc h 1) 0 ((i) + (4)).toNat = qz_I h 0 ((i) + (4)).toNat from sc _, ea4]
    refine ez_cv hBx t770 rfl rfl rfl tq_75 rfl rfl rfl (rd_mjoin hBx hX.1 pN pS pX ar1 ar2 ar3 ar4 (by omega) (by omega) (fun _ g3 b1 b2 => ez_K1 ?_) (fun w9 => absurd w9 (by omega)) (fun w9 => absurd w9 (by omega)) (fun w9 => absurd w9 (by omega)) (fun w9 => absurd w9 (by omega)))
    have FN := ref_X hb hn b1 b2.1 b2.2.1
    have b0 := b2.2.2
    refine ez_go (n := 2) (pc' := 1213) (L' := [(6, .inl (0)), (5, .inl (1)), (4, .inl (i)), (0, .inr (.inr (some (0)))), (1, .inr (.inr (some (192)))), (2, .inr (.inr (some (770)))), (3, .inr (.inr (some (805))))]) (st' := []) rfl ?_
    refine ez_less [(4, .inl (i)), (0, .inr (.inr (some (0)))), (1, .inr (.inr (some (192)))), (2, .inr (.inr (some (770)))), (3, .inr (.inr (some (805))))] rfl ⟨rfl, rfl, rfl, rfl, rfl, trivial⟩ ?_
    exact k _ _ FN.1 FN.2
  · refine Or.inr (Or.inr (Or.inl ⟨_, _, rfl, xc_exc hB rfl, ez_K1 ?_⟩))
    have hBx : ez_B τ (xc h 2) := xc_B hB (by omega) (by omega)
    obtain ⟨⟨pM, pN⟩, pS, pX, p7, sc, sn⟩ := tg_pre hX.1 t m w s77 ww x2 hBx (fun q a _ _ _ _ => xc_t hB a)
    have rH : (xc h 2).1 ≤ h.1 + 1 ∧ (xc h 2).2.1 ≤ h.2.1 + 6 := ⟨Nat.le_refl _, Nat.le_refl _⟩
    obtain ⟨ok, s0⟩ := wS
    have n7 : qz_I (xc h 2) 770 7 = 0 := (p7 7).trans (s6.mp s0)
    refine ez_go (n := 6) (pc' := 638) (L' := [(5, .inl (2)), (4, .inl (i)), (0, .inr (.inr (some (0)))), (1, .inr (.inr (some (192)))), (2, .inr (.inr (some (770)))), (3, .inr (.inr (some (805))))]) (st' := [.inl ((i) + (1)), .inr (.inr (some (0))), .inr (.inr (some (770)))]) rfl ?_
    have n18 : 0 ≤ qz_N (xc h 2) 0 ∧ qz_N (xc h 2) 0 ≤ 3072 := ez_len hBx t0 tq_34 rfl
    refine ez_aI hBx t0 rfl tq_34 rfl rfl (by omega) (by omega) (fun (b17 : -2147483648 ≤ qz_I (xc h 2) 0 ((i) + (1)).toNat) (b17' : qz_I (xc h 2) 0 ((i) + (1)).toNat ≤ 2147483647) => ?_)
    rw [show qz_I (xc h 2) 0 ((i) + (1)).toNat = qz_I h 0 ((i) + (1)).toNat from sc _, ea1]
    refine ez_go (n := 4) (pc' := 644) (L' := [(5, .inl (2)), (4, .inl (i)), (0, .inr (.inr (some (0)))), (1, .inr (.inr (some (192)))), (2, .inr (.inr (some (770)))), (3, .inr (.inr (some (805))))]) (st' := [.inl ((i) + (2)), .inr (.inr (some (0))), .inl (a1), .inr (.inr (some (770)))]) rfl ?_
    have n20 : 0 ≤ qz_N (xc h 2) 0 ∧ qz_N (xc h 2) 0 ≤ 3072 := ez_len hBx t0 tq_34 rfl
    refine ez_aI hBx t0 rfl tq_34 rfl rfl (by omega) (by omega) (fun (b19 : -2147483648 ≤ qz_I (xc h 2) 0 ((i) + (2)).toNat) (b19' : qz_I (xc h 2) 0 ((i) + (2)).toNat ≤ 2147483647) => ?_)
    rw [show qz_I (xc h 2) 0 ((i) + (2)).toNat = qz_I h 0 ((i) + (2)).toNat from sc _, ea2]
    refine ez_go (n := 4) (pc' := 650) (L' := [(5, .inl (2)), (4, .inl (i)), (0, .inr (.inr (some (0)))), (1, .inr (.inr (some (192)))), (2, .inr (.inr (some (770)))), (3, .inr (.inr (some (805))))]) (st' := [.inl ((i) + (3)), .inr (.inr (some (0))), .inl (a2), .inl (a1), .inr (.inr (some (770)))]) rfl ?_
    have n22 : 0 ≤ qz_N (xc h 2) 0 ∧ qz_N (xc h 2) 0 ≤ 3072 := ez_len hBx t0 tq_34 rfl
    refine ez_aI hBx t0 rfl tq_34 rfl rfl (by omega) (by omega) (fun (b21 : -2147483648 ≤ qz_I (xc h 2) 0 ((i) + (3)).toNat) (b21' : qz_I (xc h 2) 0 ((i) + (3)).toNat ≤ 2147483647) => ?_)
    rw [show qz_I (xc h 2) 0 ((i) + (3)).toNat = qz_I h 0 ((i) + (3)).toNat from sc _, ea3]
    refine ez_go (n := 4) (pc' := 656) (L' := [(5, .inl (2)), (4, .inl (i)), (0, .inr (.inr (some (0)))), (1, .inr (.inr (some (192)))), (2, .inr (.inr (some (770)))), (3, .inr (.inr (some (805))))]) (st' := [.inl ((i) + (4)), .inr (.inr (some (0))), .inl (a3), .inl (a2), .inl (a1), .inr (.inr (some (770)))]) rfl ?_
    have n24 : 0 ≤ qz_N (xc h 2) 0 ∧ qz_N (xc h 2) 0 ≤ 3072 := ez_len hBx t0 tq_34 rfl
    refine ez_aI hBx t0 rfl tq_34 rfl rfl (by omega) (by omega) (fun (b23 : -2147483648 ≤ qz_I (xc h 2) 0 ((i) + (4)).toNat) (b23' : qz_I (xc h 2) 0 ((i) + (4)).toNat ≤ 2147483647) => ?_)
    rw [show qz_I (xc h 2) 0 ((i) + (4)).toNat = qz_I h 0 ((i) + (4)).toNat from sc _, ea4]
    refine ez_cv hBx t770 rfl rfl rfl tq_75 rfl rfl rfl (rd_mjoin hBx hX.1 pN pS pX ar1 ar2 ar3 ar4 (by omega) (by omega) (fun w9 => absurd w9 (by omega)) (fun _ _ g3 b1 b2 => ez_K1 ?_) (fun _ z => absurd n7 z) (fun _ z => absurd n7 z) (fun _ z => absurd n7 z))
    have FN := ref_X hb hn b1 b2.1 b2.2.1
    have b0 := b2.2.2
    refine ez_go (n := 2) (pc' := 1213) (L' := [(6, .inl (0)), (5, .inl (2)), (4, .inl (i)), (0, .inr (.inr (some (0)))), (1, .inr (.inr (some (192)))), (2, .inr (.inr (some (770)))), (3, .inr (.inr (some (805))))]) (st' := []) rfl ?_
    refine ez_less [(4, .inl (i)), (0, .inr (.inr (some (0)))), (1, .inr (.inr (some (192)))), (2, .inr (.inr (some (770)))), (3, .inr (.inr (some (805))))] rfl ⟨rfl, rfl, rfl, rfl, rfl, trivial⟩ ?_
    exact k _ _ FN.1 FN.2
  · have cA1 := fA.1; have cA2 := fA.2.1
    refine Or.inr (Or.inr (Or.inr ⟨_, _, rfl, xc_exc BA rfl, ez_K1 ?_⟩))
    have hBx : ez_B τ (xc gA 0) := xc_B BA (by omega) (by omega)
    obtain ⟨ok, s0, m9, um, lm⟩ := wX
    obtain ⟨⟨pM, pN⟩, pS, pX, p7, sc, sn⟩ := tg_pre hX.1 t m w s77 ww x2 hBx (fun q a b _ _ _ => (xc_t BA a).trans (fA.2.2 q ((pk_co hX.1) q b)))
    have rH : (xc gA 0).1 ≤ h.1 + 1 ∧ (xc gA 0).2.1 ≤ h.2.1 + 6 := ⟨by show gA.1 + 1 ≤ _; omega, by show gA.2.1 + 6 ≤ _; omega⟩
    have n7 : qz_I (xc gA 0) 770 7 ≠ 0 := fun z => s0 (s6.mpr ((p7 7).symm.trans z))
    refine ez_go (n := 6) (pc' := 638) (L' := [(5, .inl (3)), (4, .inl (i)), (0, .inr (.inr (some (0)))), (1, .inr (.inr (some (192)))), (2, .inr (.inr (some (770)))), (3, .inr (.inr (some (805))))]) (st' := [.inl ((i) + (1)), .inr (.inr (some (0))), .inr (.inr (some (770)))]) rfl ?_
    have n26 : 0 ≤ qz_N (xc gA 0) 0 ∧ qz_N (xc gA 0) 0 ≤ 3072 := ez_len hBx t0 tq_34 rfl
    refine ez_aI hBx t0 rfl tq_34 rfl rfl (by omega) (by omega) (fun (b25 : -2147483648 ≤ qz_I (xc gA 0) 0 ((i) + (1)).toNat) (b25' : qz_I (xc gA 0) 0 ((i) + (1)).toNat ≤ 2147483647) => ?_)
    rw [show qz_I (xc gA 0) 0 ((i) + (1)).toNat = qz_I h 0 ((i) + (1)).toNat from sc _, ea1]
    refine ez_go (n := 4) (pc' := 644) (L' := [(5, .inl (3)), (4, .inl (i)), (0, .inr (.inr (some (0)))), (1, .inr (.inr (some (192)))), (2, .inr (.inr (some (770)))), (3, .inr (.inr (some (805))))]) (st' := [.inl ((i) + (2)), .inr (.inr (some (0))), .inl (a1), .inr (.inr (some (770)))]) rfl ?_
    have n28 : 0 ≤ qz_N (xc gA 0) 0 ∧ qz_N (xc gA 0) 0 ≤ 3072 := ez_len hBx t0 tq_34 rfl
    refine ez_aI hBx t0 rfl tq_34 rfl rfl (by omega) (by omega) (fun (b27 : -2147483648 ≤ qz_I (xc gA 0) 0 ((i) + (2)).toNat) (b27' : qz_I (xc gA 0) 0 ((i) + (2)).toNat ≤ 2147483647) => ?_)
    rw [show qz_I (xc gA 0) 0 ((i) + (2)).toNat = qz_I h 0 ((i) + (2)).toNat from sc _, ea2]
    refine ez_go (n := 4) (pc' := 650) (L' := [(5, .inl (3)), (4, .inl (i)), (0, .inr (.inr (some (0)))), (1, .inr (.inr (some (192)))), (2, .inr (.inr (some (770)))), (3, .inr (.inr (some (805))))]) (st' := [.inl ((i) + (3)), .inr (.inr (some (0))), .inl (a2), .inl (a1), .inr (.inr (some (770)))]) rfl ?_
    have n30 : 0 ≤ qz_N (xc gA 0) 0 ∧ qz_N (xc gA 0) 0 ≤ 3072 := ez_len hBx t0 tq_34 rfl
    refine ez_aI hBx t0 rfl tq_34 rfl rfl (by omega) (by omega) (fun (b29 : -2147483648 ≤ qz_I (xc gA 0) 0 ((i) + (3)).toNat) (b29' : qz_I (xc gA 0) 0 ((i) + (3)).toNat ≤ 2147483647) => ?_)
    rw [show qz_I (xc gA 0) 0 ((i) + (3)).toNat = qz_I h 0 ((i) + (3)).toNat from sc _, ea3]
    refine ez_go (n := 4) (pc' := 656) (L' := [(5, .inl (3)), (4, .inl (i)), (0, .inr (.inr (some (0)))), (1, .inr (.inr (some (192)))), (2, .inr (.inr (some (770)))), (3, .inr (.inr (some (805))))]) (st' := [.inl ((i) + (4)), .inr (.inr (some (0))), .inl (a3), .inl (a2), .inl (a1), .inr (.inr (some (770)))]) rfl ?_
    have n32 : 0 ≤ qz_N (xc gA 0) 0 ∧ qz_N (xc gA 0) 0 ≤ 3072 := ez_len hBx t0 tq_34 rfl
    refine ez_aI hBx t0 rfl tq_34 rfl rfl (by omega) (by omega) (fun (b31 : -2147483648 ≤ qz_I (xc gA 0) 0 ((i) + (4)).toNat) (b31' : qz_I (xc gA 0) 0 ((i) + (4)).toNat ≤ 2147483647) => ?_)
    rw [show qz_I (xc gA 0) 0 ((i) + (4)).toNat = qz_I h 0 ((i) + (4)).toNat from sc _, ea4]
    refine ez_cv hBx t770 rfl rfl rfl tq_75 rfl rfl rfl (rd_mjoin hBx hX.1 pN pS pX ar1 ar2 ar3 ar4 (by omega) (by omega) (fun w9 => absurd w9 (by omega)) (fun _ z => absurd z n7) (fun _ _ _ g3 b1 b2 => ez_K1 ?_) (fun _ _ h1 c1 c2 h2 c5 c6 m8 _ _ g2 τ2 c3 c4 g3 b1 b2 => ez_K1 ?_) (fun _ _ h1 _ _ _ _ _ m8 r8 u8 l8 => absurd (uz_L_uniq um u8) (fun e => by rw [e] at lm; omega)))
    · skip
      have FN := tg_nl hb hn (pk_co hX.1) BA fA b2 b1
      have b0 := b2.2.2
      refine ez_go (n := 2) (pc' := 1213) (L' := [(6, .inl (0)), (5, .inl (3)), (4, .inl (i)), (0, .inr (.inr (some (0)))), (1, .inr (.inr (some (192)))), (2, .inr (.inr (some (770)))), (3, .inr (.inr (some (805))))]) (st' := []) rfl ?_
      refine ez_less [(4, .inl (i)), (0, .inr (.inr (some (0)))), (1, .inr (.inr (some (192)))), (2, .inr (.inr (some (770)))), (3, .inr (.inr (some (805))))] rfl ⟨rfl, rfl, rfl, rfl, rfl, trivial⟩ ?_
      exact k _ _ FN.1 FN.2
    · skip
      have u770 : τ2 770 = 75 := c4.X hX.1 770 (by decide)
      have u805 : τ2 805 = 35 := c4.X hX.1 805 (by decide)
      have FN := tg_no hb hn (pk_co hX.1) BA fA (mF.H7 c2 c6) c4 c3 b2 b1
      have b0 := b2.2.2
      refine ez_go (n := 2) (pc' := 1213) (L' := [(6, .inl (0)), (5, .inl (3)), (4, .inl (i)), (0, .inr (.inr (some (0)))), (1, .inr (.inr (some (192)))), (2, .inr (.inr (some (770)))), (3, .inr (.inr (some (805))))]) (st' := []) rfl ?_
      refine ez_less [(4, .inl (i)), (0, .inr (.inr (some (0)))), (1, .inr (.inr (some (192)))), (2, .inr (.inr (some (770)))), (3, .inr (.inr (some (805))))] rfl ⟨rfl, rfl, rfl, rfl, rfl, trivial⟩ ?_
      exact k _ _ FN.1 FN.2
  · refine Or.inl ⟨_, τ, gB, rfl, BB, t805, fun hBo => ez_K1 ?_⟩
    obtain ⟨ok, s0, m9, um, lm, nr⟩ := wR
    have t8 : a1.toNat < 8 := by omega
    have ll : res.length ≤ 2000 := by have q1 := tB.1; have q2 := tx_l88 BB ((rU_of hX.1).2 _ t8).2.1; omega
    obtain ⟨⟨pM, pN⟩, pS, pX, p7, sc, sn⟩ := tg_pre hX.1 t m w s77 ww x2 hBo (ow_CH hX.1 t8 (pk_co hX.1) fA fB)
    have rH : (ow gB (res.length : Int)).1 ≤ h.1 + 1 ∧ (ow gB (res.length : Int)).2.1 ≤ h.2.1 + 6 := ⟨by show gB.1 ≤ _; rw [fB.1, fA.1]; omega, by show gB.2.1 ≤ _; rw [fB.2.1, fA.2.1]; omega⟩
    have n7 : qz_I (ow gB (res.length : Int)) 770 7 ≠ 0 := fun z => s0 (s6.mpr ((p7 7).symm.trans z))
    refine ez_go (n := 6) (pc' := 638) (L' := [(5, .inl (0)), (4, .inl (i)), (0, .inr (.inr (some (0)))), (1, .inr (.inr (some (192)))), (2, .inr (.inr (some (770)))), (3, .inr (.inr (some (805))))]) (st' := [.inl ((i) + (1)), .inr (.inr (some (0))), .inr (.inr (some (770)))]) rfl ?_
    have n34 : 0 ≤ qz_N (ow gB (res.length : Int)) 0 ∧ qz_N (ow gB (res.length : Int)) 0 ≤ 3072 := ez_len hBo t0 tq_34 rfl
    refine ez_aI hBo t0 rfl tq_34 rfl rfl (by omega) (by omega) (fun (b33 : -2147483648 ≤ qz_I (ow gB (res.length : Int)) 0 ((i) + (1)).toNat) (b33' : qz_I (ow gB (res.length : Int)) 0 ((i) + (1)).toNat ≤ 2147483647) => ?_)
    rw [show qz_I (ow gB (res.length : Int)) 0 ((i) + (1)).toNat = qz_I h 0 ((i) + (1)).toNat from sc _, ea1]
    refine ez_go (n := 4) (pc' := 644) (L' := [(5, .inl (0)), (4, .inl (i)), (0, .inr (.inr (some (0)))), (1, .inr (.inr (some (192)))), (2, .inr (.inr (some (770)))), (3, .inr (.inr (some (805))))]) (st' := [.inl ((i) + (2)), .inr (.inr (some (0))), .inl (a1), .inr (.inr (some (770)))]) rfl ?_
    have n36 : 0 ≤ qz_N (ow gB (res.length : Int)) 0 ∧ qz_N (ow gB (res.length : Int)) 0 ≤ 3072 := ez_len hBo t0 tq_34 rfl
    refine ez_aI hBo t0 rfl tq_34 rfl rfl (by omega) (by omega) (fun (b35 : -2147483648 ≤ qz_I (ow gB (res.length : Int)) 0 ((i) + (2)).toNat) (b35' : qz_I (ow gB (res.length : Int)) 0 ((i) + (2)).toNat ≤ 2147483647) => ?_)
    rw [show qz_I (ow gB (res.length : Int)) 0 ((i) + (2)).toNat = qz_I h 0 ((i) + (2)).toNat from sc _, ea2]
    refine ez_go (n := 4) (pc' := 650) (L' := [(5, .inl (0)), (4, .inl (i)), (0, .inr (.inr (some (0)))), (1, .inr (.inr (some (192)))), (2, .inr (.inr (some (770)))), (3, .inr (.inr (some (805))))]) (st' := [.inl ((i) + (3)), .inr (.inr (some (0))), .inl (a2), .inl (a1), .inr (.inr (some (770)))]) rfl ?_
    have n38 : 0 ≤ qz_N (ow gB (res.length : Int)) 0 ∧ qz_N (ow gB (res.length : Int)) 0 ≤ 3072 := ez_len hBo t0 tq_34 rfl
    refine ez_aI hBo t0 rfl tq_34 rfl rfl (by omega) (by omega) (fun (b37 : -2147483648 ≤ qz_I (ow gB (res.length : Int)) 0 ((i) + (3)).toNat) (b37' : qz_I (ow gB (res.length : Int)) 0 ((i) + (3)).toNat ≤ 2147483647) => ?_)
    rw [show qz_I (ow gB (res.length : Int)) 0 ((i) + (3)).toNat = qz_I h 0 ((i) + (3)).toNat from sc _, ea3]
    refine ez_go (n := 4) (pc' := 656) (L' := [(5, .inl (0)), (4, .inl (i)), (0, .inr (.inr (some (0)))), (1, .inr (.inr (some (192)))), (2, .inr (.inr (some (770)))), (3, .inr (.inr (some (805))))]) (st' := [.inl ((i) + (4)), .inr (.inr (some (0))), .inl (a3), .inl (a2), .inl (a1), .inr (.inr (some (770)))]) rfl ?_
    have n40 : 0 ≤ qz_N (ow gB (res.length : Int)) 0 ∧ qz_N (ow gB (res.length : Int)) 0 ≤ 3072 := ez_len hBo t0 tq_34 rfl
    refine ez_aI hBo t0 rfl tq_34 rfl rfl (by omega) (by omega) (fun (b39 : -2147483648 ≤ qz_I (ow gB (res.length : Int)) 0 ((i) + (4)).toNat) (b39' : qz_I (ow gB (res.length : Int)) 0 ((i) + (4)).toNat ≤ 2147483647) => ?_)
    rw [show qz_I (ow gB (res.length : Int)) 0 ((i) + (4)).toNat = qz_I h 0 ((i) + (4)).toNat from sc _, ea4]
    refine ez_cv hBo t770 rfl rfl rfl tq_75 rfl rfl rfl (rd_mjoin hBo hX.1 pN pS pX ar1 ar2 ar3 ar4 (by omega) (by omega) (fun w9 => absurd w9 (by omega)) (fun _ z => absurd z n7) (fun _ _ l8 => absurd (uz_FL_len w um) (by rw [List.length_append]; omega)) (fun _ _ h1 _ _ _ _ _ m8 u8 l8 => absurd (uz_L_uniq um u8) (fun e => by rw [e] at lm; omega)) (fun _ _ h1 c1 c2 h2 c5 c6 m8 r8 u8 _ nr8 _ g2 τ2 c3 c4 _ g3 b1 f3 mx3 => ez_K1 ?_))
    have em := uz_L_uniq um u8
    rw [← em] at nr8
    have er := nfR_u (s77 (fun z => s0 (s6.mpr z))).1.2.2.2 nr nr8
    rw [← er] at mx3 ⊢
    have u770 : τ2 770 = 75 := c4.X hX.1 770 (by decide)
    have u805 : τ2 805 = 35 := c4.X hX.1 805 (by decide)
    have FN := tg_ok hb hn x1 x2 t8 (pk_co hX.1) fA fB tB pl ll (mF.H7 c2 c6) c4 c3 b1 f3 mx3
    have b0 : qz_I g3 770 0 = 0 := (f3.1.I (mx_Pn (by omega) (by decide)) 0).trans ((c4.2.2.1 0 (by decide) (by decide) (by decide)).trans ((c6.I rfl 0).trans c2.2.2))
    refine ez_go (n := 2) (pc' := 1213) (L' := [(6, .inl ((res.length : Int))), (5, .inl (0)), (4, .inl (i)), (0, .inr (.inr (some (0)))), (1, .inr (.inr (some (192)))), (2, .inr (.inr (some (770)))), (3, .inr (.inr (some (805))))]) (st' := []) rfl ?_
    refine ez_less [(4, .inl (i)), (0, .inr (.inr (some (0)))), (1, .inr (.inr (some (192)))), (2, .inr (.inr (some (770)))), (3, .inr (.inr (some (805))))] rfl ⟨rfl, rfl, rfl, rfl, rfl, trivial⟩ ?_
    exact k _ _ FN.1 FN.2

theorem lw_change {i : Int} (hb : dz_B tz_T (qz_X rR) τ h) (hn : qz_I h 192 1 = qz_I h 770 2) (i0 : 0 ≤ i) (i1 : i + 6 ≤ qz_N h 0) (i2 : i ≤ 4000) (hr1 : h.1 + 1100 ≤ 600192) (hr2 : h.2.1 + 150100 ≤ 7302232) (k : ∀ τ2 g, dz_B tz_T (qz_X rR) τ2 g → stp h g → ez_W (d + 11) cm_0 1213 [(4, .inl (i)), (0, .inr (.inr (some (0)))), (1, .inr (.inr (some (192)))), (2, .inr (.inr (some (770)))), (3, .inr (.inr (some (805))))] [] g Q) : ez_W (d + 11) cm_0 665 [(4, .inl (i)), (0, .inr (.inr (some (0)))), (1, .inr (.inr (some (192)))), (2, .inr (.inr (some (770)))), (3, .inr (.inr (some (805))))] [] h Q := by
  have hB := dz_ezB hb
  have hX := hb.2.1
  have t0 : τ 0 = 34 := hX.1 0 (by decide)
  have t192 : τ 192 = 44 := hX.1 192 (by decide)
  have t770 : τ 770 = 75 := hX.1 770 (by decide)
  have t805 : τ 805 = 35 := hX.1 805 (by decide)
  obtain ⟨Ls, ⟨t, c, m, w, s6, s77, u, p⟩, ww, ⟨X, x1, x2⟩, q5⟩ := id hX.2.2.2.2
  have hI : jz_I τ h (vF Ls) (vE Ls) := ⟨hB, hX.1, c⟩
  obtain ⟨T, hC⟩ := pz_C_of hI
  have sl := ww.2.1
  refine ez_go (n := 5) (pc' := 671) (L' := [(4, .inl (i)), (0, .inr (.inr (some (0)))), (1, .inr (.inr (some (192)))), (2, .inr (.inr (some (770)))), (3, .inr (.inr (some (805))))]) (st' := [.inl ((i) + (1)), .inr (.inr (some (0))), .inr (.inr (some (192)))]) rfl ?_
  have n2 : 0 ≤ qz_N h 0 ∧ qz_N h 0 ≤ 3072 := ez_len hB t0 tq_34 rfl
  refine ez_aI hB t0 rfl tq_34 rfl rfl (by omega) (by omega) (fun (b1 : -2147483648 ≤ qz_I h 0 ((i) + (1)).toNat) (b1' : qz_I h 0 ((i) + (1)).toNat ≤ 2147483647) => ?_)
  refine ez_go (n := 4) (pc' := 677) (L' := [(4, .inl (i)), (0, .inr (.inr (some (0)))), (1, .inr (.inr (some (192)))), (2, .inr (.inr (some (770)))), (3, .inr (.inr (some (805))))]) (st' := [.inl ((i) + (2)), .inr (.inr (some (0))), .inl (qz_I h 0 ((i) + (1)).toNat), .inr (.inr (some (192)))]) rfl ?_
  have n4 : 0 ≤ qz_N h 0 ∧ qz_N h 0 ≤ 3072 := ez_len hB t0 tq_34 rfl
  refine ez_aI hB t0 rfl tq_34 rfl rfl (by omega) (by omega) (fun (b3 : -2147483648 ≤ qz_I h 0 ((i) + (2)).toNat) (b3' : qz_I h 0 ((i) + (2)).toNat ≤ 2147483647) => ?_)
  refine ez_go (n := 4) (pc' := 683) (L' := [(4, .inl (i)), (0, .inr (.inr (some (0)))), (1, .inr (.inr (some (192)))), (2, .inr (.inr (some (770)))), (3, .inr (.inr (some (805))))]) (st' := [.inl ((i) + (3)), .inr (.inr (some (0))), .inl (qz_I h 0 ((i) + (2)).toNat), .inl (qz_I h 0 ((i) + (1)).toNat), .inr (.inr (some (192)))]) rfl ?_
  have n6 : 0 ≤ qz_N h 0 ∧ qz_N h 0 ≤ 3072 := ez_len hB t0 tq_34 rfl
  refine ez_aI hB t0 rfl tq_34 rfl rfl (by omega) (by omega) (fun (b5 : -2147483648 ≤ qz_I h 0 ((i) + (3)).toNat) (b5' : qz_I h 0 ((i) + (3)).toNat ≤ 2147483647) => ?_)
  refine ez_go (n := 4) (pc' := 689) (L' := [(4, .inl (i)), (0, .inr (.inr (some (0)))), (1, .inr (.inr (some (192)))), (2, .inr (.inr (some (770)))), (3, .inr (.inr (some (805))))]) (st' := [.inl ((i) + (4)), .inr (.inr (some (0))), .inl (qz_I h 0 ((i) + (3)).toNat), .inl (qz_I h 0 ((i) + (2)).toNat), .inl (qz_I h 0 ((i) + (1)).toNat), .inr (.inr (some (192)))]) rfl ?_
  have n8 : 0 ≤ qz_N h 0 ∧ qz_N h 0 ≤ 3072 := ez_len hB t0 tq_34 rfl
  refine ez_aI hB t0 rfl tq_34 rfl rfl (by omega) (by omega) (fun (b7 : -2147483648 ≤ qz_I h 0 ((i) + (4)).toNat) (b7' : qz_I h 0 ((i) + (4)).toNat ≤ 2147483647) => ?_)
  refine ez_go (n := 1) (pc' := 691) (L' := [(4, .inl (i)), (0, .inr (.inr (some (0)))), (1, .inr (.inr (some (192)))), (2, .inr (.inr (some (770)))), (3, .inr (.inr (some (805))))]) (st' := [.inr (.inr (some (805))), .inl (qz_I h 0 ((i) + (4)).toNat), .inl (qz_I h 0 ((i) + (3)).toNat), .inl (qz_I h 0 ((i) + (2)).toNat), .inl (qz_I h 0 ((i) + (1)).toNat), .inr (.inr (some (192)))]) rfl ?_
  obtain ⟨O9, hx9⟩ := ww.2.2.1
  refine ez_cs hB.2.1 rfl rfl rfl rfl rfl (hp_change hB t192 (rd_changeP (d := d + 1) hC hx9 ww.2.2.2.1 sl x1 ⟨by omega, by omega⟩ ⟨by omega, by omega⟩ ⟨by omega, by omega⟩ ⟨by omega, by omega⟩ (by omega) (by omega)) (fun F hF => ?_))
  generalize ea1 : qz_I h 0 ((i) + (1)).toNat = a1 at *
  have ar1 : ez_rg a1 := ⟨by omega, by omega⟩
  generalize ea2 : qz_I h 0 ((i) + (2)).toNat = a2 at *
  have ar2 : ez_rg a2 := ⟨by omega, by omega⟩
  generalize ea3 : qz_I h 0 ((i) + (3)).toNat = a3 at *
  have ar3 : ez_rg a3 := ⟨by omega, by omega⟩
  generalize ea4 : qz_I h 0 ((i) + (4)).toNat = a4 at *
  have ar4 : ez_rg a4 := ⟨by omega, by omega⟩
  rcases hF with ⟨wA, rfl⟩ | ⟨wS, rfl⟩ | ⟨wX, gA, rfl, BA, fA⟩ | ⟨res, gA, gB, rfl, wR, pl, BA, fA, BB, fB, tB⟩
  · refine Or.inr (Or.inl ⟨_, _, rfl, xc_exc hB rfl, ez_K1 ?_⟩)
    have hBx : ez_B τ (xc h 1) := xc_B hB (by omega) (by omega)
    obtain ⟨⟨pM, pN⟩, pS, pX, p7, sc, sn⟩ := tg_pre hX.1 t m w s77 ww x2 hBx (fun q a _ _ _ _ => xc_t hB a)
    have rH : (xc h 1).1 ≤ h.1 + 1 ∧ (xc h 1).2.1 ≤ h.2.1 + 6 := ⟨Nat.le_refl _, Nat.le_refl _⟩
    refine ez_go (n := 6) (pc' := 702) (L' := [(5, .inl (1)), (4, .inl (i)), (0, .inr (.inr (some (0)))), (1, .inr (.inr (some (192)))), (2, .inr (.inr (some (770)))), (3, .inr (.inr (some (805))))]) (st' := [.inl ((i) + (1)), .inr (.inr (some (0))), .inr (.inr (some (770)))]) rfl ?_
    have n10 : 0 ≤ qz_N (xc h 1) 0 ∧ qz_N (xc h 1) 0 ≤ 3072 := ez_len hBx t0 tq_34 rfl
    refine ez_aI hBx t0 rfl tq_34 rfl rfl (by omega) (by omega) (fun (b9 : -2147483648 ≤ qz_I (xc h 1) 0 ((i) + (1)).toNat) (b9' : qz_I (xc h 1) 0 ((i) + (1)).toNat ≤ 2147483647) => ?_)
    rw [show qz_I (xc h 1) 0 ((i) + (1)).toNat = qz_I h 0 ((i) + (1)).toNat from sc _, ea1]
    refine ez_go (n := 4) (pc' := 708) (L' := [(5, .inl (1)), (4, .inl (i)), (0, .inr (.inr (some (0)))), (1, .inr (.inr (some (192)))), (2, .inr (.inr (some (770)))), (3, .inr (.inr (some (805))))]) (st' := [.inl ((i) + (2)), .inr (.inr (some (0))), .inl (a1), .inr (.inr (some (770)))]) rfl ?_
    have n12 : 0 ≤ qz_N (xc h 1) 0 ∧ qz_N (xc h 1) 0 ≤ 3072 := ez_len hBx t0 tq_34 rfl
    refine ez_aI hBx t0 rfl tq_34 rfl rfl (by omega) (by omega) (fun (b11 : -2147483648 ≤ qz_I (xc h 1) 0 ((i) + (2)).toNat) (b11' : qz_I (xc h 1) 0 ((i) + (2)).toNat ≤ 2147483647) => ?_)
    rw [show qz_I (xc h 1) 0 ((i) + (2)).toNat = qz_I h 0 ((i) + (2)).toNat from sc _, ea2]
    refine ez_go (n := 4) (pc' := 714) (L' := [(5, .inl (1)), (4, .inl (i)), (0, .inr (.inr (some (0)))), (1, .inr (.inr (some (192)))), (2, .inr (.inr (some (770)))), (3, .inr (.inr (some (805))))]) (st' := [.inl ((i) + (3)), .inr (.inr (some (0))), .inl (a2), .inl (a1), .inr (.inr (some (770)))]) rfl ?_
    have n14 : 0 ≤ qz_N (xc h 1) 0 ∧ qz_N (xc h 1) 0 ≤ 3072 := ez_len hBx t0 tq_34 rfl
    refine ez_aI hBx t0 rfl tq_34 rfl rfl (by omega) (by omega) (fun (b13 : -2147483648 ≤ qz_I (xc h 1) 0 ((i) + (3)).toNat) (b13' : qz_I (xc h 1) 0 ((i) + (3)).toNat ≤ 2147483647) => ?_)
    rw [show qz_I (xc h 1) 0 ((i) + (3)).toNat = qz_I h 0 ((i) + (3)).toNat from sc _, ea3]
    refine ez_go (n := 4) (pc' := 720) (L' := [(5, .inl (1)), (4, .inl (i)), (0, .inr (.inr (some (0)))), (1, .inr (.inr (some (192)))), (2, .inr (.inr (some (770)))), (3, .inr (.inr (some (805))))]) (st' := [.inl ((i) + (4)), .inr (.inr (some (0))), .inl (a3), .inl (a2), .inl (a1), .inr (.inr (some (770)))]) rfl ?_
    have n16 : 0 ≤ qz_N (xc h 1) 0 ∧ qz_N (xc h 1) 0 ≤ 3072 := ez_len hBx t0 tq_34 rfl
    refine ez_aI hBx t0 rfl tq_34 rfl rfl (by omega) (by omega) (fun (b15 : -2147483648 ≤ qz_I (xc h 1) 0 ((i) + (4)).toNat) (b15' : qz_I (xc h 1) 0 ((i) + (4)).toNat ≤ 2147483647) => ?_)
    rw [show qz_I (xc h 1) 0 ((i) + (4)).toNat = qz_I h 0 ((i) + (4)).toNat from sc _, ea4]
    refine ez_cv hBx t770 rfl rfl rfl tq_75 rfl rfl rfl (rd_mchange pM pS pX ww.2.2.2.1 ar1 ar2 ar3 ar4 (by omega) (by omega) (fun _ g3 b1 b2 => ez_K1 ?_) (fun w9 => absurd w9 (by omega)) (fun w9 => absurd w9 (by omega)) (fun w9 => absurd w9 (by omega)))
    have FN := ref_X hb hn b1 b2.1 b2.2.1
    have b0 := b2.2.2
    refine ez_go (n := 2) (pc' := 1213) (L' := [(6, .inl (0)), (5, .inl (1)), (4, .inl (i)), (0, .inr (.inr (some (0)))), (1, .inr (.inr (some (192)))), (2, .inr (.inr (some (770)))), (3, .inr (.inr (some (805))))]) (st' := []) rfl ?_
    refine ez_less [(4, .inl (i)), (0, .inr (.inr (some (0)))), (1, .inr (.inr (some (192)))), (2, .inr (.inr (some (770)))), (3, .inr (.inr (some (805))))] rfl ⟨rfl, rfl, rfl, rfl, rfl, trivial⟩ ?_
    exact k _ _ FN.1 FN.2
  · refine Or.inr (Or.inr (Or.inl ⟨_, _, rfl, xc_exc hB rfl, ez_K1 ?_⟩))
    have hBx : ez_B τ (xc h 2) := xc_B hB (by omega) (by omega)
    obtain ⟨⟨pM, pN⟩, pS, pX, p7, sc, sn⟩ := tg_pre hX.1 t m w s77 ww x2 hBx (fun q a _ _ _ _ => xc_t hB a)
    have rH : (xc h 2).1 ≤ h.1 + 1 ∧ (xc h 2).2.1 ≤ h.2.1 + 6 := ⟨Nat.le_refl _, Nat.le_refl _⟩
    obtain ⟨ok, s0⟩ := wS
    have n7 : qz_I (xc h 2) 770 7 = 0 := (p7 7).trans (s6.mp s0)
    refine ez_go (n := 6) (pc' := 702) (L' := [(5, .inl (2)), (4, .inl (i)), (0, .inr (.inr (some (0)))), (1, .inr (.inr (some (192)))), (2, .inr (.inr (some (770)))), (3, .inr (.inr (some (805))))]) (st' := [.inl ((i) + (1)), .inr (.inr (some (0))), .inr (.inr (some (770)))]) rfl ?_
    have n18 : 0 ≤ qz_N (xc h 2) 0 ∧ qz_N (xc h 2) 0 ≤ 3072 := ez_len hBx t0 tq_34 rfl
    refine ez_aI hBx t0 rfl tq_34 rfl rfl (by omega) (by omega) (fun (b17 : -2147483648 ≤ qz_I (xc h 2) 0 ((i) + (1)).toNat) (b17' : qz_I (xc h 2) 0 ((i) + (1)).toNat ≤ 2147483647) => ?_)
    rw [show qz_I (xc h 2) 0 ((i) + (1)).toNat = qz_I h 0 ((i) + (1)).toNat from sc _, ea1]
    refine ez_go (n := 4) (pc' := 708) (L' := [(5, .inl (2)), (4, .inl (i)), (0, .inr (.inr (some (0)))), (1, .inr (.inr (some (192)))), (2, .inr (.inr (some (770)))), (3, .inr (.inr (some (805))))]) (st' := [.inl ((i) + (2)), .inr (.inr (some (0))), .inl (a1), .inr (.inr (some (770)))]) rfl ?_
    have n20 : 0 ≤ qz_N (xc h 2) 0 ∧ qz_N (xc h 2) 0 ≤ 3072 := ez_len hBx t0 tq_34 rfl
    refine ez_aI hBx t0 rfl tq_34 rfl rfl (by omega) (by omega) (fun (b19 : -2147483648 ≤ qz_I (xc h 2) 0 ((i) + (2)).toNat) (b19' : qz_I (xc h 2) 0 ((i) + (2)).toNat ≤ 2147483647) => ?_)
    rw [show qz_I (xc h 2) 0 ((i) + (2)).toNat = qz_I h 0 ((i) + (2)).toNat from sc _, ea2]
    refine ez_go (n := 4) (pc' := 714) (L' := [(5, .inl (2)), (4, .inl (i)), (0, .inr (.inr (some (0)))), (1, .inr (.inr (some (192)))), (2, .inr (.inr (some (770)))), (3, .inr (.inr (some (805))))]) (st' := [.inl ((i) + (3)), .inr (.inr (some (0))), .inl (a2), .inl (a1), .inr (.inr (some (770)))]) rfl ?_
    have n22 : 0 ≤ qz_N (xc h 2) 0 ∧ qz_N (xc h 2) 0 ≤ 3072 := ez_len hBx t0 tq_34 rfl
    refine ez_aI hBx t0 rfl tq_34 rfl rfl (by omega) (by omega) (fun (b21 : -2147483648 ≤ qz_I (xc h 2) 0 ((i) + (3)).toNat) (b21' : qz_I (xc h 2) 0 ((i) + (3)).toNat ≤ 2147483647) => ?_)
    rw [show qz_I (xc h 2) 0 ((i) + (3)).toNat = qz_I h 0 ((i) + (3)).toNat from sc _, ea3]
    refine ez_go (n := 4) (pc' := 720) (L' := [(5, .inl (2)), (4, .inl (i)), (0, .inr (.inr (some (0)))), (1, .inr (.inr (some (192)))), (2, .inr (.inr (some (770)))), (3, .inr (.inr (some (805))))]) (st' := [.inl ((i) + (4)), .inr (.inr (some (0))), .inl (a3), .inl (a2), .inl (a1), .inr (.inr (some (770)))]) rfl ?_
    have n24 : 0 ≤ qz_N (xc h 2) 0 ∧ qz_N (xc h 2) 0 ≤ 3072 := ez_len hBx t0 tq_34 rfl
    refine ez_aI hBx t0 rfl tq_34 rfl rfl (by omega) (by omega) (fun (b23 : -2147483648 ≤ qz_I (xc h 2) 0 ((i) + (4)).toNat) (b23' : qz_I (xc h 2) 0 ((i) + (4)).toNat ≤ 2147483647) => ?_)
    rw [show qz_I (xc h 2) 0 ((i) + (4)).toNat = qz_I h 0 ((i) + (4)).toNat from sc _, ea4]
    refine ez_cv hBx t770 rfl rfl rfl tq_75 rfl rfl rfl (rd_mchange pM pS pX ww.2.2.2.1 ar1 ar2 ar3 ar4 (by omega) (by omega) (fun w9 => absurd w9 (by omega)) (fun _ _ g3 b1 b2 => ez_K1 ?_) (fun _ z => absurd n7 z) (fun _ z => absurd n7 z))
    have FN := ref_X hb hn b1 b2.1 b2.2.1
    have b0 := b2.2.2
    refine ez_go (n := 2) (pc' := 1213) (L' := [(6, .inl (0)), (5, .inl (2)), (4, .inl (i)), (0, .inr (.inr (some (0)))), (1, .inr (.inr (some (192)))), (2, .inr (.inr (some (770)))), (3, .inr (.inr (some (805))))]) (st' := []) rfl ?_
    refine ez_less [(4, .inl (i)), (0, .inr (.inr (some (0)))), (1, .inr (.inr (some (192)))), (2, .inr (.inr (some (770)))), (3, .inr (.inr (some (805))))] rfl ⟨rfl, rfl, rfl, rfl, rfl, trivial⟩ ?_
    exact k _ _ FN.1 FN.2
  · have cA1 := fA.1; have cA2 := fA.2.1
    refine Or.inr (Or.inr (Or.inr ⟨_, _, rfl, xc_exc BA rfl, ez_K1 ?_⟩))
    have hBx : ez_B τ (xc gA 0) := xc_B BA (by omega) (by omega)
    obtain ⟨ok, s0, cn⟩ := wX
    obtain ⟨⟨pM, pN⟩, pS, pX, p7, sc, sn⟩ := tg_pre hX.1 t m w s77 ww x2 hBx (fun q a b _ _ _ => (xc_t BA a).trans (fA.2.2 q ((pk_cg hX.1) q b)))
    have rH : (xc gA 0).1 ≤ h.1 + 1 ∧ (xc gA 0).2.1 ≤ h.2.1 + 6 := ⟨by show gA.1 + 1 ≤ _; omega, by show gA.2.1 + 6 ≤ _; omega⟩
    have n7 : qz_I (xc gA 0) 770 7 ≠ 0 := fun z => s0 (s6.mpr ((p7 7).symm.trans z))
    refine ez_go (n := 6) (pc' := 702) (L' := [(5, .inl (3)), (4, .inl (i)), (0, .inr (.inr (some (0)))), (1, .inr (.inr (some (192)))), (2, .inr (.inr (some (770)))), (3, .inr (.inr (some (805))))]) (st' := [.inl ((i) + (1)), .inr (.inr (some (0))), .inr (.inr (some (770)))]) rfl ?_
    have n26 : 0 ≤ qz_N (xc gA 0) 0 ∧ qz_N (xc gA 0) 0 ≤ 3072 := ez_len hBx t0 tq_34 rfl
    refine ez_aI hBx t0 rfl tq_34 rfl rfl (by omega) (by omega) (fun (b25 : -2147483648 ≤ qz_I (xc gA 0) 0 ((i) + (1)).toNat) (b25' : qz_I (xc gA 0) 0 ((i) + (1)).toNat ≤ 2147483647) => ?_)
    rw [show qz_I (xc gA 0) 0 ((i) + (1)).toNat = qz_I h 0 ((i) + (1)).toNat from sc _, ea1]
    refine ez_go (n := 4) (pc' := 708) (L' := [(5, .inl (3)), (4, .inl (i)), (0, .inr (.inr (some (0)))), (1, .inr (.inr (some (192)))), (2, .inr (.inr (some (770)))), (3, .inr (.inr (some (805))))]) (st' := [.inl ((i) + (2)), .inr (.inr (some (0))), .inl (a1), .inr (.inr (some (770)))]) rfl ?_
    have n28 : 0 ≤ qz_N (xc gA 0) 0 ∧ qz_N (xc gA 0) 0 ≤ 3072 := ez_len hBx t0 tq_34 rfl
    refine ez_aI hBx t0 rfl tq_34 rfl rfl (by omega) (by omega) (fun (b27 : -2147483648 ≤ qz_I (xc gA 0) 0 ((i) + (2)).toNat) (b27' : qz_I (xc gA 0) 0 ((i) + (2)).toNat ≤ 2147483647) => ?_)
    rw [show qz_I (xc gA 0) 0 ((i) + (2)).toNat = qz_I h 0 ((i) + (2)).toNat from sc _, ea2]
    refine ez_go (n := 4) (pc' := 714) (L' := [(5, .inl (3)), (4, .inl (i)), (0, .inr (.inr (some (0)))), (1, .inr (.inr (some (192)))), (2, .inr (.inr (some (770)))), (3, .inr (.inr (some (805))))]) (st' := [.inl ((i) + (3)), .inr (.inr (some (0))), .inl (a2), .inl (a1), .inr (.inr (some (770)))]) rfl ?_
    have n30 : 0 ≤ qz_N (xc gA 0) 0 ∧ qz_N (xc gA 0) 0 ≤ 3072 := ez_len hBx t0 tq_34 rfl
    refine ez_aI hBx t0 rfl tq_34 rfl rfl (by omega) (by omega) (fun (b29 : -2147483648 ≤ qz_I (xc gA 0) 0 ((i) + (3)).toNat) (b29' : qz_I (xc gA 0) 0 ((i) + (3)).toNat ≤ 2147483647) => ?_)
    rw [show qz_I (xc gA 0) 0 ((i) + (3)).toNat = qz_I h 0 ((i) + (3)).toNat from sc _, ea3]
    refine ez_go (n := 4) (pc' := 720) (L' := [(5, .inl (3)), (4, .inl (i)), (0, .inr (.inr (some (0)))), (1, .inr (.inr (some (192)))), (2, .inr (.inr (some (770)))), (3, .inr (.inr (some (805))))]) (st' := [.inl ((i) + (4)), .inr (.inr (some (0))), .inl (a3), .inl (a2), .inl (a1), .inr (.inr (some (770)))]) rfl ?_
    have n32 : 0 ≤ qz_N (xc gA 0) 0 ∧ qz_N (xc gA 0) 0 ≤ 3072 := ez_len hBx t0 tq_34 rfl
    refine ez_aI hBx t0 rfl tq_34 rfl rfl (by omega) (by omega) (fun (b31 : -2147483648 ≤ qz_I (xc gA 0) 0 ((i) + (4)).toNat) (b31' : qz_I (xc gA 0) 0 ((i) + (4)).toNat ≤ 2147483647) => ?_)
    rw [show qz_I (xc gA 0) 0 ((i) + (4)).toNat = qz_I h 0 ((i) + (4)).toNat from sc _, ea4]
    refine ez_cv hBx t770 rfl rfl rfl tq_75 rfl rfl rfl (rd_mchange pM pS pX ww.2.2.2.1 ar1 ar2 ar3 ar4 (by omega) (by omega) (fun w9 => absurd w9 (by omega)) (fun _ z => absurd z n7) (fun _ _ _ h1 c1 c2 g2 c3 c4 g3 b1 b2 => ez_K1 ?_) (fun _ _ r8 cs8 _ l8 => absurd (chS_N (by omega) (by omega) cs8 cn) (by omega)))
    have FN := tg_no hb hn (pk_cg hX.1) BA fA c2.H c4 c3 b2 b1
    have b0 := b2.2.2
    refine ez_go (n := 2) (pc' := 1213) (L' := [(6, .inl (0)), (5, .inl (3)), (4, .inl (i)), (0, .inr (.inr (some (0)))), (1, .inr (.inr (some (192)))), (2, .inr (.inr (some (770)))), (3, .inr (.inr (some (805))))]) (st' := []) rfl ?_
    refine ez_less [(4, .inl (i)), (0, .inr (.inr (some (0)))), (1, .inr (.inr (some (192)))), (2, .inr (.inr (some (770)))), (3, .inr (.inr (some (805))))] rfl ⟨rfl, rfl, rfl, rfl, rfl, trivial⟩ ?_
    exact k _ _ FN.1 FN.2
  · refine Or.inl ⟨_, τ, gB, rfl, BB, t805, fun hBo => ez_K1 ?_⟩
    obtain ⟨ok, s0, cs⟩ := wR
    have t8 : a1.toNat < 8 := by omega
    have ll : res.length ≤ 2000 := by have q1 := tB.1; have q2 := tx_l88 BB ((rU_of hX.1).2 _ t8).2.1; omega
    obtain ⟨⟨pM, pN⟩, pS, pX, p7, sc, sn⟩ := tg_pre hX.1 t m w s77 ww x2 hBo (ow_CH hX.1 t8 (pk_cg hX.1) fA fB)
    have rH : (ow gB (res.length : Int)).1 ≤ h.1 + 1 ∧ (ow gB (res.length : Int)).2.1 ≤ h.2.1 + 6 := ⟨by show gB.1 ≤ _; rw [fB.1, fA.1]; omega, by show gB.2.1 ≤ _; rw [fB.2.1, fA.2.1]; omega⟩
    have n7 : qz_I (ow gB (res.length : Int)) 770 7 ≠ 0 := fun z => s0 (s6.mpr ((p7 7).symm.trans z))
    refine ez_go (n := 6) (pc' := 702) (L' := [(5, .inl (0)), (4, .inl (i)), (0, .inr (.inr (some (0)))), (1, .inr (.inr (some (192)))), (2, .inr (.inr (some (770)))), (3, .inr (.inr (some (805))))]) (st' := [.inl ((i) + (1)), .inr (.inr (some (0))), .inr (.inr (some (770)))]) rfl ?_
    have n34 : 0 ≤ qz_N (ow gB (res.length : Int)) 0 ∧ qz_N (ow gB (res.length : Int)) 0 ≤ 3072 := ez_len hBo t0 tq_34 rfl
    refine ez_aI hBo t0 rfl tq_34 rfl rfl (by omega) (by omega) (fun (b33 : -2147483648 ≤ qz_I (ow gB (res.length : Int)) 0 ((i) + (1)).toNat) (b33' : qz_I (ow gB (res.length : Int)) 0 ((i) + (1)).toNat ≤ 2147483647) => ?_)
    rw [show qz_I (ow gB (res.length : Int)) 0 ((i) + (1)).toNat = qz_I h 0 ((i) + (1)).toNat from sc _, ea1]
    refine ez_go (n := 4) (pc' := 708) (L' := [(5, .inl (0)), (4, .inl (i)), (0, .inr (.inr (some (0)))), (1, .inr (.inr (some (192)))), (2, .inr (.inr (some (770)))), (3, .inr (.inr (some (805))))]) (st' := [.inl ((i) + (2)), .inr (.inr (some (0))), .inl (a1), .inr (.inr (some (770)))]) rfl ?_
    have n36 : 0 ≤ qz_N (ow gB (res.length : Int)) 0 ∧ qz_N (ow gB (res.length : Int)) 0 ≤ 3072 := ez_len hBo t0 tq_34 rfl
    refine ez_aI hBo t0 rfl tq_34 rfl rfl (by omega) (by omega) (fun (b35 : -2147483648 ≤ qz_I (ow gB (res.length : Int)) 0 ((i) + (2)).toNat) (b35' : qz_I (ow gB (res.length : Int)) 0 ((i) + (2)).toNat ≤ 2147483647) => ?_)
    rw [show qz_I (ow gB (res.length : Int)) 0 ((i) + (2)).toNat = qz_I h 0 ((i) + (2)).toNat from sc _, ea2]
    refine ez_go (n := 4) (pc' := 714) (L' := [(5, .inl (0)), (4, .inl (i)), (0, .inr (.inr (some (0)))), (1, .inr (.inr (some (192)))), (2, .inr (.inr (some (770)))), (3, .inr (.inr (some (805))))]) (st' := [.inl ((i) + (3)), .inr (.inr (some (0))), .inl (a2), .inl (a1), .inr (.inr (some (770)))]) rfl ?_
    have n38 : 0 ≤ qz_N (ow gB (res.length : Int)) 0 ∧ qz_N (ow gB (res.length : Int)) 0 ≤ 3072 := ez_len hBo t0 tq_34 rfl
    refine ez_aI hBo t0 rfl tq_34 rfl rfl (by omega) (by omega) (fun (b37 : -2147483648 ≤ qz_I (ow gB (res.length : Int)) 0 ((i) + (3)).toNat) (b37' : qz_I (ow gB (res.length : Int)) 0 ((i) + (3)).toNat ≤ 2147483647) => ?_)
    rw [show qz_I (ow gB (res.length : Int)) 0 ((i) + (3)).toNat = qz_I h 0 ((i) + (3)).toNat from sc _, ea3]
    refine ez_go (n := 4) (pc' := 720) (L' := [(5, .inl (0)), (4, .inl (i)), (0, .inr (.inr (some (0)))), (1, .inr (.inr (some (192)))), (2, .inr (.inr (some (770)))), (3, .inr (.inr (some (805))))]) (st' := [.inl ((i) + (4)), .inr (.inr (some (0))), .inl (a3), .inl (a2), .inl (a1), .inr (.inr (some (770)))]) rfl ?_
    have n40 : 0 ≤ qz_N (ow gB (res.length : Int)) 0 ∧ qz_N (ow gB (res.length : Int)) 0 ≤ 3072 := ez_len hBo t0 tq_34 rfl
    refine ez_aI hBo t0 rfl tq_34 rfl rfl (by omega) (by omega) (fun (b39 : -2147483648 ≤ qz_I (ow gB (res.length : Int)) 0 ((i) + (4)).toNat) (b39' : qz_I (ow gB (res.length : Int)) 0 ((i) + (4)).toNat ≤ 2147483647) => ?_)
    rw [show qz_I (ow gB (res.length : Int)) 0 ((i) + (4)).toNat = qz_I h 0 ((i) + (4)).toNat from sc _, ea4]
    refine ez_cv hBo t770 rfl rfl rfl tq_75 rfl rfl rfl (rd_mchange pM pS pX ww.2.2.2.1 ar1 ar2 ar3 ar4 (by omega) (by omega) (fun w9 => absurd w9 (by omega)) (fun _ z => absurd z n7) (fun _ _ cn8 => absurd (chS_N (by omega) (by omega) cs cn8) (by omega)) (fun _ _ r8 cs8 _ _ h1 c1 c2 g2 c3 c4 _ g3 b1 f3 mx3 => ez_K1 ?_))
    have er := chS_u (by omega) (by omega) cs cs8
    rw [← er] at mx3 ⊢
    have FN := tg_ok hb hn x1 x2 t8 (pk_cg hX.1) fA fB tB pl ll c2.H c4 c3 b1 f3 mx3
    have b0 : qz_I g3 770 0 = 0 := (f3.1.I (mx_Pn (by omega) (by decide)) 0).trans ((c4.2.2.1 0 (by decide) (by decide) (by decide)).trans (c2.2.2))
    refine ez_go (n := 2) (pc' := 1213) (L' := [(6, .inl ((res.length : Int))), (5, .inl (0)), (4, .inl (i)), (0, .inr (.inr (some (0)))), (1, .inr (.inr (some (192)))), (2, .inr (.inr (some (770)))), (3, .inr (.inr (some (805))))]) (st' := []) rfl ?_
    refine ez_less [(4, .inl (i)), (0, .inr (.inr (some (0)))), (1, .inr (.inr (some (192)))), (2, .inr (.inr (some (770)))), (3, .inr (.inr (some (805))))] rfl ⟨rfl, rfl, rfl, rfl, rfl, trivial⟩ ?_
    exact k _ _ FN.1 FN.2

end EzTg
/-! The law: text. (Written by wip/p2/py/pvw2.py.) -/
section EzTw
variable {d : Nat} {h : cz_H} {τ : Nat → Nat} {P Q : cz_F → Prop}
theorem hp_text {a : Int} (hB : ez_B τ h) (t192 : τ 192 = 44) (hc : ez_W d cm_39 0 [(0, .inr (.inr (some (192)))), (1, .inl (a))] [] h P) (k : ∀ F, P F → (∃ v τ1 g, F = (.inl (some (ez_v (.inl v))), g) ∧ ez_B τ1 g ∧ τ1 805 = 35 ∧ (ez_B τ1 (ow g v) → Q (.inl (some (ez_v (.inl 0))), ow g v))) ∨ (∃ r g, F = (.inr r, g) ∧ cz_exc g r = some 1 ∧ Q (.inl (some (ez_v (.inl 1))), g)) ∨ (∃ r g, F = (.inr r, g) ∧ cz_exc g r = some 3 ∧ Q (.inl (some (ez_v (.inl 2))), g)) ∨ (∃ r g, F = (.inr r, g) ∧ cz_exc g r = some 0 ∧ Q (.inl (some (ez_v (.inl 3))), g))) : ez_W (d + 1) cm_213 0 [(0, .inr (.inr (some (192)))), (1, .inl (a)), (2, .inr (.inr (some (805))))] [] h Q := by
  refine ez_go (n := 4) (pc' := 4) (L' := [(0, .inr (.inr (some (192)))), (1, .inl (a)), (2, .inr (.inr (some (805))))]) (st' := [.inl (a), .inr (.inr (some (192))), .inl (0), .inr (.inr (some (805)))]) rfl ?_
  refine ez_cv hB t192 rfl rfl rfl tq_44 rfl rfl rfl (ez_mono hc (fun F hF => ?_))
  rcases k F hF with ⟨v, τ1, g, rfl, hB1, u805, kq⟩ | ⟨r, g, rfl, he, kq⟩ | ⟨r, g, rfl, he, kq⟩ | ⟨r, g, rfl, he, kq⟩
  · refine ez_K1 ?_
    refine ez_go (n := 1) (pc' := 8) (L' := [(0, .inr (.inr (some (192)))), (1, .inl (a)), (2, .inr (.inr (some (805))))]) (st' := [.inr (.inl ((Int32.ofInt (v)).toInt64)), .inl (0), .inr (.inr (some (805)))]) rfl ?_
    have n3 : 1 ≤ qz_N g 805 ∧ qz_N g 805 ≤ 1 := ez_len hB1 u805 tq_35 rfl
    refine ez_as hB1 u805 rfl tq_35 rfl rfl (by omega) (by omega) ez_vdJ (fun hB1 w2 => ?_)
    refine ez_go (n := 2) (pc' := 22) (L' := [(0, .inr (.inr (some (192)))), (1, .inl (a)), (2, .inr (.inr (some (805))))]) (st' := [.inl (0)]) rfl ?_
    exact ez_retI rfl rfl (kq hB1)
  · refine ez_Kc he rfl ?_
    refine ez_go (n := 2) (pc' := 14) (L' := [(3, .inr (.inr (some (r)))), (0, .inr (.inr (some (192)))), (1, .inl (a)), (2, .inr (.inr (some (805))))]) (st' := [.inl (1)]) rfl ?_
    exact ez_retI rfl rfl kq
  · refine ez_Kc he rfl ?_
    refine ez_go (n := 2) (pc' := 17) (L' := [(3, .inr (.inr (some (r)))), (0, .inr (.inr (some (192)))), (1, .inl (a)), (2, .inr (.inr (some (805))))]) (st' := [.inl (2)]) rfl ?_
    exact ez_retI rfl rfl kq
  · refine ez_Kc he rfl ?_
    refine ez_go (n := 2) (pc' := 20) (L' := [(3, .inr (.inr (some (r)))), (0, .inr (.inr (some (192)))), (1, .inl (a)), (2, .inr (.inr (some (805))))]) (st' := [.inl (3)]) rfl ?_
    exact ez_retI rfl rfl kq

def twP (τ : Nat → Nat) (h : cz_H) (t : Int) (F : cz_F) : Prop := ((t < 0 ∨ 7 < t) ∧ F = (.inr h.1, xc h 1)) ∨ ((0 ≤ t ∧ t ≤ 7) ∧ ∃ r g, uC (rz_b h) (qz_I h 192 1) 0 0 r ∧ ez_B τ g ∧ ez_fr (ez_one 192) h g ∧ qz_I g 192 1 = 0 ∧ ((r = -1 ∧ F = (.inr g.1, xc g 3)) ∨ (2000 < r ∧ F = (.inr g.1, xc g 0)) ∨ (0 ≤ r ∧ r ≤ 2000 ∧ ∃ g2 l a, F = (.inl (some (ez_v (.inl r))), g2) ∧ ez_B τ g2 ∧ ez_fr (tx_P (754 + 2 * t.toNat)) g g2 ∧ uPm (rz_b h) (qz_I h 192 1) r.toNat a l ∧ tx g2 (754 + 2 * t.toNat) l)))
theorem rd_textP {t : Int} (hB : ez_B τ h) (hX : jz_X τ) (sl : slt h) (tr : ez_rg t) (hr1 : h.1 + 1 ≤ 600192) (hr2 : h.2.1 + 6 ≤ 7302232) : ez_W (d + 8) cm_39 0 [(0, .inr (.inr (some (192)))), (1, .inl (t))] [] h (twP τ h t) := by
  have z : ∀ g, g = dz_put h 192 1 (ez_v (.inl (0))) → qz_I g 192 1 = 0 := fun g e => by
    obtain ⟨vs, w, -, -, g1, -⟩ := ez_fld (cl := 0) (k := 1) hB (hX 192 (by decide)) tq_44 rfl rfl
    rw [e, qz_put_I0 g1]; rfl
  exact rd_ctext hB hX sl tr hr1 hr2 (fun w => Or.inl ⟨w, rfl⟩) (fun w0 w1 r hr g a1 a2 a3 a4 => Or.inr ⟨⟨w0, w1⟩, r, g, hr, a1, a2, z g a3, Or.inl ⟨a4, rfl⟩⟩) (fun w0 w1 r hr g a1 a2 a3 a4 => Or.inr ⟨⟨w0, w1⟩, r, g, hr, a1, a2, z g a3, Or.inr (Or.inl ⟨a4, rfl⟩)⟩) (fun w0 w1 r hr g a1 a2 a3 a4 a5 g2 l a a6 a7 a8 a9 => Or.inr ⟨⟨w0, w1⟩, r, g, hr, a1, a2, z g a3, Or.inr (Or.inr ⟨a4, a5, g2, l, a, rfl, a6, a7, a8, a9⟩)⟩)
def TD (τ : Nat → Nat) (h g : cz_H) : Prop := (∀ q, τ q = 21 → g.2.2 q = h.2.2 q) ∧ (∀ q, τ q ≠ 0 → tgk (τ q) = false → g.2.2 q = h.2.2 q) ∧ g.2.2 770 = h.2.2 770 ∧ qz_I g 192 1 = 0 ∧ g.1 ≤ h.1 + 1 ∧ g.2.1 ≤ h.2.1 + 6
theorem tw_fin {g1 g4 : cz_H} (hb : dz_B tz_T (qz_X rR) τ h) (C : TD τ h g1) (B4 : ez_B τ g4) (m1 : ∀ q, τ q ≠ 0 → q ≠ 770 → q ≠ 796 → q ≠ 782 → τ q ≠ 37 → g4.2.2 q = g1.2.2 q) (j7 : ∀ j, j ≠ 0 → j ≠ 2 → j ≠ 30 → qz_I g4 770 j = qz_I g1 770 j) (z : qz_I g4 770 2 = 0) (r : g4.1 = g1.1 ∧ g4.2.1 = g1.2.1) (xx : rXt g4) : dz_B tz_T (qz_X rR) τ g4 ∧ stp h g4 := by
  have hB := dz_ezB hb
  have hX := hb.2.1.1
  have t770 : τ 770 = 75 := hX 770 (by decide)
  obtain ⟨cS, c1, c2, c3, c4, c5⟩ := C
  have b1 : 0 ≤ qz_I h 192 1 ∧ qz_I h 192 1 ≤ 4096 := ez_fB (cl := 0) hB (hX 192 (by decide)) tq_44 rfl rfl (by decide)
  have e192 : qz_I g4 192 1 = 0 := by
    rw [← c3]; unfold qz_I; rw [m1 192 (by rw [hX 192 (by decide)]; decide) (by decide) (by decide) (by decide) (by rw [hX 192 (by decide)]; decide)]
  have J : ∀ j, j ≠ 0 → j ≠ 2 → j ≠ 30 → qz_I g4 770 j = qz_I h 770 j := fun j a b c => by rw [j7 j a b c]; unfold qz_I; rw [c2]
  have nt : ∀ q, tgk (τ q) = false → ∀ p, tz_ex p ≠ 0 → tgk (tz_ex p) = true → q ≠ p := fun q hk p w1 w2 e => by rw [e, hX p w1, w2] at hk; cases hk
  have tsk := ez_tsk hB t770
  have esk : sk g4 = sk h := by unfold sk qz_P; rw [J 24 (by decide) (by decide) (by decide)]
  have nsk : qz_N g4 (sk g4) = qz_N h (sk h) := by
    rw [esk]; unfold qz_N
    have q770 : sk h ≠ 770 := fun e => by rw [e, t770] at tsk; cases tsk
    have q796 : sk h ≠ 796 := fun e => by rw [e, hX 796 (by decide)] at tsk; revert tsk; decide
    have q782 : sk h ≠ 782 := fun e => by rw [e, hX 782 (by decide)] at tsk; revert tsk; decide
    rw [m1 _ (by rw [tsk]; decide) q770 q796 q782 (by rw [tsk]; decide)]
    rw [cS _ tsk]
  refine tg_fin hb B4 (fun _ _ => rfl) (fun q a b => absurd a b) (fun q h0 hk => ?_) (fun j a b _ _ _ e _ => J j a b e) (by rw [e192, z]) (by rw [e192]; omega) (fun w => by rw [J 25 (by decide) (by decide) (by decide), nsk]; exact w) (by rw [nsk]; omega) (by rw [nsk]; omega) xx
  rw [m1 q h0 (nt q hk 770 (by decide) rfl) (nt q hk 796 (by decide) rfl) (nt q hk 782 (by decide) rfl) (fun e => by rw [e] at hk; cases hk)]
  exact c1 q h0 hk
theorem TD_xc {g : cz_H} {e : Nat} (hX : jz_X τ) (Bg : ez_B τ g) (f : ez_fr (ez_one 192) h g) (z : qz_I g 192 1 = 0) : TD τ h (xc g e) := by
  have t770 : τ 770 ≠ 0 := by rw [hX 770 (by decide)]; decide
  refine ⟨fun q e => (xc_t Bg (by rw [e]; decide)).trans (f.2.2 q (dz_beq_ne (fun w => by rw [w, hX 192 (by decide)] at e; revert e; decide))), fun q h0 hk => (xc_t Bg h0).trans (f.2.2 q (dz_beq_ne (fun w => by rw [w, hX 192 (by decide)] at hk; cases hk))), (xc_t Bg t770).trans (f.2.2 770 rfl), ?_, ?_, ?_⟩
  · rw [← z]; unfold qz_I; rw [xc_t Bg (by rw [hX 192 (by decide)]; decide)]
  · show g.1 + 1 ≤ _; rw [f.1]; exact Nat.le_refl _
  · show g.2.1 + 6 ≤ _; rw [f.2.1]; exact Nat.le_refl _
theorem TD_ow {g g2 : cz_H} {v : Int} {t : Nat} (hX : jz_X τ) (t8 : t < 8) (f : ez_fr (ez_one 192) h g) (f2 : ez_fr (tx_P (754 + 2 * t)) g g2) (z : qz_I g 192 1 = 0) : TD τ h (ow g2 v) := by
  have tt := (rU_of hX).2 t t8
  have c : ∀ q, τ q ≠ 88 → τ q ≠ 89 → q ≠ 805 → (ow g2 v).2.2 q = g.2.2 q := fun q h1 h2 h3 => (ow_at h3).trans (f2.2.2 q (tx_Pn (fun w => h1 (by rw [w]; exact tt.2.1)) (fun w => h2 (by rw [w]; exact tt.2.2))))
  refine ⟨fun q e => (c q (by rw [e]; decide) (by rw [e]; decide) (fun w => by rw [w, hX 805 (by decide)] at e; revert e; decide)).trans (f.2.2 q (dz_beq_ne (fun w => by rw [w, hX 192 (by decide)] at e; revert e; decide))), fun q h0 hk => ?_, ?_, ?_, ?_, ?_⟩
  · rw [c q (fun e => by rw [e] at hk; cases hk) (fun e => by rw [e] at hk; cases hk) (fun e => by rw [e, hX 805 (by decide)] at hk; cases hk)]
    exact f.2.2 q (dz_beq_ne (fun w => by rw [w, hX 192 (by decide)] at hk; cases hk))
  · rw [c 770 (by rw [hX 770 (by decide)]; decide) (by rw [hX 770 (by decide)]; decide) (by decide)]; exact f.2.2 770 rfl
  · rw [← z]; unfold qz_I; rw [c 192 (by rw [hX 192 (by decide)]; decide) (by rw [hX 192 (by decide)]; decide) (by decide)]
  · show g2.1 ≤ _; rw [f2.1, f.1]; exact Nat.le_succ _
  · show g2.2.1 ≤ _; rw [f2.2.1, f.2.1]; omega
theorem TD_b {g : cz_H} (hX : jz_X τ) (p : rP h) (C : TD τ h g) : mb g = rz_b h ∧ (∀ j, qz_I g 770 j = qz_I h 770 j) ∧ ∀ j, qz_I g 0 j = qz_I h 0 j := by
  refine ⟨funext fun i => ?_, fun j => by unfold qz_I; rw [C.2.2.1], fun j => by unfold qz_I; rw [C.2.1 0 (by rw [hX 0 (by decide)]; decide) (by rw [hX 0 (by decide)]; rfl)]⟩
  show qz_I g 771 i.toNat = qz_I h 193 i.toNat
  rw [p]; unfold qz_I; rw [C.2.1 771 (by rw [hX 771 (by decide)]; decide) (by rw [hX 771 (by decide)]; rfl)]
theorem TD_s {g : cz_H} (hX : jz_X τ) (C : TD τ h g) (s : slt h) : slt g := s.k (C.2.1 195 (by rw [hX 195 (by decide)]; decide) (by rw [hX 195 (by decide)]; rfl)) (C.2.1 773 (by rw [hX 773 (by decide)]; decide) (by rw [hX 773 (by decide)]; rfl))
/-- the texts, one of them another -/
theorem rX_up {gB gm g4 : cz_H} {X : Nat → List Int} {t : Nat} {l : List Int} (hX : jz_X τ) (t8 : t < 8) (x1 : txs h X) (x2 : mxs h X) (cB : ∀ q, τ q = 88 ∨ τ q = 89 → q ≠ 754 + 2 * t → q ≠ 754 + 2 * t + 1 → gB.2.2 q = h.2.2 q) (tB : tx gB (754 + 2 * t) l) (up : ∀ q, τ q = 88 ∨ τ q = 89 → g4.2.2 q = gB.2.2 q) (mo : ∀ q, τ q = 37 ∨ τ q = 79 → gm.2.2 q = h.2.2 q) (f : mxf t gm g4) (mx4 : mx g4 t l) (pl : ptl l) (ll : l.length ≤ 2000) : rXt g4 := by
  have tt := (rU_of hX).2
  refine ⟨upX X t l, txs_up x1 (fun q a b c d => ?_) (tx_c tB (up _ (Or.inl (tt t t8).2.1)) (up _ (Or.inr (tt t t8).2.2))) pl ll, mxs_up x2 (fun q a b c => ?_) (fun s hs => ?_) mx4 pl ll⟩
  · obtain ⟨s, hs⟩ : ∃ s, s = (q - 754) / 2 := ⟨_, rfl⟩
    have ts := tt s (by omega)
    have hq : τ q = 88 ∨ τ q = 89 := by
      have : q = 754 + 2 * s ∨ q = 754 + 2 * s + 1 := by omega
      rcases this with e | e
      · exact Or.inl (by rw [e]; exact ts.2.1)
      · exact Or.inr (by rw [e]; exact ts.2.2)
    rw [up q hq, cB q hq c d]
  · have ts := (tt (q - 774) (by omega)).1
    rw [show 774 + (q - 774) = q by omega] at ts
    rw [f.1.2.2 q (mx_Pn c (by omega)), mo q (Or.inl ts)]
  · rw [f.2 s hs]; unfold qz_I; rw [mo 782 (Or.inr (hX 782 (by decide)))]
theorem lw_text {i : Int} (hb : dz_B tz_T (qz_X rR) τ h) (hn : qz_I h 192 1 = qz_I h 770 2) (i0 : 0 ≤ i) (i1 : i + 6 ≤ qz_N h 0) (i2 : i ≤ 4000) (hr1 : h.1 + 1100 ≤ 600192) (hr2 : h.2.1 + 150100 ≤ 7302232) (k : ∀ τ2 g, dz_B tz_T (qz_X rR) τ2 g → stp h g → ez_W (d + 11) cm_0 1213 [(4, .inl (i)), (0, .inr (.inr (some (0)))), (1, .inr (.inr (some (192)))), (2, .inr (.inr (some (770)))), (3, .inr (.inr (some (805))))] [] g Q) : ez_W (d + 11) cm_0 309 [(4, .inl (i)), (0, .inr (.inr (some (0)))), (1, .inr (.inr (some (192)))), (2, .inr (.inr (some (770)))), (3, .inr (.inr (some (805))))] [] h Q := by
  have hB := dz_ezB hb
  have hX := hb.2.1
  have t0 : τ 0 = 34 := hX.1 0 (by decide)
  have t192 : τ 192 = 44 := hX.1 192 (by decide)
  have t770 : τ 770 = 75 := hX.1 770 (by decide)
  have t805 : τ 805 = 35 := hX.1 805 (by decide)
  have bt : 0 ≤ qz_I h 192 1 ∧ qz_I h 192 1 ≤ 4096 := ez_fB (cl := 0) hB t192 tq_44 rfl rfl (by decide)
  obtain ⟨Ls, ⟨-, -, -, -, -, -, -, p⟩, ww, ⟨X, x1, x2⟩, q5⟩ := id hX.2.2.2.2
  have sl := ww.2.1
  refine ez_go (n := 5) (pc' := 315) (L' := [(4, .inl (i)), (0, .inr (.inr (some (0)))), (1, .inr (.inr (some (192)))), (2, .inr (.inr (some (770)))), (3, .inr (.inr (some (805))))]) (st' := [.inl ((i) + (1)), .inr (.inr (some (0))), .inr (.inr (some (192)))]) rfl ?_
  have n2 : 0 ≤ qz_N h 0 ∧ qz_N h 0 ≤ 3072 := ez_len hB t0 tq_34 rfl
  refine ez_aI hB t0 rfl tq_34 rfl rfl (by omega) (by omega) (fun (b1 : -2147483648 ≤ qz_I h 0 ((i) + (1)).toNat) (b1' : qz_I h 0 ((i) + (1)).toNat ≤ 2147483647) => ?_)
  refine ez_go (n := 1) (pc' := 317) (L' := [(4, .inl (i)), (0, .inr (.inr (some (0)))), (1, .inr (.inr (some (192)))), (2, .inr (.inr (some (770)))), (3, .inr (.inr (some (805))))]) (st' := [.inr (.inr (some (805))), .inl (qz_I h 0 ((i) + (1)).toNat), .inr (.inr (some (192)))]) rfl ?_
  refine ez_cs hB.2.1 rfl rfl rfl rfl rfl (hp_text hB t192 (rd_textP (d := d + 1) hB hX.1 sl ⟨by omega, by omega⟩ (by omega) (by omega)) (fun F hF => ?_))
  generalize ea : qz_I h 0 ((i) + (1)).toNat = a at *
  have ar : ez_rg a := ⟨by omega, by omega⟩
  rcases hF with ⟨w, rfl⟩ | ⟨w, r, g, hr, Bg, fg, z1, ⟨rr, rfl⟩ | ⟨rr, rfl⟩ | ⟨rr, rr2, g2, l2, a2, rfl, B2, f2, up2, tx2⟩⟩
  · refine Or.inr (Or.inl ⟨_, _, rfl, xc_exc hB rfl, ez_K1 ?_⟩)
    have hBx : ez_B τ (xc h 1) := xc_B hB (by omega) (by omega)
    have sc : ∀ j, qz_I (xc h 1) 0 j = qz_I h 0 j := fun j => by unfold qz_I; rw [xc_t hB (by rw [t0]; decide)]
    have slx : slt (xc h 1) := sl.k (xc_t hB (by rw [hX.1 195 (by decide)]; decide)) (xc_t hB (by rw [hX.1 773 (by decide)]; decide))
    have sn : qz_N (xc h 1) 0 = qz_N h 0 := by unfold qz_N; rw [xc_t hB (by rw [t0]; decide)]
    refine ez_go (n := 6) (pc' := 328) (L' := [(5, .inl (1)), (4, .inl (i)), (0, .inr (.inr (some (0)))), (1, .inr (.inr (some (192)))), (2, .inr (.inr (some (770)))), (3, .inr (.inr (some (805))))]) (st' := [.inl ((i) + (1)), .inr (.inr (some (0))), .inr (.inr (some (770)))]) rfl ?_
    have n4 : 0 ≤ qz_N (xc h 1) 0 ∧ qz_N (xc h 1) 0 ≤ 3072 := ez_len hBx t0 tq_34 rfl
    refine ez_aI hBx t0 rfl tq_34 rfl rfl (by omega) (by omega) (fun (b3 : -2147483648 ≤ qz_I (xc h 1) 0 ((i) + (1)).toNat) (b3' : qz_I (xc h 1) 0 ((i) + (1)).toNat ≤ 2147483647) => ?_)
    rw [show qz_I (xc h 1) 0 ((i) + (1)).toNat = qz_I h 0 ((i) + (1)).toNat from sc _, ea]
    have e7 : qz_I (xc h 1) 770 2 = qz_I h 192 1 := by unfold qz_I; rw [xc_t hB (by rw [t770]; decide)]; exact hn.symm
    refine ez_cv hBx t770 rfl rfl rfl tq_75 rfl rfl rfl (rd_mtext (n := qz_I h 192 1) hBx hX.1 slx t770 ar e7 (fun _ g4 b1 b2 b3 b0 => ez_K1 ?_) (fun w9 => absurd w9 (by omega)) (fun w9 => absurd w9 (by omega)) (fun w9 => absurd w9 (by omega)))
    refine ez_go (n := 2) (pc' := 1213) (L' := [(6, .inl (0)), (5, .inl (1)), (4, .inl (i)), (0, .inr (.inr (some (0)))), (1, .inr (.inr (some (192)))), (2, .inr (.inr (some (770)))), (3, .inr (.inr (some (805))))]) (st' := []) rfl ?_
    refine ez_less [(4, .inl (i)), (0, .inr (.inr (some (0)))), (1, .inr (.inr (some (192)))), (2, .inr (.inr (some (770)))), (3, .inr (.inr (some (805))))] rfl ⟨rfl, rfl, rfl, rfl, rfl, trivial⟩ ?_
    exact k _ _ (ref_X hb hn b1 b2 b3).1 (ref_X hb hn b1 b2 b3).2
  · have cg1 := fg.1; have cg2 := fg.2.1
    refine Or.inr (Or.inr (Or.inl ⟨_, _, rfl, xc_exc Bg rfl, ez_K1 ?_⟩))
    have hBx : ez_B τ (xc g 3) := xc_B Bg (by omega) (by omega)
    have C : TD τ h (xc g 3) := TD_xc hX.1 Bg fg z1
    obtain ⟨bm, i7, sc⟩ := TD_b hX.1 p C
    have u1 : uC (mb (xc g 3)) (qz_I h 192 1) 0 0 r := by rw [bm]; exact hr
    have e7 : qz_I (xc g 3) 770 2 = qz_I h 192 1 := (i7 2).trans hn.symm
    have slx := TD_s hX.1 C sl
    have sn : qz_N (xc g 3) 0 = qz_N h 0 := by unfold qz_N; rw [C.2.1 0 (by rw [t0]; decide) (by rw [t0]; rfl)]
    refine ez_go (n := 6) (pc' := 328) (L' := [(5, .inl (2)), (4, .inl (i)), (0, .inr (.inr (some (0)))), (1, .inr (.inr (some (192)))), (2, .inr (.inr (some (770)))), (3, .inr (.inr (some (805))))]) (st' := [.inl ((i) + (1)), .inr (.inr (some (0))), .inr (.inr (some (770)))]) rfl ?_
    have n6 : 0 ≤ qz_N (xc g 3) 0 ∧ qz_N (xc g 3) 0 ≤ 3072 := ez_len hBx t0 tq_34 rfl
    refine ez_aI hBx t0 rfl tq_34 rfl rfl (by omega) (by omega) (fun (b5 : -2147483648 ≤ qz_I (xc g 3) 0 ((i) + (1)).toNat) (b5' : qz_I (xc g 3) 0 ((i) + (1)).toNat ≤ 2147483647) => ?_)
    rw [show qz_I (xc g 3) 0 ((i) + (1)).toNat = qz_I h 0 ((i) + (1)).toNat from sc _, ea]
    refine ez_cv hBx t770 rfl rfl rfl tq_75 rfl rfl rfl (rd_mtext (n := qz_I h 192 1) hBx hX.1 slx t770 ar e7 (fun w9 => absurd w9 (by omega)) (fun _ r9 u9 e9 h2 b1 b2 b3 b4 b5 g4 c1 c2 c3 b0 => ez_K1 ?_) (fun _ r9 u9 e9 => absurd (uC_uniq u1 u9) (by omega)) (fun _ r9 u9 e9 e10 => absurd (uC_uniq u1 u9) (by omega)))
    have M1 : ∀ q, τ q ≠ 0 → q ≠ 770 → q ≠ 796 → g4.2.2 q = (xc g 3).2.2 q := fun q _ q1 q2 => by rw [c2.2.2 q (by unfold nz_PL; rw [dz_beq_ne q1, dz_beq_ne q2]; rfl), b2.2.2 q (dz_beq_ne q1)]
    have XX : rXt g4 := rX_t ww.1 ⟨X, x1, x2⟩ (fun q hq => by rw [M1 q (by omega) (fun e => by rw [e, t770] at hq; omega) (fun e => by rw [e, hX.1 796 (by decide)] at hq; revert hq; decide), xc_t Bg (by omega), fg.2.2 q (dz_beq_ne (fun e => by rw [e, t192] at hq; omega))])
    have FN := tw_fin hb C c1 (fun q h0 q1 q2 _ _ => M1 q h0 q1 q2) (fun j j0 j2 _ => by rw [c3 j j0]; exact b3 j j0 j2) (by rw [c3 2 (by decide)]; exact b4) ⟨by rw [c2.1, b2.1], by rw [c2.2.1, b2.2.1]⟩ XX
    refine ez_go (n := 2) (pc' := 1213) (L' := [(6, .inl (0)), (5, .inl (2)), (4, .inl (i)), (0, .inr (.inr (some (0)))), (1, .inr (.inr (some (192)))), (2, .inr (.inr (some (770)))), (3, .inr (.inr (some (805))))]) (st' := []) rfl ?_
    refine ez_less [(4, .inl (i)), (0, .inr (.inr (some (0)))), (1, .inr (.inr (some (192)))), (2, .inr (.inr (some (770)))), (3, .inr (.inr (some (805))))] rfl ⟨rfl, rfl, rfl, rfl, rfl, trivial⟩ ?_
    exact k _ _ FN.1 FN.2
  · have cg1 := fg.1; have cg2 := fg.2.1
    refine Or.inr (Or.inr (Or.inr ⟨_, _, rfl, xc_exc Bg rfl, ez_K1 ?_⟩))
    have hBx : ez_B τ (xc g 0) := xc_B Bg (by omega) (by omega)
    have C : TD τ h (xc g 0) := TD_xc hX.1 Bg fg z1
    obtain ⟨bm, i7, sc⟩ := TD_b hX.1 p C
    have u1 : uC (mb (xc g 0)) (qz_I h 192 1) 0 0 r := by rw [bm]; exact hr
    have e7 : qz_I (xc g 0) 770 2 = qz_I h 192 1 := (i7 2).trans hn.symm
    have slx := TD_s hX.1 C sl
    have sn : qz_N (xc g 0) 0 = qz_N h 0 := by unfold qz_N; rw [C.2.1 0 (by rw [t0]; decide) (by rw [t0]; rfl)]
    refine ez_go (n := 6) (pc' := 328) (L' := [(5, .inl (3)), (4, .inl (i)), (0, .inr (.inr (some (0)))), (1, .inr (.inr (some (192)))), (2, .inr (.inr (some (770)))), (3, .inr (.inr (some (805))))]) (st' := [.inl ((i) + (1)), .inr (.inr (some (0))), .inr (.inr (some (770)))]) rfl ?_
    have n8 : 0 ≤ qz_N (xc g 0) 0 ∧ qz_N (xc g 0) 0 ≤ 3072 := ez_len hBx t0 tq_34 rfl
    refine ez_aI hBx t0 rfl tq_34 rfl rfl (by omega) (by omega) (fun (b7 : -2147483648 ≤ qz_I (xc g 0) 0 ((i) + (1)).toNat) (b7' : qz_I (xc g 0) 0 ((i) + (1)).toNat ≤ 2147483647) => ?_)
    rw [show qz_I (xc g 0) 0 ((i) + (1)).toNat = qz_I h 0 ((i) + (1)).toNat from sc _, ea]
    refine ez_cv hBx t770 rfl rfl rfl tq_75 rfl rfl rfl (rd_mtext (n := qz_I h 192 1) hBx hX.1 slx t770 ar e7 (fun w9 => absurd w9 (by omega)) (fun _ r9 u9 e9 => absurd (uC_uniq u1 u9) (by omega)) (fun _ r9 u9 e9 h2 b1 b2 b3 b4 b5 g4 c1 c2 c3 b0 => ez_K1 ?_) (fun _ r9 u9 e9 e10 => absurd (uC_uniq u1 u9) (by omega)))
    have M1 : ∀ q, τ q ≠ 0 → q ≠ 770 → q ≠ 796 → g4.2.2 q = (xc g 0).2.2 q := fun q _ q1 q2 => by rw [c2.2.2 q (by unfold nz_PL; rw [dz_beq_ne q1, dz_beq_ne q2]; rfl), b2.2.2 q (dz_beq_ne q1)]
    have XX : rXt g4 := rX_t ww.1 ⟨X, x1, x2⟩ (fun q hq => by rw [M1 q (by omega) (fun e => by rw [e, t770] at hq; omega) (fun e => by rw [e, hX.1 796 (by decide)] at hq; revert hq; decide), xc_t Bg (by omega), fg.2.2 q (dz_beq_ne (fun e => by rw [e, t192] at hq; omega))])
    have FN := tw_fin hb C c1 (fun q h0 q1 q2 _ _ => M1 q h0 q1 q2) (fun j j0 j2 _ => by rw [c3 j j0]; exact b3 j j0 j2) (by rw [c3 2 (by decide)]; exact b4) ⟨by rw [c2.1, b2.1], by rw [c2.2.1, b2.2.1]⟩ XX
    refine ez_go (n := 2) (pc' := 1213) (L' := [(6, .inl (0)), (5, .inl (3)), (4, .inl (i)), (0, .inr (.inr (some (0)))), (1, .inr (.inr (some (192)))), (2, .inr (.inr (some (770)))), (3, .inr (.inr (some (805))))]) (st' := []) rfl ?_
    refine ez_less [(4, .inl (i)), (0, .inr (.inr (some (0)))), (1, .inr (.inr (some (192)))), (2, .inr (.inr (some (770)))), (3, .inr (.inr (some (805))))] rfl ⟨rfl, rfl, rfl, rfl, rfl, trivial⟩ ?_
    exact k _ _ FN.1 FN.2
  · refine Or.inl ⟨r, τ, g2, rfl, B2, t805, fun hBo => ez_K1 ?_⟩
    have t8 : a.toNat < 8 := by omega
    have C : TD τ h (ow g2 r) := TD_ow hX.1 t8 fg f2 z1
    obtain ⟨bm, i7, sc⟩ := TD_b hX.1 p C
    have u1 : uC (mb (ow g2 r)) (qz_I h 192 1) 0 0 r := by rw [bm]; exact hr
    have e7 : qz_I (ow g2 r) 770 2 = qz_I h 192 1 := (i7 2).trans hn.symm
    have slx := TD_s hX.1 C sl
    have sn : qz_N (ow g2 r) 0 = qz_N h 0 := by unfold qz_N; rw [C.2.1 0 (by rw [t0]; decide) (by rw [t0]; rfl)]
    refine ez_go (n := 6) (pc' := 328) (L' := [(5, .inl (0)), (4, .inl (i)), (0, .inr (.inr (some (0)))), (1, .inr (.inr (some (192)))), (2, .inr (.inr (some (770)))), (3, .inr (.inr (some (805))))]) (st' := [.inl ((i) + (1)), .inr (.inr (some (0))), .inr (.inr (some (770)))]) rfl ?_
    have n10 : 0 ≤ qz_N (ow g2 r) 0 ∧ qz_N (ow g2 r) 0 ≤ 3072 := ez_len hBo t0 tq_34 rfl
    refine ez_aI hBo t0 rfl tq_34 rfl rfl (by omega) (by omega) (fun (b9 : -2147483648 ≤ qz_I (ow g2 r) 0 ((i) + (1)).toNat) (b9' : qz_I (ow g2 r) 0 ((i) + (1)).toNat ≤ 2147483647) => ?_)
    rw [show qz_I (ow g2 r) 0 ((i) + (1)).toNat = qz_I h 0 ((i) + (1)).toNat from sc _, ea]
    refine ez_cv hBo t770 rfl rfl rfl tq_75 rfl rfl rfl (rd_mtext (n := qz_I h 192 1) hBo hX.1 slx t770 ar e7 (fun w9 => absurd w9 (by omega)) (fun _ r9 u9 e9 => absurd (uC_uniq u1 u9) (by omega)) (fun _ r9 u9 e9 => absurd (uC_uniq u1 u9) (by omega)) (fun _ r9 u9 e9 e10 h2 b1 b2 b3 b4 b5 g3 c1 c2 c3 g4 l9 a9 d1 d2 up9 mx4 => ez_K1 ?_))
    have er : r = r9 := uC_uniq u1 u9
    subst er
    rw [bm] at up9
    have el := (uPm_u up2 up9).2
    rw [← el] at mx4
    have n782 : τ 782 = 79 := hX.1 782 (by decide)
    have M1 : ∀ q, τ q ≠ 0 → q ≠ 770 → q ≠ 796 → q ≠ 782 → τ q ≠ 37 → g4.2.2 q = (ow g2 r).2.2 q := fun q _ q1 q2 q3 q4 => by rw [d2.1.2.2 q (mx_Pn (fun e => q4 (by rw [e]; exact ((rU_of hX.1).2 _ t8).1)) q3), c2.2.2 q (by unfold nz_PL; rw [dz_beq_ne q1, dz_beq_ne q2]; rfl), b2.2.2 q (dz_beq_ne q1)]
    have J4 : ∀ j, qz_I g4 770 j = qz_I g3 770 j := fun j => d2.1.I (mx_Pn (by omega) (by decide)) j
    have b0 : qz_I g4 770 0 = 0 := by rw [J4, c3 0 (by decide)]; exact b5
    have nq : ∀ q, τ q = 88 ∨ τ q = 89 ∨ τ q = 37 ∨ τ q = 79 → q ≠ 770 ∧ q ≠ 796 ∧ q ≠ 805 ∧ q ≠ 192 := fun q hq => ⟨fun e => by rw [e, t770] at hq; omega, fun e => by rw [e, hX.1 796 (by decide)] at hq; revert hq; decide, fun e => by rw [e, t805] at hq; omega, fun e => by rw [e, t192] at hq; omega⟩
    have XX : rXt g4 := by
      refine rX_up (gB := g2) (gm := g3) hX.1 t8 x1 x2 (fun q hq n1 n2 => ?_) tx2 (fun q hq => ?_) (fun q hq => ?_) d2 mx4 (uPm_ptl up2) (by have := uPm_len up2; omega)
      · rw [f2.2.2 q (tx_Pn n1 n2), fg.2.2 q (dz_beq_ne (nq q (by omega)).2.2.2)]
      · have nn := nq q (by omega)
        rw [M1 q (by omega) nn.1 nn.2.1 (fun e => by rw [e, n782] at hq; omega) (by omega), ow_at nn.2.2.1]
      · have nn := nq q (by omega)
        rw [c2.2.2 q (by unfold nz_PL; rw [dz_beq_ne nn.1, dz_beq_ne nn.2.1]; rfl), b2.2.2 q (dz_beq_ne nn.1), ow_at nn.2.2.1, f2.2.2 q (tx_Pn (fun e => by rw [e, ((rU_of hX.1).2 _ t8).2.1] at hq; omega) (fun e => by rw [e, ((rU_of hX.1).2 _ t8).2.2] at hq; omega)), fg.2.2 q (dz_beq_ne nn.2.2.2)]
    have FN := tw_fin hb C d1 M1 (fun j j0 j2 j3 => by rw [J4, c3 j j3]; exact b3 j j0 j2) (by rw [J4, c3 2 (by decide)]; exact b4) ⟨by rw [d2.1.1, c2.1, b2.1], by rw [d2.1.2.1, c2.2.1, b2.2.1]⟩ XX
    refine ez_go (n := 2) (pc' := 1213) (L' := [(6, .inl (r)), (5, .inl (0)), (4, .inl (i)), (0, .inr (.inr (some (0)))), (1, .inr (.inr (some (192)))), (2, .inr (.inr (some (770)))), (3, .inr (.inr (some (805))))]) (st' := []) rfl ?_
    refine ez_less [(4, .inl (i)), (0, .inr (.inr (some (0)))), (1, .inr (.inr (some (192)))), (2, .inr (.inr (some (770)))), (3, .inr (.inr (some (805))))] rfl ⟨rfl, rfl, rfl, rfl, rfl, trivial⟩ ?_
    exact k _ _ FN.1 FN.2

end EzTw
