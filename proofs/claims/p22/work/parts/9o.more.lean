/-! The law: calls that make texts. -/
/-- tags of what they may write -/
def tgk (t : Nat) : Bool := Nat.ble t 2 || (Nat.beq t 21 || (Nat.beq t 35 || (Nat.beq t 37 || (Nat.beq t 44 || ((Nat.ble 62 t && Nat.ble t 75) || ((Nat.beq t 79 || (Nat.ble 82 t && Nat.ble t 85)) || (Nat.beq t 88 || (Nat.beq t 89 || (Nat.beq t 46 || (Nat.beq t 77 || Nat.beq t 86))))))))))
theorem p2_no {t : Nat} (h : qz_p2 t = true) : tgk t = false ∧ t ≠ 0 := by
  have h0 : qz_pr0 t = true := (Bool.and_eq_true_iff.mp h).1
  have hlt : t < 90 := Classical.byContradiction fun w => by
    have e : Nat.shiftRight 929437283966684488999609080 t = 0 := by
      show 929437283966684488999609080 >>> t = 0
      rw [Nat.shiftRight_eq_div_pow]
      exact Nat.div_eq_of_lt (Nat.lt_of_lt_of_le (show 929437283966684488999609080 < 2 ^ 90 by decide) (Nat.pow_le_pow_right (by decide) (by omega)))
    unfold qz_pr0 at h0
    rw [e] at h0
    cases h0
  have key : ∀ j, j < 90 → qz_p2 j = true → tgk j = false ∧ j ≠ 0 := by decide
  exact key t hlt h
theorem X_s3 {τ τ1 : Nat → Nat} {h g : cz_H} (hX : qz_X rR τ h) (hB1 : ez_B τ1 g) (x1 : jz_X τ1) (s : qz_s2 τ h τ1 g) (x2 : qz_X2 τ1 g) (hp : rP g) (hx : rXt g) : dz_B tz_T (qz_X rR) τ1 g := ⟨hB1.1, ⟨x1, hB1.2.1, x2, XP_s2 s hX.2.2.2.1, rR_s2 s hX.2.2.2.2 hp hx⟩, hB1.2.2⟩
theorem tg_fin {τ τ3 : Nat → Nat} {h g : cz_H} (hb : dz_B tz_T (qz_X rR) τ h) (B3 : ez_B τ3 g) (T : ∀ q, τ q ≠ 0 → τ3 q = τ q) (T0 : ∀ q, τ q = 0 → τ3 q ≠ 0 → τ3 q = 21) (C : ∀ q, τ q ≠ 0 → tgk (τ q) = false → g.2.2 q = h.2.2 q) (J : ∀ j, j ≠ 0 → j ≠ 2 → j ≠ 4 → j ≠ 24 → j ≠ 25 → j ≠ 30 → j ≠ 33 → qz_I g 770 j = qz_I h 770 j) (hn : qz_I g 192 1 = qz_I g 770 2) (hl : 0 ≤ qz_I g 192 1 ∧ qz_I g 192 1 ≤ qz_I h 192 1) (S : qz_I h 770 25 ≤ qz_N h (sk h) → qz_I g 770 25 ≤ qz_N g (sk g)) (R2 : (g.2.1 : Int) - h.2.1 ≤ 2 * (qz_N g (sk g) - qz_N h (sk h)) + 18) (R1 : 64 * ((g.1 : Int) - h.1) ≤ (qz_N g (sk g) - qz_N h (sk h)) + 256) (xx : rXt g) : dz_B tz_T (qz_X rR) τ3 g ∧ stp h g := by
  have hB := dz_ezB hb
  have hX := hb.2.1
  have t770 : τ 770 = 75 := hX.1 770 (by decide)
  have X3 : jz_X τ3 := fun r hr => by rw [T r (by rw [hX.1 r hr]; exact hr)]; exact hX.1 r hr
  have u770 : τ3 770 = 75 := X3 770 (by decide)
  have cc : ∀ q t, τ q = t → (!(Nat.beq t 0) && !(tgk t)) = true → g.2.2 q = h.2.2 q := fun q t ht w => by
    rw [Bool.and_eq_true, Bool.not_eq_true', Bool.not_eq_true'] at w
    exact C q (fun e => by rw [← ht, e] at w; cases w.1) (by rw [ht]; exact w.2)
  have s : qz_s2 τ h τ3 g := by
    refine ⟨fun r hr => T r (fun e => by rw [e] at hr; cases hr), fun r hr => ?_, fun r hr => ?_, fun _ j hj => ?_⟩
    · by_cases e : τ r = 0
      · have w := T0 r e (fun w => by rw [w] at hr; cases hr)
        rw [w] at hr; cases hr
      · exact T r e
    · obtain ⟨a, b⟩ := p2_no hr
      exact C r b a
    · exact J j (fun e => by rw [e] at hj; cases hj) (fun e => by rw [e] at hj; cases hj) (fun e => by rw [e] at hj; cases hj) (fun e => by rw [e] at hj; cases hj) (fun e => by rw [e] at hj; cases hj) (fun e => by rw [e] at hj; cases hj) (fun e => by rw [e] at hj; cases hj)
  obtain ⟨⟨y1, y2⟩, y3, y4⟩ := hX.2.2.1
  have e35 : qz_P g 770 35 = qz_P h 770 35 := by unfold qz_P; rw [J 35 (by decide) (by decide) (by decide) (by decide) (by decide) (by decide) (by decide)]
  have x2 : qz_X2 τ3 g := by
    refine ⟨⟨ez_tsk B3 u770, S y2⟩, by rw [e35, T _ (by rw [y3]; decide)]; exact y3, ?_⟩
    rw [e35, J 36 (by decide) (by decide) (by decide) (by decide) (by decide) (by decide) (by decide)]
    unfold qz_N; rw [cc _ 23 y3 rfl]; exact y4
  have rp : rP g := by
    obtain ⟨Ls, ⟨t, c, m, w, s6, s7, u, p⟩, ww, x9⟩ := hX.2.2.2.2
    intro j
    have a1 : qz_I g 193 j = qz_I h 193 j := by unfold qz_I; rw [cc 193 45 (hX.1 193 (by decide)) rfl]
    have a2 : qz_I g 771 j = qz_I h 771 j := by unfold qz_I; rw [cc 771 76 (hX.1 771 (by decide)) rfl]
    rw [a1, a2]; exact p j
  refine ⟨X_s3 hX B3 X3 s x2 rp xx, ?_⟩
  obtain ⟨-, t24, t35, t38, t39, t40⟩ := ez_tg5 hB t770
  have td := (ez_tdb hB t770).2
  have tt := ez_tls hB t770
  have jf : ∀ j, j ≠ 0 → j ≠ 2 → j ≠ 4 → j ≠ 24 → j ≠ 25 → j ≠ 30 → j ≠ 33 → qz_P g 770 j = qz_P h 770 j := fun j a b c d e f i => by unfold qz_P; rw [J j a b c d e f i]
  have b1 : qz_N g (bw g) = qz_N h (bw h) := by rw [show bw g = bw h from jf 22 (by decide) (by decide) (by decide) (by decide) (by decide) (by decide) (by decide)]; unfold qz_N; rw [cc _ 20 td rfl]
  have b3 : qz_N g (gel g) = qz_N h (gel h) := by rw [show gel g = gel h from jf 35 (by decide) (by decide) (by decide) (by decide) (by decide) (by decide) (by decide)]; unfold qz_N; rw [cc _ 23 t35 rfl]
  have b4 : qz_N g (gfo g) = qz_N h (gfo h) := by rw [show gfo g = gfo h from jf 38 (by decide) (by decide) (by decide) (by decide) (by decide) (by decide) (by decide)]; unfold qz_N; rw [cc _ 24 t38 rfl]
  have b5 : qz_N g (got g) = qz_N h (got h) := by rw [show got g = got h from jf 39 (by decide) (by decide) (by decide) (by decide) (by decide) (by decide) (by decide)]; unfold qz_N; rw [cc _ 25 t39 rfl]
  have b6 : qz_N g (gke g) = qz_N h (gke h) := by rw [show gke g = gke h from jf 40 (by decide) (by decide) (by decide) (by decide) (by decide) (by decide) (by decide)]; unfold qz_N; rw [cc _ 25 t40 rfl]
  have b7 : qz_N g (po g) = qz_N h (po h) := by rw [show po g = po h from jf 9 (by decide) (by decide) (by decide) (by decide) (by decide) (by decide) (by decide)]; unfold qz_N; rw [cc _ 17 tt.2 rfl]
  have b8 : qz_N g (ls g) = qz_N h (ls h) := by rw [show ls g = ls h from jf 11 (by decide) (by decide) (by decide) (by decide) (by decide) (by decide) (by decide)]; unfold qz_N; rw [cc _ 18 tt.1 rfl]
  refine stp_q (by unfold qz_N; rw [cc 0 34 (hX.1 0 (by decide)) rfl]) hn hl (by unfold qz_I; rw [cc 202 48 (hX.1 202 (by decide)) rfl]) (J 12 (by decide) (by decide) (by decide) (by decide) (by decide) (by decide) (by decide)) ?_ ?_
  · unfold psi; rw [b1, b3, b4, b5, b6, b7, b8]; omega
  · unfold phc; rw [b1, b3, b4, b5, b6, b7, b8]; omega
/-- a slot's text is another -/
def upX (X : Nat → List Int) (t : Nat) (l : List Int) : Nat → List Int := fun s => if s = t then l else X s
theorem txs_up {h g : cz_H} {X : Nat → List Int} {t : Nat} {l : List Int} (x : txs h X) (e : ∀ q, 754 ≤ q → q ≤ 769 → q ≠ 754 + 2 * t → q ≠ 754 + 2 * t + 1 → g.2.2 q = h.2.2 q) (a : tx g (754 + 2 * t) l) (pl : ptl l) (ll : l.length ≤ 2000) : txs g (upX X t l) := fun s hs => by
  unfold upX
  by_cases w : s = t
  · rw [if_pos w, w]; exact ⟨a, pl, ll⟩
  · rw [if_neg w]
    obtain ⟨b, c⟩ := x s hs
    exact ⟨tx_c b (e _ (by omega) (by omega) (by omega) (by omega)) (e _ (by omega) (by omega) (by omega) (by omega)), c⟩
theorem mxs_up {h g : cz_H} {X : Nat → List Int} {t : Nat} {l : List Int} (x : mxs h X) (e : ∀ q, 774 ≤ q → q ≤ 781 → q ≠ 774 + t → g.2.2 q = h.2.2 q) (e8 : ∀ s, s ≠ t → qz_I g 782 s = qz_I h 782 s) (a : mx g t l) (pl : ptl l) (ll : l.length ≤ 2000) : mxs g (upX X t l) := fun s hs => by
  unfold upX
  by_cases w : s = t
  · rw [if_pos w, w]; exact ⟨a, pl, ll⟩
  · rw [if_neg w]
    obtain ⟨⟨b1, b2⟩, c⟩ := x s hs
    refine ⟨⟨by rw [e8 s w]; exact b1, fun j v hv => ?_⟩, c⟩
    have := b2 j v hv
    unfold qz_I at this ⊢
    rw [e _ (by omega) (by omega) (by omega)]; exact this
/-- a class's text stays, but for one -/
theorem txs_k1 {h g : cz_H} {X : Nat → List Int} (x : txs h X) (e : ∀ q, 754 ≤ q → q ≤ 769 → g.2.2 q = h.2.2 q) : txs g X := x.k (fun q hq => e q hq.1 hq.2)
/-- all that is sealed, for FORMS -/
theorem rW_nm {τ : Nat → Nat} {h : cz_H} {Ls : List vz} (hB : ez_B τ h) (hX : jz_X τ) (m : mJ τ h Ls) (w : uz_wf (vF Ls)) (s7 : qz_I h 770 7 ≠ 0 → uz_S (vF Ls) (vE Ls) ∧ sq h ∧ eJ τ h (vF Ls) ∧ pP h (vF Ls) ∧ ∀ x, (vF Ls x).2 ≠ none → az (vF Ls) 501 x) (ww : rW τ h Ls) (s : qz_I h 770 7 ≠ 0) : nmC τ h Ls := by
  obtain ⟨a1, a2, a3, a4, a5⟩ := s7 s
  exact ⟨⟨hB, hX, m⟩, ⟨hB, hX 770 (by decide), a3⟩, (ww.2.2.2.2.1 s).1, w, a1, a5⟩
/-- what is worked with in the class -/
def pkt (t : Nat) : Bool := Nat.ble t 2 || (Nat.ble 62 t && Nat.ble t 74)
def pkf (τ : Nat → Nat) (P : Nat → Bool) : Prop := ∀ q, pkt (τ q) = false → P q = false
theorem pk_no (τ : Nat → Nat) : pkf τ (fun _ => false) := fun _ _ => rfl
theorem pk_co {τ : Nat → Nat} (hX : jz_X τ) : pkf τ (co_P 196) := fun q hq => by
  refine co_Pn (fun e => ?_) (fun e => ?_) ?_
  · rw [e, hX 196 (by decide)] at hq; cases hq
  · rw [e, hX 197 (by decide)] at hq; cases hq
  · by_cases e : 730 ≤ q ∧ q ≤ 732
    · exfalso
      have : q = 730 ∨ q = 731 ∨ q = 732 := by omega
      rcases this with w | w | w <;> (subst w; rw [hX _ (by decide)] at hq; cases hq)
    · omega
theorem pk_cg {τ : Nat → Nat} (hX : jz_X τ) : pkf τ cg_P := fun q hq => by
  refine cg_tag hX (fun e => by rw [e] at hq; cases hq) (fun e => by rw [e] at hq; cases hq) ?_
  by_cases w : 65 ≤ τ q ∧ τ q ≤ 74
  · exfalso
    have : τ q = 65 ∨ τ q = 66 ∨ τ q = 67 ∨ τ q = 68 ∨ τ q = 69 ∨ τ q = 70 ∨ τ q = 71 ∨ τ q = 72 ∨ τ q = 73 ∨ τ q = 74 := by omega
    rcases this with e | e | e | e | e | e | e | e | e | e <;> (rw [e] at hq; cases hq)
  · omega
theorem tgk_pk {t : Nat} (h : tgk t = false) : pkt t = false := by
  unfold tgk at h
  unfold pkt
  rw [Bool.or_eq_false_iff] at h
  obtain ⟨h1, h⟩ := h
  rw [h1, Bool.false_or]
  simp only [Bool.or_eq_false_iff] at h
  have h6 := h.2.2.2.2.1
  cases e1 : Nat.ble 62 t with
  | false => rfl
  | true =>
    rw [e1, Bool.true_and] at h6
    rw [Bool.true_and]
    cases e2 : Nat.ble t 74 with
    | false => rfl
    | true => rw [Nat.ble_eq_true_of_le (Nat.le_succ_of_le (Nat.le_of_ble_eq_true e2))] at h6; cases h6
/-- the model's first steps -/
def mH (H h1 : cz_H) : Prop := (∀ q, q ≠ 770 → q ≠ 797 → h1.2.2 q = H.2.2 q) ∧ (∀ j, j ≠ 0 → qz_I h1 770 j = qz_I H 770 j) ∧ h1.1 = H.1 ∧ h1.2.1 = H.2.1
theorem mF.H {H h1 : cz_H} {c : Int} (m : mF H h1 c) : mH H h1 := ⟨fun q a _ => m.1.2.2 q (dz_beq_ne a), m.2.1, m.1.1, m.1.2.1⟩
theorem mF.H7 {H h1 h2 : cz_H} {c : Int} (m : mF H h1 c) (f : ez_fr (ez_one 797) h1 h2) : mH H h2 := ⟨fun q a b => (f.2.2 q (dz_beq_ne b)).trans (m.1.2.2 q (dz_beq_ne a)), fun j hj => (f.I rfl j).trans (m.2.1 j hj), f.1.trans m.1.1, f.2.1.trans m.1.2.1⟩
section TgM
variable {τ τ2 : Nat → Nat} {h H h1 g2 g3 : cz_H}
/-- the model, behind the class -/
theorem tg_mk (hb : dz_B tz_T (qz_X rR) τ h) (hn : qz_I h 192 1 = qz_I h 770 2) (CH : ∀ q, τ q ≠ 0 → pkt (τ q) = false → τ q ≠ 35 → τ q ≠ 88 → τ q ≠ 89 → H.2.2 q = h.2.2 q) (rH : H.1 ≤ h.1 + 1 ∧ H.2.1 ≤ h.2.1 + 6) (m1 : mH H h1) (n : nk τ h1 τ2 g2) (c3 : ∀ q, τ2 q ≠ 0 → q ≠ 770 → τ2 q ≠ 37 → τ2 q ≠ 79 → g3.2.2 q = g2.2.2 q) (j3 : ∀ j, j ≠ 0 → qz_I g3 770 j = qz_I g2 770 j) (r3 : g3.1 ≤ g2.1 + 1 ∧ g3.2.1 ≤ g2.2.1 + 6) (B2 : ez_B τ2 g2) (B3 : ez_B τ2 g3) (xx : rXt g3) : dz_B tz_T (qz_X rR) τ2 g3 ∧ stp h g3 := by
  have hB := dz_ezB hb
  have hX := hb.2.1.1
  have t770 : τ 770 = 75 := hX 770 (by decide)
  have t192 : τ 192 = 44 := hX 192 (by decide)
  have u770 : τ2 770 = 75 := n.X hX 770 (by decide)
  have tsk := ez_tsk hB t770
  have C1 : ∀ q, τ q ≠ 0 → pkt (τ q) = false → τ q ≠ 35 → τ q ≠ 88 → τ q ≠ 89 → τ q ≠ 75 → τ q ≠ 84 → h1.2.2 q = h.2.2 q := fun q a b c d e f f4 => (m1.1 q (fun w => by rw [w, t770] at f; exact f rfl) (fun w => by rw [w, hX 797 (by decide)] at f4; exact f4 rfl)).trans (CH q a b c d e)
  have H7 : H.2.2 770 = h.2.2 770 := CH 770 (by rw [t770]; decide) (by rw [t770]; rfl) (by rw [t770]; decide) (by rw [t770]; decide) (by rw [t770]; decide)
  have J1 : ∀ j, j ≠ 0 → qz_I h1 770 j = qz_I h 770 j := fun j hj => by rw [m1.2.1 j hj]; unfold qz_I; rw [H7]
  have J : ∀ j, j ≠ 0 → j ≠ 24 → j ≠ 25 → j ≠ 30 → qz_I g3 770 j = qz_I h 770 j := fun j a b c d => by rw [j3 j a, n.2.2.1 j b c d, J1 j a]
  have esk : sk h1 = sk h := by unfold sk qz_P; rw [J1 24 (by decide)]
  have e3k : sk g3 = sk g2 := by unfold sk qz_P; rw [j3 24 (by decide)]
  have Nsk : qz_N h1 (sk h1) = qz_N h (sk h) := by rw [esk]; unfold qz_N; rw [C1 _ (by rw [tsk]; decide) (by rw [tsk]; rfl) (by rw [tsk]; decide) (by rw [tsk]; decide) (by rw [tsk]; decide) (by rw [tsk]; decide) (by rw [tsk]; decide)]
  have tk2 := ez_tsk B2 u770
  have N3k : qz_N g3 (sk g3) = qz_N g2 (sk g2) := by rw [e3k]; unfold qz_N; rw [c3 _ (by rw [tk2]; decide) (fun w => by rw [w, u770] at tk2; cases tk2) (by rw [tk2]; decide) (by rw [tk2]; decide)]
  have c192 : g3.2.2 192 = h.2.2 192 := by
    have u : τ2 192 = 44 := n.X hX 192 (by decide)
    rw [c3 192 (by rw [u]; decide) (by decide) (by rw [u]; decide) (by rw [u]; decide), n.C hX (by rw [t192]; decide) (by rw [t192]; decide) (by rw [t192]; decide) (by rw [t192]; decide) (by rw [t192]; decide) (by rw [t192]; decide), C1 192 (by rw [t192]; decide) (by rw [t192]; rfl) (by rw [t192]; decide) (by rw [t192]; decide) (by rw [t192]; decide) (by rw [t192]; decide) (by rw [t192]; decide)]
  have i192 : qz_I g3 192 1 = qz_I h 192 1 := by unfold qz_I; rw [c192]
  have bt : 0 ≤ qz_I h 192 1 ∧ qz_I h 192 1 ≤ 4096 := ez_fB (cl := 0) hB t192 tq_44 rfl rfl (by decide)
  have a5 := n.2.2.2.2.1
  have m11 := m1.2.2.1
  have m12 := m1.2.2.2
  rw [Nsk] at a5
  refine tg_fin hb B3 (fun q hq => (n.1 q hq).1) n.2.1 (fun q hq ht => ?_) (fun j a _ _ c d e _ => J j a c d e) (by rw [i192, J 2 (by decide) (by decide) (by decide) (by decide)]; exact hn) (by rw [i192]; omega) (fun w => ?_) (by rw [N3k]; omega) (by rw [N3k]; omega) xx
  · have pf := tgk_pk ht
    have ne : ∀ k, tgk k = true → τ q ≠ k := fun k hk e => by rw [e, hk] at ht; cases ht
    have eT := (n.1 q hq).1
    rw [c3 q (by rw [eT]; exact hq) (fun e => by rw [e, t770] at ht; cases ht) (by rw [eT]; exact ne 37 rfl) (by rw [eT]; exact ne 79 rfl), n.C hX hq (ne 75 rfl) (ne 82 rfl) (ne 83 rfl) (ne 85 rfl) (ne 21 rfl)]
    exact C1 q hq pf (ne 35 rfl) (ne 88 rfl) (ne 89 rfl) (ne 75 rfl) (ne 84 rfl)
  · rw [j3 25 (by decide), N3k]
    refine n.2.2.2.2.2.2 ?_
    rw [J1 25 (by decide), Nsk]; exact w
/-- a text made on both sides -/
theorem tg_ok {X : Nat → List Int} {t : Nat} {res : List Int} {v : Int} {P0 : Nat → Bool} {gA gB : cz_H} (hb : dz_B tz_T (qz_X rR) τ h) (hn : qz_I h 192 1 = qz_I h 770 2) (x1 : txs h X) (x2 : mxs h X) (t8 : t < 8) (hP : pkf τ P0) (fA : ez_fr P0 h gA) (fB : ez_fr (tx_P (754 + 2 * t)) gA gB) (tB : tx gB (754 + 2 * t) res) (pl : ptl res) (ll : res.length ≤ 2000) (m1 : mH (ow gB v) h1) (n : nk τ h1 τ2 g2) (B2 : ez_B τ2 g2) (B3 : ez_B τ2 g3) (f : mxf t g2 g3) (mx3 : mx g3 t res) : dz_B tz_T (qz_X rR) τ2 g3 ∧ stp h g3 := by
  have hX := hb.2.1.1
  have t770 : τ 770 = 75 := hX 770 (by decide)
  have tt := (rU_of hX).2
  have CB : ∀ q, τ q ≠ 0 → pkt (τ q) = false → τ q ≠ 88 → τ q ≠ 89 → gB.2.2 q = h.2.2 q := fun q a b c d => by
    have q1 : q ≠ 754 + 2 * t := fun e => c (by rw [e]; exact (tt t t8).2.1)
    have q2 : q ≠ 754 + 2 * t + 1 := fun e => d (by rw [e]; exact (tt t t8).2.2)
    rw [fB.2.2 q (tx_Pn q1 q2), fA.2.2 q (hP q b)]
  have CO : ∀ q, τ q ≠ 0 → pkt (τ q) = false → τ q ≠ 35 → τ q ≠ 88 → τ q ≠ 89 → (ow gB v).2.2 q = h.2.2 q := fun q a b c d e => by
    rw [ow_at (fun w => c (by rw [w]; exact hX 805 (by decide)))]; exact CB q a b d e
  have rO : (ow gB v).1 = h.1 ∧ (ow gB v).2.1 = h.2.1 := ⟨fB.1.trans fA.1, fB.2.1.trans fA.2.1⟩
  have c3 : ∀ q, τ2 q ≠ 0 → q ≠ 770 → τ2 q ≠ 37 → τ2 q ≠ 79 → g3.2.2 q = g2.2.2 q := fun q _ _ a b => f.1.2.2 q (mx_Pn (fun e => a (by rw [e, (n.1 _ (by rw [(tt t t8).1]; decide)).1]; exact (tt t t8).1)) (fun e => b (by rw [e]; exact n.X hX 782 (by decide))))
  refine tg_mk hb hn CO ⟨by rw [rO.1]; omega, by rw [rO.2]; omega⟩ m1 n c3 (fun j _ => f.1.I (mx_Pn (by omega) (by decide)) j) ⟨by rw [f.1.1]; omega, by rw [f.1.2.1]; omega⟩ B2 B3 ?_
  have up : ∀ q, τ q = 88 ∨ τ q = 89 → g3.2.2 q = gB.2.2 q := fun q hq => by
    have eT := (n.1 q (by omega)).1
    rw [c3 q (by rw [eT]; omega) (fun e => by rw [e, t770] at hq; omega) (by rw [eT]; omega) (by rw [eT]; omega), n.C hX (by omega) (by omega) (by omega) (by omega) (by omega) (by omega), m1.1 q (fun e => by rw [e, t770] at hq; omega) (fun e => by rw [e, hX 797 (by decide)] at hq; revert hq; decide), ow_at (fun e => by rw [e, hX 805 (by decide)] at hq; revert hq; decide)]
  have mo : ∀ q, τ q = 37 ∨ τ q = 79 → g2.2.2 q = h.2.2 q := fun q hq => by
    have pf : pkt (τ q) = false := by rcases hq with e | e <;> (rw [e]; rfl)
    rw [n.C hX (by omega) (by omega) (by omega) (by omega) (by omega) (by omega), m1.1 q (fun e => by rw [e, t770] at hq; omega) (fun e => by rw [e, hX 797 (by decide)] at hq; revert hq; decide)]
    exact CO q (by omega) pf (by omega) (by omega) (by omega)
  refine ⟨upX X t res, txs_up x1 (fun q a b c d => ?_) (tx_c tB (up _ (Or.inl (tt t t8).2.1)) (up _ (Or.inr (tt t t8).2.2))) pl ll, mxs_up x2 (fun q a b c => ?_) (fun s hs => ?_) mx3 pl ll⟩
  · obtain ⟨s, hs⟩ : ∃ s, s = (q - 754) / 2 := ⟨_, rfl⟩
    have ts := tt s (by omega)
    have hq : τ q = 88 ∨ τ q = 89 := by
      have : q = 754 + 2 * s ∨ q = 754 + 2 * s + 1 := by omega
      rcases this with e | e
      · exact Or.inl (by rw [e]; exact ts.2.1)
      · exact Or.inr (by rw [e]; exact ts.2.2)
    rw [up q hq, fB.2.2 q (tx_Pn c d), fA.2.2 q (hP q (by rcases hq with e | e <;> (rw [e]; rfl)))]
  · have ts := (tt (q - 774) (by omega)).1
    rw [show 774 + (q - 774) = q by omega] at ts
    rw [f.1.2.2 q (mx_Pn c (by omega)), mo q (Or.inl ts)]
  · rw [f.2 s hs]; unfold qz_I; rw [mo 782 (Or.inr (hX 782 (by decide)))]
/-- no room on either side -/
theorem tg_no {P0 : Nat → Bool} {gA : cz_H} {e0 e1 : Nat} {c1 : Int} (hb : dz_B tz_T (qz_X rR) τ h) (hn : qz_I h 192 1 = qz_I h 770 2) (hP : pkf τ P0) (BA : ez_B τ gA) (fA : ez_fr P0 h gA) (m1 : mH (xc gA e0) h1) (n : nk τ h1 τ2 g2) (B2 : ez_B τ2 g2) (m2 : mF (xc g2 e1) g3 c1) (B3 : ez_B τ2 g3) : dz_B tz_T (qz_X rR) τ2 g3 ∧ stp h g3 := by
  have hX := hb.2.1.1
  have t770 : τ 770 = 75 := hX 770 (by decide)
  have u770 : τ2 770 = 75 := n.X hX 770 (by decide)
  have tt := (rU_of hX).2
  have CO : ∀ q, τ q ≠ 0 → pkt (τ q) = false → (xc gA e0).2.2 q = h.2.2 q := fun q a b => (xc_t BA a).trans (fA.2.2 q (hP q b))
  have c3 : ∀ q, τ2 q ≠ 0 → q ≠ 770 → g3.2.2 q = g2.2.2 q := fun q a b => (m2.1.2.2 q (dz_beq_ne b)).trans (xc_t B2 a)
  refine tg_mk hb hn (fun q a b _ _ _ => CO q a b) ⟨by show gA.1 + 1 ≤ _; rw [fA.1]; omega, by show gA.2.1 + 6 ≤ _; rw [fA.2.1]; omega⟩ m1 n (fun q a b _ _ => c3 q a b) (fun j hj => ?_) ⟨by rw [m2.1.1]; exact Nat.le_refl _, by rw [m2.1.2.1]; exact Nat.le_refl _⟩ B2 B3 ?_
  · rw [m2.2.1 j hj]; unfold qz_I; rw [xc_t B2 (by rw [u770]; decide)]
  · obtain ⟨Ls, -, ww, xx⟩ := hb.2.1.2.2.2.2
    refine rX_t ww.1 xx (fun q hq => ?_)
    have eT := (n.1 q (by omega)).1
    rw [c3 q (by rw [eT]; omega) (fun e => by rw [e, t770] at hq; omega), n.C hX (by omega) (by omega) (by omega) (by omega) (by omega) (by omega), m1.1 q (fun e => by rw [e, t770] at hq; omega) (fun e => by rw [e, hX 797 (by decide)] at hq; revert hq; decide)]
    exact CO q (by omega) (by rcases hq with e | e | e | e <;> (rw [e]; rfl))
end TgM
/-! The law: add, part, normal, join, change. (Written by wip/p2/py/pvw1.py.) -/
/-- what the model asks for, behind the class -/
theorem tg_pre {τ : Nat → Nat} {h H : cz_H} {Ls : List vz} {X : Nat → List Int} (hX : jz_X τ) (t : rT τ h) (m : mJ τ h Ls) (w : uz_wf (vF Ls)) (s7 : qz_I h 770 7 ≠ 0 → uz_S (vF Ls) (vE Ls) ∧ sq h ∧ eJ τ h (vF Ls) ∧ pP h (vF Ls) ∧ ∀ x, (vF Ls x).2 ≠ none → az (vF Ls) 501 x) (ww : rW τ h Ls) (x2 : mxs h X) (BH : ez_B τ H) (CH : ∀ q, τ q ≠ 0 → pkt (τ q) = false → τ q ≠ 35 → τ q ≠ 88 → τ q ≠ 89 → H.2.2 q = h.2.2 q) : (mI τ H Ls 0 ∧ (qz_I H 770 7 ≠ 0 → nmC τ H Ls)) ∧ slt H ∧ mxs H X ∧ (∀ j, qz_I H 770 j = qz_I h 770 j) ∧ (∀ j, qz_I H 0 j = qz_I h 0 j) ∧ qz_N H 0 = qz_N h 0 := by
  have t770 : τ 770 = 75 := hX 770 (by decide)
  have t0 : τ 0 = 34 := hX 0 (by decide)
  have c7 : H.2.2 770 = h.2.2 770 := CH 770 (by rw [t770]; decide) (by rw [t770]; rfl) (by rw [t770]; decide) (by rw [t770]; decide) (by rw [t770]; decide)
  have c0 : H.2.2 0 = h.2.2 0 := CH 0 (by rw [t0]; decide) (by rw [t0]; rfl) (by rw [t0]; decide) (by rw [t0]; decide) (by rw [t0]; decide)
  have e7 : ∀ j, qz_I H 770 j = qz_I h 770 j := fun j => by unfold qz_I; rw [c7]
  have s : qz_s2 τ h τ H := ⟨fun _ _ => rfl, fun _ _ => rfl, fun r hr => by
    obtain ⟨a, b⟩ := p2_no hr
    have ne : ∀ k, tgk k = true → τ r ≠ k := fun k hk e => by rw [e, hk] at a; cases a
    exact CH r b (tgk_pk a) (ne 35 rfl) (ne 88 rfl) (ne 89 rfl), fun _ j _ => e7 j⟩
  have k := rK_of s t
  have m2 := k.Jm m
  have wW := k.W ww
  have tt := (rU_of hX).2
  have uq : ∀ q tg, τ q = tg → (tg = 37 ∨ tg = 79) → H.2.2 q = h.2.2 q := fun q tg hq ht => by
    rcases ht with e | e <;> (subst e; exact CH q (by rw [hq]; decide) (by rw [hq]; rfl) (by rw [hq]; decide) (by rw [hq]; decide) (by rw [hq]; decide))
  refine ⟨⟨⟨BH, hX, m2⟩, fun z => rW_nm BH hX m2 w (fun z9 => ?_) wW z⟩, wW.2.1, x2.k (fun q hq => ?_), e7, fun j => by unfold qz_I; rw [c0], by unfold qz_N; rw [c0]⟩
  · obtain ⟨a1, a2, a3, a4, a5⟩ := s7 (by rw [← e7]; exact z9)
    exact ⟨a1, k.Js a2, k.Je a3, k.Jp a4, a5⟩
  · by_cases e : q = 782
    · rw [e]; exact uq 782 79 (hX 782 (by decide)) (Or.inr rfl)
    · have ts := (tt (q - 774) (by omega)).1
      rw [show 774 + (q - 774) = q by omega] at ts
      exact uq q 37 ts (Or.inl rfl)
section TgH
variable {τ : Nat → Nat} {h g3 gA gB : cz_H} {P0 : Nat → Bool}
theorem ow_CH {t : Nat} {v : Int} (hX : jz_X τ) (t8 : t < 8) (hP : pkf τ P0) (fA : ez_fr P0 h gA) (fB : ez_fr (tx_P (754 + 2 * t)) gA gB) : ∀ q, τ q ≠ 0 → pkt (τ q) = false → τ q ≠ 35 → τ q ≠ 88 → τ q ≠ 89 → (ow gB v).2.2 q = h.2.2 q := fun q _ b c d e => by
  have tt := (rU_of hX).2 t t8
  rw [ow_at (fun w => c (by rw [w]; exact hX 805 (by decide))), fB.2.2 q (tx_Pn (fun w => d (by rw [w]; exact tt.2.1)) (fun w => e (by rw [w]; exact tt.2.2))), fA.2.2 q (hP q b)]
/-- no room, told at once by the model -/
theorem tg_nl {e0 : Nat} {c1 : Int} (hb : dz_B tz_T (qz_X rR) τ h) (hn : qz_I h 192 1 = qz_I h 770 2) (hP : pkf τ P0) (BA : ez_B τ gA) (fA : ez_fr P0 h gA) (m1 : mF (xc gA e0) g3 c1) (B3 : ez_B τ g3) : dz_B tz_T (qz_X rR) τ g3 ∧ stp h g3 := by
  have hX := hb.2.1.1
  have t770 : τ 770 = 75 := hX 770 (by decide)
  have CO : ∀ q, τ q ≠ 0 → pkt (τ q) = false → (xc gA e0).2.2 q = h.2.2 q := fun q a b => (xc_t BA a).trans (fA.2.2 q (hP q b))
  refine tg_mk hb hn (fun q a b _ _ _ => CO q a b) ⟨by show gA.1 + 1 ≤ _; rw [fA.1]; omega, by show gA.2.1 + 6 ≤ _; rw [fA.2.1]; omega⟩ m1.H (nk.refl τ g3) (fun _ _ _ _ _ => rfl) (fun _ _ => rfl) ⟨by omega, by omega⟩ B3 B3 ?_
  obtain ⟨Ls, -, ww, xx⟩ := hb.2.1.2.2.2.2
  refine rX_t ww.1 xx (fun q hq => ?_)
  rw [m1.1.2.2 q (dz_beq_ne (fun e => by rw [e, t770] at hq; omega))]
  exact CO q (by omega) (by rcases hq with e | e | e | e <;> (rw [e]; rfl))
end TgH
/-- what the class answers -/
def ckP (τ : Nat → Nat) (h : cz_H) (A S Xr : Prop) (P0 : Nat → Bool) (t : Nat) (R : List Int → Prop) (F : cz_F) : Prop := (A ∧ F = (.inr h.1, xc h 1)) ∨ (S ∧ F = (.inr h.1, xc h 2)) ∨ (Xr ∧ ∃ g, F = (.inr g.1, xc g 0) ∧ ez_B τ g ∧ ez_fr P0 h g) ∨ (∃ res g2 g, F = (.inl (some (ez_v (.inl (res.length : Int)))), g) ∧ R res ∧ ptl res ∧ ez_B τ g2 ∧ ez_fr P0 h g2 ∧ ez_B τ g ∧ ez_fr (tx_P (754 + 2 * t)) g2 g ∧ tx g (754 + 2 * t) res)
section EzTg
variable {d : Nat} {h : cz_H} {τ : Nat → Nat} {P Q : cz_F → Prop}
theorem hp_add {a1 a2 : Int} (hB : ez_B τ h) (t192 : τ 192 = 44) (hc : ez_W d cm_3 0 [(0, .inr (.inr (some (192)))), (1, .inl (a1)), (2, .inl (a2))] [] h P) (k : ∀ F, P F → (∃ v τ1 g, F = (.inl (some (ez_v (.inl v))), g) ∧ ez_B τ1 g ∧ τ1 805 = 35 ∧ (ez_B τ1 (ow g v) → Q (.inl (some (ez_v (.inl 0))), ow g v))) ∨ (∃ r g, F = (.inr r, g) ∧ cz_exc g r = some 1 ∧ Q (.inl (some (ez_v (.inl 1))), g)) ∨ (∃ r g, F = (.inr r, g) ∧ cz_exc g r = some 0 ∧ Q (.inl (some (ez_v (.inl 2))), g))) : ez_W (d + 1) cm_194 0 [(0, .inr (.inr (some (192)))), (1, .inl (a1)), (2, .inl (a2)), (3, .inr (.inr (some (805))))] [] h Q := by
  refine ez_go (n := 5) (pc' := 5) (L' := [(0, .inr (.inr (some (192)))), (1, .inl (a1)), (2, .inl (a2)), (3, .inr (.inr (some (805))))]) (st' := [.inl (a2), .inl (a1), .inr (.inr (some (192))), .inl (0), .inr (.inr (some (805)))]) rfl ?_
  refine ez_cv hB t192 rfl rfl rfl tq_44 rfl rfl rfl (ez_mono hc (fun F hF => ?_))
  rcases k F hF with ⟨v, τ1, g, rfl, hB1, u805, kq⟩ | ⟨r, g, rfl, he, kq⟩ | ⟨r, g, rfl, he, kq⟩
  · refine ez_K1 ?_
    refine ez_go (n := 1) (pc' := 9) (L' := [(0, .inr (.inr (some (192)))), (1, .inl (a1)), (2, .inl (a2)), (3, .inr (.inr (some (805))))]) (st' := [.inr (.inl ((Int32.ofInt (v)).toInt64)), .inl (0), .inr (.inr (some (805)))]) rfl ?_
    have n3 : 1 ≤ qz_N g 805 ∧ qz_N g 805 ≤ 1 := ez_len hB1 u805 tq_35 rfl
    refine ez_as hB1 u805 rfl tq_35 rfl rfl (by omega) (by omega) ez_vdJ (fun hB1 w2 => ?_)
    refine ez_go (n := 2) (pc' := 22) (L' := [(0, .inr (.inr (some (192)))), (1, .inl (a1)), (2, .inl (a2)), (3, .inr (.inr (some (805))))]) (st' := [.inl (0)]) rfl ?_
    exact ez_retI rfl rfl (kq hB1)
  · refine ez_Kc he rfl ?_
    refine ez_go (n := 2) (pc' := 16) (L' := [(4, .inr (.inr (some (r)))), (0, .inr (.inr (some (192)))), (1, .inl (a1)), (2, .inl (a2)), (3, .inr (.inr (some (805))))]) (st' := [.inl (1)]) rfl ?_
    exact ez_retI rfl rfl kq
  · refine ez_Kc he rfl ?_
    refine ez_go (n := 2) (pc' := 20) (L' := [(4, .inr (.inr (some (r)))), (0, .inr (.inr (some (192)))), (1, .inl (a1)), (2, .inl (a2)), (3, .inr (.inr (some (805))))]) (st' := [.inl (2)]) rfl ?_
    exact ez_retI rfl rfl kq

theorem rd_addP {X : Nat → List Int} {a1 a2 : Int} (hB : ez_B τ h) (hX : jz_X τ) (sl : slt h) (txh : txs h X) (r1 : ez_rg a1) (r2 : ez_rg a2) (hr1 : h.1 + 1 ≤ 600192) (hr2 : h.2.1 + 6 ≤ 7302232) : ez_W (d + 8) cm_3 0 [(0, .inr (.inr (some (192)))), (1, .inl (a1)), (2, .inl (a2))] [] h (ckP τ h (a1 < 0 ∨ 7 < a1 ∨ a2 < 0 ∨ 1114111 < a2) False (((0 ≤ a1 ∧ a1 ≤ 7) ∧ 0 ≤ a2 ∧ a2 ≤ 1114111) ∧ (X a1.toNat).length = 2000) (fun _ => false) a1.toNat (fun res => ((0 ≤ a1 ∧ a1 ≤ 7) ∧ 0 ≤ a2 ∧ a2 ≤ 1114111) ∧ (X a1.toNat).length < 2000 ∧ res = X a1.toNat ++ [a2])) :=
  rd_cadd hB hX sl txh r1 r2 hr1 hr2 (fun w => Or.inl ⟨w, rfl⟩) (fun w l => Or.inr (Or.inr (Or.inl ⟨⟨w, l⟩, h, rfl, hB, ez_fr.refl _ h⟩))) (fun w l g b1 b2 b3 => Or.inr (Or.inr (Or.inr ⟨X a1.toNat ++ [a2], h, g, by rw [show ((X a1.toNat).length : Int) + 1 = ((X a1.toNat ++ [a2]).length : Int) by rw [List.length_append, List.length_singleton]; omega], ⟨w, l, rfl⟩, ptl_app (txh a1.toNat (by omega)).2.1 (fun v hv => by rw [List.mem_singleton.mp hv]; exact w.2), hB, ez_fr.refl _ h, b1, b2, b3⟩)))
theorem hp_part {a1 a2 a3 a4 : Int} (hB : ez_B τ h) (t192 : τ 192 = 44) (hc : ez_W d cm_25 0 [(0, .inr (.inr (some (192)))), (1, .inl (a1)), (2, .inl (a2)), (3, .inl (a3)), (4, .inl (a4))] [] h P) (k : ∀ F, P F → (∃ v τ1 g, F = (.inl (some (ez_v (.inl v))), g) ∧ ez_B τ1 g ∧ τ1 805 = 35 ∧ (ez_B τ1 (ow g v) → Q (.inl (some (ez_v (.inl 0))), ow g v))) ∨ (∃ r g, F = (.inr r, g) ∧ cz_exc g r = some 1 ∧ Q (.inl (some (ez_v (.inl 1))), g))) : ez_W (d + 1) cm_209 0 [(0, .inr (.inr (some (192)))), (1, .inl (a1)), (2, .inl (a2)), (3, .inl (a3)), (4, .inl (a4)), (5, .inr (.inr (some (805))))] [] h Q := by
  refine ez_go (n := 7) (pc' := 9) (L' := [(0, .inr (.inr (some (192)))), (1, .inl (a1)), (2, .inl (a2)), (3, .inl (a3)), (4, .inl (a4)), (5, .inr (.inr (some (805))))]) (st' := [.inl (a4), .inl (a3), .inl (a2), .inl (a1), .inr (.inr (some (192))), .inl (0), .inr (.inr (some (805)))]) rfl ?_
  refine ez_cv hB t192 rfl rfl rfl tq_44 rfl rfl rfl (ez_mono hc (fun F hF => ?_))
  rcases k F hF with ⟨v, τ1, g, rfl, hB1, u805, kq⟩ | ⟨r, g, rfl, he, kq⟩
  · refine ez_K1 ?_
    refine ez_go (n := 1) (pc' := 13) (L' := [(0, .inr (.inr (some (192)))), (1, .inl (a1)), (2, .inl (a2)), (3, .inl (a3)), (4, .inl (a4)), (5, .inr (.inr (some (805))))]) (st' := [.inr (.inl ((Int32.ofInt (v)).toInt64)), .inl (0), .inr (.inr (some (805)))]) rfl ?_
    have n3 : 1 ≤ qz_N g 805 ∧ qz_N g 805 ≤ 1 := ez_len hB1 u805 tq_35 rfl
    refine ez_as hB1 u805 rfl tq_35 rfl rfl (by omega) (by omega) ez_vdJ (fun hB1 w2 => ?_)
    refine ez_go (n := 2) (pc' := 22) (L' := [(0, .inr (.inr (some (192)))), (1, .inl (a1)), (2, .inl (a2)), (3, .inl (a3)), (4, .inl (a4)), (5, .inr (.inr (some (805))))]) (st' := [.inl (0)]) rfl ?_
    exact ez_retI rfl rfl (kq hB1)
  · refine ez_Kc he rfl ?_
    refine ez_go (n := 2) (pc' := 20) (L' := [(6, .inr (.inr (some (r)))), (0, .inr (.inr (some (192)))), (1, .inl (a1)), (2, .inl (a2)), (3, .inl (a3)), (4, .inl (a4)), (5, .inr (.inr (some (805))))]) (st' := [.inl (1)]) rfl ?_
    exact ez_retI rfl rfl kq

theorem rd_partP {X : Nat → List Int} {a1 a2 a3 a4 : Int} (hB : ez_B τ h) (hX : jz_X τ) (sl : slt h) (txh : txs h X) (r1 : ez_rg a1) (r2 : ez_rg a2) (r3 : ez_rg a3) (r4 : ez_rg a4) (hr1 : h.1 + 1 ≤ 600192) (hr2 : h.2.1 + 6 ≤ 7302232) : ez_W (d + 8) cm_25 0 [(0, .inr (.inr (some (192)))), (1, .inl (a1)), (2, .inl (a2)), (3, .inl (a3)), (4, .inl (a4))] [] h (ckP τ h (a1 < 0 ∨ 7 < a1 ∨ a2 < 0 ∨ 7 < a2 ∨ a3 < 0 ∨ a4 < a3 ∨ ((X a2.toNat).length : Int) < a4) False False (fun _ => false) a1.toNat (fun res => ((0 ≤ a1 ∧ a1 ≤ 7) ∧ (0 ≤ a2 ∧ a2 ≤ 7) ∧ 0 ≤ a3 ∧ a3 ≤ a4 ∧ a4 ≤ ((X a2.toNat).length : Int)) ∧ res = pt (X a2.toNat) a3 a4)) :=
  rd_cpart hB hX sl txh r1 r2 r3 r4 hr1 hr2 (fun w => Or.inl ⟨w, rfl⟩) (fun w g b1 b2 b3 => Or.inr (Or.inr (Or.inr ⟨_, h, g, rfl, ⟨w, rfl⟩, pt_ptl (txh a2.toNat (by omega)).2.1, hB, ez_fr.refl _ h, b1, b2, b3⟩)))
theorem hp_normal {a1 a2 a3 : Int} (hB : ez_B τ h) (t192 : τ 192 = 44) (hc : ez_W d cm_24 0 [(0, .inr (.inr (some (192)))), (1, .inl (a1)), (2, .inl (a2)), (3, .inl (a3))] [] h P) (k : ∀ F, P F → (∃ v τ1 g, F = (.inl (some (ez_v (.inl v))), g) ∧ ez_B τ1 g ∧ τ1 805 = 35 ∧ (ez_B τ1 (ow g v) → Q (.inl (some (ez_v (.inl 0))), ow g v))) ∨ (∃ r g, F = (.inr r, g) ∧ cz_exc g r = some 1 ∧ Q (.inl (some (ez_v (.inl 1))), g)) ∨ (∃ r g, F = (.inr r, g) ∧ cz_exc g r = some 2 ∧ Q (.inl (some (ez_v (.inl 2))), g)) ∨ (∃ r g, F = (.inr r, g) ∧ cz_exc g r = some 0 ∧ Q (.inl (some (ez_v (.inl 3))), g))) : ez_W (d + 1) cm_208 0 [(0, .inr (.inr (some (192)))), (1, .inl (a1)), (2, .inl (a2)), (3, .inl (a3)), (4, .inr (.inr (some (805))))] [] h Q := by
  refine ez_go (n := 6) (pc' := 7) (L' := [(0, .inr (.inr (some (192)))), (1, .inl (a1)), (2, .inl (a2)), (3, .inl (a3)), (4, .inr (.inr (some (805))))]) (st' := [.inl (a3), .inl (a2), .inl (a1), .inr (.inr (some (192))), .inl (0), .inr (.inr (some (805)))]) rfl ?_
  refine ez_cv hB t192 rfl rfl rfl tq_44 rfl rfl rfl (ez_mono hc (fun F hF => ?_))
  rcases k F hF with ⟨v, τ1, g, rfl, hB1, u805, kq⟩ | ⟨r, g, rfl, he, kq⟩ | ⟨r, g, rfl, he, kq⟩ | ⟨r, g, rfl, he, kq⟩
  · refine ez_K1 ?_
    refine ez_go (n := 1) (pc' := 11) (L' := [(0, .inr (.inr (some (192)))), (1, .inl (a1)), (2, .inl (a2)), (3, .inl (a3)), (4, .inr (.inr (some (805))))]) (st' := [.inr (.inl ((Int32.ofInt (v)).toInt64)), .inl (0), .inr (.inr (some (805)))]) rfl ?_
    have n3 : 1 ≤ qz_N g 805 ∧ qz_N g 805 ≤ 1 := ez_len hB1 u805 tq_35 rfl
    refine ez_as hB1 u805 rfl tq_35 rfl rfl (by omega) (by omega) ez_vdJ (fun hB1 w2 => ?_)
    refine ez_go (n := 2) (pc' := 28) (L' := [(0, .inr (.inr (some (192)))), (1, .inl (a1)), (2, .inl (a2)), (3, .inl (a3)), (4, .inr (.inr (some (805))))]) (st' := [.inl (0)]) rfl ?_
    exact ez_retI rfl rfl (kq hB1)
  · refine ez_Kc he rfl ?_
    refine ez_go (n := 2) (pc' := 18) (L' := [(5, .inr (.inr (some (r)))), (0, .inr (.inr (some (192)))), (1, .inl (a1)), (2, .inl (a2)), (3, .inl (a3)), (4, .inr (.inr (some (805))))]) (st' := [.inl (1)]) rfl ?_
    exact ez_retI rfl rfl kq
  · refine ez_Kc he rfl ?_
    refine ez_go (n := 2) (pc' := 22) (L' := [(5, .inr (.inr (some (r)))), (0, .inr (.inr (some (192)))), (1, .inl (a1)), (2, .inl (a2)), (3, .inl (a3)), (4, .inr (.inr (some (805))))]) (st' := [.inl (2)]) rfl ?_
    exact ez_retI rfl rfl kq
  · refine ez_Kc he rfl ?_
    refine ez_go (n := 2) (pc' := 26) (L' := [(5, .inr (.inr (some (r)))), (0, .inr (.inr (some (192)))), (1, .inl (a1)), (2, .inl (a2)), (3, .inl (a3)), (4, .inr (.inr (some (805))))]) (st' := [.inl (3)]) rfl ?_
    exact ez_retI rfl rfl kq

theorem rd_normalP {Ls : List vz} {X : Nat → List Int} {a1 a2 a3 : Int} {T : Int → Nat} (hC : pz_C τ h T (vF Ls) (vE Ls)) (hw : uz_wf (vF Ls)) (hsl : qz_I h 202 6 ≠ 0 → fD h T (vF Ls) ∧ cP h (vF Ls) (vE Ls)) (sl : slt h) (txh : txs h X) (r1 : ez_rg a1) (r2 : ez_rg a2) (r3 : ez_rg a3) (hr1 : h.1 + 1 ≤ 600192) (hr2 : h.2.1 + 6 ≤ 7302232) : ez_W (d + 8) cm_24 0 [(0, .inr (.inr (some (192)))), (1, .inl (a1)), (2, .inl (a2)), (3, .inl (a3))] [] h (ckP τ h (a1 < 0 ∨ 7 < a1 ∨ a2 < 0 ∨ 7 < a2 ∨ a3 < 0 ∨ 3 < a3) (((0 ≤ a1 ∧ a1 ≤ 7) ∧ (0 ≤ a2 ∧ a2 ≤ 7) ∧ 0 ≤ a3 ∧ a3 ≤ 3) ∧ qz_I h 202 6 = 0) (((0 ≤ a1 ∧ a1 ≤ 7) ∧ (0 ≤ a2 ∧ a2 ≤ 7) ∧ 0 ≤ a3 ∧ a3 ≤ 3) ∧ qz_I h 202 6 ≠ 0 ∧ ∃ m, uz_FL (vF Ls) (decide (a3 = 1 ∨ a3 = 3)) (X a2.toNat) m ∧ 2000 < m.length) (co_P 196) a1.toNat (fun res => ((0 ≤ a1 ∧ a1 ≤ 7) ∧ (0 ≤ a2 ∧ a2 ≤ 7) ∧ 0 ≤ a3 ∧ a3 ≤ 3) ∧ qz_I h 202 6 ≠ 0 ∧ ∃ m, uz_FL (vF Ls) (decide (a3 = 1 ∨ a3 = 3)) (X a2.toNat) m ∧ m.length ≤ 2000 ∧ nfR (vF Ls) (vE Ls) a3 m res)) :=
  rd_cnormal hC hw hsl sl txh r1 r2 r3 hr1 hr2 (fun w => Or.inl ⟨w, rfl⟩) (fun w z => Or.inr (Or.inl ⟨⟨w, z⟩, rfl⟩)) (fun w z m u l g b1 b2 => Or.inr (Or.inr (Or.inl ⟨⟨w, z, m, u, l⟩, g, rfl, b1, b2⟩))) (fun w z m res u l n pr g2 c1 c2 g b1 b2 b3 => Or.inr (Or.inr (Or.inr ⟨res, g2, g, rfl, ⟨w, z, m, u, l, n⟩, pr, c1, c2, b1, b2, b3⟩)))
theorem hp_join {a1 a2 a3 a4 : Int} (hB : ez_B τ h) (t192 : τ 192 = 44) (hc : ez_W d cm_17 0 [(0, .inr (.inr (some (192)))), (1, .inl (a1)), (2, .inl (a2)), (3, .inl (a3)), (4, .inl (a4))] [] h P) (k : ∀ F, P F → (∃ v τ1 g, F = (.inl (some (ez_v (.inl v))), g) ∧ ez_B τ1 g ∧ τ1 805 = 35 ∧ (ez_B τ1 (ow g v) → Q (.inl (some (ez_v (.inl 0))), ow g v))) ∨ (∃ r g, F = (.inr r, g) ∧ cz_exc g r = some 1 ∧ Q (.inl (some (ez_v (.inl 1))), g)) ∨ (∃ r g, F = (.inr r, g) ∧ cz_exc g r = some 2 ∧ Q (.inl (some (ez_v (.inl 2))), g)) ∨ (∃ r g, F = (.inr r, g) ∧ cz_exc g r = some 0 ∧ Q (.inl (some (ez_v (.inl 3))), g))) : ez_W (d + 1) cm_203 0 [(0, .inr (.inr (some (192)))), (1, .inl (a1)), (2, .inl (a2)), (3, .inl (a3)), (4, .inl (a4)), (5, .inr (.inr (some (805))))] [] h Q := by
  refine ez_go (n := 7) (pc' := 9) (L' := [(0, .inr (.inr (some (192)))), (1, .inl (a1)), (2, .inl (a2)), (3, .inl (a3)), (4, .inl (a4)), (5, .inr (.inr (some (805))))]) (st' := [.inl (a4), .inl (a3), .inl (a2), .inl (a1), .inr (.inr (some (192))), .inl (0), .inr (.inr (some (805)))]) rfl ?_
  refine ez_cv hB t192 rfl rfl rfl tq_44 rfl rfl rfl (ez_mono hc (fun F hF => ?_))
  rcases k F hF with ⟨v, τ1, g, rfl, hB1, u805, kq⟩ | ⟨r, g, rfl, he, kq⟩ | ⟨r, g, rfl, he, kq⟩ | ⟨r, g, rfl, he, kq⟩
  · refine ez_K1 ?_
    refine ez_go (n := 1) (pc' := 13) (L' := [(0, .inr (.inr (some (192)))), (1, .inl (a1)), (2, .inl (a2)), (3, .inl (a3)), (4, .inl (a4)), (5, .inr (.inr (some (805))))]) (st' := [.inr (.inl ((Int32.ofInt (v)).toInt64)), .inl (0), .inr (.inr (some (805)))]) rfl ?_
    have n3 : 1 ≤ qz_N g 805 ∧ qz_N g 805 ≤ 1 := ez_len hB1 u805 tq_35 rfl
    refine ez_as hB1 u805 rfl tq_35 rfl rfl (by omega) (by omega) ez_vdJ (fun hB1 w2 => ?_)
    refine ez_go (n := 2) (pc' := 30) (L' := [(0, .inr (.inr (some (192)))), (1, .inl (a1)), (2, .inl (a2)), (3, .inl (a3)), (4, .inl (a4)), (5, .inr (.inr (some (805))))]) (st' := [.inl (0)]) rfl ?_
    exact ez_retI rfl rfl (kq hB1)
  · refine ez_Kc he rfl ?_
    refine ez_go (n := 2) (pc' := 20) (L' := [(6, .inr (.inr (some (r)))), (0, .inr (.inr (some (192)))), (1, .inl (a1)), (2, .inl (a2)), (3, .inl (a3)), (4, .inl (a4)), (5, .inr (.inr (some (805))))]) (st' := [.inl (1)]) rfl ?_
    exact ez_retI rfl rfl kq
  · refine ez_Kc he rfl ?_
    refine ez_go (n := 2) (pc' := 24) (L' := [(6, .inr (.inr (some (r)))), (0, .inr (.inr (some (192)))), (1, .inl (a1)), (2, .inl (a2)), (3, .inl (a3)), (4, .inl (a4)), (5, .inr (.inr (some (805))))]) (st' := [.inl (2)]) rfl ?_
    exact ez_retI rfl rfl kq
  · refine ez_Kc he rfl ?_
    refine ez_go (n := 2) (pc' := 28) (L' := [(6, .inr (.inr (some (r)))), (0, .inr (.inr (some (192)))), (1, .inl (a1)), (2, .inl (a2)), (3, .inl (a3)), (4, .inl (a4)), (5, .inr (.inr (some (805))))]) (st' := [.inl (3)]) rfl ?_
    exact ez_retI rfl rfl kq

theorem rd_joinP {Ls : List vz} {X : Nat → List Int} {a1 a2 a3 a4 : Int} {T : Int → Nat} (hC : pz_C τ h T (vF Ls) (vE Ls)) (hw : uz_wf (vF Ls)) (hsl : qz_I h 202 6 ≠ 0 → fD h T (vF Ls) ∧ cP h (vF Ls) (vE Ls)) (sl : slt h) (txh : txs h X) (r1 : ez_rg a1) (r2 : ez_rg a2) (r3 : ez_rg a3) (r4 : ez_rg a4) (hr1 : h.1 + 1 ≤ 600192) (hr2 : h.2.1 + 6 ≤ 7302232) : ez_W (d + 8) cm_17 0 [(0, .inr (.inr (some (192)))), (1, .inl (a1)), (2, .inl (a2)), (3, .inl (a3)), (4, .inl (a4))] [] h (ckP τ h (a1 < 0 ∨ 7 < a1 ∨ a2 < 0 ∨ 7 < a2 ∨ a3 < 0 ∨ 7 < a3 ∨ a4 < 0 ∨ 3 < a4) (((0 ≤ a1 ∧ a1 ≤ 7) ∧ (0 ≤ a2 ∧ a2 ≤ 7) ∧ (0 ≤ a3 ∧ a3 ≤ 7) ∧ 0 ≤ a4 ∧ a4 ≤ 3) ∧ qz_I h 202 6 = 0) (((0 ≤ a1 ∧ a1 ≤ 7) ∧ (0 ≤ a2 ∧ a2 ≤ 7) ∧ (0 ≤ a3 ∧ a3 ≤ 7) ∧ 0 ≤ a4 ∧ a4 ≤ 3) ∧ qz_I h 202 6 ≠ 0 ∧ ∃ m, uz_FL (vF Ls) (decide (a4 = 1 ∨ a4 = 3)) (X a2.toNat ++ X a3.toNat) m ∧ 2000 < m.length) (co_P 196) a1.toNat (fun res => ((0 ≤ a1 ∧ a1 ≤ 7) ∧ (0 ≤ a2 ∧ a2 ≤ 7) ∧ (0 ≤ a3 ∧ a3 ≤ 7) ∧ 0 ≤ a4 ∧ a4 ≤ 3) ∧ qz_I h 202 6 ≠ 0 ∧ ∃ m, uz_FL (vF Ls) (decide (a4 = 1 ∨ a4 = 3)) (X a2.toNat ++ X a3.toNat) m ∧ m.length ≤ 2000 ∧ nfR (vF Ls) (vE Ls) a4 m res)) :=
  rd_cjoin hC hw hsl sl txh r1 r2 r3 r4 hr1 hr2 (fun w => Or.inl ⟨w, rfl⟩) (fun w z => Or.inr (Or.inl ⟨⟨w, z⟩, rfl⟩)) (fun w z m u l g b1 b2 => Or.inr (Or.inr (Or.inl ⟨⟨w, z, m, u, l⟩, g, rfl, b1, b2⟩))) (fun w z m res u l n pr g2 c1 c2 g b1 b2 b3 => Or.inr (Or.inr (Or.inr ⟨res, g2, g, rfl, ⟨w, z, m, u, l, n⟩, pr, c1, c2, b1, b2, b3⟩)))
theorem hp_change {a1 a2 a3 a4 : Int} (hB : ez_B τ h) (t192 : τ 192 = 44) (hc : ez_W d cm_5 0 [(0, .inr (.inr (some (192)))), (1, .inl (a1)), (2, .inl (a2)), (3, .inl (a3)), (4, .inl (a4))] [] h P) (k : ∀ F, P F → (∃ v τ1 g, F = (.inl (some (ez_v (.inl v))), g) ∧ ez_B τ1 g ∧ τ1 805 = 35 ∧ (ez_B τ1 (ow g v) → Q (.inl (some (ez_v (.inl 0))), ow g v))) ∨ (∃ r g, F = (.inr r, g) ∧ cz_exc g r = some 1 ∧ Q (.inl (some (ez_v (.inl 1))), g)) ∨ (∃ r g, F = (.inr r, g) ∧ cz_exc g r = some 2 ∧ Q (.inl (some (ez_v (.inl 2))), g)) ∨ (∃ r g, F = (.inr r, g) ∧ cz_exc g r = some 0 ∧ Q (.inl (some (ez_v (.inl 3))), g))) : ez_W (d + 1) cm_196 0 [(0, .inr (.inr (some (192)))), (1, .inl (a1)), (2, .inl (a2)), (3, .inl (a3)), (4, .inl (a4)), (5, .inr (.inr (some (805))))] [] h Q := by
  refine ez_go (n := 7) (pc' := 9) (L' := [(0, .inr (.inr (some (192)))), (1, .inl (a1)), (2, .inl (a2)), (3, .inl (a3)), (4, .inl (a4)), (5, .inr (.inr (some (805))))]) (st' := [.inl (a4), .inl (a3), .inl (a2), .inl (a1), .inr (.inr (some (192))), .inl (0), .inr (.inr (some (805)))]) rfl ?_
  refine ez_cv hB t192 rfl rfl rfl tq_44 rfl rfl rfl (ez_mono hc (fun F hF => ?_))
  rcases k F hF with ⟨v, τ1, g, rfl, hB1, u805, kq⟩ | ⟨r, g, rfl, he, kq⟩ | ⟨r, g, rfl, he, kq⟩ | ⟨r, g, rfl, he, kq⟩
  · refine ez_K1 ?_
    refine ez_go (n := 1) (pc' := 13) (L' := [(0, .inr (.inr (some (192)))), (1, .inl (a1)), (2, .inl (a2)), (3, .inl (a3)), (4, .inl (a4)), (5, .inr (.inr (some (805))))]) (st' := [.inr (.inl ((Int32.ofInt (v)).toInt64)), .inl (0), .inr (.inr (some (805)))]) rfl ?_
    have n3 : 1 ≤ qz_N g 805 ∧ qz_N g 805 ≤ 1 := ez_len hB1 u805 tq_35 rfl
    refine ez_as hB1 u805 rfl tq_35 rfl rfl (by omega) (by omega) ez_vdJ (fun hB1 w2 => ?_)
    refine ez_go (n := 2) (pc' := 30) (L' := [(0, .inr (.inr (some (192)))), (1, .inl (a1)), (2, .inl (a2)), (3, .inl (a3)), (4, .inl (a4)), (5, .inr (.inr (some (805))))]) (st' := [.inl (0)]) rfl ?_
    exact ez_retI rfl rfl (kq hB1)
  · refine ez_Kc he rfl ?_
    refine ez_go (n := 2) (pc' := 20) (L' := [(6, .inr (.inr (some (r)))), (0, .inr (.inr (some (192)))), (1, .inl (a1)), (2, .inl (a2)), (3, .inl (a3)), (4, .inl (a4)), (5, .inr (.inr (some (805))))]) (st' := [.inl (1)]) rfl ?_
    exact ez_retI rfl rfl kq
  · refine ez_Kc he rfl ?_
    refine ez_go (n := 2) (pc' := 24) (L' := [(6, .inr (.inr (some (r)))), (0, .inr (.inr (some (192)))), (1, .inl (a1)), (2, .inl (a2)), (3, .inl (a3)), (4, .inl (a4)), (5, .inr (.inr (some (805))))]) (st' := [.inl (2)]) rfl ?_
    exact ez_retI rfl rfl kq
  · refine ez_Kc he rfl ?_
    refine ez_go (n := 2) (pc' := 28) (L' := [(6, .inr (.inr (some (r)))), (0, .inr (.inr (some (192)))), (1, .inl (a1)), (2, .inl (a2)), (3, .inl (a3)), (4, .inl (a4)), (5, .inr (.inr (some (805))))]) (st' := [.inl (3)]) rfl ?_
    exact ez_retI rfl rfl kq

theorem rd_changeP {Ls : List vz} {X : Nat → List Int} {a1 a2 a3 a4 : Int} {T : Int → Nat} {O : Nat → Int} (hC : pz_C τ h T (vF Ls) (vE Ls)) (hx : sz_X τ h O (yD Ls)) (hd : dok (yD Ls)) (sl : slt h) (txh : txs h X) (r1 : ez_rg a1) (r2 : ez_rg a2) (r3 : ez_rg a3) (r4 : ez_rg a4) (hr1 : h.1 + 1 ≤ 600192) (hr2 : h.2.1 + 6 ≤ 7302232) : ez_W (d + 8) cm_5 0 [(0, .inr (.inr (some (192)))), (1, .inl (a1)), (2, .inl (a2)), (3, .inl (a3)), (4, .inl (a4))] [] h (ckP τ h (a1 < 0 ∨ 7 < a1 ∨ a2 < 0 ∨ 7 < a2 ∨ a3 < 0 ∨ 3 < a3 ∨ a4 < 0 ∨ 3 < a4) (((0 ≤ a1 ∧ a1 ≤ 7) ∧ (0 ≤ a2 ∧ a2 ≤ 7) ∧ (0 ≤ a3 ∧ a3 ≤ 3) ∧ 0 ≤ a4 ∧ a4 ≤ 3) ∧ qz_I h 202 6 = 0) (((0 ≤ a1 ∧ a1 ≤ 7) ∧ (0 ≤ a2 ∧ a2 ≤ 7) ∧ (0 ≤ a3 ∧ a3 ≤ 3) ∧ 0 ≤ a4 ∧ a4 ≤ 3) ∧ qz_I h 202 6 ≠ 0 ∧ chN (yD Ls) (vF Ls) (X a2.toNat) a4 a3) cg_P a1.toNat (fun res => ((0 ≤ a1 ∧ a1 ≤ 7) ∧ (0 ≤ a2 ∧ a2 ≤ 7) ∧ (0 ≤ a3 ∧ a3 ≤ 3) ∧ 0 ≤ a4 ∧ a4 ≤ 3) ∧ qz_I h 202 6 ≠ 0 ∧ chS (yD Ls) (vF Ls) (X a2.toNat) a4 a3 res)) :=
  rd_cchange hC hx hd sl txh r1 r2 r3 r4 hr1 hr2 (fun w => Or.inl ⟨w, rfl⟩) (fun w z => Or.inr (Or.inl ⟨⟨w, z⟩, rfl⟩)) (fun w z cn g b1 b2 => Or.inr (Or.inr (Or.inl ⟨⟨w, z, cn⟩, g, rfl, b1, b2⟩))) (fun w z res cs pr rl g2 c1 c2 g b1 b2 b3 => Or.inr (Or.inr (Or.inr ⟨res, g2, g, rfl, ⟨w, z, cs⟩, pr, c1, c2, b1, b2, b3⟩)))
theorem lw_add {i : Int} (hb : dz_B tz_T (qz_X rR) τ h) (hn : qz_I h 192 1 = qz_I h 770 2) (i0 : 0 ≤ i) (i1 : i + 6 ≤ qz_N h 0) (i2 : i ≤ 4000) (hr1 : h.1 + 1100 ≤ 600192) (hr2 : h.2.1 + 150100 ≤ 7302232) (k : ∀ τ2 g, dz_B tz_T (qz_X rR) τ2 g → stp h g → ez_W (d + 11) cm_0 1213 [(4, .inl (i)), (0, .inr (.inr (some (0)))), (1, .inr (.inr (some (192)))), (2, .inr (.inr (some (770)))), (3, .inr (.inr (some (805))))] [] g Q) : ez_W (d + 11) cm_0 337 [(4, .inl (i)), (0, .inr (.inr (some (0)))), (1, .inr (.inr (some (192)))), (2, .inr (.inr (some (770)))), (3, .inr (.inr (some (805))))] [] h Q := by
  have hB := dz_ezB hb
  have hX := hb.2.1
  have t0 : τ 0 = 34 := hX.1 0 (by decide)
  have t192 : τ 192 = 44 := hX.1 192 (by decide)
  have t770 : τ 770 = 75 := hX.1 770 (by decide)
  have t805 : τ 805 = 35 := hX.1 805 (by decide)
  obtain ⟨Ls, ⟨t, c, m, w, s6, s77, u, p⟩, ww, X, x1, x2⟩ := id hX.2.2.2.2
  have hI : jz_I τ h (vF Ls) (vE Ls) := ⟨hB, hX.1, c⟩
  obtain ⟨T, hC⟩ := pz_C_of hI
  have sl := ww.2.1
  refine ez_go (n := 5) (pc' := 343) (L' := [(4, .inl (i)), (0, .inr (.inr (some (0)))), (1, .inr (.inr (some (192)))), (2, .inr (.inr (some (770)))), (3, .inr (.inr (some (805))))]) (st' := [.inl ((i) + (1)), .inr (.inr (some (0))), .inr (.inr (some (192)))]) rfl ?_
  have n2 : 0 ≤ qz_N h 0 ∧ qz_N h 0 ≤ 3072 := ez_len hB t0 tq_34 rfl
  refine ez_aI hB t0 rfl tq_34 rfl rfl (by omega) (by omega) (fun (b1 : -2147483648 ≤ qz_I h 0 ((i) + (1)).toNat) (b1' : qz_I h 0 ((i) + (1)).toNat ≤ 2147483647) => ?_)
  refine ez_go (n := 4) (pc' := 349) (L' := [(4, .inl (i)), (0, .inr (.inr (some (0)))), (1, .inr (.inr (some (192)))), (2, .inr (.inr (some (770)))), (3, .inr (.inr (some (805))))]) (st' := [.inl ((i) + (2)), .inr (.inr (some (0))), .inl (qz_I h 0 ((i) + (1)).toNat), .inr (.inr (some (192)))]) rfl ?_
  have n4 : 0 ≤ qz_N h 0 ∧ qz_N h 0 ≤ 3072 := ez_len hB t0 tq_34 rfl
  refine ez_aI hB t0 rfl tq_34 rfl rfl (by omega) (by omega) (fun (b3 : -2147483648 ≤ qz_I h 0 ((i) + (2)).toNat) (b3' : qz_I h 0 ((i) + (2)).toNat ≤ 2147483647) => ?_)
  refine ez_go (n := 1) (pc' := 351) (L' := [(4, .inl (i)), (0, .inr (.inr (some (0)))), (1, .inr (.inr (some (192)))), (2, .inr (.inr (some (770)))), (3, .inr (.inr (some (805))))]) (st' := [.inr (.inr (some (805))), .inl (qz_I h 0 ((i) + (2)).toNat), .inl (qz_I h 0 ((i) + (1)).toNat), .inr (.inr (some (192)))]) rfl ?_
  refine ez_cs hB.2.1 rfl rfl rfl rfl rfl (hp_add hB t192 (rd_addP (d := d + 1) hB hX.1 sl x1 ⟨by omega, by omega⟩ ⟨by omega, by omega⟩ (by omega) (by omega)) (fun F hF => ?_))
  generalize ea1 : qz_I h 0 ((i) + (1)).toNat = a1 at *
  have ar1 : ez_rg a1 := ⟨by omega, by omega⟩
  generalize ea2 : qz_I h 0 ((i) + (2)).toNat = a2 at *
  have ar2 : ez_rg a2 := ⟨by omega, by omega⟩
  rcases hF with ⟨wA, rfl⟩ | ⟨wS, rfl⟩ | ⟨wX, gA, rfl, BA, fA⟩ | ⟨res, gA, gB, rfl, wR, pl, BA, fA, BB, fB, tB⟩
  · refine Or.inr (Or.inl ⟨_, _, rfl, xc_exc hB rfl, ez_K1 ?_⟩)
    have hBx : ez_B τ (xc h 1) := xc_B hB (by omega) (by omega)
    obtain ⟨⟨pM, pN⟩, pS, pX, p7, sc, sn⟩ := tg_pre hX.1 t m w s77 ww x2 hBx (fun q a _ _ _ _ => xc_t hB a)
    have rH : (xc h 1).1 ≤ h.1 + 1 ∧ (xc h 1).2.1 ≤ h.2.1 + 6 := ⟨Nat.le_refl _, Nat.le_refl _⟩
    refine ez_go (n := 6) (pc' := 362) (L' := [(5, .inl (1)), (4, .inl (i)), (0, .inr (.inr (some (0)))), (1, .inr (.inr (some (192)))), (2, .inr (.inr (some (770)))), (3, .inr (.inr (some (805))))]) (st' := [.inl ((i) + (1)), .inr (.inr (some (0))), .inr (.inr (some (770)))]) rfl ?_
    have n6 : 0 ≤ qz_N (xc h 1) 0 ∧ qz_N (xc h 1) 0 ≤ 3072 := ez_len hBx t0 tq_34 rfl
    refine ez_aI hBx t0 rfl tq_34 rfl rfl (by omega) (by omega) (fun (b5 : -2147483648 ≤ qz_I (xc h 1) 0 ((i) + (1)).toNat) (b5' : qz_I (xc h 1) 0 ((i) + (1)).toNat ≤ 2147483647) => ?_)
    rw [show qz_I (xc h 1) 0 ((i) + (1)).toNat = qz_I h 0 ((i) + (1)).toNat from sc _, ea1]
    refine ez_go (n := 4) (pc' := 368) (L' := [(5, .inl (1)), (4, .inl (i)), (0, .inr (.inr (some (0)))), (1, .inr (.inr (some (192)))), (2, .inr (.inr (some (770)))), (3, .inr (.inr (some (805))))]) (st' := [.inl ((i) + (2)), .inr (.inr (some (0))), .inl (a1), .inr (.inr (some (770)))]) rfl ?_
    have n8 : 0 ≤ qz_N (xc h 1) 0 ∧ qz_N (xc h 1) 0 ≤ 3072 := ez_len hBx t0 tq_34 rfl
    refine ez_aI hBx t0 rfl tq_34 rfl rfl (by omega) (by omega) (fun (b7 : -2147483648 ≤ qz_I (xc h 1) 0 ((i) + (2)).toNat) (b7' : qz_I (xc h 1) 0 ((i) + (2)).toNat ≤ 2147483647) => ?_)
    rw [show qz_I (xc h 1) 0 ((i) + (2)).toNat = qz_I h 0 ((i) + (2)).toNat from sc _, ea2]
    refine ez_cv hBx t770 rfl rfl rfl tq_75 rfl rfl rfl (rd_madd hBx hX.1 pS pX ar1 ar2 (fun _ g3 b1 b2 => ez_K1 ?_) (fun w9 => absurd w9 (by omega)) (fun w9 => absurd w9 (by omega)))
    have FN := ref_X hb hn b1 b2.1 b2.2.1
    have b0 := b2.2.2
    refine ez_go (n := 2) (pc' := 1213) (L' := [(6, .inl (0)), (5, .inl (1)), (4, .inl (i)), (0, .inr (.inr (some (0)))), (1, .inr (.inr (some (192)))), (2, .inr (.inr (some (770)))), (3, .inr (.inr (some (805))))]) (st' := []) rfl ?_
    refine ez_less [(4, .inl (i)), (0, .inr (.inr (some (0)))), (1, .inr (.inr (some (192)))), (2, .inr (.inr (some (770)))), (3, .inr (.inr (some (805))))] rfl ⟨rfl, rfl, rfl, rfl, rfl, trivial⟩ ?_
    exact k _ _ FN.1 FN.2
  · exact wS.elim
  · have cA1 := fA.1; have cA2 := fA.2.1
    refine Or.inr (Or.inr ⟨_, _, rfl, xc_exc BA rfl, ez_K1 ?_⟩)
    have hBx : ez_B τ (xc gA 0) := xc_B BA (by omega) (by omega)
    obtain ⟨ok, lx⟩ := wX
    obtain ⟨⟨pM, pN⟩, pS, pX, p7, sc, sn⟩ := tg_pre hX.1 t m w s77 ww x2 hBx (fun q a b _ _ _ => (xc_t BA a).trans (fA.2.2 q ((pk_no τ) q b)))
    have rH : (xc gA 0).1 ≤ h.1 + 1 ∧ (xc gA 0).2.1 ≤ h.2.1 + 6 := ⟨by show gA.1 + 1 ≤ _; omega, by show gA.2.1 + 6 ≤ _; omega⟩
    refine ez_go (n := 6) (pc' := 362) (L' := [(5, .inl (2)), (4, .inl (i)), (0, .inr (.inr (some (0)))), (1, .inr (.inr (some (192)))), (2, .inr (.inr (some (770)))), (3, .inr (.inr (some (805))))]) (st' := [.inl ((i) + (1)), .inr (.inr (some (0))), .inr (.inr (some (770)))]) rfl ?_
    have n10 : 0 ≤ qz_N (xc gA 0) 0 ∧ qz_N (xc gA 0) 0 ≤ 3072 := ez_len hBx t0 tq_34 rfl
    refine ez_aI hBx t0 rfl tq_34 rfl rfl (by omega) (by omega) (fun (b9 : -2147483648 ≤ qz_I (xc gA 0) 0 ((i) + (1)).toNat) (b9' : qz_I (xc gA 0) 0 ((i) + (1)).toNat ≤ 2147483647) => ?_)
    rw [show qz_I (xc gA 0) 0 ((i) + (1)).toNat = qz_I h 0 ((i) + (1)).toNat from sc _, ea1]
    refine ez_go (n := 4) (pc' := 368) (L' := [(5, .inl (2)), (4, .inl (i)), (0, .inr (.inr (some (0)))), (1, .inr (.inr (some (192)))), (2, .inr (.inr (some (770)))), (3, .inr (.inr (some (805))))]) (st' := [.inl ((i) + (2)), .inr (.inr (some (0))), .inl (a1), .inr (.inr (some (770)))]) rfl ?_
    have n12 : 0 ≤ qz_N (xc gA 0) 0 ∧ qz_N (xc gA 0) 0 ≤ 3072 := ez_len hBx t0 tq_34 rfl
    refine ez_aI hBx t0 rfl tq_34 rfl rfl (by omega) (by omega) (fun (b11 : -2147483648 ≤ qz_I (xc gA 0) 0 ((i) + (2)).toNat) (b11' : qz_I (xc gA 0) 0 ((i) + (2)).toNat ≤ 2147483647) => ?_)
    rw [show qz_I (xc gA 0) 0 ((i) + (2)).toNat = qz_I h 0 ((i) + (2)).toNat from sc _, ea2]
    refine ez_cv hBx t770 rfl rfl rfl tq_75 rfl rfl rfl (rd_madd hBx hX.1 pS pX ar1 ar2 (fun w9 => absurd w9 (by omega)) (fun _ _ g3 b1 b2 => ez_K1 ?_) (fun _ l8 => absurd lx (by omega)))
    have FN := tg_nl hb hn (pk_no τ) BA fA b2 b1
    have b0 := b2.2.2
    refine ez_go (n := 2) (pc' := 1213) (L' := [(6, .inl (0)), (5, .inl (2)), (4, .inl (i)), (0, .inr (.inr (some (0)))), (1, .inr (.inr (some (192)))), (2, .inr (.inr (some (770)))), (3, .inr (.inr (some (805))))]) (st' := []) rfl ?_
    refine ez_less [(4, .inl (i)), (0, .inr (.inr (some (0)))), (1, .inr (.inr (some (192)))), (2, .inr (.inr (some (770)))), (3, .inr (.inr (some (805))))] rfl ⟨rfl, rfl, rfl, rfl, rfl, trivial⟩ ?_
    exact k _ _ FN.1 FN.2
  · refine Or.inl ⟨_, τ, gB, rfl, BB, t805, fun hBo => ez_K1 ?_⟩
    obtain ⟨ok, lx, er⟩ := wR
    have t8 : a1.toNat < 8 := by omega
    have ll : res.length ≤ 2000 := by have q1 := tB.1; have q2 := tx_l88 BB ((rU_of hX.1).2 _ t8).2.1; omega
    obtain ⟨⟨pM, pN⟩, pS, pX, p7, sc, sn⟩ := tg_pre hX.1 t m w s77 ww x2 hBo (ow_CH hX.1 t8 (pk_no τ) fA fB)
    have rH : (ow gB (res.length : Int)).1 ≤ h.1 + 1 ∧ (ow gB (res.length : Int)).2.1 ≤ h.2.1 + 6 := ⟨by show gB.1 ≤ _; rw [fB.1, fA.1]; omega, by show gB.2.1 ≤ _; rw [fB.2.1, fA.2.1]; omega⟩
    refine ez_go (n := 6) (pc' := 362) (L' := [(5, .inl (0)), (4, .inl (i)), (0, .inr (.inr (some (0)))), (1, .inr (.inr (some (192)))), (2, .inr (.inr (some (770)))), (3, .inr (.inr (some (805))))]) (st' := [.inl ((i) + (1)), .inr (.inr (some (0))), .inr (.inr (some (770)))]) rfl ?_
    have n14 : 0 ≤ qz_N (ow gB (res.length : Int)) 0 ∧ qz_N (ow gB (res.length : Int)) 0 ≤ 3072 := ez_len hBo t0 tq_34 rfl
    refine ez_aI hBo t0 rfl tq_34 rfl rfl (by omega) (by omega) (fun (b13 : -2147483648 ≤ qz_I (ow gB (res.length : Int)) 0 ((i) + (1)).toNat) (b13' : qz_I (ow gB (res.length : Int)) 0 ((i) + (1)).toNat ≤ 2147483647) => ?_)
    rw [show qz_I (ow gB (res.length : Int)) 0 ((i) + (1)).toNat = qz_I h 0 ((i) + (1)).toNat from sc _, ea1]
    refine ez_go (n := 4) (pc' := 368) (L' := [(5, .inl (0)), (4, .inl (i)), (0, .inr (.inr (some (0)))), (1, .inr (.inr (some (192)))), (2, .inr (.inr (some (770)))), (3, .inr (.inr (some (805))))]) (st' := [.inl ((i) + (2)), .inr (.inr (some (0))), .inl (a1), .inr (.inr (some (770)))]) rfl ?_
    have n16 : 0 ≤ qz_N (ow gB (res.length : Int)) 0 ∧ qz_N (ow gB (res.length : Int)) 0 ≤ 3072 := ez_len hBo t0 tq_34 rfl
    refine ez_aI hBo t0 rfl tq_34 rfl rfl (by omega) (by omega) (fun (b15 : -2147483648 ≤ qz_I (ow gB (res.length : Int)) 0 ((i) + (2)).toNat) (b15' : qz_I (ow gB (res.length : Int)) 0 ((i) + (2)).toNat ≤ 2147483647) => ?_)
    rw [show qz_I (ow gB (res.length : Int)) 0 ((i) + (2)).toNat = qz_I h 0 ((i) + (2)).toNat from sc _, ea2]
    refine ez_cv hBo t770 rfl rfl rfl tq_75 rfl rfl rfl (rd_madd hBo hX.1 pS pX ar1 ar2 (fun w9 => absurd w9 (by omega)) (fun _ l8 => absurd l8 (by omega)) (fun _ _ h1 c1 c2 g3 b1 f3 mx3 => ez_K1 ?_))
    have ev : ((X a1.toNat).length : Int) + 1 = (res.length : Int) := by rw [er, List.length_append, List.length_singleton]; omega
    rw [ev]
    rw [← er] at mx3
    have c3 := c1
    have c4 := nk.refl τ h1
    have FN := tg_ok hb hn x1 x2 t8 (pk_no τ) fA fB tB pl ll c2.H c4 c3 b1 f3 mx3
    have b0 : qz_I g3 770 0 = 0 := (f3.1.I (mx_Pn (by omega) (by decide)) 0).trans ((c4.2.2.1 0 (by decide) (by decide) (by decide)).trans (c2.2.2))
    refine ez_go (n := 2) (pc' := 1213) (L' := [(6, .inl ((res.length : Int))), (5, .inl (0)), (4, .inl (i)), (0, .inr (.inr (some (0)))), (1, .inr (.inr (some (192)))), (2, .inr (.inr (some (770)))), (3, .inr (.inr (some (805))))]) (st' := []) rfl ?_
    refine ez_less [(4, .inl (i)), (0, .inr (.inr (some (0)))), (1, .inr (.inr (some (192)))), (2, .inr (.inr (some (770)))), (3, .inr (.inr (some (805))))] rfl ⟨rfl, rfl, rfl, rfl, rfl, trivial⟩ ?_
    exact k _ _ FN.1 FN.2

theorem lw_part {i : Int} (hb : dz_B tz_T (qz_X rR) τ h) (hn : qz_I h 192 1 = qz_I h 770 2) (i0 : 0 ≤ i) (i1 : i + 6 ≤ qz_N h 0) (i2 : i ≤ 4000) (hr1 : h.1 + 1100 ≤ 600192) (hr2 : h.2.1 + 150100 ≤ 7302232) (k : ∀ τ2 g, dz_B tz_T (qz_X rR) τ2 g → stp h g → ez_W (d + 11) cm_0 1213 [(4, .inl (i)), (0, .inr (.inr (some (0)))), (1, .inr (.inr (some (192)))), (2, .inr (.inr (some (770)))), (3, .inr (.inr (some (805))))] [] g Q) : ez_W (d + 11) cm_0 377 [(4, .inl (i)), (0, .inr (.inr (some (0)))), (1, .inr (.inr (some (192)))), (2, .inr (.inr (some (770)))), (3, .inr (.inr (some (805))))] [] h Q := by
  have hB := dz_ezB hb
  have hX := hb.2.1
  have t0 : τ 0 = 34 := hX.1 0 (by decide)
  have t192 : τ 192 = 44 := hX.1 192 (by decide)
  have t770 : τ 770 = 75 := hX.1 770 (by decide)
  have t805 : τ 805 = 35 := hX.1 805 (by decide)
  obtain ⟨Ls, ⟨t, c, m, w, s6, s77, u, p⟩, ww, X, x1, x2⟩ := id hX.2.2.2.2
  have hI : jz_I τ h (vF Ls) (vE Ls) := ⟨hB, hX.1, c⟩
  obtain ⟨T, hC⟩ := pz_C_of hI
  have sl := ww.2.1
  refine ez_go (n := 5) (pc' := 383) (L' := [(4, .inl (i)), (0, .inr (.inr (some (0)))), (1, .inr (.inr (some (192)))), (2, .inr (.inr (some (770)))), (3, .inr (.inr (some (805))))]) (st' := [.inl ((i) + (1)), .inr (.inr (some (0))), .inr (.inr (some (192)))]) rfl ?_
  have n2 : 0 ≤ qz_N h 0 ∧ qz_N h 0 ≤ 3072 := ez_len hB t0 tq_34 rfl
  refine ez_aI hB t0 rfl tq_34 rfl rfl (by omega) (by omega) (fun (b1 : -2147483648 ≤ qz_I h 0 ((i) + (1)).toNat) (b1' : qz_I h 0 ((i) + (1)).toNat ≤ 2147483647) => ?_)
  refine ez_go (n := 4) (pc' := 389) (L' := [(4, .inl (i)), (0, .inr (.inr (some (0)))), (1, .inr (.inr (some (192)))), (2, .inr (.inr (some (770)))), (3, .inr (.inr (some (805))))]) (st' := [.inl ((i) + (2)), .inr (.inr (some (0))), .inl (qz_I h 0 ((i) + (1)).toNat), .inr (.inr (some (192)))]) rfl ?_
  have n4 : 0 ≤ qz_N h 0 ∧ qz_N h 0 ≤ 3072 := ez_len hB t0 tq_34 rfl
  refine ez_aI hB t0 rfl tq_34 rfl rfl (by omega) (by omega) (fun (b3 : -2147483648 ≤ qz_I h 0 ((i) + (2)).toNat) (b3' : qz_I h 0 ((i) + (2)).toNat ≤ 2147483647) => ?_)
  refine ez_go (n := 4) (pc' := 395) (L' := [(4, .inl (i)), (0, .inr (.inr (some (0)))), (1, .inr (.inr (some (192)))), (2, .inr (.inr (some (770)))), (3, .inr (.inr (some (805))))]) (st' := [.inl ((i) + (3)), .inr (.inr (some (0))), .inl (qz_I h 0 ((i) + (2)).toNat), .inl (qz_I h 0 ((i) + (1)).toNat), .inr (.inr (some (192)))]) rfl ?_
  have n6 : 0 ≤ qz_N h 0 ∧ qz_N h 0 ≤ 3072 := ez_len hB t0 tq_34 rfl
  refine ez_aI hB t0 rfl tq_34 rfl rfl (by omega) (by omega) (fun (b5 : -2147483648 ≤ qz_I h 0 ((i) + (3)).toNat) (b5' : qz_I h 0 ((i) + (3)).toNat ≤ 2147483647) => ?_)
  refine ez_go (n := 4) (pc' := 401) (L' := [(4, .inl (i)), (0, .inr (.inr (some (0)))), (1, .inr (.inr (some (192)))), (2, .inr (.inr (some (770)))), (3, .inr (.inr (some (805))))]) (st' := [.inl ((i) + (4)), .inr (.inr (some (0))), .inl (qz_I h 0 ((i) + (3)).toNat), .inl (qz_I h 0 ((i) + (2)).toNat), .inl (qz_I h 0 ((i) + (1)).toNat), .inr (.inr (some (192)))]) rfl ?_
  have n8 : 0 ≤ qz_N h 0 ∧ qz_N h 0 ≤ 3072 := ez_len hB t0 tq_34 rfl
  refine ez_aI hB t0 rfl tq_34 rfl rfl (by omega) (by omega) (fun (b7 : -2147483648 ≤ qz_I h 0 ((i) + (4)).toNat) (b7' : qz_I h 0 ((i) + (4)).toNat ≤ 2147483647) => ?_)
  refine ez_go (n := 1) (pc' := 403) (L' := [(4, .inl (i)), (0, .inr (.inr (some (0)))), (1, .inr (.inr (some (192)))), (2, .inr (.inr (some (770)))), (3, .inr (.inr (some (805))))]) (st' := [.inr (.inr (some (805))), .inl (qz_I h 0 ((i) + (4)).toNat), .inl (qz_I h 0 ((i) + (3)).toNat), .inl (qz_I h 0 ((i) + (2)).toNat), .inl (qz_I h 0 ((i) + (1)).toNat), .inr (.inr (some (192)))]) rfl ?_
  refine ez_cs hB.2.1 rfl rfl rfl rfl rfl (hp_part hB t192 (rd_partP (d := d + 1) hB hX.1 sl x1 ⟨by omega, by omega⟩ ⟨by omega, by omega⟩ ⟨by omega, by omega⟩ ⟨by omega, by omega⟩ (by omega) (by omega)) (fun F hF => ?_))
  generalize ea1 : qz_I h 0 ((i) + (1)).toNat = a1 at *
  have ar1 : ez_rg a1 := ⟨by omega, by omega⟩
  generalize ea2 : qz_I h 0 ((i) + (2)).toNat = a2 at *
  have ar2 : ez_rg a2 := ⟨by omega, by omega⟩
  generalize ea3 : qz_I h 0 ((i) + (3)).toNat = a3 at *
  have ar3 : ez_rg a3 := ⟨by omega, by omega⟩
  generalize ea4 : qz_I h 0 ((i) + (4)).toNat = a4 at *
  have ar4 : ez_rg a4 := ⟨by omega, by omega⟩
  rcases hF with ⟨wA, rfl⟩ | ⟨wS, rfl⟩ | ⟨wX, gA, rfl, BA, fA⟩ | ⟨res, gA, gB, rfl, wR, pl, BA, fA, BB, fB, tB⟩
  · refine Or.inr ⟨_, _, rfl, xc_exc hB rfl, ez_K1 ?_⟩
    have hBx : ez_B τ (xc h 1) := xc_B hB (by omega) (by omega)
    obtain ⟨⟨pM, pN⟩, pS, pX, p7, sc, sn⟩ := tg_pre hX.1 t m w s77 ww x2 hBx (fun q a _ _ _ _ => xc_t hB a)
    have rH : (xc h 1).1 ≤ h.1 + 1 ∧ (xc h 1).2.1 ≤ h.2.1 + 6 := ⟨Nat.le_refl _, Nat.le_refl _⟩
    refine ez_go (n := 6) (pc' := 414) (L' := [(5, .inl (1)), (4, .inl (i)), (0, .inr (.inr (some (0)))), (1, .inr (.inr (some (192)))), (2, .inr (.inr (some (770)))), (3, .inr (.inr (some (805))))]) (st' := [.inl ((i) + (1)), .inr (.inr (some (0))), .inr (.inr (some (770)))]) rfl ?_
    have n10 : 0 ≤ qz_N (xc h 1) 0 ∧ qz_N (xc h 1) 0 ≤ 3072 := ez_len hBx t0 tq_34 rfl
    refine ez_aI hBx t0 rfl tq_34 rfl rfl (by omega) (by omega) (fun (b9 : -2147483648 ≤ qz_I (xc h 1) 0 ((i) + (1)).toNat) (b9' : qz_I (xc h 1) 0 ((i) + (1)).toNat ≤ 2147483647) => ?_)
    rw [show qz_I (xc h 1) 0 ((i) + (1)).toNat = qz_I h 0 ((i) + (1)).toNat from sc _, ea1]
    refine ez_go (n := 4) (pc' := 420) (L' := [(5, .inl (1)), (4, .inl (i)), (0, .inr (.inr (some (0)))), (1, .inr (.inr (some (192)))), (2, .inr (.inr (some (770)))), (3, .inr (.inr (some (805))))]) (st' := [.inl ((i) + (2)), .inr (.inr (some (0))), .inl (a1), .inr (.inr (some (770)))]) rfl ?_
    have n12 : 0 ≤ qz_N (xc h 1) 0 ∧ qz_N (xc h 1) 0 ≤ 3072 := ez_len hBx t0 tq_34 rfl
    refine ez_aI hBx t0 rfl tq_34 rfl rfl (by omega) (by omega) (fun (b11 : -2147483648 ≤ qz_I (xc h 1) 0 ((i) + (2)).toNat) (b11' : qz_I (xc h 1) 0 ((i) + (2)).toNat ≤ 2147483647) => ?_)
    rw [show qz_I (xc h 1) 0 ((i) + (2)).toNat = qz_I h 0 ((i) + (2)).toNat from sc _, ea2]
    refine ez_go (n := 4) (pc' := 426) (L' := [(5, .inl (1)), (4, .inl (i)), (0, .inr (.inr (some (0)))), (1, .inr (.inr (some (192)))), (2, .inr (.inr (some (770)))), (3, .inr (.inr (some (805))))]) (st' := [.inl ((i) + (3)), .inr (.inr (some (0))), .inl (a2), .inl (a1), .inr (.inr (some (770)))]) rfl ?_
    have n14 : 0 ≤ qz_N (xc h 1) 0 ∧ qz_N (xc h 1) 0 ≤ 3072 := ez_len hBx t0 tq_34 rfl
    refine ez_aI hBx t0 rfl tq_34 rfl rfl (by omega) (by omega) (fun (b13 : -2147483648 ≤ qz_I (xc h 1) 0 ((i) + (3)).toNat) (b13' : qz_I (xc h 1) 0 ((i) + (3)).toNat ≤ 2147483647) => ?_)
    rw [show qz_I (xc h 1) 0 ((i) + (3)).toNat = qz_I h 0 ((i) + (3)).toNat from sc _, ea3]
    refine ez_go (n := 4) (pc' := 432) (L' := [(5, .inl (1)), (4, .inl (i)), (0, .inr (.inr (some (0)))), (1, .inr (.inr (some (192)))), (2, .inr (.inr (some (770)))), (3, .inr (.inr (some (805))))]) (st' := [.inl ((i) + (4)), .inr (.inr (some (0))), .inl (a3), .inl (a2), .inl (a1), .inr (.inr (some (770)))]) rfl ?_
    have n16 : 0 ≤ qz_N (xc h 1) 0 ∧ qz_N (xc h 1) 0 ≤ 3072 := ez_len hBx t0 tq_34 rfl
    refine ez_aI hBx t0 rfl tq_34 rfl rfl (by omega) (by omega) (fun (b15 : -2147483648 ≤ qz_I (xc h 1) 0 ((i) + (4)).toNat) (b15' : qz_I (xc h 1) 0 ((i) + (4)).toNat ≤ 2147483647) => ?_)
    rw [show qz_I (xc h 1) 0 ((i) + (4)).toNat = qz_I h 0 ((i) + (4)).toNat from sc _, ea4]
    refine ez_cv hBx t770 rfl rfl rfl tq_75 rfl rfl rfl (rd_mpart hBx hX.1 pS pX ar1 ar2 ar3 ar4 (fun _ g3 b1 b2 => ez_K1 ?_) (fun w9 => absurd w9 (by omega)))
    have FN := ref_X hb hn b1 b2.1 b2.2.1
    have b0 := b2.2.2
    refine ez_go (n := 2) (pc' := 1213) (L' := [(6, .inl (0)), (5, .inl (1)), (4, .inl (i)), (0, .inr (.inr (some (0)))), (1, .inr (.inr (some (192)))), (2, .inr (.inr (some (770)))), (3, .inr (.inr (some (805))))]) (st' := []) rfl ?_
    refine ez_less [(4, .inl (i)), (0, .inr (.inr (some (0)))), (1, .inr (.inr (some (192)))), (2, .inr (.inr (some (770)))), (3, .inr (.inr (some (805))))] rfl ⟨rfl, rfl, rfl, rfl, rfl, trivial⟩ ?_
    exact k _ _ FN.1 FN.2
  · exact wS.elim
  · exact wX.elim
  · refine Or.inl ⟨_, τ, gB, rfl, BB, t805, fun hBo => ez_K1 ?_⟩
    obtain ⟨ok, er⟩ := wR
    have t8 : a1.toNat < 8 := by omega
    have ll : res.length ≤ 2000 := by have q1 := tB.1; have q2 := tx_l88 BB ((rU_of hX.1).2 _ t8).2.1; omega
    obtain ⟨⟨pM, pN⟩, pS, pX, p7, sc, sn⟩ := tg_pre hX.1 t m w s77 ww x2 hBo (ow_CH hX.1 t8 (pk_no τ) fA fB)
    have rH : (ow gB (res.length : Int)).1 ≤ h.1 + 1 ∧ (ow gB (res.length : Int)).2.1 ≤ h.2.1 + 6 := ⟨by show gB.1 ≤ _; rw [fB.1, fA.1]; omega, by show gB.2.1 ≤ _; rw [fB.2.1, fA.2.1]; omega⟩
    refine ez_go (n := 6) (pc' := 414) (L' := [(5, .inl (0)), (4, .inl (i)), (0, .inr (.inr (some (0)))), (1, .inr (.inr (some (192)))), (2, .inr (.inr (some (770)))), (3, .inr (.inr (some (805))))]) (st' := [.inl ((i) + (1)), .inr (.inr (some (0))), .inr (.inr (some (770)))]) rfl ?_
    have n18 : 0 ≤ qz_N (ow gB (res.length : Int)) 0 ∧ qz_N (ow gB (res.length : Int)) 0 ≤ 3072 := ez_len hBo t0 tq_34 rfl
    refine ez_aI hBo t0 rfl tq_34 rfl rfl (by omega) (by omega) (fun (b17 : -2147483648 ≤ qz_I (ow gB (res.length : Int)) 0 ((i) + (1)).toNat) (b17' : qz_I (ow gB (res.length : Int)) 0 ((i) + (1)).toNat ≤ 2147483647) => ?_)
    rw [show qz_I (ow gB (res.length : Int)) 0 ((i) + (1)).toNat = qz_I h 0 ((i) + (1)).toNat from sc _, ea1]
    refine ez_go (n := 4) (pc' := 420) (L' := [(5, .inl (0)), (4, .inl (i)), (0, .inr (.inr (some (0)))), (1, .inr (.inr (some (192)))), (2, .inr (.inr (some (770)))), (3, .inr (.inr (some (805))))]) (st' := [.inl ((i) + (2)), .inr (.inr (some (0))), .inl (a1), .inr (.inr (some (770)))]) rfl ?_
    have n20 : 0 ≤ qz_N (ow gB (res.length : Int)) 0 ∧ qz_N (ow gB (res.length : Int)) 0 ≤ 3072 := ez_len hBo t0 tq_34 rfl
    refine ez_aI hBo t0 rfl tq_34 rfl rfl (by omega) (by omega) (fun (b19 : -2147483648 ≤ qz_I (ow gB (res.length : Int)) 0 ((i) + (2)).toNat) (b19' : qz_I (ow gB (res.length : Int)) 0 ((i) + (2)).toNat ≤ 2147483647) => ?_)
    rw [show qz_I (ow gB (res.length : Int)) 0 ((i) + (2)).toNat = qz_I h 0 ((i) + (2)).toNat from sc _, ea2]
    refine ez_go (n := 4) (pc' := 426) (L' := [(5, .inl (0)), (4, .inl (i)), (0, .inr (.inr (some (0)))), (1, .inr (.inr (some (192)))), (2, .inr (.inr (some (770)))), (3, .inr (.inr (some (805))))]) (st' := [.inl ((i) + (3)), .inr (.inr (some (0))), .inl (a2), .inl (a1), .inr (.inr (some (770)))]) rfl ?_
    have n22 : 0 ≤ qz_N (ow gB (res.length : Int)) 0 ∧ qz_N (ow gB (res.length : Int)) 0 ≤ 3072 := ez_len hBo t0 tq_34 rfl
    refine ez_aI hBo t0 rfl tq_34 rfl rfl (by omega) (by omega) (fun (b21 : -2147483648 ≤ qz_I (ow gB (res.length : Int)) 0 ((i) + (3)).toNat) (b21' : qz_I (ow gB (res.length : Int)) 0 ((i) + (3)).toNat ≤ 2147483647) => ?_)
    rw [show qz_I (ow gB (res.length : Int)) 0 ((i) + (3)).toNat = qz_I h 0 ((i) + (3)).toNat from sc _, ea3]
    refine ez_go (n := 4) (pc' := 432) (L' := [(5, .inl (0)), (4, .inl (i)), (0, .inr (.inr (some (0)))), (1, .inr (.inr (some (192)))), (2, .inr (.inr (some (770)))), (3, .inr (.inr (some (805))))]) (st' := [.inl ((i) + (4)), .inr (.inr (some (0))), .inl (a3), .inl (a2), .inl (a1), .inr (.inr (some (770)))]) rfl ?_
    have n24 : 0 ≤ qz_N (ow gB (res.length : Int)) 0 ∧ qz_N (ow gB (res.length : Int)) 0 ≤ 3072 := ez_len hBo t0 tq_34 rfl
    refine ez_aI hBo t0 rfl tq_34 rfl rfl (by omega) (by omega) (fun (b23 : -2147483648 ≤ qz_I (ow gB (res.length : Int)) 0 ((i) + (4)).toNat) (b23' : qz_I (ow gB (res.length : Int)) 0 ((i) + (4)).toNat ≤ 2147483647) => ?_)
    rw [show qz_I (ow gB (res.length : Int)) 0 ((i) + (4)).toNat = qz_I h 0 ((i) + (4)).toNat from sc _, ea4]
    refine ez_cv hBo t770 rfl rfl rfl tq_75 rfl rfl rfl (rd_mpart hBo hX.1 pS pX ar1 ar2 ar3 ar4 (fun w9 => absurd w9 (by omega)) (fun _ h1 c1 c2 g2 c3 c4 c5 g3 b1 f3 mx3 => ez_K1 ?_))
    rw [← er] at mx3 ⊢
    have c9 := c4
    have c4 := nk.fr c1 t770 hX.1 c9 (fun q9 hq9 => by unfold nz_PL at hq9; rcases Bool.or_eq_true_iff.mp hq9 with w9 | w9; (· exact Or.inl (Nat.eq_of_beq_eq_true w9)); (· exact Or.inr (Or.inl (Nat.eq_of_beq_eq_true w9)))) c5
    have FN := tg_ok hb hn x1 x2 t8 (pk_no τ) fA fB tB pl ll c2.H c4 c3 b1 f3 mx3
    have b0 : qz_I g3 770 0 = 0 := (f3.1.I (mx_Pn (by omega) (by decide)) 0).trans ((c4.2.2.1 0 (by decide) (by decide) (by decide)).trans (c2.2.2))
    refine ez_go (n := 2) (pc' := 1213) (L' := [(6, .inl ((res.length : Int))), (5, .inl (0)), (4, .inl (i)), (0, .inr (.inr (some (0)))), (1, .inr (.inr (some (192)))), (2, .inr (.inr (some (770)))), (3, .inr (.inr (some (805))))]) (st' := []) rfl ?_
    refine ez_less [(4, .inl (i)), (0, .inr (.inr (some (0)))), (1, .inr (.inr (some (192)))), (2, .inr (.inr (some (770)))), (3, .inr (.inr (some (805))))] rfl ⟨rfl, rfl, rfl, rfl, rfl, trivial⟩ ?_
    exact k _ _ FN.1 FN.2

theorem lw_normal {i : Int} (hb : dz_B tz_T (qz_X rR) τ h) (hn : qz_I h 192 1 = qz_I h 770 2) (i0 : 0 ≤ i) (i1 : i + 6 ≤ qz_N h 0) (i2 : i ≤ 4000) (hr1 : h.1 + 1100 ≤ 600192) (hr2 : h.2.1 + 150100 ≤ 7302232) (k : ∀ τ2 g, dz_B tz_T (qz_X rR) τ2 g → stp h g → ez_W (d + 11) cm_0 1213 [(4, .inl (i)), (0, .inr (.inr (some (0)))), (1, .inr (.inr (some (192)))), (2, .inr (.inr (some (770)))), (3, .inr (.inr (some (805))))] [] g Q) : ez_W (d + 11) cm_0 509 [(4, .inl (i)), (0, .inr (.inr (some (0)))), (1, .inr (.inr (some (192)))), (2, .inr (.inr (some (770)))), (3, .inr (.inr (some (805))))] [] h Q := by
  have hB := dz_ezB hb
  have hX := hb.2.1
  have t0 : τ 0 = 34 := hX.1 0 (by decide)
  have t192 : τ 192 = 44 := hX.1 192 (by decide)
  have t770 : τ 770 = 75 := hX.1 770 (by decide)
  have t805 : τ 805 = 35 := hX.1 805 (by decide)
  obtain ⟨Ls, ⟨t, c, m, w, s6, s77, u, p⟩, ww, X, x1, x2⟩ := id hX.2.2.2.2
  have hI : jz_I τ h (vF Ls) (vE Ls) := ⟨hB, hX.1, c⟩
  obtain ⟨T, hC⟩ := pz_C_of hI
  have sl := ww.2.1
  refine ez_go (n := 5) (pc' := 515) (L' := [(4, .inl (i)), (0, .inr (.inr (some (0)))), (1, .inr (.inr (some (192)))), (2, .inr (.inr (some (770)))), (3, .inr (.inr (some (805))))]) (st' := [.inl ((i) + (1)), .inr (.inr (some (0))), .inr (.inr (some (192)))]) rfl ?_
  have n2 : 0 ≤ qz_N h 0 ∧ qz_N h 0 ≤ 3072 := ez_len hB t0 tq_34 rfl
  refine ez_aI hB t0 rfl tq_34 rfl rfl (by omega) (by omega) (fun (b1 : -2147483648 ≤ qz_I h 0 ((i) + (1)).toNat) (b1' : qz_I h 0 ((i) + (1)).toNat ≤ 2147483647) => ?_)
  refine ez_go (n := 4) (pc' := 521) (L' := [(4, .inl (i)), (0, .inr (.inr (some (0)))), (1, .inr (.inr (some (192)))), (2, .inr (.inr (some (770)))), (3, .inr (.inr (some (805))))]) (st' := [.inl ((i) + (2)), .inr (.inr (some (0))), .inl (qz_I h 0 ((i) + (1)).toNat), .inr (.inr (some (192)))]) rfl ?_
  have n4 : 0 ≤ qz_N h 0 ∧ qz_N h 0 ≤ 3072 := ez_len hB t0 tq_34 rfl
  refine ez_aI hB t0 rfl tq_34 rfl rfl (by omega) (by omega) (fun (b3 : -2147483648 ≤ qz_I h 0 ((i) + (2)).toNat) (b3' : qz_I h 0 ((i) + (2)).toNat ≤ 2147483647) => ?_)
  refine ez_go (n := 4) (pc' := 527) (L' := [(4, .inl (i)), (0, .inr (.inr (some (0)))), (1, .inr (.inr (some (192)))), (2, .inr (.inr (some (770)))), (3, .inr (.inr (some (805))))]) (st' := [.inl ((i) + (3)), .inr (.inr (some (0))), .inl (qz_I h 0 ((i) + (2)).toNat), .inl (qz_I h 0 ((i) + (1)).toNat), .inr (.inr (some (192)))]) rfl ?_
  have n6 : 0 ≤ qz_N h 0 ∧ qz_N h 0 ≤ 3072 := ez_len hB t0 tq_34 rfl
  refine ez_aI hB t0 rfl tq_34 rfl rfl (by omega) (by omega) (fun (b5 : -2147483648 ≤ qz_I h 0 ((i) + (3)).toNat) (b5' : qz_I h 0 ((i) + (3)).toNat ≤ 2147483647) => ?_)
  refine ez_go (n := 1) (pc' := 529) (L' := [(4, .inl (i)), (0, .inr (.inr (some (0)))), (1, .inr (.inr (some (192)))), (2, .inr (.inr (some (770)))), (3, .inr (.inr (some (805))))]) (st' := [.inr (.inr (some (805))), .inl (qz_I h 0 ((i) + (3)).toNat), .inl (qz_I h 0 ((i) + (2)).toNat), .inl (qz_I h 0 ((i) + (1)).toNat), .inr (.inr (some (192)))]) rfl ?_
  have hsl : qz_I h 202 6 ≠ 0 → fD h T (vF Ls) ∧ cP h (vF Ls) (vE Ls) := fun z => by
    obtain ⟨-, q2, q3⟩ := ww.2.2.2.2.1 (fun y => z (s6.mpr y))
    exact ⟨cFl_fD hC q2, q3⟩
  refine ez_cs hB.2.1 rfl rfl rfl rfl rfl (hp_normal hB t192 (rd_normalP (d := d + 1) hC w hsl sl x1 ⟨by omega, by omega⟩ ⟨by omega, by omega⟩ ⟨by omega, by omega⟩ (by omega) (by omega)) (fun F hF => ?_))
  generalize ea1 : qz_I h 0 ((i) + (1)).toNat = a1 at *
  have ar1 : ez_rg a1 := ⟨by omega, by omega⟩
  generalize ea2 : qz_I h 0 ((i) + (2)).toNat = a2 at *
  have ar2 : ez_rg a2 := ⟨by omega, by omega⟩
  generalize ea3 : qz_I h 0 ((i) + (3)).toNat = a3 at *
  have ar3 : ez_rg a3 := ⟨by omega, by omega⟩
  rcases hF with ⟨wA, rfl⟩ | ⟨wS, rfl⟩ | ⟨wX, gA, rfl, BA, fA⟩ | ⟨res, gA, gB, rfl, wR, pl, BA, fA, BB, fB, tB⟩
  · refine Or.inr (Or.inl ⟨_, _, rfl, xc_exc hB rfl, ez_K1 ?_⟩)
    have hBx : ez_B τ (xc h 1) := xc_B hB (by omega) (by omega)
    obtain ⟨⟨pM, pN⟩, pS, pX, p7, sc, sn⟩ := tg_pre hX.1 t m w s77 ww x2 hBx (fun q a _ _ _ _ => xc_t hB a)
    have rH : (xc h 1).1 ≤ h.1 + 1 ∧ (xc h 1).2.1 ≤ h.2.1 + 6 := ⟨Nat.le_refl _, Nat.le_refl _⟩
    refine ez_go (n := 6) (pc' := 540) (L' := [(5, .inl (1)), (4, .inl (i)), (0, .inr (.inr (some (0)))), (1, .inr (.inr (some (192)))), (2, .inr (.inr (some (770)))), (3, .inr (.inr (some (805))))]) (st' := [.inl ((i) + (1)), .inr (.inr (some (0))), .inr (.inr (some (770)))]) rfl ?_
    have n8 : 0 ≤ qz_N (xc h 1) 0 ∧ qz_N (xc h 1) 0 ≤ 3072 := ez_len hBx t0 tq_34 rfl
    refine ez_aI hBx t0 rfl tq_34 rfl rfl (by omega) (by omega) (fun (b7 : -2147483648 ≤ qz_I (xc h 1) 0 ((i) + (1)).toNat) (b7' : qz_I (xc h 1) 0 ((i) + (1)).toNat ≤ 2147483647) => ?_)
    rw [show qz_I (xc h 1) 0 ((i) + (1)).toNat = qz_I h 0 ((i) + (1)).toNat from sc _, ea1]
    refine ez_go (n := 4) (pc' := 546) (L' := [(5, .inl (1)), (4, .inl (i)), (0, .inr (.inr (some (0)))), (1, .inr (.inr (some (192)))), (2, .inr (.inr (some (770)))), (3, .inr (.inr (some (805))))]) (st' := [.inl ((i) + (2)), .inr (.inr (some (0))), .inl (a1), .inr (.inr (some (770)))]) rfl ?_
    have n10 : 0 ≤ qz_N (xc h 1) 0 ∧ qz_N (xc h 1) 0 ≤ 3072 := ez_len hBx t0 tq_34 rfl
    refine ez_aI hBx t0 rfl tq_34 rfl rfl (by omega) (by omega) (fun (b9 : -2147483648 ≤ qz_I (xc h 1) 0 ((i) + (2)).toNat) (b9' : qz_I (xc h 1) 0 ((i) + (2)).toNat ≤ 2147483647) => ?_)
    rw [show qz_I (xc h 1) 0 ((i) + (2)).toNat = qz_I h 0 ((i) + (2)).toNat from sc _, ea2]
    refine ez_go (n := 4) (pc' := 552) (L' := [(5, .inl (1)), (4, .inl (i)), (0, .inr (.inr (some (0)))), (1, .inr (.inr (some (192)))), (2, .inr (.inr (some (770)))), (3, .inr (.inr (some (805))))]) (st' := [.inl ((i) + (3)), .inr (.inr (some (0))), .inl (a2), .inl (a1), .inr (.inr (some (770)))]) rfl ?_
    have n12 : 0 ≤ qz_N (xc h 1) 0 ∧ qz_N (xc h 1) 0 ≤ 3072 := ez_len hBx t0 tq_34 rfl
    refine ez_aI hBx t0 rfl tq_34 rfl rfl (by omega) (by omega) (fun (b11 : -2147483648 ≤ qz_I (xc h 1) 0 ((i) + (3)).toNat) (b11' : qz_I (xc h 1) 0 ((i) + (3)).toNat ≤ 2147483647) => ?_)
    rw [show qz_I (xc h 1) 0 ((i) + (3)).toNat = qz_I h 0 ((i) + (3)).toNat from sc _, ea3]
    refine ez_cv hBx t770 rfl rfl rfl tq_75 rfl rfl rfl (rd_mnormal hBx hX.1 pN pS pX ar1 ar2 ar3 (by omega) (by omega) (fun _ g3 b1 b2 => ez_K1 ?_) (fun w9 => absurd w9 (by omega)) (fun w9 => absurd w9 (by omega)) (fun w9 => absurd w9 (by omega)))
    have FN := ref_X hb hn b1 b2.1 b2.2.1
    have b0 := b2.2.2
    refine ez_go (n := 2) (pc' := 1213) (L' := [(6, .inl (0)), (5, .inl (1)), (4, .inl (i)), (0, .inr (.inr (some (0)))), (1, .inr (.inr (some (192)))), (2, .inr (.inr (some (770)))), (3, .inr (.inr (some (805))))]) (st' := []) rfl ?_
    refine ez_less [(4, .inl (i)), (0, .inr (.inr (some (0)))), (1, .inr (.inr (some (192)))), (2, .inr (.inr (some (770)))), (3, .inr (.inr (some (805))))] rfl ⟨rfl, rfl, rfl, rfl, rfl, trivial⟩ ?_
    exact k _ _ FN.1 FN.2
  · refine Or.inr (Or.inr (Or.inl ⟨_, _, rfl, xc_exc hB rfl, ez_K1 ?_⟩))
    have hBx : ez_B τ (xc h 2) := xc_B hB (by omega) (by omega)
    obtain ⟨⟨pM, pN⟩, pS, pX, p7, sc, sn⟩ := tg_pre hX.1 t m w s77 ww x2 hBx (fun q a _ _ _ _ => xc_t hB a)
    have rH : (xc h 2).1 ≤ h.1 + 1 ∧ (xc h 2).2.1 ≤ h.2.1 + 6 := ⟨Nat.le_refl _, Nat.le_refl _⟩
    obtain ⟨ok, s0⟩ := wS
    have n7 : qz_I (xc h 2) 770 7 = 0 := (p7 7).trans (s6.mp s0)
    refine ez_go (n := 6) (pc' := 540) (L' := [(5, .inl (2)), (4, .inl (i)), (0, .inr (.inr (some (0)))), (1, .inr (.inr (some (192)))), (2, .inr (.inr (some (770)))), (3, .inr (.inr (some (805))))]) (st' := [.inl ((i) + (1)), .inr (.inr (some (0))), .inr (.inr (some (770)))]) rfl ?_
    have n14 : 0 ≤ qz_N (xc h 2) 0 ∧ qz_N (xc h 2) 0 ≤ 3072 := ez_len hBx t0 tq_34 rfl
    refine ez_aI hBx t0 rfl tq_34 rfl rfl (by omega) (by omega) (fun (b13 : -2147483648 ≤ qz_I (xc h 2) 0 ((i) + (1)).toNat) (b13' : qz_I (xc h 2) 0 ((i) + (1)).toNat ≤ 2147483647) => ?_)
    rw [show qz_I (xc h 2) 0 ((i) + (1)).toNat = qz_I h 0 ((i) + (1)).toNat from sc _, ea1]
    refine ez_go (n := 4) (pc' := 546) (L' := [(5, .inl (2)), (4, .inl (i)), (0, .inr (.inr (some (0)))), (1, .inr (.inr (some (192)))), (2, .inr (.inr (some (770)))), (3, .inr (.inr (some (805))))]) (st' := [.inl ((i) + (2)), .inr (.inr (some (0))), .inl (a1), .inr (.inr (some (770)))]) rfl ?_
    have n16 : 0 ≤ qz_N (xc h 2) 0 ∧ qz_N (xc h 2) 0 ≤ 3072 := ez_len hBx t0 tq_34 rfl
    refine ez_aI hBx t0 rfl tq_34 rfl rfl (by omega) (by omega) (fun (b15 : -2147483648 ≤ qz_I (xc h 2) 0 ((i) + (2)).toNat) (b15' : qz_I (xc h 2) 0 ((i) + (2)).toNat ≤ 2147483647) => ?_)
    rw [show qz_I (xc h 2) 0 ((i) + (2)).toNat = qz_I h 0 ((i) + (2)).toNat from sc _, ea2]
    refine ez_go (n := 4) (pc' := 552) (L' := [(5, .inl (2)), (4, .inl (i)), (0, .inr (.inr (some (0)))), (1, .inr (.inr (some (192)))), (2, .inr (.inr (some (770)))), (3, .inr (.inr (some (805))))]) (st' := [.inl ((i) + (3)), .inr (.inr (some (0))), .inl (a2), .inl (a1), .inr (.inr (some (770)))]) rfl ?_
    have n18 : 0 ≤ qz_N (xc h 2) 0 ∧ qz_N (xc h 2) 0 ≤ 3072 := ez_len hBx t0 tq_34 rfl
    refine ez_aI hBx t0 rfl tq_34 rfl rfl (by omega) (by omega) (fun (b17 : -2147483648 ≤ qz_I (xc h 2) 0 ((i) + (3)).toNat) (b17' : qz_I (xc h 2) 0 ((i) + (3)).toNat ≤ 2147483647) => ?_)
    rw [show qz_I (xc h 2) 0 ((i) + (3)).toNat = qz_I h 0 ((i) + (3)).toNat from sc _, ea3]
    refine ez_cv hBx t770 rfl rfl rfl tq_75 rfl rfl rfl (rd_mnormal hBx hX.1 pN pS pX ar1 ar2 ar3 (by omega) (by omega) (fun w9 => absurd w9 (by omega)) (fun _ _ g3 b1 b2 => ez_K1 ?_) (fun _ z => absurd n7 z) (fun _ z => absurd n7 z))
    have FN := ref_X hb hn b1 b2.1 b2.2.1
    have b0 := b2.2.2
    refine ez_go (n := 2) (pc' := 1213) (L' := [(6, .inl (0)), (5, .inl (2)), (4, .inl (i)), (0, .inr (.inr (some (0)))), (1, .inr (.inr (some (192)))), (2, .inr (.inr (some (770)))), (3, .inr (.inr (some (805))))]) (st' := []) rfl ?_
    refine ez_less [(4, .inl (i)), (0, .inr (.inr (some (0)))), (1, .inr (.inr (some (192)))), (2, .inr (.inr (some (770)))), (3, .inr (.inr (some (805))))] rfl ⟨rfl, rfl, rfl, rfl, rfl, trivial⟩ ?_
    exact k _ _ FN.1 FN.2
  · have cA1 := fA.1; have cA2 := fA.2.1
    refine Or.inr (Or.inr (Or.inr ⟨_, _, rfl, xc_exc BA rfl, ez_K1 ?_⟩))
    have hBx : ez_B τ (xc gA 0) := xc_B BA (by omega) (by omega)
    obtain ⟨ok, s0, m9, um, lm⟩ := wX
    obtain ⟨⟨pM, pN⟩, pS, pX, p7, sc, sn⟩ := tg_pre hX.1 t m w s77 ww x2 hBx (fun q a b _ _ _ => (xc_t BA a).trans (fA.2.2 q ((pk_co hX.1) q b)))
    have rH : (xc gA 0).1 ≤ h.1 + 1 ∧ (xc gA 0).2.1 ≤ h.2.1 + 6 := ⟨by show gA.1 + 1 ≤ _; omega, by show gA.2.1 + 6 ≤ _; omega⟩
    have n7 : qz_I (xc gA 0) 770 7 ≠ 0 := fun z => s0 (s6.mpr ((p7 7).symm.trans z))
    refine ez_go (n := 6) (pc' := 540) (L' := [(5, .inl (3)), (4, .inl (i)), (0, .inr (.inr (some (0)))), (1, .inr (.inr (some (192)))), (2, .inr (.inr (some (770)))), (3, .inr (.inr (some (805))))]) (st' := [.inl ((i) + (1)), .inr (.inr (some (0))), .inr (.inr (some (770)))]) rfl ?_
    have n20 : 0 ≤ qz_N (xc gA 0) 0 ∧ qz_N (xc gA 0) 0 ≤ 3072 := ez_len hBx t0 tq_34 rfl
    refine ez_aI hBx t0 rfl tq_34 rfl rfl (by omega) (by omega) (fun (b19 : -2147483648 ≤ qz_I (xc gA 0) 0 ((i) + (1)).toNat) (b19' : qz_I (xc gA 0) 0 ((i) + (1)).toNat ≤ 2147483647) => ?_)
    rw [show qz_I (xc gA 0) 0 ((i) + (1)).toNat = qz_I h 0 ((i) + (1)).toNat from sc _, ea1]
    refine ez_go (n := 4) (pc' := 546) (L' := [(5, .inl (3)), (4, .inl (i)), (0, .inr (.inr (some (0)))), (1, .inr (.inr (some (192)))), (2, .inr (.inr (some (770)))), (3, .inr (.inr (some (805))))]) (st' := [.inl ((i) + (2)), .inr (.inr (some (0))), .inl (a1), .inr (.inr (some (770)))]) rfl ?_
    have n22 : 0 ≤ qz_N (xc gA 0) 0 ∧ qz_N (xc gA 0) 0 ≤ 3072 := ez_len hBx t0 tq_34 rfl
    refine ez_aI hBx t0 rfl tq_34 rfl rfl (by omega) (by omega) (fun (b21 : -2147483648 ≤ qz_I (xc gA 0) 0 ((i) + (2)).toNat) (b21' : qz_I (xc gA 0) 0 ((i) + (2)).toNat ≤ 2147483647) => ?_)
    rw [show qz_I (xc gA 0) 0 ((i) + (2)).toNat = qz_I h 0 ((i) + (2)).toNat from sc _, ea2]
    refine ez_go (n := 4) (pc' := 552) (L' := [(5, .inl (3)), (4, .inl (i)), (0, .inr (.inr (some (0)))), (1, .inr (.inr (some (192)))), (2, .inr (.inr (some (770)))), (3, .inr (.inr (some (805))))]) (st' := [.inl ((i) + (3)), .inr (.inr (some (0))), .inl (a2), .inl (a1), .inr (.inr (some (770)))]) rfl ?_
    have n24 : 0 ≤ qz_N (xc gA 0) 0 ∧ qz_N (xc gA 0) 0 ≤ 3072 := ez_len hBx t0 tq_34 rfl
    refine ez_aI hBx t0 rfl tq_34 rfl rfl (by omega) (by omega) (fun (b23 : -2147483648 ≤ qz_I (xc gA 0) 0 ((i) + (3)).toNat) (b23' : qz_I (xc gA 0) 0 ((i) + (3)).toNat ≤ 2147483647) => ?_)
    rw [show qz_I (xc gA 0) 0 ((i) + (3)).toNat = qz_I h 0 ((i) + (3)).toNat from sc _, ea3]
    refine ez_cv hBx t770 rfl rfl rfl tq_75 rfl rfl rfl (rd_mnormal hBx hX.1 pN pS pX ar1 ar2 ar3 (by omega) (by omega) (fun w9 => absurd w9 (by omega)) (fun _ z => absurd z n7) (fun _ _ h1 c1 c2 m8 _ _ g2 τ2 c3 c4 g3 b1 b2 => ez_K1 ?_) (fun _ _ h1 _ _ m8 r8 u8 l8 => absurd (uz_L_uniq um u8) (fun e => by rw [e] at lm; omega)))
    have u770 : τ2 770 = 75 := c4.X hX.1 770 (by decide)
    have u805 : τ2 805 = 35 := c4.X hX.1 805 (by decide)
    have FN := tg_no hb hn (pk_co hX.1) BA fA c2.H c4 c3 b2 b1
    have b0 := b2.2.2
    refine ez_go (n := 2) (pc' := 1213) (L' := [(6, .inl (0)), (5, .inl (3)), (4, .inl (i)), (0, .inr (.inr (some (0)))), (1, .inr (.inr (some (192)))), (2, .inr (.inr (some (770)))), (3, .inr (.inr (some (805))))]) (st' := []) rfl ?_
    refine ez_less [(4, .inl (i)), (0, .inr (.inr (some (0)))), (1, .inr (.inr (some (192)))), (2, .inr (.inr (some (770)))), (3, .inr (.inr (some (805))))] rfl ⟨rfl, rfl, rfl, rfl, rfl, trivial⟩ ?_
    exact k _ _ FN.1 FN.2
  · refine Or.inl ⟨_, τ, gB, rfl, BB, t805, fun hBo => ez_K1 ?_⟩
    obtain ⟨ok, s0, m9, um, lm, nr⟩ := wR
    have t8 : a1.toNat < 8 := by omega
    have ll : res.length ≤ 2000 := by have q1 := tB.1; have q2 := tx_l88 BB ((rU_of hX.1).2 _ t8).2.1; omega
    obtain ⟨⟨pM, pN⟩, pS, pX, p7, sc, sn⟩ := tg_pre hX.1 t m w s77 ww x2 hBo (ow_CH hX.1 t8 (pk_co hX.1) fA fB)
    have rH : (ow gB (res.length : Int)).1 ≤ h.1 + 1 ∧ (ow gB (res.length : Int)).2.1 ≤ h.2.1 + 6 := ⟨by show gB.1 ≤ _; rw [fB.1, fA.1]; omega, by show gB.2.1 ≤ _; rw [fB.2.1, fA.2.1]; omega⟩
    have n7 : qz_I (ow gB (res.length : Int)) 770 7 ≠ 0 := fun z => s0 (s6.mpr ((p7 7).symm.trans z))
    refine ez_go (n := 6) (pc' := 540) (L' := [(5, .inl (0)), (4, .inl (i)), (0, .inr (.inr (some (0)))), (1, .inr (.inr (some (192)))), (2, .inr (.inr (some (770)))), (3, .inr (.inr (some (805))))]) (st' := [.inl ((i) + (1)), .inr (.inr (some (0))), .inr (.inr (some (770)))]) rfl ?_
    have n26 : 0 ≤ qz_N (ow gB (res.length : Int)) 0 ∧ qz_N (ow gB (res.length : Int)) 0 ≤ 3072 := ez_len hBo t0 tq_34 rfl
    refine ez_aI hBo t0 rfl tq_34 rfl rfl (by omega) (by omega) (fun (b25 : -2147483648 ≤ qz_I (ow gB (res.length : Int)) 0 ((i) + (1)).toNat) (b25' : qz_I (ow gB (res.length : Int)) 0 ((i) + (1)).toNat ≤ 2147483647) => ?_)
    rw [show qz_I (ow gB (res.length : Int)) 0 ((i) + (1)).toNat = qz_I h 0 ((i) + (1)).toNat from sc _, ea1]
    refine ez_go (n := 4) (pc' := 546) (L' := [(5, .inl (0)), (4, .inl (i)), (0, .inr (.inr (some (0)))), (1, .inr (.inr (some (192)))), (2, .inr (.inr (some (770)))), (3, .inr (.inr (some (805))))]) (st' := [.inl ((i) + (2)), .inr (.inr (some (0))), .inl (a1), .inr (.inr (some (770)))]) rfl ?_
    have n28 : 0 ≤ qz_N (ow gB (res.length : Int)) 0 ∧ qz_N (ow gB (res.length : Int)) 0 ≤ 3072 := ez_len hBo t0 tq_34 rfl
    refine ez_aI hBo t0 rfl tq_34 rfl rfl (by omega) (by omega) (fun (b27 : -2147483648 ≤ qz_I (ow gB (res.length : Int)) 0 ((i) + (2)).toNat) (b27' : qz_I (ow gB (res.length : Int)) 0 ((i) + (2)).toNat ≤ 2147483647) => ?_)
    rw [show qz_I (ow gB (res.length : Int)) 0 ((i) + (2)).toNat = qz_I h 0 ((i) + (2)).toNat from sc _, ea2]
    refine ez_go (n := 4) (pc' := 552) (L' := [(5, .inl (0)), (4, .inl (i)), (0, .inr (.inr (some (0)))), (1, .inr (.inr (some (192)))), (2, .inr (.inr (some (770)))), (3, .inr (.inr (some (805))))]) (st' := [.inl ((i) + (3)), .inr (.inr (some (0))), .inl (a2), .inl (a1), .inr (.inr (some (770)))]) rfl ?_
    have n30 : 0 ≤ qz_N (ow gB (res.length : Int)) 0 ∧ qz_N (ow gB (res.length : Int)) 0 ≤ 3072 := ez_len hBo t0 tq_34 rfl
    refine ez_aI hBo t0 rfl tq_34 rfl rfl (by omega) (by omega) (fun (b29 : -2147483648 ≤ qz_I (ow gB (res.length : Int)) 0 ((i) + (3)).toNat) (b29' : qz_I (ow gB (res.length : Int)) 0 ((i) + (3)).toNat ≤ 2147483647) => ?_)
    rw [show qz_I (ow gB (res.length : Int)) 0 ((i) + (3)).toNat = qz_I h 0 ((i) + (3)).toNat from sc _, ea3]
    refine ez_cv hBo t770 rfl rfl rfl tq_75 rfl rfl rfl (rd_mnormal hBo hX.1 pN pS pX ar1 ar2 ar3 (by omega) (by omega) (fun w9 => absurd w9 (by omega)) (fun _ z => absurd z n7) (fun _ _ h1 _ _ m8 u8 l8 => absurd (uz_L_uniq um u8) (fun e => by rw [e] at lm; omega)) (fun _ _ h1 c1 c2 m8 r8 u8 _ nr8 _ g2 τ2 c3 c4 _ g3 b1 f3 mx3 => ez_K1 ?_))
    have em := uz_L_uniq um u8
    rw [← em] at nr8
    have er := nfR_u (s77 (fun z => s0 (s6.mpr z))).1.2.2.2 nr nr8
    rw [← er] at mx3 ⊢
    have u770 : τ2 770 = 75 := c4.X hX.1 770 (by decide)
    have u805 : τ2 805 = 35 := c4.X hX.1 805 (by decide)
    have FN := tg_ok hb hn x1 x2 t8 (pk_co hX.1) fA fB tB pl ll c2.H c4 c3 b1 f3 mx3
    have b0 : qz_I g3 770 0 = 0 := (f3.1.I (mx_Pn (by omega) (by decide)) 0).trans ((c4.2.2.1 0 (by decide) (by decide) (by decide)).trans (c2.2.2))
    refine ez_go (n := 2) (pc' := 1213) (L' := [(6, .inl ((res.length : Int))), (5, .inl (0)), (4, .inl (i)), (0, .inr (.inr (some (0)))), (1, .inr (.inr (some (192)))), (2, .inr (.inr (some (770)))), (3, .inr (.inr (some (805))))]) (st' := []) rfl ?_
    refine ez_less [(4, .inl (i)), (0, .inr (.inr (some (0)))), (1, .inr (.inr (some (192)))), (2, .inr (.inr (some (770)))), (3, .inr (.inr (some (805))))] rfl ⟨rfl, rfl, rfl, rfl, rfl, trivial⟩ ?_
    exact k _ _ FN.1 FN.2

theorem lw_join {i : Int} (hb : dz_B tz_T (qz_X rR) τ h) (hn : qz_I h 192 1 = qz_I h 770 2) (i0 : 0 ≤ i) (i1 : i + 6 ≤ qz_N h 0) (i2 : i ≤ 4000) (hr1 : h.1 + 1100 ≤ 600192) (hr2 : h.2.1 + 150100 ≤ 7302232) (k : ∀ τ2 g, dz_B tz_T (qz_X rR) τ2 g → stp h g → ez_W (d + 11) cm_0 1213 [(4, .inl (i)), (0, .inr (.inr (some (0)))), (1, .inr (.inr (some (192)))), (2, .inr (.inr (some (770)))), (3, .inr (.inr (some (805))))] [] g Q) : ez_W (d + 11) cm_0 601 [(4, .inl (i)), (0, .inr (.inr (some (0)))), (1, .inr (.inr (some (192)))), (2, .inr (.inr (some (770)))), (3, .inr (.inr (some (805))))] [] h Q := by
  have hB := dz_ezB hb
  have hX := hb.2.1
  have t0 : τ 0 = 34 := hX.1 0 (by decide)
  have t192 : τ 192 = 44 := hX.1 192 (by decide)
  have t770 : τ 770 = 75 := hX.1 770 (by decide)
  have t805 : τ 805 = 35 := hX.1 805 (by decide)
  obtain ⟨Ls, ⟨t, c, m, w, s6, s77, u, p⟩, ww, X, x1, x2⟩ := id hX.2.2.2.2
  have hI : jz_I τ h (vF Ls) (vE Ls) := ⟨hB, hX.1, c⟩
  obtain ⟨T, hC⟩ := pz_C_of hI
  have sl := ww.2.1
  refine ez_go (n := 5) (pc' := 607) (L' := [(4, .inl (i)), (0, .inr (.inr (some (0)))), (1, .inr (.inr (some (192)))), (2, .inr (.inr (some (770)))), (3, .inr (.inr (some (805))))]) (st' := [.inl ((i) + (1)), .inr (.inr (some (0))), .inr (.inr (some (192)))]) rfl ?_
  have n2 : 0 ≤ qz_N h 0 ∧ qz_N h 0 ≤ 3072 := ez_len hB t0 tq_34 rfl
  refine ez_aI hB t0 rfl tq_34 rfl rfl (by omega) (by omega) (fun (b1 : -2147483648 ≤ qz_I h 0 ((i) + (1)).toNat) (b1' : qz_I h 0 ((i) + (1)).toNat ≤ 2147483647) => ?_)
  refine ez_go (n := 4) (pc' := 613) (L' := [(4, .inl (i)), (0, .inr (.inr (some (0)))), (1, .inr (.inr (some (192)))), (2, .inr (.inr (some (770)))), (3, .inr (.inr (some (805))))]) (st' := [.inl ((i) + (2)), .inr (.inr (some (0))), .inl (qz_I h 0 ((i) + (1)).toNat), .inr (.inr (some (192)))]) rfl ?_
  have n4 : 0 ≤ qz_N h 0 ∧ qz_N h 0 ≤ 3072 := ez_len hB t0 tq_34 rfl
  refine ez_aI hB t0 rfl tq_34 rfl rfl (by omega) (by omega) (fun (b3 : -2147483648 ≤ qz_I h 0 ((i) + (2)).toNat) (b3' : qz_I h 0 ((i) + (2)).toNat ≤ 2147483647) => ?_)
  refine ez_go (n := 4) (pc' := 619) (L' := [(4, .inl (i)), (0, .inr (.inr (some (0)))), (1, .inr (.inr (some (192)))), (2, .inr (.inr (some (770)))), (3, .inr (.inr (some (805))))]) (st' := [.inl ((i) + (3)), .inr (.inr (some (0))), .inl (qz_I h 0 ((i) + (2)).toNat), .inl (qz_I h 0 ((i) + (1)).toNat), .inr (.inr (some (192)))]) rfl ?_
  have n6 : 0 ≤ qz_N h 0 ∧ qz_N h 0 ≤ 3072 := ez_len hB t0 tq_34 rfl
  refine ez_aI hB t0 rfl tq_34 rfl rfl (by omega) (by omega) (fun (b5 : -2147483648 ≤ qz_I h 0 ((i) + (3)).toNat) (b5' : qz_I h 0 ((i) + (3)).toNat ≤ 2147483647) => ?_)
  refine ez_go (n := 4) (pc' := 625) (L' := [(4, .inl (i)), (0, .inr (.inr (some (0)))), (1, .inr (.inr (some (192)))), (2, .inr (.inr (some (770)))), (3, .inr (.inr (some (805))))]) (st' := [.inl ((i) + (4)), .inr (.inr (some (0))), .inl (qz_I h 0 ((i) + (3)).toNat), .inl (qz_I h 0 ((i) + (2)).toNat), .inl (qz_I h 0 ((i) + (1)).toNat), .inr (.inr (some (192)))]) rfl ?_
  have n8 : 0 ≤ qz_N h 0 ∧ qz_N h 0 ≤ 3072 := ez_len hB t0 tq_34 rfl
  refine ez_aI hB t0 rfl tq_34 rfl rfl (by omega) (by omega) (fun (b7 : -2147483648 ≤ qz_I h 0 ((i) + (4)).toNat) (b7' : qz_I h 0 ((i) + (4)).toNat ≤ 2147483647) => ?_)
  refine ez_go (n := 1) (pc' := 627) (L' := [(4, .inl (i)), (0, .inr (.inr (some (0)))), (1, .inr (.inr (some (192)))), (2, .inr (.inr (some (770)))), (3, .inr (.inr (some (805))))]) (st' := [.inr (.inr (some (805))), .inl (qz_I h 0 ((i) + (4)).toNat), .inl (qz_I h 0 ((i) + (3)).toNat), .inl (qz_I h 0 ((i) + (2)).toNat), .inl (qz_I h 0 ((i) + (1)).toNat), .inr (.inr (some (192)))]) rfl ?_
  have hsl : qz_I h 202 6 ≠ 0 → fD h T (vF Ls) ∧ cP h (vF Ls) (vE Ls) := fun z => by
    obtain ⟨-, q2, q3⟩ := ww.2.2.2.2.1 (fun y => z (s6.mpr y))
    exact ⟨cFl_fD hC q2, q3⟩
  refine ez_cs hB.2.1 rfl rfl rfl rfl rfl (hp_join hB t192 (rd_joinP (d := d + 1) hC w hsl sl x1 ⟨by omega, by omega⟩ ⟨by omega, by omega⟩ ⟨by omega, by omega⟩ ⟨by omega, by omega⟩ (by omega) (by omega)) (fun F hF => ?_))
  generalize ea1 : qz_I h 0 ((i) + (1)).toNat = a1 at *
  have ar1 : ez_rg a1 := ⟨by omega, by omega⟩
  generalize ea2 : qz_I h 0 ((i) + (2)).toNat = a2 at *
  have ar2 : ez_rg a2 := ⟨by omega, by omega⟩
  generalize ea3 : qz_I h 0 ((i) + (3)).toNat = a3 at *
  have ar3 : ez_rg a3 := ⟨by omega, by omega⟩
  generalize ea4 : qz_I h 0 ((i) + (4)).toNat = a4 at *
  have ar4 : ez_rg a4 := ⟨by omega, by omega⟩
  rcases hF with ⟨wA, rfl⟩ | ⟨wS, rfl⟩ | ⟨wX, gA, rfl, BA, fA⟩ | ⟨res, gA, gB, rfl, wR, pl, BA, fA, BB, fB, tB⟩
  · refine Or.inr (Or.inl ⟨_, _, rfl, xc_exc hB rfl, ez_K1 ?_⟩)
    have hBx : ez_B τ (xc h 1) := xc_B hB (by omega) (by omega)
    obtain ⟨⟨pM, pN⟩, pS, pX, p7, sc, sn⟩ := tg_pre hX.1 t m w s77 ww x2 hBx (fun q a _ _ _ _ => xc_t hB a)
    have rH : (xc h 1).1 ≤ h.1 + 1 ∧ (xc h 1).2.1 ≤ h.2.1 + 6 := ⟨Nat.le_refl _, Nat.le_refl _⟩
    refine ez_go (n := 6) (pc' := 638) (L' := [(5, .inl (1)), (4, .inl (i)), (0, .inr (.inr (some (0)))), (1, .inr (.inr (some (192)))), (2, .inr (.inr (some (770)))), (3, .inr (.inr (some (805))))]) (st' := [.inl ((i) + (1)), .inr (.inr (some (0))), .inr (.inr (some (770)))]) rfl ?_
    have n10 : 0 ≤ qz_N (xc h 1) 0 ∧ qz_N (xc h 1) 0 ≤ 3072 := ez_len hBx t0 tq_34 rfl
    refine ez_aI hBx t0 rfl tq_34 rfl rfl (by omega) (by omega) (fun (b9 : -2147483648 ≤ qz_I (xc h 1) 0 ((i) + (1)).toNat) (b9' : qz_I (xc h 1) 0 ((i) + (1)).toNat ≤ 2147483647) => ?_)
    rw [show qz_I (xc h 1) 0 ((i) + (1)).toNat = qz_I h 0 ((i) + (1)).toNat from sc _, ea1]
    refine ez_go (n := 4) (pc' := 644) (L' := [(5, .inl (1)), (4, .inl (i)), (0, .inr (.inr (some (0)))), (1, .inr (.inr (some (192)))), (2, .inr (.inr (some (770)))), (3, .inr (.inr (some (805))))]) (st' := [.inl ((i) + (2)), .inr (.inr (some (0))), .inl (a1), .inr (.inr (some (770)))]) rfl ?_
    have n12 : 0 ≤ qz_N (xc h 1) 0 ∧ qz_N (xc h 1) 0 ≤ 3072 := ez_len hBx t0 tq_34 rfl
    refine ez_aI hBx t0 rfl tq_34 rfl rfl (by omega) (by omega) (fun (b11 : -2147483648 ≤ qz_I (xc h 1) 0 ((i) + (2)).toNat) (b11' : qz_I (xc h 1) 0 ((i) + (2)).toNat ≤ 2147483647) => ?_)
    rw [show qz_I (xc h 1) 0 ((i) + (2)).toNat = qz_I h 0 ((i) + (2)).toNat from sc _, ea2]
    refine ez_go (n := 4) (pc' := 650) (L' := [(5, .inl (1)), (4, .inl (i)), (0, .inr (.inr (some (0)))), (1, .inr (.inr (some (192)))), (2, .inr (.inr (some (770)))), (3, .inr (.inr (some (805))))]) (st' := [.inl ((i) + (3)), .inr (.inr (some (0))), .inl (a2), .inl (a1), .inr (.inr (some (770)))]) rfl ?_
    have n14 : 0 ≤ qz_N (xc h 1) 0 ∧ qz_N (xc h 1) 0 ≤ 3072 := ez_len hBx t0 tq_34 rfl
    refine ez_aI hBx t0 rfl tq_34 rfl rfl (by omega) (by omega) (fun (b13 : -2147483648 ≤ qz_I (xc h 1) 0 ((i) + (3)).toNat) (b13' : qz_I (xc h 1) 0 ((i) + (3)).toNat ≤ 2147483647) => ?_)
    rw [show qz_I (xc h 1) 0 ((i) + (3)).toNat = qz_I h 0 ((i) + (3)).toNat from sc _, ea3]
    refine ez_go (n := 4) (pc' := 656) (L' := [(5, .inl (1)), (4, .inl (i)), (0, .inr (.inr (some (0)))), (1, .inr (.inr (some (192)))), (2, .inr (.inr (some (770)))), (3, .inr (.inr (some (805))))]) (st' := [.inl ((i) + (4)), .inr (.inr (some (0))), .inl (a3), .inl (a2), .inl (a1), .inr (.inr (some (770)))]) rfl ?_
    have n16 : 0 ≤ qz_N (xc h 1) 0 ∧ qz_N (xc h 1) 0 ≤ 3072 := ez_len hBx t0 tq_34 rfl
    refine ez_aI hBx t0 rfl tq_34 rfl rfl (by omega) (by omega) (fun (b15 : -2147483648 ≤ qz_I (xc h 1) 0 ((i) + (4)).toNat) (b15' : qz_I (xc h 1) 0 ((i) + (4)).toNat ≤ 2147483647) => ?_)
    rw [show qz_I (xc h 1) 0 ((i) + (4)).toNat = qz_I h 0 ((i) + (4)).toNat from sc _, ea4]
    refine ez_cv hBx t770 rfl rfl rfl tq_75 rfl rfl rfl (rd_mjoin hBx hX.1 pN pS pX ar1 ar2 ar3 ar4 (by omega) (by omega) (fun _ g3 b1 b2 => ez_K1 ?_) (fun w9 => absurd w9 (by omega)) (fun w9 => absurd w9 (by omega)) (fun w9 => absurd w9 (by omega)) (fun w9 => absurd w9 (by omega)))
    have FN := ref_X hb hn b1 b2.1 b2.2.1
    have b0 := b2.2.2
    refine ez_go (n := 2) (pc' := 1213) (L' := [(6, .inl (0)), (5, .inl (1)), (4, .inl (i)), (0, .inr (.inr (some (0)))), (1, .inr (.inr (some (192)))), (2, .inr (.inr (some (770)))), (3, .inr (.inr (some (805))))]) (st' := []) rfl ?_
    refine ez_less [(4, .inl (i)), (0, .inr (.inr (some (0)))), (1, .inr (.inr (some (192)))), (2, .inr (.inr (some (770)))), (3, .inr (.inr (some (805))))] rfl ⟨rfl, rfl, rfl, rfl, rfl, trivial⟩ ?_
    exact k _ _ FN.1 FN.2
  · refine Or.inr (Or.inr (Or.inl ⟨_, _, rfl, xc_exc hB rfl, ez_K1 ?_⟩))
    have hBx : ez_B τ (xc h 2) := xc_B hB (by omega) (by omega)
    obtain ⟨⟨pM, pN⟩, pS, pX, p7, sc, sn⟩ := tg_pre hX.1 t m w s77 ww x2 hBx (fun q a _ _ _ _ => xc_t hB a)
    have rH : (xc h 2).1 ≤ h.1 + 1 ∧ (xc h 2).2.1 ≤ h.2.1 + 6 := ⟨Nat.le_refl _, Nat.le_refl _⟩
    obtain ⟨ok, s0⟩ := wS
    have n7 : qz_I (xc h 2) 770 7 = 0 := (p7 7).trans (s6.mp s0)
    refine ez_go (n := 6) (pc' := 638) (L' := [(5, .inl (2)), (4, .inl (i)), (0, .inr (.inr (some (0)))), (1, .inr (.inr (some (192)))), (2, .inr (.inr (some (770)))), (3, .inr (.inr (some (805))))]) (st' := [.inl ((i) + (1)), .inr (.inr (some (0))), .inr (.inr (some (770)))]) rfl ?_
    have n18 : 0 ≤ qz_N (xc h 2) 0 ∧ qz_N (xc h 2) 0 ≤ 3072 := ez_len hBx t0 tq_34 rfl
    refine ez_aI hBx t0 rfl tq_34 rfl rfl (by omega) (by omega) (fun (b17 : -2147483648 ≤ qz_I (xc h 2) 0 ((i) + (1)).toNat) (b17' : qz_I (xc h 2) 0 ((i) + (1)).toNat ≤ 2147483647) => ?_)
    rw [show qz_I (xc h 2) 0 ((i) + (1)).toNat = qz_I h 0 ((i) + (1)).toNat from sc _, ea1]
    refine ez_go (n := 4) (pc' := 644) (L' := [(5, .inl (2)), (4, .inl (i)), (0, .inr (.inr (some (0)))), (1, .inr (.inr (some (192)))), (2, .inr (.inr (some (770)))), (3, .inr (.inr (some (805))))]) (st' := [.inl ((i) + (2)), .inr (.inr (some (0))), .inl (a1), .inr (.inr (some (770)))]) rfl ?_
    have n20 : 0 ≤ qz_N (xc h 2) 0 ∧ qz_N (xc h 2) 0 ≤ 3072 := ez_len hBx t0 tq_34 rfl
    refine ez_aI hBx t0 rfl tq_34 rfl rfl (by omega) (by omega) (fun (b19 : -2147483648 ≤ qz_I (xc h 2) 0 ((i) + (2)).toNat) (b19' : qz_I (xc h 2) 0 ((i) + (2)).toNat ≤ 2147483647) => ?_)
    rw [show qz_I (xc h 2) 0 ((i) + (2)).toNat = qz_I h 0 ((i) + (2)).toNat from sc _, ea2]
    refine ez_go (n := 4) (pc' := 650) (L' := [(5, .inl (2)), (4, .inl (i)), (0, .inr (.inr (some (0)))), (1, .inr (.inr (some (192)))), (2, .inr (.inr (some (770)))), (3, .inr (.inr (some (805))))]) (st' := [.inl ((i) + (3)), .inr (.inr (some (0))), .inl (a2), .inl (a1), .inr (.inr (some (770)))]) rfl ?_
    have n22 : 0 ≤ qz_N (xc h 2) 0 ∧ qz_N (xc h 2) 0 ≤ 3072 := ez_len hBx t0 tq_34 rfl
    refine ez_aI hBx t0 rfl tq_34 rfl rfl (by omega) (by omega) (fun (b21 : -2147483648 ≤ qz_I (xc h 2) 0 ((i) + (3)).toNat) (b21' : qz_I (xc h 2) 0 ((i) + (3)).toNat ≤ 2147483647) => ?_)
    rw [show qz_I (xc h 2) 0 ((i) + (3)).toNat = qz_I h 0 ((i) + (3)).toNat from sc _, ea3]
    refine ez_go (n := 4) (pc' := 656) (L' := [(5, .inl (2)), (4, .inl (i)), (0, .inr (.inr (some (0)))), (1, .inr (.inr (some (192)))), (2, .inr (.inr (some (770)))), (3, .inr (.inr (some (805))))]) (st' := [.inl ((i) + (4)), .inr (.inr (some (0))), .inl (a3), .inl (a2), .inl (a1), .inr (.inr (some (770)))]) rfl ?_
    have n24 : 0 ≤ qz_N (xc h 2) 0 ∧ qz_N (xc h 2) 0 ≤ 3072 := ez_len hBx t0 tq_34 rfl
    refine ez_aI hBx t0 rfl tq_34 rfl rfl (by omega) (by omega) (fun (b23 : -2147483648 ≤ qz_I (xc h 2) 0 ((i) + (4)).toNat) (b23' : qz_I (xc h 2) 0 ((i) + (4)).toNat ≤ 2147483647) => ?_)
    rw [show qz_I (xc h 2) 0 ((i) + (4)).toNat = qz_I h 0 ((i) + (4)).toNat from sc _, ea4]
    refine ez_cv hBx t770 rfl rfl rfl tq_75 rfl rfl rfl (rd_mjoin hBx hX.1 pN pS pX ar1 ar2 ar3 ar4 (by omega) (by omega) (fun w9 => absurd w9 (by omega)) (fun _ _ g3 b1 b2 => ez_K1 ?_) (fun _ z => absurd n7 z) (fun _ z => absurd n7 z) (fun _ z => absurd n7 z))
    have FN := ref_X hb hn b1 b2.1 b2.2.1
    have b0 := b2.2.2
    refine ez_go (n := 2) (pc' := 1213) (L' := [(6, .inl (0)), (5, .inl (2)), (4, .inl (i)), (0, .inr (.inr (some (0)))), (1, .inr (.inr (some (192)))), (2, .inr (.inr (some (770)))), (3, .inr (.inr (some (805))))]) (st' := []) rfl ?_
    refine ez_less [(4, .inl (i)), (0, .inr (.inr (some (0)))), (1, .inr (.inr (some (192)))), (2, .inr (.inr (some (770)))), (3, .inr (.inr (some (805))))] rfl ⟨rfl, rfl, rfl, rfl, rfl, trivial⟩ ?_
    exact k _ _ FN.1 FN.2
  · have cA1 := fA.1; have cA2 := fA.2.1
    refine Or.inr (Or.inr (Or.inr ⟨_, _, rfl, xc_exc BA rfl, ez_K1 ?_⟩))
    have hBx : ez_B τ (xc gA 0) := xc_B BA (by omega) (by omega)
    obtain ⟨ok, s0, m9, um, lm⟩ := wX
    obtain ⟨⟨pM, pN⟩, pS, pX, p7, sc, sn⟩ := tg_pre hX.1 t m w s77 ww x2 hBx (fun q a b _ _ _ => (xc_t BA a).trans (fA.2.2 q ((pk_co hX.1) q b)))
    have rH : (xc gA 0).1 ≤ h.1 + 1 ∧ (xc gA 0).2.1 ≤ h.2.1 + 6 := ⟨by show gA.1 + 1 ≤ _; omega, by show gA.2.1 + 6 ≤ _; omega⟩
    have n7 : qz_I (xc gA 0) 770 7 ≠ 0 := fun z => s0 (s6.mpr ((p7 7).symm.trans z))
    refine ez_go (n := 6) (pc' := 638) (L' := [(5, .inl (3)), (4, .inl (i)), (0, .inr (.inr (some (0)))), (1, .inr (.inr (some (192)))), (2, .inr (.inr (some (770)))), (3, .inr (.inr (some (805))))]) (st' := [.inl ((i) + (1)), .inr (.inr (some (0))), .inr (.inr (some (770)))]) rfl ?_
    have n26 : 0 ≤ qz_N (xc gA 0) 0 ∧ qz_N (xc gA 0) 0 ≤ 3072 := ez_len hBx t0 tq_34 rfl
    refine ez_aI hBx t0 rfl tq_34 rfl rfl (by omega) (by omega) (fun (b25 : -2147483648 ≤ qz_I (xc gA 0) 0 ((i) + (1)).toNat) (b25' : qz_I (xc gA 0) 0 ((i) + (1)).toNat ≤ 2147483647) => ?_)
    rw [show qz_I (xc gA 0) 0 ((i) + (1)).toNat = qz_I h 0 ((i) + (1)).toNat from sc _, ea1]
    refine ez_go (n := 4) (pc' := 644) (L' := [(5, .inl (3)), (4, .inl (i)), (0, .inr (.inr (some (0)))), (1, .inr (.inr (some (192)))), (2, .inr (.inr (some (770)))), (3, .inr (.inr (some (805))))]) (st' := [.inl ((i) + (2)), .inr (.inr (some (0))), .inl (a1), .inr (.inr (some (770)))]) rfl ?_
    have n28 : 0 ≤ qz_N (xc gA 0) 0 ∧ qz_N (xc gA 0) 0 ≤ 3072 := ez_len hBx t0 tq_34 rfl
    refine ez_aI hBx t0 rfl tq_34 rfl rfl (by omega) (by omega) (fun (b27 : -2147483648 ≤ qz_I (xc gA 0) 0 ((i) + (2)).toNat) (b27' : qz_I (xc gA 0) 0 ((i) + (2)).toNat ≤ 2147483647) => ?_)
    rw [show qz_I (xc gA 0) 0 ((i) + (2)).toNat = qz_I h 0 ((i) + (2)).toNat from sc _, ea2]
    refine ez_go (n := 4) (pc' := 650) (L' := [(5, .inl (3)), (4, .inl (i)), (0, .inr (.inr (some (0)))), (1, .inr (.inr (some (192)))), (2, .inr (.inr (some (770)))), (3, .inr (.inr (some (805))))]) (st' := [.inl ((i) + (3)), .inr (.inr (some (0))), .inl (a2), .inl (a1), .inr (.inr (some (770)))]) rfl ?_
    have n30 : 0 ≤ qz_N (xc gA 0) 0 ∧ qz_N (xc gA 0) 0 ≤ 3072 := ez_len hBx t0 tq_34 rfl
    refine ez_aI hBx t0 rfl tq_34 rfl rfl (by omega) (by omega) (fun (b29 : -2147483648 ≤ qz_I (xc gA 0) 0 ((i) + (3)).toNat) (b29' : qz_I (xc gA 0) 0 ((i) + (3)).toNat ≤ 2147483647) => ?_)
    rw [show qz_I (xc gA 0) 0 ((i) + (3)).toNat = qz_I h 0 ((i) + (3)).toNat from sc _, ea3]
    refine ez_go (n := 4) (pc' := 656) (L' := [(5, .inl (3)), (4, .inl (i)), (0, .inr (.inr (some (0)))), (1, .inr (.inr (some (192)))), (2, .inr (.inr (some (770)))), (3, .inr (.inr (some (805))))]) (st' := [.inl ((i) + (4)), .inr (.inr (some (0))), .inl (a3), .inl (a2), .inl (a1), .inr (.inr (some (770)))]) rfl ?_
    have n32 : 0 ≤ qz_N (xc gA 0) 0 ∧ qz_N (xc gA 0) 0 ≤ 3072 := ez_len hBx t0 tq_34 rfl
    refine ez_aI hBx t0 rfl tq_34 rfl rfl (by omega) (by omega) (fun (b31 : -2147483648 ≤ qz_I (xc gA 0) 0 ((i) + (4)).toNat) (b31' : qz_I (xc gA 0) 0 ((i) + (4)).toNat ≤ 2147483647) => ?_)
    rw [show qz_I (xc gA 0) 0 ((i) + (4)).toNat = qz_I h 0 ((i) + (4)).toNat from sc _, ea4]
    refine ez_cv hBx t770 rfl rfl rfl tq_75 rfl rfl rfl (rd_mjoin hBx hX.1 pN pS pX ar1 ar2 ar3 ar4 (by omega) (by omega) (fun w9 => absurd w9 (by omega)) (fun _ z => absurd z n7) (fun _ _ _ g3 b1 b2 => ez_K1 ?_) (fun _ _ h1 c1 c2 h2 c5 c6 m8 _ _ g2 τ2 c3 c4 g3 b1 b2 => ez_K1 ?_) (fun _ _ h1 _ _ _ _ _ m8 r8 u8 l8 => absurd (uz_L_uniq um u8) (fun e => by rw [e] at lm; omega)))
    · skip
      have FN := tg_nl hb hn (pk_co hX.1) BA fA b2 b1
      have b0 := b2.2.2
      refine ez_go (n := 2) (pc' := 1213) (L' := [(6, .inl (0)), (5, .inl (3)), (4, .inl (i)), (0, .inr (.inr (some (0)))), (1, .inr (.inr (some (192)))), (2, .inr (.inr (some (770)))), (3, .inr (.inr (some (805))))]) (st' := []) rfl ?_
      refine ez_less [(4, .inl (i)), (0, .inr (.inr (some (0)))), (1, .inr (.inr (some (192)))), (2, .inr (.inr (some (770)))), (3, .inr (.inr (some (805))))] rfl ⟨rfl, rfl, rfl, rfl, rfl, trivial⟩ ?_
      exact k _ _ FN.1 FN.2
    · skip
      have u770 : τ2 770 = 75 := c4.X hX.1 770 (by decide)
      have u805 : τ2 805 = 35 := c4.X hX.1 805 (by decide)
      have FN := tg_no hb hn (pk_co hX.1) BA fA (mF.H7 c2 c6) c4 c3 b2 b1
      have b0 := b2.2.2
      refine ez_go (n := 2) (pc' := 1213) (L' := [(6, .inl (0)), (5, .inl (3)), (4, .inl (i)), (0, .inr (.inr (some (0)))), (1, .inr (.inr (some (192)))), (2, .inr (.inr (some (770)))), (3, .inr (.inr (some (805))))]) (st' := []) rfl ?_
      refine ez_less [(4, .inl (i)), (0, .inr (.inr (some (0)))), (1, .inr (.inr (some (192)))), (2, .inr (.inr (some (770)))), (3, .inr (.inr (some (805))))] rfl ⟨rfl, rfl, rfl, rfl, rfl, trivial⟩ ?_
      exact k _ _ FN.1 FN.2
  · refine Or.inl ⟨_, τ, gB, rfl, BB, t805, fun hBo => ez_K1 ?_⟩
    obtain ⟨ok, s0, m9, um, lm, nr⟩ := wR
    have t8 : a1.toNat < 8 := by omega
    have ll : res.length ≤ 2000 := by have q1 := tB.1; have q2 := tx_l88 BB ((rU_of hX.1).2 _ t8).2.1; omega
    obtain ⟨⟨pM, pN⟩, pS, pX, p7, sc, sn⟩ := tg_pre hX.1 t m w s77 ww x2 hBo (ow_CH hX.1 t8 (pk_co hX.1) fA fB)
    have rH : (ow gB (res.length : Int)).1 ≤ h.1 + 1 ∧ (ow gB (res.length : Int)).2.1 ≤ h.2.1 + 6 := ⟨by show gB.1 ≤ _; rw [fB.1, fA.1]; omega, by show gB.2.1 ≤ _; rw [fB.2.1, fA.2.1]; omega⟩
    have n7 : qz_I (ow gB (res.length : Int)) 770 7 ≠ 0 := fun z => s0 (s6.mpr ((p7 7).symm.trans z))
    refine ez_go (n := 6) (pc' := 638) (L' := [(5, .inl (0)), (4, .inl (i)), (0, .inr (.inr (some (0)))), (1, .inr (.inr (some (192)))), (2, .inr (.inr (some (770)))), (3, .inr (.inr (some (805))))]) (st' := [.inl ((i) + (1)), .inr (.inr (some (0))), .inr (.inr (some (770)))]) rfl ?_
    have n34 : 0 ≤ qz_N (ow gB (res.length : Int)) 0 ∧ qz_N (ow gB (res.length : Int)) 0 ≤ 3072 := ez_len hBo t0 tq_34 rfl
    refine ez_aI hBo t0 rfl tq_34 rfl rfl (by omega) (by omega) (fun (b33 : -2147483648 ≤ qz_I (ow gB (res.length : Int)) 0 ((i) + (1)).toNat) (b33' : qz_I (ow gB (res.length : Int)) 0 ((i) + (1)).toNat ≤ 2147483647) => ?_)
    rw [show qz_I (ow gB (res.length : Int)) 0 ((i) + (1)).toNat = qz_I h 0 ((i) + (1)).toNat from sc _, ea1]
    refine ez_go (n := 4) (pc' := 644) (L' := [(5, .inl (0)), (4, .inl (i)), (0, .inr (.inr (some (0)))), (1, .inr (.inr (some (192)))), (2, .inr (.inr (some (770)))), (3, .inr (.inr (some (805))))]) (st' := [.inl ((i) + (2)), .inr (.inr (some (0))), .inl (a1), .inr (.inr (some (770)))]) rfl ?_
    have n36 : 0 ≤ qz_N (ow gB (res.length : Int)) 0 ∧ qz_N (ow gB (res.length : Int)) 0 ≤ 3072 := ez_len hBo t0 tq_34 rfl
    refine ez_aI hBo t0 rfl tq_34 rfl rfl (by omega) (by omega) (fun (b35 : -2147483648 ≤ qz_I (ow gB (res.length : Int)) 0 ((i) + (2)).toNat) (b35' : qz_I (ow gB (res.length : Int)) 0 ((i) + (2)).toNat ≤ 2147483647) => ?_)
    rw [show qz_I (ow gB (res.length : Int)) 0 ((i) + (2)).toNat = qz_I h 0 ((i) + (2)).toNat from sc _, ea2]
    refine ez_go (n := 4) (pc' := 650) (L' := [(5, .inl (0)), (4, .inl (i)), (0, .inr (.inr (some (0)))), (1, .inr (.inr (some (192)))), (2, .inr (.inr (some (770)))), (3, .inr (.inr (some (805))))]) (st' := [.inl ((i) + (3)), .inr (.inr (some (0))), .inl (a2), .inl (a1), .inr (.inr (some (770)))]) rfl ?_
    have n38 : 0 ≤ qz_N (ow gB (res.length : Int)) 0 ∧ qz_N (ow gB (res.length : Int)) 0 ≤ 3072 := ez_len hBo t0 tq_34 rfl
    refine ez_aI hBo t0 rfl tq_34 rfl rfl (by omega) (by omega) (fun (b37 : -2147483648 ≤ qz_I (ow gB (res.length : Int)) 0 ((i) + (3)).toNat) (b37' : qz_I (ow gB (res.length : Int)) 0 ((i) + (3)).toNat ≤ 2147483647) => ?_)
    rw [show qz_I (ow gB (res.length : Int)) 0 ((i) + (3)).toNat = qz_I h 0 ((i) + (3)).toNat from sc _, ea3]
    refine ez_go (n := 4) (pc' := 656) (L' := [(5, .inl (0)), (4, .inl (i)), (0, .inr (.inr (some (0)))), (1, .inr (.inr (some (192)))), (2, .inr (.inr (some (770)))), (3, .inr (.inr (some (805))))]) (st' := [.inl ((i) + (4)), .inr (.inr (some (0))), .inl (a3), .inl (a2), .inl (a1), .inr (.inr (some (770)))]) rfl ?_
    have n40 : 0 ≤ qz_N (ow gB (res.length : Int)) 0 ∧ qz_N (ow gB (res.length : Int)) 0 ≤ 3072 := ez_len hBo t0 tq_34 rfl
    refine ez_aI hBo t0 rfl tq_34 rfl rfl (by omega) (by omega) (fun (b39 : -2147483648 ≤ qz_I (ow gB (res.length : Int)) 0 ((i) + (4)).toNat) (b39' : qz_I (ow gB (res.length : Int)) 0 ((i) + (4)).toNat ≤ 2147483647) => ?_)
    rw [show qz_I (ow gB (res.length : Int)) 0 ((i) + (4)).toNat = qz_I h 0 ((i) + (4)).toNat from sc _, ea4]
    refine ez_cv hBo t770 rfl rfl rfl tq_75 rfl rfl rfl (rd_mjoin hBo hX.1 pN pS pX ar1 ar2 ar3 ar4 (by omega) (by omega) (fun w9 => absurd w9 (by omega)) (fun _ z => absurd z n7) (fun _ _ l8 => absurd (uz_FL_len w um) (by rw [List.length_append]; omega)) (fun _ _ h1 _ _ _ _ _ m8 u8 l8 => absurd (uz_L_uniq um u8) (fun e => by rw [e] at lm; omega)) (fun _ _ h1 c1 c2 h2 c5 c6 m8 r8 u8 _ nr8 _ g2 τ2 c3 c4 _ g3 b1 f3 mx3 => ez_K1 ?_))
    have em := uz_L_uniq um u8
    rw [← em] at nr8
    have er := nfR_u (s77 (fun z => s0 (s6.mpr z))).1.2.2.2 nr nr8
    rw [← er] at mx3 ⊢
    have u770 : τ2 770 = 75 := c4.X hX.1 770 (by decide)
    have u805 : τ2 805 = 35 := c4.X hX.1 805 (by decide)
    have FN := tg_ok hb hn x1 x2 t8 (pk_co hX.1) fA fB tB pl ll (mF.H7 c2 c6) c4 c3 b1 f3 mx3
    have b0 : qz_I g3 770 0 = 0 := (f3.1.I (mx_Pn (by omega) (by decide)) 0).trans ((c4.2.2.1 0 (by decide) (by decide) (by decide)).trans ((c6.I rfl 0).trans c2.2.2))
    refine ez_go (n := 2) (pc' := 1213) (L' := [(6, .inl ((res.length : Int))), (5, .inl (0)), (4, .inl (i)), (0, .inr (.inr (some (0)))), (1, .inr (.inr (some (192)))), (2, .inr (.inr (some (770)))), (3, .inr (.inr (some (805))))]) (st' := []) rfl ?_
    refine ez_less [(4, .inl (i)), (0, .inr (.inr (some (0)))), (1, .inr (.inr (some (192)))), (2, .inr (.inr (some (770)))), (3, .inr (.inr (some (805))))] rfl ⟨rfl, rfl, rfl, rfl, rfl, trivial⟩ ?_
    exact k _ _ FN.1 FN.2

theorem lw_change {i : Int} (hb : dz_B tz_T (qz_X rR) τ h) (hn : qz_I h 192 1 = qz_I h 770 2) (i0 : 0 ≤ i) (i1 : i + 6 ≤ qz_N h 0) (i2 : i ≤ 4000) (hr1 : h.1 + 1100 ≤ 600192) (hr2 : h.2.1 + 150100 ≤ 7302232) (k : ∀ τ2 g, dz_B tz_T (qz_X rR) τ2 g → stp h g → ez_W (d + 11) cm_0 1213 [(4, .inl (i)), (0, .inr (.inr (some (0)))), (1, .inr (.inr (some (192)))), (2, .inr (.inr (some (770)))), (3, .inr (.inr (some (805))))] [] g Q) : ez_W (d + 11) cm_0 665 [(4, .inl (i)), (0, .inr (.inr (some (0)))), (1, .inr (.inr (some (192)))), (2, .inr (.inr (some (770)))), (3, .inr (.inr (some (805))))] [] h Q := by
  have hB := dz_ezB hb
  have hX := hb.2.1
  have t0 : τ 0 = 34 := hX.1 0 (by decide)
  have t192 : τ 192 = 44 := hX.1 192 (by decide)
  have t770 : τ 770 = 75 := hX.1 770 (by decide)
  have t805 : τ 805 = 35 := hX.1 805 (by decide)
  obtain ⟨Ls, ⟨t, c, m, w, s6, s77, u, p⟩, ww, X, x1, x2⟩ := id hX.2.2.2.2
  have hI : jz_I τ h (vF Ls) (vE Ls) := ⟨hB, hX.1, c⟩
  obtain ⟨T, hC⟩ := pz_C_of hI
  have sl := ww.2.1
  refine ez_go (n := 5) (pc' := 671) (L' := [(4, .inl (i)), (0, .inr (.inr (some (0)))), (1, .inr (.inr (some (192)))), (2, .inr (.inr (some (770)))), (3, .inr (.inr (some (805))))]) (st' := [.inl ((i) + (1)), .inr (.inr (some (0))), .inr (.inr (some (192)))]) rfl ?_
  have n2 : 0 ≤ qz_N h 0 ∧ qz_N h 0 ≤ 3072 := ez_len hB t0 tq_34 rfl
  refine ez_aI hB t0 rfl tq_34 rfl rfl (by omega) (by omega) (fun (b1 : -2147483648 ≤ qz_I h 0 ((i) + (1)).toNat) (b1' : qz_I h 0 ((i) + (1)).toNat ≤ 2147483647) => ?_)
  refine ez_go (n := 4) (pc' := 677) (L' := [(4, .inl (i)), (0, .inr (.inr (some (0)))), (1, .inr (.inr (some (192)))), (2, .inr (.inr (some (770)))), (3, .inr (.inr (some (805))))]) (st' := [.inl ((i) + (2)), .inr (.inr (some (0))), .inl (qz_I h 0 ((i) + (1)).toNat), .inr (.inr (some (192)))]) rfl ?_
  have n4 : 0 ≤ qz_N h 0 ∧ qz_N h 0 ≤ 3072 := ez_len hB t0 tq_34 rfl
  refine ez_aI hB t0 rfl tq_34 rfl rfl (by omega) (by omega) (fun (b3 : -2147483648 ≤ qz_I h 0 ((i) + (2)).toNat) (b3' : qz_I h 0 ((i) + (2)).toNat ≤ 2147483647) => ?_)
  refine ez_go (n := 4) (pc' := 683) (L' := [(4, .inl (i)), (0, .inr (.inr (some (0)))), (1, .inr (.inr (some (192)))), (2, .inr (.inr (some (770)))), (3, .inr (.inr (some (805))))]) (st' := [.inl ((i) + (3)), .inr (.inr (some (0))), .inl (qz_I h 0 ((i) + (2)).toNat), .inl (qz_I h 0 ((i) + (1)).toNat), .inr (.inr (some (192)))]) rfl ?_
  have n6 : 0 ≤ qz_N h 0 ∧ qz_N h 0 ≤ 3072 := ez_len hB t0 tq_34 rfl
  refine ez_aI hB t0 rfl tq_34 rfl rfl (by omega) (by omega) (fun (b5 : -2147483648 ≤ qz_I h 0 ((i) + (3)).toNat) (b5' : qz_I h 0 ((i) + (3)).toNat ≤ 2147483647) => ?_)
  refine ez_go (n := 4) (pc' := 689) (L' := [(4, .inl (i)), (0, .inr (.inr (some (0)))), (1, .inr (.inr (some (192)))), (2, .inr (.inr (some (770)))), (3, .inr (.inr (some (805))))]) (st' := [.inl ((i) + (4)), .inr (.inr (some (0))), .inl (qz_I h 0 ((i) + (3)).toNat), .inl (qz_I h 0 ((i) + (2)).toNat), .inl (qz_I h 0 ((i) + (1)).toNat), .inr (.inr (some (192)))]) rfl ?_
  have n8 : 0 ≤ qz_N h 0 ∧ qz_N h 0 ≤ 3072 := ez_len hB t0 tq_34 rfl
  refine ez_aI hB t0 rfl tq_34 rfl rfl (by omega) (by omega) (fun (b7 : -2147483648 ≤ qz_I h 0 ((i) + (4)).toNat) (b7' : qz_I h 0 ((i) + (4)).toNat ≤ 2147483647) => ?_)
  refine ez_go (n := 1) (pc' := 691) (L' := [(4, .inl (i)), (0, .inr (.inr (some (0)))), (1, .inr (.inr (some (192)))), (2, .inr (.inr (some (770)))), (3, .inr (.inr (some (805))))]) (st' := [.inr (.inr (some (805))), .inl (qz_I h 0 ((i) + (4)).toNat), .inl (qz_I h 0 ((i) + (3)).toNat), .inl (qz_I h 0 ((i) + (2)).toNat), .inl (qz_I h 0 ((i) + (1)).toNat), .inr (.inr (some (192)))]) rfl ?_
  obtain ⟨O9, hx9⟩ := ww.2.2.1
  refine ez_cs hB.2.1 rfl rfl rfl rfl rfl (hp_change hB t192 (rd_changeP (d := d + 1) hC hx9 ww.2.2.2.1 sl x1 ⟨by omega, by omega⟩ ⟨by omega, by omega⟩ ⟨by omega, by omega⟩ ⟨by omega, by omega⟩ (by omega) (by omega)) (fun F hF => ?_))
  generalize ea1 : qz_I h 0 ((i) + (1)).toNat = a1 at *
  have ar1 : ez_rg a1 := ⟨by omega, by omega⟩
  generalize ea2 : qz_I h 0 ((i) + (2)).toNat = a2 at *
  have ar2 : ez_rg a2 := ⟨by omega, by omega⟩
  generalize ea3 : qz_I h 0 ((i) + (3)).toNat = a3 at *
  have ar3 : ez_rg a3 := ⟨by omega, by omega⟩
  generalize ea4 : qz_I h 0 ((i) + (4)).toNat = a4 at *
  have ar4 : ez_rg a4 := ⟨by omega, by omega⟩
  rcases hF with ⟨wA, rfl⟩ | ⟨wS, rfl⟩ | ⟨wX, gA, rfl, BA, fA⟩ | ⟨res, gA, gB, rfl, wR, pl, BA, fA, BB, fB, tB⟩
  · refine Or.inr (Or.inl ⟨_, _, rfl, xc_exc hB rfl, ez_K1 ?_⟩)
    have hBx : ez_B τ (xc h 1) := xc_B hB (by omega) (by omega)
    obtain ⟨⟨pM, pN⟩, pS, pX, p7, sc, sn⟩ := tg_pre hX.1 t m w s77 ww x2 hBx (fun q a _ _ _ _ => xc_t hB a)
    have rH : (xc h 1).1 ≤ h.1 + 1 ∧ (xc h 1).2.1 ≤ h.2.1 + 6 := ⟨Nat.le_refl _, Nat.le_refl _⟩
    refine ez_go (n := 6) (pc' := 702) (L' := [(5, .inl (1)), (4, .inl (i)), (0, .inr (.inr (some (0)))), (1, .inr (.inr (some (192)))), (2, .inr (.inr (some (770)))), (3, .inr (.inr (some (805))))]) (st' := [.inl ((i) + (1)), .inr (.inr (some (0))), .inr (.inr (some (770)))]) rfl ?_
    have n10 : 0 ≤ qz_N (xc h 1) 0 ∧ qz_N (xc h 1) 0 ≤ 3072 := ez_len hBx t0 tq_34 rfl
    refine ez_aI hBx t0 rfl tq_34 rfl rfl (by omega) (by omega) (fun (b9 : -2147483648 ≤ qz_I (xc h 1) 0 ((i) + (1)).toNat) (b9' : qz_I (xc h 1) 0 ((i) + (1)).toNat ≤ 2147483647) => ?_)
    rw [show qz_I (xc h 1) 0 ((i) + (1)).toNat = qz_I h 0 ((i) + (1)).toNat from sc _, ea1]
    refine ez_go (n := 4) (pc' := 708) (L' := [(5, .inl (1)), (4, .inl (i)), (0, .inr (.inr (some (0)))), (1, .inr (.inr (some (192)))), (2, .inr (.inr (some (770)))), (3, .inr (.inr (some (805))))]) (st' := [.inl ((i) + (2)), .inr (.inr (some (0))), .inl (a1), .inr (.inr (some (770)))]) rfl ?_
    have n12 : 0 ≤ qz_N (xc h 1) 0 ∧ qz_N (xc h 1) 0 ≤ 3072 := ez_len hBx t0 tq_34 rfl
    refine ez_aI hBx t0 rfl tq_34 rfl rfl (by omega) (by omega) (fun (b11 : -2147483648 ≤ qz_I (xc h 1) 0 ((i) + (2)).toNat) (b11' : qz_I (xc h 1) 0 ((i) + (2)).toNat ≤ 2147483647) => ?_)
    rw [show qz_I (xc h 1) 0 ((i) + (2)).toNat = qz_I h 0 ((i) + (2)).toNat from sc _, ea2]
    refine ez_go (n := 4) (pc' := 714) (L' := [(5, .inl (1)), (4, .inl (i)), (0, .inr (.inr (some (0)))), (1, .inr (.inr (some (192)))), (2, .inr (.inr (some (770)))), (3, .inr (.inr (some (805))))]) (st' := [.inl ((i) + (3)), .inr (.inr (some (0))), .inl (a2), .inl (a1), .inr (.inr (some (770)))]) rfl ?_
    have n14 : 0 ≤ qz_N (xc h 1) 0 ∧ qz_N (xc h 1) 0 ≤ 3072 := ez_len hBx t0 tq_34 rfl
    refine ez_aI hBx t0 rfl tq_34 rfl rfl (by omega) (by omega) (fun (b13 : -2147483648 ≤ qz_I (xc h 1) 0 ((i) + (3)).toNat) (b13' : qz_I (xc h 1) 0 ((i) + (3)).toNat ≤ 2147483647) => ?_)
    rw [show qz_I (xc h 1) 0 ((i) + (3)).toNat = qz_I h 0 ((i) + (3)).toNat from sc _, ea3]
    refine ez_go (n := 4) (pc' := 720) (L' := [(5, .inl (1)), (4, .inl (i)), (0, .inr (.inr (some (0)))), (1, .inr (.inr (some (192)))), (2, .inr (.inr (some (770)))), (3, .inr (.inr (some (805))))]) (st' := [.inl ((i) + (4)), .inr (.inr (some (0))), .inl (a3), .inl (a2), .inl (a1), .inr (.inr (some (770)))]) rfl ?_
    have n16 : 0 ≤ qz_N (xc h 1) 0 ∧ qz_N (xc h 1) 0 ≤ 3072 := ez_len hBx t0 tq_34 rfl
    refine ez_aI hBx t0 rfl tq_34 rfl rfl (by omega) (by omega) (fun (b15 : -2147483648 ≤ qz_I (xc h 1) 0 ((i) + (4)).toNat) (b15' : qz_I (xc h 1) 0 ((i) + (4)).toNat ≤ 2147483647) => ?_)
    rw [show qz_I (xc h 1) 0 ((i) + (4)).toNat = qz_I h 0 ((i) + (4)).toNat from sc _, ea4]
    refine ez_cv hBx t770 rfl rfl rfl tq_75 rfl rfl rfl (rd_mchange pM pS pX ww.2.2.2.1 ar1 ar2 ar3 ar4 (by omega) (by omega) (fun _ g3 b1 b2 => ez_K1 ?_) (fun w9 => absurd w9 (by omega)) (fun w9 => absurd w9 (by omega)) (fun w9 => absurd w9 (by omega)))
    have FN := ref_X hb hn b1 b2.1 b2.2.1
    have b0 := b2.2.2
    refine ez_go (n := 2) (pc' := 1213) (L' := [(6, .inl (0)), (5, .inl (1)), (4, .inl (i)), (0, .inr (.inr (some (0)))), (1, .inr (.inr (some (192)))), (2, .inr (.inr (some (770)))), (3, .inr (.inr (some (805))))]) (st' := []) rfl ?_
    refine ez_less [(4, .inl (i)), (0, .inr (.inr (some (0)))), (1, .inr (.inr (some (192)))), (2, .inr (.inr (some (770)))), (3, .inr (.inr (some (805))))] rfl ⟨rfl, rfl, rfl, rfl, rfl, trivial⟩ ?_
    exact k _ _ FN.1 FN.2
  · refine Or.inr (Or.inr (Or.inl ⟨_, _, rfl, xc_exc hB rfl, ez_K1 ?_⟩))
    have hBx : ez_B τ (xc h 2) := xc_B hB (by omega) (by omega)
    obtain ⟨⟨pM, pN⟩, pS, pX, p7, sc, sn⟩ := tg_pre hX.1 t m w s77 ww x2 hBx (fun q a _ _ _ _ => xc_t hB a)
    have rH : (xc h 2).1 ≤ h.1 + 1 ∧ (xc h 2).2.1 ≤ h.2.1 + 6 := ⟨Nat.le_refl _, Nat.le_refl _⟩
    obtain ⟨ok, s0⟩ := wS
    have n7 : qz_I (xc h 2) 770 7 = 0 := (p7 7).trans (s6.mp s0)
    refine ez_go (n := 6) (pc' := 702) (L' := [(5, .inl (2)), (4, .inl (i)), (0, .inr (.inr (some (0)))), (1, .inr (.inr (some (192)))), (2, .inr (.inr (some (770)))), (3, .inr (.inr (some (805))))]) (st' := [.inl ((i) + (1)), .inr (.inr (some (0))), .inr (.inr (some (770)))]) rfl ?_
    have n18 : 0 ≤ qz_N (xc h 2) 0 ∧ qz_N (xc h 2) 0 ≤ 3072 := ez_len hBx t0 tq_34 rfl
    refine ez_aI hBx t0 rfl tq_34 rfl rfl (by omega) (by omega) (fun (b17 : -2147483648 ≤ qz_I (xc h 2) 0 ((i) + (1)).toNat) (b17' : qz_I (xc h 2) 0 ((i) + (1)).toNat ≤ 2147483647) => ?_)
    rw [show qz_I (xc h 2) 0 ((i) + (1)).toNat = qz_I h 0 ((i) + (1)).toNat from sc _, ea1]
    refine ez_go (n := 4) (pc' := 708) (L' := [(5, .inl (2)), (4, .inl (i)), (0, .inr (.inr (some (0)))), (1, .inr (.inr (some (192)))), (2, .inr (.inr (some (770)))), (3, .inr (.inr (some (805))))]) (st' := [.inl ((i) + (2)), .inr (.inr (some (0))), .inl (a1), .inr (.inr (some (770)))]) rfl ?_
    have n20 : 0 ≤ qz_N (xc h 2) 0 ∧ qz_N (xc h 2) 0 ≤ 3072 := ez_len hBx t0 tq_34 rfl
    refine ez_aI hBx t0 rfl tq_34 rfl rfl (by omega) (by omega) (fun (b19 : -2147483648 ≤ qz_I (xc h 2) 0 ((i) + (2)).toNat) (b19' : qz_I (xc h 2) 0 ((i) + (2)).toNat ≤ 2147483647) => ?_)
    rw [show qz_I (xc h 2) 0 ((i) + (2)).toNat = qz_I h 0 ((i) + (2)).toNat from sc _, ea2]
    refine ez_go (n := 4) (pc' := 714) (L' := [(5, .inl (2)), (4, .inl (i)), (0, .inr (.inr (some (0)))), (1, .inr (.inr (some (192)))), (2, .inr (.inr (some (770)))), (3, .inr (.inr (some (805))))]) (st' := [.inl ((i) + (3)), .inr (.inr (some (0))), .inl (a2), .inl (a1), .inr (.inr (some (770)))]) rfl ?_
    have n22 : 0 ≤ qz_N (xc h 2) 0 ∧ qz_N (xc h 2) 0 ≤ 3072 := ez_len hBx t0 tq_34 rfl
    refine ez_aI hBx t0 rfl tq_34 rfl rfl (by omega) (by omega) (fun (b21 : -2147483648 ≤ qz_I (xc h 2) 0 ((i) + (3)).toNat) (b21' : qz_I (xc h 2) 0 ((i) + (3)).toNat ≤ 2147483647) => ?_)
    rw [show qz_I (xc h 2) 0 ((i) + (3)).toNat = qz_I h 0 ((i) + (3)).toNat from sc _, ea3]
    refine ez_go (n := 4) (pc' := 720) (L' := [(5, .inl (2)), (4, .inl (i)), (0, .inr (.inr (some (0)))), (1, .inr (.inr (some (192)))), (2, .inr (.inr (some (770)))), (3, .inr (.inr (some (805))))]) (st' := [.inl ((i) + (4)), .inr (.inr (some (0))), .inl (a3), .inl (a2), .inl (a1), .inr (.inr (some (770)))]) rfl ?_
    have n24 : 0 ≤ qz_N (xc h 2) 0 ∧ qz_N (xc h 2) 0 ≤ 3072 := ez_len hBx t0 tq_34 rfl
    refine ez_aI hBx t0 rfl tq_34 rfl rfl (by omega) (by omega) (fun (b23 : -2147483648 ≤ qz_I (xc h 2) 0 ((i) + (4)).toNat) (b23' : qz_I (xc h 2) 0 ((i) + (4)).toNat ≤ 2147483647) => ?_)
    rw [show qz_I (xc h 2) 0 ((i) + (4)).toNat = qz_I h 0 ((i) + (4)).toNat from sc _, ea4]
    refine ez_cv hBx t770 rfl rfl rfl tq_75 rfl rfl rfl (rd_mchange pM pS pX ww.2.2.2.1 ar1 ar2 ar3 ar4 (by omega) (by omega) (fun w9 => absurd w9 (by omega)) (fun _ _ g3 b1 b2 => ez_K1 ?_) (fun _ z => absurd n7 z) (fun _ z => absurd n7 z))
    have FN := ref_X hb hn b1 b2.1 b2.2.1
    have b0 := b2.2.2
    refine ez_go (n := 2) (pc' := 1213) (L' := [(6, .inl (0)), (5, .inl (2)), (4, .inl (i)), (0, .inr (.inr (some (0)))), (1, .inr (.inr (some (192)))), (2, .inr (.inr (some (770)))), (3, .inr (.inr (some (805))))]) (st' := []) rfl ?_
    refine ez_less [(4, .inl (i)), (0, .inr (.inr (some (0)))), (1, .inr (.inr (some (192)))), (2, .inr (.inr (some (770)))), (3, .inr (.inr (some (805))))] rfl ⟨rfl, rfl, rfl, rfl, rfl, trivial⟩ ?_
    exact k _ _ FN.1 FN.2
  · have cA1 := fA.1; have cA2 := fA.2.1
    refine Or.inr (Or.inr (Or.inr ⟨_, _, rfl, xc_exc BA rfl, ez_K1 ?_⟩))
    have hBx : ez_B τ (xc gA 0) := xc_B BA (by omega) (by omega)
    obtain ⟨ok, s0, cn⟩ := wX
    obtain ⟨⟨pM, pN⟩, pS, pX, p7, sc, sn⟩ := tg_pre hX.1 t m w s77 ww x2 hBx (fun q a b _ _ _ => (xc_t BA a).trans (fA.2.2 q ((pk_cg hX.1) q b)))
    have rH : (xc gA 0).1 ≤ h.1 + 1 ∧ (xc gA 0).2.1 ≤ h.2.1 + 6 := ⟨by show gA.1 + 1 ≤ _; omega, by show gA.2.1 + 6 ≤ _; omega⟩
    have n7 : qz_I (xc gA 0) 770 7 ≠ 0 := fun z => s0 (s6.mpr ((p7 7).symm.trans z))
    refine ez_go (n := 6) (pc' := 702) (L' := [(5, .inl (3)), (4, .inl (i)), (0, .inr (.inr (some (0)))), (1, .inr (.inr (some (192)))), (2, .inr (.inr (some (770)))), (3, .inr (.inr (some (805))))]) (st' := [.inl ((i) + (1)), .inr (.inr (some (0))), .inr (.inr (some (770)))]) rfl ?_
    have n26 : 0 ≤ qz_N (xc gA 0) 0 ∧ qz_N (xc gA 0) 0 ≤ 3072 := ez_len hBx t0 tq_34 rfl
    refine ez_aI hBx t0 rfl tq_34 rfl rfl (by omega) (by omega) (fun (b25 : -2147483648 ≤ qz_I (xc gA 0) 0 ((i) + (1)).toNat) (b25' : qz_I (xc gA 0) 0 ((i) + (1)).toNat ≤ 2147483647) => ?_)
    rw [show qz_I (xc gA 0) 0 ((i) + (1)).toNat = qz_I h 0 ((i) + (1)).toNat from sc _, ea1]
    refine ez_go (n := 4) (pc' := 708) (L' := [(5, .inl (3)), (4, .inl (i)), (0, .inr (.inr (some (0)))), (1, .inr (.inr (some (192)))), (2, .inr (.inr (some (770)))), (3, .inr (.inr (some (805))))]) (st' := [.inl ((i) + (2)), .inr (.inr (some (0))), .inl (a1), .inr (.inr (some (770)))]) rfl ?_
    have n28 : 0 ≤ qz_N (xc gA 0) 0 ∧ qz_N (xc gA 0) 0 ≤ 3072 := ez_len hBx t0 tq_34 rfl
    refine ez_aI hBx t0 rfl tq_34 rfl rfl (by omega) (by omega) (fun (b27 : -2147483648 ≤ qz_I (xc gA 0) 0 ((i) + (2)).toNat) (b27' : qz_I (xc gA 0) 0 ((i) + (2)).toNat ≤ 2147483647) => ?_)
    rw [show qz_I (xc gA 0) 0 ((i) + (2)).toNat = qz_I h 0 ((i) + (2)).toNat from sc _, ea2]
    refine ez_go (n := 4) (pc' := 714) (L' := [(5, .inl (3)), (4, .inl (i)), (0, .inr (.inr (some (0)))), (1, .inr (.inr (some (192)))), (2, .inr (.inr (some (770)))), (3, .inr (.inr (some (805))))]) (st' := [.inl ((i) + (3)), .inr (.inr (some (0))), .inl (a2), .inl (a1), .inr (.inr (some (770)))]) rfl ?_
    have n30 : 0 ≤ qz_N (xc gA 0) 0 ∧ qz_N (xc gA 0) 0 ≤ 3072 := ez_len hBx t0 tq_34 rfl
    refine ez_aI hBx t0 rfl tq_34 rfl rfl (by omega) (by omega) (fun (b29 : -2147483648 ≤ qz_I (xc gA 0) 0 ((i) + (3)).toNat) (b29' : qz_I (xc gA 0) 0 ((i) + (3)).toNat ≤ 2147483647) => ?_)
    rw [show qz_I (xc gA 0) 0 ((i) + (3)).toNat = qz_I h 0 ((i) + (3)).toNat from sc _, ea3]
    refine ez_go (n := 4) (pc' := 720) (L' := [(5, .inl (3)), (4, .inl (i)), (0, .inr (.inr (some (0)))), (1, .inr (.inr (some (192)))), (2, .inr (.inr (some (770)))), (3, .inr (.inr (some (805))))]) (st' := [.inl ((i) + (4)), .inr (.inr (some (0))), .inl (a3), .inl (a2), .inl (a1), .inr (.inr (some (770)))]) rfl ?_
    have n32 : 0 ≤ qz_N (xc gA 0) 0 ∧ qz_N (xc gA 0) 0 ≤ 3072 := ez_len hBx t0 tq_34 rfl
    refine ez_aI hBx t0 rfl tq_34 rfl rfl (by omega) (by omega) (fun (b31 : -2147483648 ≤ qz_I (xc gA 0) 0 ((i) + (4)).toNat) (b31' : qz_I (xc gA 0) 0 ((i) + (4)).toNat ≤ 2147483647) => ?_)
    rw [show qz_I (xc gA 0) 0 ((i) + (4)).toNat = qz_I h 0 ((i) + (4)).toNat from sc _, ea4]
    refine ez_cv hBx t770 rfl rfl rfl tq_75 rfl rfl rfl (rd_mchange pM pS pX ww.2.2.2.1 ar1 ar2 ar3 ar4 (by omega) (by omega) (fun w9 => absurd w9 (by omega)) (fun _ z => absurd z n7) (fun _ _ _ h1 c1 c2 g2 c3 c4 g3 b1 b2 => ez_K1 ?_) (fun _ _ r8 cs8 _ l8 => absurd (chS_N (by omega) (by omega) cs8 cn) (by omega)))
    have FN := tg_no hb hn (pk_cg hX.1) BA fA c2.H c4 c3 b2 b1
    have b0 := b2.2.2
    refine ez_go (n := 2) (pc' := 1213) (L' := [(6, .inl (0)), (5, .inl (3)), (4, .inl (i)), (0, .inr (.inr (some (0)))), (1, .inr (.inr (some (192)))), (2, .inr (.inr (some (770)))), (3, .inr (.inr (some (805))))]) (st' := []) rfl ?_
    refine ez_less [(4, .inl (i)), (0, .inr (.inr (some (0)))), (1, .inr (.inr (some (192)))), (2, .inr (.inr (some (770)))), (3, .inr (.inr (some (805))))] rfl ⟨rfl, rfl, rfl, rfl, rfl, trivial⟩ ?_
    exact k _ _ FN.1 FN.2
  · refine Or.inl ⟨_, τ, gB, rfl, BB, t805, fun hBo => ez_K1 ?_⟩
    obtain ⟨ok, s0, cs⟩ := wR
    have t8 : a1.toNat < 8 := by omega
    have ll : res.length ≤ 2000 := by have q1 := tB.1; have q2 := tx_l88 BB ((rU_of hX.1).2 _ t8).2.1; omega
    obtain ⟨⟨pM, pN⟩, pS, pX, p7, sc, sn⟩ := tg_pre hX.1 t m w s77 ww x2 hBo (ow_CH hX.1 t8 (pk_cg hX.1) fA fB)
    have rH : (ow gB (res.length : Int)).1 ≤ h.1 + 1 ∧ (ow gB (res.length : Int)).2.1 ≤ h.2.1 + 6 := ⟨by show gB.1 ≤ _; rw [fB.1, fA.1]; omega, by show gB.2.1 ≤ _; rw [fB.2.1, fA.2.1]; omega⟩
    have n7 : qz_I (ow gB (res.length : Int)) 770 7 ≠ 0 := fun z => s0 (s6.mpr ((p7 7).symm.trans z))
    refine ez_go (n := 6) (pc' := 702) (L' := [(5, .inl (0)), (4, .inl (i)), (0, .inr (.inr (some (0)))), (1, .inr (.inr (some (192)))), (2, .inr (.inr (some (770)))), (3, .inr (.inr (some (805))))]) (st' := [.inl ((i) + (1)), .inr (.inr (some (0))), .inr (.inr (some (770)))]) rfl ?_
    have n34 : 0 ≤ qz_N (ow gB (res.length : Int)) 0 ∧ qz_N (ow gB (res.length : Int)) 0 ≤ 3072 := ez_len hBo t0 tq_34 rfl
    refine ez_aI hBo t0 rfl tq_34 rfl rfl (by omega) (by omega) (fun (b33 : -2147483648 ≤ qz_I (ow gB (res.length : Int)) 0 ((i) + (1)).toNat) (b33' : qz_I (ow gB (res.length : Int)) 0 ((i) + (1)).toNat ≤ 2147483647) => ?_)
    rw [show qz_I (ow gB (res.length : Int)) 0 ((i) + (1)).toNat = qz_I h 0 ((i) + (1)).toNat from sc _, ea1]
    refine ez_go (n := 4) (pc' := 708) (L' := [(5, .inl (0)), (4, .inl (i)), (0, .inr (.inr (some (0)))), (1, .inr (.inr (some (192)))), (2, .inr (.inr (some (770)))), (3, .inr (.inr (some (805))))]) (st' := [.inl ((i) + (2)), .inr (.inr (some (0))), .inl (a1), .inr (.inr (some (770)))]) rfl ?_
    have n36 : 0 ≤ qz_N (ow gB (res.length : Int)) 0 ∧ qz_N (ow gB (res.length : Int)) 0 ≤ 3072 := ez_len hBo t0 tq_34 rfl
    refine ez_aI hBo t0 rfl tq_34 rfl rfl (by omega) (by omega) (fun (b35 : -2147483648 ≤ qz_I (ow gB (res.length : Int)) 0 ((i) + (2)).toNat) (b35' : qz_I (ow gB (res.length : Int)) 0 ((i) + (2)).toNat ≤ 2147483647) => ?_)
    rw [show qz_I (ow gB (res.length : Int)) 0 ((i) + (2)).toNat = qz_I h 0 ((i) + (2)).toNat from sc _, ea2]
    refine ez_go (n := 4) (pc' := 714) (L' := [(5, .inl (0)), (4, .inl (i)), (0, .inr (.inr (some (0)))), (1, .inr (.inr (some (192)))), (2, .inr (.inr (some (770)))), (3, .inr (.inr (some (805))))]) (st' := [.inl ((i) + (3)), .inr (.inr (some (0))), .inl (a2), .inl (a1), .inr (.inr (some (770)))]) rfl ?_
    have n38 : 0 ≤ qz_N (ow gB (res.length : Int)) 0 ∧ qz_N (ow gB (res.length : Int)) 0 ≤ 3072 := ez_len hBo t0 tq_34 rfl
    refine ez_aI hBo t0 rfl tq_34 rfl rfl (by omega) (by omega) (fun (b37 : -2147483648 ≤ qz_I (ow gB (res.length : Int)) 0 ((i) + (3)).toNat) (b37' : qz_I (ow gB (res.length : Int)) 0 ((i) + (3)).toNat ≤ 2147483647) => ?_)
    rw [show qz_I (ow gB (res.length : Int)) 0 ((i) + (3)).toNat = qz_I h 0 ((i) + (3)).toNat from sc _, ea3]
    refine ez_go (n := 4) (pc' := 720) (L' := [(5, .inl (0)), (4, .inl (i)), (0, .inr (.inr (some (0)))), (1, .inr (.inr (some (192)))), (2, .inr (.inr (some (770)))), (3, .inr (.inr (some (805))))]) (st' := [.inl ((i) + (4)), .inr (.inr (some (0))), .inl (a3), .inl (a2), .inl (a1), .inr (.inr (some (770)))]) rfl ?_
    have n40 : 0 ≤ qz_N (ow gB (res.length : Int)) 0 ∧ qz_N (ow gB (res.length : Int)) 0 ≤ 3072 := ez_len hBo t0 tq_34 rfl
    refine ez_aI hBo t0 rfl tq_34 rfl rfl (by omega) (by omega) (fun (b39 : -2147483648 ≤ qz_I (ow gB (res.length : Int)) 0 ((i) + (4)).toNat) (b39' : qz_I (ow gB (res.length : Int)) 0 ((i) + (4)).toNat ≤ 2147483647) => ?_)
    rw [show qz_I (ow gB (res.length : Int)) 0 ((i) + (4)).toNat = qz_I h 0 ((i) + (4)).toNat from sc _, ea4]
    refine ez_cv hBo t770 rfl rfl rfl tq_75 rfl rfl rfl (rd_mchange pM pS pX ww.2.2.2.1 ar1 ar2 ar3 ar4 (by omega) (by omega) (fun w9 => absurd w9 (by omega)) (fun _ z => absurd z n7) (fun _ _ cn8 => absurd (chS_N (by omega) (by omega) cs cn8) (by omega)) (fun _ _ r8 cs8 _ _ h1 c1 c2 g2 c3 c4 _ g3 b1 f3 mx3 => ez_K1 ?_))
    have er := chS_u (by omega) (by omega) cs cs8
    rw [← er] at mx3 ⊢
    have FN := tg_ok hb hn x1 x2 t8 (pk_cg hX.1) fA fB tB pl ll c2.H c4 c3 b1 f3 mx3
    have b0 : qz_I g3 770 0 = 0 := (f3.1.I (mx_Pn (by omega) (by decide)) 0).trans ((c4.2.2.1 0 (by decide) (by decide) (by decide)).trans (c2.2.2))
    refine ez_go (n := 2) (pc' := 1213) (L' := [(6, .inl ((res.length : Int))), (5, .inl (0)), (4, .inl (i)), (0, .inr (.inr (some (0)))), (1, .inr (.inr (some (192)))), (2, .inr (.inr (some (770)))), (3, .inr (.inr (some (805))))]) (st' := []) rfl ?_
    refine ez_less [(4, .inl (i)), (0, .inr (.inr (some (0)))), (1, .inr (.inr (some (192)))), (2, .inr (.inr (some (770)))), (3, .inr (.inr (some (805))))] rfl ⟨rfl, rfl, rfl, rfl, rfl, trivial⟩ ?_
    exact k _ _ FN.1 FN.2

end EzTg
/-! The law: text. (Written by wip/p2/py/pvw2.py.) -/
section EzTw
variable {d : Nat} {h : cz_H} {τ : Nat → Nat} {P Q : cz_F → Prop}
theorem hp_text {a : Int} (hB : ez_B τ h) (t192 : τ 192 = 44) (hc : ez_W d cm_39 0 [(0, .inr (.inr (some (192)))), (1, .inl (a))] [] h P) (k : ∀ F, P F → (∃ v τ1 g, F = (.inl (some (ez_v (.inl v))), g) ∧ ez_B τ1 g ∧ τ1 805 = 35 ∧ (ez_B τ1 (ow g v) → Q (.inl (some (ez_v (.inl 0))), ow g v))) ∨ (∃ r g, F = (.inr r, g) ∧ cz_exc g r = some 1 ∧ Q (.inl (some (ez_v (.inl 1))), g)) ∨ (∃ r g, F = (.inr r, g) ∧ cz_exc g r = some 3 ∧ Q (.inl (some (ez_v (.inl 2))), g)) ∨ (∃ r g, F = (.inr r, g) ∧ cz_exc g r = some 0 ∧ Q (.inl (some (ez_v (.inl 3))), g))) : ez_W (d + 1) cm_213 0 [(0, .inr (.inr (some (192)))), (1, .inl (a)), (2, .inr (.inr (some (805))))] [] h Q := by
  refine ez_go (n := 4) (pc' := 4) (L' := [(0, .inr (.inr (some (192)))), (1, .inl (a)), (2, .inr (.inr (some (805))))]) (st' := [.inl (a), .inr (.inr (some (192))), .inl (0), .inr (.inr (some (805)))]) rfl ?_
  refine ez_cv hB t192 rfl rfl rfl tq_44 rfl rfl rfl (ez_mono hc (fun F hF => ?_))
  rcases k F hF with ⟨v, τ1, g, rfl, hB1, u805, kq⟩ | ⟨r, g, rfl, he, kq⟩ | ⟨r, g, rfl, he, kq⟩ | ⟨r, g, rfl, he, kq⟩
  · refine ez_K1 ?_
    refine ez_go (n := 1) (pc' := 8) (L' := [(0, .inr (.inr (some (192)))), (1, .inl (a)), (2, .inr (.inr (some (805))))]) (st' := [.inr (.inl ((Int32.ofInt (v)).toInt64)), .inl (0), .inr (.inr (some (805)))]) rfl ?_
    have n3 : 1 ≤ qz_N g 805 ∧ qz_N g 805 ≤ 1 := ez_len hB1 u805 tq_35 rfl
    refine ez_as hB1 u805 rfl tq_35 rfl rfl (by omega) (by omega) ez_vdJ (fun hB1 w2 => ?_)
    refine ez_go (n := 2) (pc' := 22) (L' := [(0, .inr (.inr (some (192)))), (1, .inl (a)), (2, .inr (.inr (some (805))))]) (st' := [.inl (0)]) rfl ?_
    exact ez_retI rfl rfl (kq hB1)
  · refine ez_Kc he rfl ?_
    refine ez_go (n := 2) (pc' := 14) (L' := [(3, .inr (.inr (some (r)))), (0, .inr (.inr (some (192)))), (1, .inl (a)), (2, .inr (.inr (some (805))))]) (st' := [.inl (1)]) rfl ?_
    exact ez_retI rfl rfl kq
  · refine ez_Kc he rfl ?_
    refine ez_go (n := 2) (pc' := 17) (L' := [(3, .inr (.inr (some (r)))), (0, .inr (.inr (some (192)))), (1, .inl (a)), (2, .inr (.inr (some (805))))]) (st' := [.inl (2)]) rfl ?_
    exact ez_retI rfl rfl kq
  · refine ez_Kc he rfl ?_
    refine ez_go (n := 2) (pc' := 20) (L' := [(3, .inr (.inr (some (r)))), (0, .inr (.inr (some (192)))), (1, .inl (a)), (2, .inr (.inr (some (805))))]) (st' := [.inl (3)]) rfl ?_
    exact ez_retI rfl rfl kq

def twP (τ : Nat → Nat) (h : cz_H) (t : Int) (F : cz_F) : Prop := ((t < 0 ∨ 7 < t) ∧ F = (.inr h.1, xc h 1)) ∨ ((0 ≤ t ∧ t ≤ 7) ∧ ∃ r g, uC (rz_b h) (qz_I h 192 1) 0 0 r ∧ ez_B τ g ∧ ez_fr (ez_one 192) h g ∧ qz_I g 192 1 = 0 ∧ ((r = -1 ∧ F = (.inr g.1, xc g 3)) ∨ (2000 < r ∧ F = (.inr g.1, xc g 0)) ∨ (0 ≤ r ∧ r ≤ 2000 ∧ ∃ g2 l a, F = (.inl (some (ez_v (.inl r))), g2) ∧ ez_B τ g2 ∧ ez_fr (tx_P (754 + 2 * t.toNat)) g g2 ∧ uPm (rz_b h) (qz_I h 192 1) r.toNat a l ∧ tx g2 (754 + 2 * t.toNat) l)))
theorem rd_textP {t : Int} (hB : ez_B τ h) (hX : jz_X τ) (sl : slt h) (tr : ez_rg t) (hr1 : h.1 + 1 ≤ 600192) (hr2 : h.2.1 + 6 ≤ 7302232) : ez_W (d + 8) cm_39 0 [(0, .inr (.inr (some (192)))), (1, .inl (t))] [] h (twP τ h t) := by
  have z : ∀ g, g = dz_put h 192 1 (ez_v (.inl (0))) → qz_I g 192 1 = 0 := fun g e => by
    obtain ⟨vs, w, -, -, g1, -⟩ := ez_fld (cl := 0) (k := 1) hB (hX 192 (by decide)) tq_44 rfl rfl
    rw [e, qz_put_I0 g1]; rfl
  exact rd_ctext hB hX sl tr hr1 hr2 (fun w => Or.inl ⟨w, rfl⟩) (fun w0 w1 r hr g a1 a2 a3 a4 => Or.inr ⟨⟨w0, w1⟩, r, g, hr, a1, a2, z g a3, Or.inl ⟨a4, rfl⟩⟩) (fun w0 w1 r hr g a1 a2 a3 a4 => Or.inr ⟨⟨w0, w1⟩, r, g, hr, a1, a2, z g a3, Or.inr (Or.inl ⟨a4, rfl⟩)⟩) (fun w0 w1 r hr g a1 a2 a3 a4 a5 g2 l a a6 a7 a8 a9 => Or.inr ⟨⟨w0, w1⟩, r, g, hr, a1, a2, z g a3, Or.inr (Or.inr ⟨a4, a5, g2, l, a, rfl, a6, a7, a8, a9⟩)⟩)
def TD (τ : Nat → Nat) (h g : cz_H) : Prop := (∀ q, τ q = 21 → g.2.2 q = h.2.2 q) ∧ (∀ q, τ q ≠ 0 → tgk (τ q) = false → g.2.2 q = h.2.2 q) ∧ g.2.2 770 = h.2.2 770 ∧ qz_I g 192 1 = 0 ∧ g.1 ≤ h.1 + 1 ∧ g.2.1 ≤ h.2.1 + 6
theorem tw_fin {g1 g4 : cz_H} (hb : dz_B tz_T (qz_X rR) τ h) (C : TD τ h g1) (B4 : ez_B τ g4) (m1 : ∀ q, τ q ≠ 0 → q ≠ 770 → q ≠ 796 → q ≠ 782 → τ q ≠ 37 → g4.2.2 q = g1.2.2 q) (j7 : ∀ j, j ≠ 0 → j ≠ 2 → j ≠ 30 → qz_I g4 770 j = qz_I g1 770 j) (z : qz_I g4 770 2 = 0) (r : g4.1 = g1.1 ∧ g4.2.1 = g1.2.1) (xx : rXt g4) : dz_B tz_T (qz_X rR) τ g4 ∧ stp h g4 := by
  have hB := dz_ezB hb
  have hX := hb.2.1.1
  have t770 : τ 770 = 75 := hX 770 (by decide)
  obtain ⟨cS, c1, c2, c3, c4, c5⟩ := C
  have b1 : 0 ≤ qz_I h 192 1 ∧ qz_I h 192 1 ≤ 4096 := ez_fB (cl := 0) hB (hX 192 (by decide)) tq_44 rfl rfl (by decide)
  have e192 : qz_I g4 192 1 = 0 := by
    rw [← c3]; unfold qz_I; rw [m1 192 (by rw [hX 192 (by decide)]; decide) (by decide) (by decide) (by decide) (by rw [hX 192 (by decide)]; decide)]
  have J : ∀ j, j ≠ 0 → j ≠ 2 → j ≠ 30 → qz_I g4 770 j = qz_I h 770 j := fun j a b c => by rw [j7 j a b c]; unfold qz_I; rw [c2]
  have nt : ∀ q, tgk (τ q) = false → ∀ p, tz_ex p ≠ 0 → tgk (tz_ex p) = true → q ≠ p := fun q hk p w1 w2 e => by rw [e, hX p w1, w2] at hk; cases hk
  have tsk := ez_tsk hB t770
  have esk : sk g4 = sk h := by unfold sk qz_P; rw [J 24 (by decide) (by decide) (by decide)]
  have nsk : qz_N g4 (sk g4) = qz_N h (sk h) := by
    rw [esk]; unfold qz_N
    have q770 : sk h ≠ 770 := fun e => by rw [e, t770] at tsk; cases tsk
    have q796 : sk h ≠ 796 := fun e => by rw [e, hX 796 (by decide)] at tsk; revert tsk; decide
    have q782 : sk h ≠ 782 := fun e => by rw [e, hX 782 (by decide)] at tsk; revert tsk; decide
    rw [m1 _ (by rw [tsk]; decide) q770 q796 q782 (by rw [tsk]; decide)]
    rw [cS _ tsk]
  refine tg_fin hb B4 (fun _ _ => rfl) (fun q a b => absurd a b) (fun q h0 hk => ?_) (fun j a b _ _ _ e _ => J j a b e) (by rw [e192, z]) (by rw [e192]; omega) (fun w => by rw [J 25 (by decide) (by decide) (by decide), nsk]; exact w) (by rw [nsk]; omega) (by rw [nsk]; omega) xx
  rw [m1 q h0 (nt q hk 770 (by decide) rfl) (nt q hk 796 (by decide) rfl) (nt q hk 782 (by decide) rfl) (fun e => by rw [e] at hk; cases hk)]
  exact c1 q h0 hk
theorem TD_xc {g : cz_H} {e : Nat} (hX : jz_X τ) (Bg : ez_B τ g) (f : ez_fr (ez_one 192) h g) (z : qz_I g 192 1 = 0) : TD τ h (xc g e) := by
  have t770 : τ 770 ≠ 0 := by rw [hX 770 (by decide)]; decide
  refine ⟨fun q e => (xc_t Bg (by rw [e]; decide)).trans (f.2.2 q (dz_beq_ne (fun w => by rw [w, hX 192 (by decide)] at e; revert e; decide))), fun q h0 hk => (xc_t Bg h0).trans (f.2.2 q (dz_beq_ne (fun w => by rw [w, hX 192 (by decide)] at hk; cases hk))), (xc_t Bg t770).trans (f.2.2 770 rfl), ?_, ?_, ?_⟩
  · rw [← z]; unfold qz_I; rw [xc_t Bg (by rw [hX 192 (by decide)]; decide)]
  · show g.1 + 1 ≤ _; rw [f.1]; exact Nat.le_refl _
  · show g.2.1 + 6 ≤ _; rw [f.2.1]; exact Nat.le_refl _
theorem TD_ow {g g2 : cz_H} {v : Int} {t : Nat} (hX : jz_X τ) (t8 : t < 8) (f : ez_fr (ez_one 192) h g) (f2 : ez_fr (tx_P (754 + 2 * t)) g g2) (z : qz_I g 192 1 = 0) : TD τ h (ow g2 v) := by
  have tt := (rU_of hX).2 t t8
  have c : ∀ q, τ q ≠ 88 → τ q ≠ 89 → q ≠ 805 → (ow g2 v).2.2 q = g.2.2 q := fun q h1 h2 h3 => (ow_at h3).trans (f2.2.2 q (tx_Pn (fun w => h1 (by rw [w]; exact tt.2.1)) (fun w => h2 (by rw [w]; exact tt.2.2))))
  refine ⟨fun q e => (c q (by rw [e]; decide) (by rw [e]; decide) (fun w => by rw [w, hX 805 (by decide)] at e; revert e; decide)).trans (f.2.2 q (dz_beq_ne (fun w => by rw [w, hX 192 (by decide)] at e; revert e; decide))), fun q h0 hk => ?_, ?_, ?_, ?_, ?_⟩
  · rw [c q (fun e => by rw [e] at hk; cases hk) (fun e => by rw [e] at hk; cases hk) (fun e => by rw [e, hX 805 (by decide)] at hk; cases hk)]
    exact f.2.2 q (dz_beq_ne (fun w => by rw [w, hX 192 (by decide)] at hk; cases hk))
  · rw [c 770 (by rw [hX 770 (by decide)]; decide) (by rw [hX 770 (by decide)]; decide) (by decide)]; exact f.2.2 770 rfl
  · rw [← z]; unfold qz_I; rw [c 192 (by rw [hX 192 (by decide)]; decide) (by rw [hX 192 (by decide)]; decide) (by decide)]
  · show g2.1 ≤ _; rw [f2.1, f.1]; exact Nat.le_succ _
  · show g2.2.1 ≤ _; rw [f2.2.1, f.2.1]; omega
theorem TD_b {g : cz_H} (hX : jz_X τ) (p : rP h) (C : TD τ h g) : mb g = rz_b h ∧ (∀ j, qz_I g 770 j = qz_I h 770 j) ∧ ∀ j, qz_I g 0 j = qz_I h 0 j := by
  refine ⟨funext fun i => ?_, fun j => by unfold qz_I; rw [C.2.2.1], fun j => by unfold qz_I; rw [C.2.1 0 (by rw [hX 0 (by decide)]; decide) (by rw [hX 0 (by decide)]; rfl)]⟩
  show qz_I g 771 i.toNat = qz_I h 193 i.toNat
  rw [p]; unfold qz_I; rw [C.2.1 771 (by rw [hX 771 (by decide)]; decide) (by rw [hX 771 (by decide)]; rfl)]
theorem TD_s {g : cz_H} (hX : jz_X τ) (C : TD τ h g) (s : slt h) : slt g := s.k (C.2.1 195 (by rw [hX 195 (by decide)]; decide) (by rw [hX 195 (by decide)]; rfl)) (C.2.1 773 (by rw [hX 773 (by decide)]; decide) (by rw [hX 773 (by decide)]; rfl))
/-- the texts, one of them another -/
theorem rX_up {gB gm g4 : cz_H} {X : Nat → List Int} {t : Nat} {l : List Int} (hX : jz_X τ) (t8 : t < 8) (x1 : txs h X) (x2 : mxs h X) (cB : ∀ q, τ q = 88 ∨ τ q = 89 → q ≠ 754 + 2 * t → q ≠ 754 + 2 * t + 1 → gB.2.2 q = h.2.2 q) (tB : tx gB (754 + 2 * t) l) (up : ∀ q, τ q = 88 ∨ τ q = 89 → g4.2.2 q = gB.2.2 q) (mo : ∀ q, τ q = 37 ∨ τ q = 79 → gm.2.2 q = h.2.2 q) (f : mxf t gm g4) (mx4 : mx g4 t l) (pl : ptl l) (ll : l.length ≤ 2000) : rXt g4 := by
  have tt := (rU_of hX).2
  refine ⟨upX X t l, txs_up x1 (fun q a b c d => ?_) (tx_c tB (up _ (Or.inl (tt t t8).2.1)) (up _ (Or.inr (tt t t8).2.2))) pl ll, mxs_up x2 (fun q a b c => ?_) (fun s hs => ?_) mx4 pl ll⟩
  · obtain ⟨s, hs⟩ : ∃ s, s = (q - 754) / 2 := ⟨_, rfl⟩
    have ts := tt s (by omega)
    have hq : τ q = 88 ∨ τ q = 89 := by
      have : q = 754 + 2 * s ∨ q = 754 + 2 * s + 1 := by omega
      rcases this with e | e
      · exact Or.inl (by rw [e]; exact ts.2.1)
      · exact Or.inr (by rw [e]; exact ts.2.2)
    rw [up q hq, cB q hq c d]
  · have ts := (tt (q - 774) (by omega)).1
    rw [show 774 + (q - 774) = q by omega] at ts
    rw [f.1.2.2 q (mx_Pn c (by omega)), mo q (Or.inl ts)]
  · rw [f.2 s hs]; unfold qz_I; rw [mo 782 (Or.inr (hX 782 (by decide)))]
theorem lw_text {i : Int} (hb : dz_B tz_T (qz_X rR) τ h) (hn : qz_I h 192 1 = qz_I h 770 2) (i0 : 0 ≤ i) (i1 : i + 6 ≤ qz_N h 0) (i2 : i ≤ 4000) (hr1 : h.1 + 1100 ≤ 600192) (hr2 : h.2.1 + 150100 ≤ 7302232) (k : ∀ τ2 g, dz_B tz_T (qz_X rR) τ2 g → stp h g → ez_W (d + 11) cm_0 1213 [(4, .inl (i)), (0, .inr (.inr (some (0)))), (1, .inr (.inr (some (192)))), (2, .inr (.inr (some (770)))), (3, .inr (.inr (some (805))))] [] g Q) : ez_W (d + 11) cm_0 309 [(4, .inl (i)), (0, .inr (.inr (some (0)))), (1, .inr (.inr (some (192)))), (2, .inr (.inr (some (770)))), (3, .inr (.inr (some (805))))] [] h Q := by
  have hB := dz_ezB hb
  have hX := hb.2.1
  have t0 : τ 0 = 34 := hX.1 0 (by decide)
  have t192 : τ 192 = 44 := hX.1 192 (by decide)
  have t770 : τ 770 = 75 := hX.1 770 (by decide)
  have t805 : τ 805 = 35 := hX.1 805 (by decide)
  have bt : 0 ≤ qz_I h 192 1 ∧ qz_I h 192 1 ≤ 4096 := ez_fB (cl := 0) hB t192 tq_44 rfl rfl (by decide)
  obtain ⟨Ls, ⟨-, -, -, -, -, -, -, p⟩, ww, X, x1, x2⟩ := id hX.2.2.2.2
  have sl := ww.2.1
  refine ez_go (n := 5) (pc' := 315) (L' := [(4, .inl (i)), (0, .inr (.inr (some (0)))), (1, .inr (.inr (some (192)))), (2, .inr (.inr (some (770)))), (3, .inr (.inr (some (805))))]) (st' := [.inl ((i) + (1)), .inr (.inr (some (0))), .inr (.inr (some (192)))]) rfl ?_
  have n2 : 0 ≤ qz_N h 0 ∧ qz_N h 0 ≤ 3072 := ez_len hB t0 tq_34 rfl
  refine ez_aI hB t0 rfl tq_34 rfl rfl (by omega) (by omega) (fun (b1 : -2147483648 ≤ qz_I h 0 ((i) + (1)).toNat) (b1' : qz_I h 0 ((i) + (1)).toNat ≤ 2147483647) => ?_)
  refine ez_go (n := 1) (pc' := 317) (L' := [(4, .inl (i)), (0, .inr (.inr (some (0)))), (1, .inr (.inr (some (192)))), (2, .inr (.inr (some (770)))), (3, .inr (.inr (some (805))))]) (st' := [.inr (.inr (some (805))), .inl (qz_I h 0 ((i) + (1)).toNat), .inr (.inr (some (192)))]) rfl ?_
  refine ez_cs hB.2.1 rfl rfl rfl rfl rfl (hp_text hB t192 (rd_textP (d := d + 1) hB hX.1 sl ⟨by omega, by omega⟩ (by omega) (by omega)) (fun F hF => ?_))
  generalize ea : qz_I h 0 ((i) + (1)).toNat = a at *
  have ar : ez_rg a := ⟨by omega, by omega⟩
  rcases hF with ⟨w, rfl⟩ | ⟨w, r, g, hr, Bg, fg, z1, ⟨rr, rfl⟩ | ⟨rr, rfl⟩ | ⟨rr, rr2, g2, l2, a2, rfl, B2, f2, up2, tx2⟩⟩
  · refine Or.inr (Or.inl ⟨_, _, rfl, xc_exc hB rfl, ez_K1 ?_⟩)
    have hBx : ez_B τ (xc h 1) := xc_B hB (by omega) (by omega)
    have sc : ∀ j, qz_I (xc h 1) 0 j = qz_I h 0 j := fun j => by unfold qz_I; rw [xc_t hB (by rw [t0]; decide)]
    have slx : slt (xc h 1) := sl.k (xc_t hB (by rw [hX.1 195 (by decide)]; decide)) (xc_t hB (by rw [hX.1 773 (by decide)]; decide))
    have sn : qz_N (xc h 1) 0 = qz_N h 0 := by unfold qz_N; rw [xc_t hB (by rw [t0]; decide)]
    refine ez_go (n := 6) (pc' := 328) (L' := [(5, .inl (1)), (4, .inl (i)), (0, .inr (.inr (some (0)))), (1, .inr (.inr (some (192)))), (2, .inr (.inr (some (770)))), (3, .inr (.inr (some (805))))]) (st' := [.inl ((i) + (1)), .inr (.inr (some (0))), .inr (.inr (some (770)))]) rfl ?_
    have n4 : 0 ≤ qz_N (xc h 1) 0 ∧ qz_N (xc h 1) 0 ≤ 3072 := ez_len hBx t0 tq_34 rfl
    refine ez_aI hBx t0 rfl tq_34 rfl rfl (by omega) (by omega) (fun (b3 : -2147483648 ≤ qz_I (xc h 1) 0 ((i) + (1)).toNat) (b3' : qz_I (xc h 1) 0 ((i) + (1)).toNat ≤ 2147483647) => ?_)
    rw [show qz_I (xc h 1) 0 ((i) + (1)).toNat = qz_I h 0 ((i) + (1)).toNat from sc _, ea]
    have e7 : qz_I (xc h 1) 770 2 = qz_I h 192 1 := by unfold qz_I; rw [xc_t hB (by rw [t770]; decide)]; exact hn.symm
    refine ez_cv hBx t770 rfl rfl rfl tq_75 rfl rfl rfl (rd_mtext (n := qz_I h 192 1) hBx hX.1 slx t770 ar e7 (fun _ g4 b1 b2 b3 b0 => ez_K1 ?_) (fun w9 => absurd w9 (by omega)) (fun w9 => absurd w9 (by omega)) (fun w9 => absurd w9 (by omega)))
    refine ez_go (n := 2) (pc' := 1213) (L' := [(6, .inl (0)), (5, .inl (1)), (4, .inl (i)), (0, .inr (.inr (some (0)))), (1, .inr (.inr (some (192)))), (2, .inr (.inr (some (770)))), (3, .inr (.inr (some (805))))]) (st' := []) rfl ?_
    refine ez_less [(4, .inl (i)), (0, .inr (.inr (some (0)))), (1, .inr (.inr (some (192)))), (2, .inr (.inr (some (770)))), (3, .inr (.inr (some (805))))] rfl ⟨rfl, rfl, rfl, rfl, rfl, trivial⟩ ?_
    exact k _ _ (ref_X hb hn b1 b2 b3).1 (ref_X hb hn b1 b2 b3).2
  · have cg1 := fg.1; have cg2 := fg.2.1
    refine Or.inr (Or.inr (Or.inl ⟨_, _, rfl, xc_exc Bg rfl, ez_K1 ?_⟩))
    have hBx : ez_B τ (xc g 3) := xc_B Bg (by omega) (by omega)
    have C : TD τ h (xc g 3) := TD_xc hX.1 Bg fg z1
    obtain ⟨bm, i7, sc⟩ := TD_b hX.1 p C
    have u1 : uC (mb (xc g 3)) (qz_I h 192 1) 0 0 r := by rw [bm]; exact hr
    have e7 : qz_I (xc g 3) 770 2 = qz_I h 192 1 := (i7 2).trans hn.symm
    have slx := TD_s hX.1 C sl
    have sn : qz_N (xc g 3) 0 = qz_N h 0 := by unfold qz_N; rw [C.2.1 0 (by rw [t0]; decide) (by rw [t0]; rfl)]
    refine ez_go (n := 6) (pc' := 328) (L' := [(5, .inl (2)), (4, .inl (i)), (0, .inr (.inr (some (0)))), (1, .inr (.inr (some (192)))), (2, .inr (.inr (some (770)))), (3, .inr (.inr (some (805))))]) (st' := [.inl ((i) + (1)), .inr (.inr (some (0))), .inr (.inr (some (770)))]) rfl ?_
    have n6 : 0 ≤ qz_N (xc g 3) 0 ∧ qz_N (xc g 3) 0 ≤ 3072 := ez_len hBx t0 tq_34 rfl
    refine ez_aI hBx t0 rfl tq_34 rfl rfl (by omega) (by omega) (fun (b5 : -2147483648 ≤ qz_I (xc g 3) 0 ((i) + (1)).toNat) (b5' : qz_I (xc g 3) 0 ((i) + (1)).toNat ≤ 2147483647) => ?_)
    rw [show qz_I (xc g 3) 0 ((i) + (1)).toNat = qz_I h 0 ((i) + (1)).toNat from sc _, ea]
    refine ez_cv hBx t770 rfl rfl rfl tq_75 rfl rfl rfl (rd_mtext (n := qz_I h 192 1) hBx hX.1 slx t770 ar e7 (fun w9 => absurd w9 (by omega)) (fun _ r9 u9 e9 h2 b1 b2 b3 b4 b5 g4 c1 c2 c3 b0 => ez_K1 ?_) (fun _ r9 u9 e9 => absurd (uC_uniq u1 u9) (by omega)) (fun _ r9 u9 e9 e10 => absurd (uC_uniq u1 u9) (by omega)))
    have M1 : ∀ q, τ q ≠ 0 → q ≠ 770 → q ≠ 796 → g4.2.2 q = (xc g 3).2.2 q := fun q _ q1 q2 => by rw [c2.2.2 q (by unfold nz_PL; rw [dz_beq_ne q1, dz_beq_ne q2]; rfl), b2.2.2 q (dz_beq_ne q1)]
    have XX : rXt g4 := rX_t ww.1 ⟨X, x1, x2⟩ (fun q hq => by rw [M1 q (by omega) (fun e => by rw [e, t770] at hq; omega) (fun e => by rw [e, hX.1 796 (by decide)] at hq; revert hq; decide), xc_t Bg (by omega), fg.2.2 q (dz_beq_ne (fun e => by rw [e, t192] at hq; omega))])
    have FN := tw_fin hb C c1 (fun q h0 q1 q2 _ _ => M1 q h0 q1 q2) (fun j j0 j2 _ => by rw [c3 j j0]; exact b3 j j0 j2) (by rw [c3 2 (by decide)]; exact b4) ⟨by rw [c2.1, b2.1], by rw [c2.2.1, b2.2.1]⟩ XX
    refine ez_go (n := 2) (pc' := 1213) (L' := [(6, .inl (0)), (5, .inl (2)), (4, .inl (i)), (0, .inr (.inr (some (0)))), (1, .inr (.inr (some (192)))), (2, .inr (.inr (some (770)))), (3, .inr (.inr (some (805))))]) (st' := []) rfl ?_
    refine ez_less [(4, .inl (i)), (0, .inr (.inr (some (0)))), (1, .inr (.inr (some (192)))), (2, .inr (.inr (some (770)))), (3, .inr (.inr (some (805))))] rfl ⟨rfl, rfl, rfl, rfl, rfl, trivial⟩ ?_
    exact k _ _ FN.1 FN.2
  · have cg1 := fg.1; have cg2 := fg.2.1
    refine Or.inr (Or.inr (Or.inr ⟨_, _, rfl, xc_exc Bg rfl, ez_K1 ?_⟩))
    have hBx : ez_B τ (xc g 0) := xc_B Bg (by omega) (by omega)
    have C : TD τ h (xc g 0) := TD_xc hX.1 Bg fg z1
    obtain ⟨bm, i7, sc⟩ := TD_b hX.1 p C
    have u1 : uC (mb (xc g 0)) (qz_I h 192 1) 0 0 r := by rw [bm]; exact hr
    have e7 : qz_I (xc g 0) 770 2 = qz_I h 192 1 := (i7 2).trans hn.symm
    have slx := TD_s hX.1 C sl
    have sn : qz_N (xc g 0) 0 = qz_N h 0 := by unfold qz_N; rw [C.2.1 0 (by rw [t0]; decide) (by rw [t0]; rfl)]
    refine ez_go (n := 6) (pc' := 328) (L' := [(5, .inl (3)), (4, .inl (i)), (0, .inr (.inr (some (0)))), (1, .inr (.inr (some (192)))), (2, .inr (.inr (some (770)))), (3, .inr (.inr (some (805))))]) (st' := [.inl ((i) + (1)), .inr (.inr (some (0))), .inr (.inr (some (770)))]) rfl ?_
    have n8 : 0 ≤ qz_N (xc g 0) 0 ∧ qz_N (xc g 0) 0 ≤ 3072 := ez_len hBx t0 tq_34 rfl
    refine ez_aI hBx t0 rfl tq_34 rfl rfl (by omega) (by omega) (fun (b7 : -2147483648 ≤ qz_I (xc g 0) 0 ((i) + (1)).toNat) (b7' : qz_I (xc g 0) 0 ((i) + (1)).toNat ≤ 2147483647) => ?_)
    rw [show qz_I (xc g 0) 0 ((i) + (1)).toNat = qz_I h 0 ((i) + (1)).toNat from sc _, ea]
    refine ez_cv hBx t770 rfl rfl rfl tq_75 rfl rfl rfl (rd_mtext (n := qz_I h 192 1) hBx hX.1 slx t770 ar e7 (fun w9 => absurd w9 (by omega)) (fun _ r9 u9 e9 => absurd (uC_uniq u1 u9) (by omega)) (fun _ r9 u9 e9 h2 b1 b2 b3 b4 b5 g4 c1 c2 c3 b0 => ez_K1 ?_) (fun _ r9 u9 e9 e10 => absurd (uC_uniq u1 u9) (by omega)))
    have M1 : ∀ q, τ q ≠ 0 → q ≠ 770 → q ≠ 796 → g4.2.2 q = (xc g 0).2.2 q := fun q _ q1 q2 => by rw [c2.2.2 q (by unfold nz_PL; rw [dz_beq_ne q1, dz_beq_ne q2]; rfl), b2.2.2 q (dz_beq_ne q1)]
    have XX : rXt g4 := rX_t ww.1 ⟨X, x1, x2⟩ (fun q hq => by rw [M1 q (by omega) (fun e => by rw [e, t770] at hq; omega) (fun e => by rw [e, hX.1 796 (by decide)] at hq; revert hq; decide), xc_t Bg (by omega), fg.2.2 q (dz_beq_ne (fun e => by rw [e, t192] at hq; omega))])
    have FN := tw_fin hb C c1 (fun q h0 q1 q2 _ _ => M1 q h0 q1 q2) (fun j j0 j2 _ => by rw [c3 j j0]; exact b3 j j0 j2) (by rw [c3 2 (by decide)]; exact b4) ⟨by rw [c2.1, b2.1], by rw [c2.2.1, b2.2.1]⟩ XX
    refine ez_go (n := 2) (pc' := 1213) (L' := [(6, .inl (0)), (5, .inl (3)), (4, .inl (i)), (0, .inr (.inr (some (0)))), (1, .inr (.inr (some (192)))), (2, .inr (.inr (some (770)))), (3, .inr (.inr (some (805))))]) (st' := []) rfl ?_
    refine ez_less [(4, .inl (i)), (0, .inr (.inr (some (0)))), (1, .inr (.inr (some (192)))), (2, .inr (.inr (some (770)))), (3, .inr (.inr (some (805))))] rfl ⟨rfl, rfl, rfl, rfl, rfl, trivial⟩ ?_
    exact k _ _ FN.1 FN.2
  · refine Or.inl ⟨r, τ, g2, rfl, B2, t805, fun hBo => ez_K1 ?_⟩
    have t8 : a.toNat < 8 := by omega
    have C : TD τ h (ow g2 r) := TD_ow hX.1 t8 fg f2 z1
    obtain ⟨bm, i7, sc⟩ := TD_b hX.1 p C
    have u1 : uC (mb (ow g2 r)) (qz_I h 192 1) 0 0 r := by rw [bm]; exact hr
    have e7 : qz_I (ow g2 r) 770 2 = qz_I h 192 1 := (i7 2).trans hn.symm
    have slx := TD_s hX.1 C sl
    have sn : qz_N (ow g2 r) 0 = qz_N h 0 := by unfold qz_N; rw [C.2.1 0 (by rw [t0]; decide) (by rw [t0]; rfl)]
    refine ez_go (n := 6) (pc' := 328) (L' := [(5, .inl (0)), (4, .inl (i)), (0, .inr (.inr (some (0)))), (1, .inr (.inr (some (192)))), (2, .inr (.inr (some (770)))), (3, .inr (.inr (some (805))))]) (st' := [.inl ((i) + (1)), .inr (.inr (some (0))), .inr (.inr (some (770)))]) rfl ?_
    have n10 : 0 ≤ qz_N (ow g2 r) 0 ∧ qz_N (ow g2 r) 0 ≤ 3072 := ez_len hBo t0 tq_34 rfl
    refine ez_aI hBo t0 rfl tq_34 rfl rfl (by omega) (by omega) (fun (b9 : -2147483648 ≤ qz_I (ow g2 r) 0 ((i) + (1)).toNat) (b9' : qz_I (ow g2 r) 0 ((i) + (1)).toNat ≤ 2147483647) => ?_)
    rw [show qz_I (ow g2 r) 0 ((i) + (1)).toNat = qz_I h 0 ((i) + (1)).toNat from sc _, ea]
    refine ez_cv hBo t770 rfl rfl rfl tq_75 rfl rfl rfl (rd_mtext (n := qz_I h 192 1) hBo hX.1 slx t770 ar e7 (fun w9 => absurd w9 (by omega)) (fun _ r9 u9 e9 => absurd (uC_uniq u1 u9) (by omega)) (fun _ r9 u9 e9 => absurd (uC_uniq u1 u9) (by omega)) (fun _ r9 u9 e9 e10 h2 b1 b2 b3 b4 b5 g3 c1 c2 c3 g4 l9 a9 d1 d2 up9 mx4 => ez_K1 ?_))
    have er : r = r9 := uC_uniq u1 u9
    subst er
    rw [bm] at up9
    have el := (uPm_u up2 up9).2
    rw [← el] at mx4
    have n782 : τ 782 = 79 := hX.1 782 (by decide)
    have M1 : ∀ q, τ q ≠ 0 → q ≠ 770 → q ≠ 796 → q ≠ 782 → τ q ≠ 37 → g4.2.2 q = (ow g2 r).2.2 q := fun q _ q1 q2 q3 q4 => by rw [d2.1.2.2 q (mx_Pn (fun e => q4 (by rw [e]; exact ((rU_of hX.1).2 _ t8).1)) q3), c2.2.2 q (by unfold nz_PL; rw [dz_beq_ne q1, dz_beq_ne q2]; rfl), b2.2.2 q (dz_beq_ne q1)]
    have J4 : ∀ j, qz_I g4 770 j = qz_I g3 770 j := fun j => d2.1.I (mx_Pn (by omega) (by decide)) j
    have b0 : qz_I g4 770 0 = 0 := by rw [J4, c3 0 (by decide)]; exact b5
    have nq : ∀ q, τ q = 88 ∨ τ q = 89 ∨ τ q = 37 ∨ τ q = 79 → q ≠ 770 ∧ q ≠ 796 ∧ q ≠ 805 ∧ q ≠ 192 := fun q hq => ⟨fun e => by rw [e, t770] at hq; omega, fun e => by rw [e, hX.1 796 (by decide)] at hq; revert hq; decide, fun e => by rw [e, t805] at hq; omega, fun e => by rw [e, t192] at hq; omega⟩
    have XX : rXt g4 := by
      refine rX_up (gB := g2) (gm := g3) hX.1 t8 x1 x2 (fun q hq n1 n2 => ?_) tx2 (fun q hq => ?_) (fun q hq => ?_) d2 mx4 (uPm_ptl up2) (by have := uPm_len up2; omega)
      · rw [f2.2.2 q (tx_Pn n1 n2), fg.2.2 q (dz_beq_ne (nq q (by omega)).2.2.2)]
      · have nn := nq q (by omega)
        rw [M1 q (by omega) nn.1 nn.2.1 (fun e => by rw [e, n782] at hq; omega) (by omega), ow_at nn.2.2.1]
      · have nn := nq q (by omega)
        rw [c2.2.2 q (by unfold nz_PL; rw [dz_beq_ne nn.1, dz_beq_ne nn.2.1]; rfl), b2.2.2 q (dz_beq_ne nn.1), ow_at nn.2.2.1, f2.2.2 q (tx_Pn (fun e => by rw [e, ((rU_of hX.1).2 _ t8).2.1] at hq; omega) (fun e => by rw [e, ((rU_of hX.1).2 _ t8).2.2] at hq; omega)), fg.2.2 q (dz_beq_ne nn.2.2.2)]
    have FN := tw_fin hb C d1 M1 (fun j j0 j2 j3 => by rw [J4, c3 j j3]; exact b3 j j0 j2) (by rw [J4, c3 2 (by decide)]; exact b4) ⟨by rw [d2.1.1, c2.1, b2.1], by rw [d2.1.2.1, c2.2.1, b2.2.1]⟩ XX
    refine ez_go (n := 2) (pc' := 1213) (L' := [(6, .inl (r)), (5, .inl (0)), (4, .inl (i)), (0, .inr (.inr (some (0)))), (1, .inr (.inr (some (192)))), (2, .inr (.inr (some (770)))), (3, .inr (.inr (some (805))))]) (st' := []) rfl ?_
    refine ez_less [(4, .inl (i)), (0, .inr (.inr (some (0)))), (1, .inr (.inr (some (192)))), (2, .inr (.inr (some (770)))), (3, .inr (.inr (some (805))))] rfl ⟨rfl, rfl, rfl, rfl, rfl, trivial⟩ ?_
    exact k _ _ FN.1 FN.2

end EzTw
/-! point, size: what they answer. (Written by wip/p2/py/pvx1.py.) -/
section EzPs
variable {d : Nat} {h : cz_H} {τ : Nat → Nat} {P Q : cz_F → Prop} {X : Nat → List Int}
theorem rd_cpoint {t i : Int} (hB : ez_B τ h) (hX : jz_X τ) (sl : slt h) (txh : txs h X) (tr : ez_rg t) (ir : ez_rg i) (hr1 : h.1 + 1 ≤ 600192) (hr2 : h.2.1 + 6 ≤ 7302232) (kA : (t < 0 ∨ 7 < t) → Q (.inr h.1, xc h 1)) (kB : (0 ≤ t ∧ t ≤ 7) → (i < 0 ∨ ((X (t).toNat).length : Int) ≤ i) → Q (.inr h.1, xc h 0)) (k1 : (0 ≤ t ∧ t ≤ 7) → 0 ≤ i → i < ((X (t).toNat).length : Int) → Q (.inl (some (ez_v (.inl (uX (X (t).toNat) i)))), h)) : ez_W (d + 8) cm_27 0 [(0, .inr (.inr (some (192)))), (1, .inl (t)), (2, .inl (i))] [] h Q := by
  have t192 : τ 192 = 44 := hX 192 (by decide)
  obtain ⟨tr1, tr2⟩ := id tr
  obtain ⟨ir1, ir2⟩ := id ir
  refine ez_go (n := 1) (pc' := 1) (L' := [(0, .inr (.inr (some (192)))), (1, .inl (t)), (2, .inl (i))]) (st' := [.inl (t)]) rfl ?_
  refine ez_cs hB.2.1 rfl rfl rfl rfl rfl (rd_reqSlot hB (show ez_rg (t) by assumption) (by omega) (by omega) (fun a1 b1 => ez_K0 ?_) (fun w => ez_Kp (xc_exc hB rfl) rfl (kA (by omega))))
  refine ez_go (n := 1) (pc' := 5) (L' := [(0, .inr (.inr (some (192)))), (1, .inl (t)), (2, .inl (i))]) (st' := [.inl (i)]) rfl ?_
  refine ez_if rfl rfl ⟨by first | omega | exact (sz_i32 _).1, by first | omega | exact (sz_i32 _).2⟩ (fun (c1 : (i) < (0)) => ?_) (fun (c1 : ¬((i) < (0))) => ?_)
  · skip
    refine ez_go (n := 1) (pc' := 26) (L' := [(0, .inr (.inr (some (192)))), (1, .inl (t)), (2, .inl (i))]) (st' := [.inl (0)]) rfl ?_
    exact ez_cs hB.2.1 rfl rfl rfl rfl rfl (rd_reqRoom0 (by omega) (by omega) (ez_Kp (xc_exc hB rfl) rfl (kB (by omega) (by omega))))
  · skip
    refine ez_go (n := 2) (pc' := 10) (L' := [(0, .inr (.inr (some (192)))), (1, .inl (t)), (2, .inl (i))]) (st' := [.inr (.inr (some (192))), .inl (i)]) rfl ?_
    refine ez_gC (p := 195) (tg := 47) hB t192 rfl rfl tq_44 rfl rfl (fun (t195 : _ = 47) => ?_)
    refine ez_go (n := 1) (pc' := 14) (L' := [(0, .inr (.inr (some (192)))), (1, .inl (t)), (2, .inl (i))]) (st' := [.inl (t), .inr (.inr (some (195))), .inl (i)]) rfl ?_
    have n3 : 8 ≤ qz_N h 195 ∧ qz_N h 195 ≤ 8 := ez_len hB t195 tq_47 rfl
    have y4 : 1 ≤ qz_I h 195 (t).toNat ∧ qz_I h 195 (t).toNat ≤ 1000000 := ez_aB hB t195 tq_47 rfl rfl (by decide) (by omega) (by omega)
    have y4' : ((qz_P h 195 (t).toNat : Nat) : Int) + 1 = qz_I h 195 (t).toNat := by unfold qz_P; omega
    refine ez_aR hB t195 rfl tq_47 rfl rfl (by omega) (by omega) (by omega) (fun (t2 : _ = 88) => ?_)
    rw [show qz_P h 195 (t).toNat = 754 + 2 * (t).toNat by unfold qz_P; have := (sl (t).toNat (by omega)).1; omega]
    refine ez_gI hB (mx_tag hX (show (t).toNat < 8 by omega)).2.1 rfl rfl tq_88 rfl rfl (fun (b5 : 0 ≤ qz_I h (754 + 2 * (t).toNat) 1) (b5' : qz_I h (754 + 2 * (t).toNat) 1 ≤ 2000) => ?_)
    rw [show qz_I h (754 + 2 * (t).toNat) 1 = ((X (t).toNat).length : Int) from (txh (t).toNat (by omega)).1.1]
    have tl9 := (txh (t).toNat (by omega)).2.2
    refine ez_icmp rfl rfl ⟨by first | omega | exact (sz_i32 _).1, by first | omega | exact (sz_i32 _).2⟩ ⟨by first | omega | exact (sz_i32 _).1, by first | omega | exact (sz_i32 _).2⟩ (fun (c6 : (((X (t).toNat).length : Int)) ≤ (i)) => ?_) (fun (c6 : ¬((((X (t).toNat).length : Int)) ≤ (i))) => ?_)
    · skip
      refine ez_go (n := 1) (pc' := 26) (L' := [(0, .inr (.inr (some (192)))), (1, .inl (t)), (2, .inl (i))]) (st' := [.inl (0)]) rfl ?_
      exact ez_cs hB.2.1 rfl rfl rfl rfl rfl (rd_reqRoom0 (by omega) (by omega) (ez_Kp (xc_exc hB rfl) rfl (kB (by omega) (by omega))))
    · skip
      refine ez_go (n := 2) (pc' := 26) (L' := [(0, .inr (.inr (some (192)))), (1, .inl (t)), (2, .inl (i))]) (st' := [.inl (1)]) rfl ?_
      refine ez_cs hB.2.1 rfl rfl rfl rfl rfl (rd_reqRoom1 (ez_K0 ?_))
      refine ez_go (n := 1) (pc' := 30) (L' := [(0, .inr (.inr (some (192)))), (1, .inl (t)), (2, .inl (i))]) (st' := [.inr (.inr (some (192)))]) rfl ?_
      refine ez_gC (p := 195) (tg := 47) hB t192 rfl rfl tq_44 rfl rfl (fun (t195 : _ = 47) => ?_)
      refine ez_go (n := 1) (pc' := 34) (L' := [(0, .inr (.inr (some (192)))), (1, .inl (t)), (2, .inl (i))]) (st' := [.inl (t), .inr (.inr (some (195)))]) rfl ?_
      have n8 : 8 ≤ qz_N h 195 ∧ qz_N h 195 ≤ 8 := ez_len hB t195 tq_47 rfl
      have y9 : 1 ≤ qz_I h 195 (t).toNat ∧ qz_I h 195 (t).toNat ≤ 1000000 := ez_aB hB t195 tq_47 rfl rfl (by decide) (by omega) (by omega)
      have y9' : ((qz_P h 195 (t).toNat : Nat) : Int) + 1 = qz_I h 195 (t).toNat := by unfold qz_P; omega
      refine ez_aR hB t195 rfl tq_47 rfl rfl (by omega) (by omega) (by omega) (fun (t7 : _ = 88) => ?_)
      rw [show qz_P h 195 (t).toNat = 754 + 2 * (t).toNat by unfold qz_P; have := (sl (t).toNat (by omega)).1; omega]
      refine ez_g3 hB (mx_tag hX (show (t).toNat < 8 by omega)).2.1 rfl rfl tq_88 rfl rfl (fun (t10 : _ = 89) => ?_)
      refine ez_go (n := 1) (pc' := 39) (L' := [(0, .inr (.inr (some (192)))), (1, .inl (t)), (2, .inl (i))]) (st' := [.inl (i), .inr (.inr (some (754 + 2 * (t).toNat + 1)))]) rfl ?_
      have n12 : 2000 ≤ qz_N h (754 + 2 * (t).toNat + 1) ∧ qz_N h (754 + 2 * (t).toNat + 1) ≤ 2000 := ez_len hB t10 tq_89 rfl
      refine ez_aI hB t10 rfl tq_89 rfl rfl (by omega) (by omega) (fun (b11 : -2147483648 ≤ qz_I h (754 + 2 * (t).toNat + 1) (i).toNat) (b11' : qz_I h (754 + 2 * (t).toNat + 1) (i).toNat ≤ 2147483647) => ?_)
      rw [show qz_I h (754 + 2 * (t).toNat + 1) (i).toNat = uX (X (t).toNat) i from uX_tx (txh (t).toNat (by omega)).1 (by omega)]
      exact ez_retI rfl rfl (k1 (by omega) (by omega) (by omega))

theorem rd_csize {t : Int} (hB : ez_B τ h) (hX : jz_X τ) (sl : slt h) (txh : txs h X) (tr : ez_rg t) (hr1 : h.1 + 1 ≤ 600192) (hr2 : h.2.1 + 6 ≤ 7302232) (kA : (t < 0 ∨ 7 < t) → Q (.inr h.1, xc h 1)) (k1 : (0 ≤ t ∧ t ≤ 7) → Q (.inl (some (ez_v (.inl ((X (t).toNat).length : Int)))), h)) : ez_W (d + 8) cm_38 0 [(0, .inr (.inr (some (192)))), (1, .inl (t))] [] h Q := by
  have t192 : τ 192 = 44 := hX 192 (by decide)
  obtain ⟨tr1, tr2⟩ := id tr
  refine ez_go (n := 1) (pc' := 1) (L' := [(0, .inr (.inr (some (192)))), (1, .inl (t))]) (st' := [.inl (t)]) rfl ?_
  refine ez_cs hB.2.1 rfl rfl rfl rfl rfl (rd_reqSlot hB (show ez_rg (t) by assumption) (by omega) (by omega) (fun a1 b1 => ez_K0 ?_) (fun w => ez_Kp (xc_exc hB rfl) rfl (kA (by omega))))
  refine ez_go (n := 1) (pc' := 5) (L' := [(0, .inr (.inr (some (192)))), (1, .inl (t))]) (st' := [.inr (.inr (some (192)))]) rfl ?_
  refine ez_gC (p := 195) (tg := 47) hB t192 rfl rfl tq_44 rfl rfl (fun (t195 : _ = 47) => ?_)
  refine ez_go (n := 1) (pc' := 9) (L' := [(0, .inr (.inr (some (192)))), (1, .inl (t))]) (st' := [.inl (t), .inr (.inr (some (195)))]) rfl ?_
  have n2 : 8 ≤ qz_N h 195 ∧ qz_N h 195 ≤ 8 := ez_len hB t195 tq_47 rfl
  have y3 : 1 ≤ qz_I h 195 (t).toNat ∧ qz_I h 195 (t).toNat ≤ 1000000 := ez_aB hB t195 tq_47 rfl rfl (by decide) (by omega) (by omega)
  have y3' : ((qz_P h 195 (t).toNat : Nat) : Int) + 1 = qz_I h 195 (t).toNat := by unfold qz_P; omega
  refine ez_aR hB t195 rfl tq_47 rfl rfl (by omega) (by omega) (by omega) (fun (t1 : _ = 88) => ?_)
  rw [show qz_P h 195 (t).toNat = 754 + 2 * (t).toNat by unfold qz_P; have := (sl (t).toNat (by omega)).1; omega]
  refine ez_gI hB (mx_tag hX (show (t).toNat < 8 by omega)).2.1 rfl rfl tq_88 rfl rfl (fun (b4 : 0 ≤ qz_I h (754 + 2 * (t).toNat) 1) (b4' : qz_I h (754 + 2 * (t).toNat) 1 ≤ 2000) => ?_)
  rw [show qz_I h (754 + 2 * (t).toNat) 1 = ((X (t).toNat).length : Int) from (txh (t).toNat (by omega)).1.1]
  have tl9 := (txh (t).toNat (by omega)).2.2
  exact ez_retI rfl rfl (k1 (by omega))

theorem rd_mpoint {t i : Int} (hB : ez_B τ h) (hX : jz_X τ) (sl : slt h) (mxh : mxs h X) (tr : ez_rg t) (ir : ez_rg i) (kA : (t < 0 ∨ 7 < t) → ∀ g, ez_B τ g → mF h g 1 → Q (.inl (some (ez_v (.inl 0))), g)) (kB : (0 ≤ t ∧ t ≤ 7) → (i < 0 ∨ ((X (t).toNat).length : Int) ≤ i) → ∀ g, ez_B τ g → mF h g 2 → Q (.inl (some (ez_v (.inl 0))), g)) (k1 : (0 ≤ t ∧ t ≤ 7) → 0 ≤ i → i < ((X (t).toNat).length : Int) → ∀ g, ez_B τ g → mF h g 0 → Q (.inl (some (ez_v (.inl (uX (X (t).toNat) i)))), g)) : ez_W (d + 1) cm_290 0 [(0, .inr (.inr (some (770)))), (1, .inl (t)), (2, .inl (i))] [] h Q := by
  have t770 : τ 770 = 75 := hX 770 (by decide)
  obtain ⟨tr1, tr2⟩ := id tr
  obtain ⟨ir1, ir2⟩ := id ir
  refine ez_go (n := 2) (pc' := 2) (L' := [(0, .inr (.inr (some (770)))), (1, .inl (t)), (2, .inl (i))]) (st' := [.inl (0), .inr (.inr (some (770)))]) rfl ?_
  refine ez_pf hB t770 rfl rfl tq_75 rfl rfl rfl rfl (ez_vdI rfl rfl (by omega) (by omega)) (fun hB1 w2 => ?_)
  have fP : ez_fr (ez_one 770) h (dz_put h 770 0 (ez_v (.inl (0)))) := (ez_fr.refl (ez_one 770) h).put rfl _ _
  have vP : qz_I (dz_put h 770 0 (ez_v (.inl (0)))) 770 0 = 0 := w2.trans (rz_rd ⟨by omega, by omega⟩)
  have iP : ∀ j, j ≠ 0 → qz_I (dz_put h 770 0 (ez_v (.inl (0)))) 770 j = qz_I h 770 j := fun j hj => ez_put_I (fun w => hj w.2)
  have hP := hB1
  generalize (dz_put h 770 0 (ez_v (.inl (0)))) = h1 at *
  have cP1 := fP.1; have cP2 := fP.2.1
  refine ez_go (n := 2) (pc' := 7) (L' := [(0, .inr (.inr (some (770)))), (1, .inl (t)), (2, .inl (i))]) (st' := [.inl (t), .inr (.inr (some (770)))]) rfl ?_
  refine ez_cv hP t770 rfl rfl rfl tq_75 rfl rfl rfl (rd_mout (show ez_rg (t) by assumption) (fun o6 => ez_K1 ?_) (fun o6 => ez_K1 ?_))
  · skip
    refine ez_if rfl rfl ⟨by decide, by decide⟩ (fun (c3 : (1 : Int) = (0)) => absurd c3 (by decide)) (fun _ => ?_)
    refine ez_go (n := 2) (pc' := 15) (L' := [(0, .inr (.inr (some (770)))), (1, .inl (t)), (2, .inl (i))]) (st' := [.inl (1), .inr (.inr (some (770)))]) rfl ?_
    refine ez_cv hP t770 rfl rfl rfl tq_75 rfl rfl rfl (rd_mfail hP t770 (by omega) (by omega) (fun gf hBf ff jf vf0 => ez_K1 ?_))
    exact ez_retI rfl rfl (kA (by omega) gf hBf (mF.trans ⟨fP, iP, vP⟩ ⟨ff, jf, vf0⟩))
  · skip
    refine ez_if rfl rfl ⟨by decide, by decide⟩ (fun _ => ?_) (fun (c4 : ¬((0 : Int) = (0))) => absurd c4 (by decide))
    refine ez_go (n := 1) (pc' := 20) (L' := [(0, .inr (.inr (some (770)))), (1, .inl (t)), (2, .inl (i))]) (st' := [.inl (i)]) rfl ?_
    refine ez_if rfl rfl ⟨by first | omega | exact (sz_i32 _).1, by first | omega | exact (sz_i32 _).2⟩ (fun (c5 : (i) < (0)) => ?_) (fun (c5 : ¬((i) < (0))) => ?_)
    · skip
      refine ez_go (n := 2) (pc' := 35) (L' := [(0, .inr (.inr (some (770)))), (1, .inl (t)), (2, .inl (i))]) (st' := [.inl (2), .inr (.inr (some (770)))]) rfl ?_
      refine ez_cv hP t770 rfl rfl rfl tq_75 rfl rfl rfl (rd_mfail hP t770 (by omega) (by omega) (fun gf hBf ff jf vf0 => ez_K1 ?_))
      refine ez_go (n := 1) (pc' := 49) (L' := [(0, .inr (.inr (some (770)))), (1, .inl (t)), (2, .inl (i))]) (st' := [.inl (0)]) rfl ?_
      exact ez_retI rfl rfl (kB (by omega) (by omega) gf hBf (mF.trans ⟨fP, iP, vP⟩ ⟨ff, jf, vf0⟩))
    · skip
      refine ez_go (n := 2) (pc' := 25) (L' := [(0, .inr (.inr (some (770)))), (1, .inl (t)), (2, .inl (i))]) (st' := [.inr (.inr (some (770))), .inl (i)]) rfl ?_
      refine ez_gC (p := 782) (tg := 79) hP t770 rfl rfl tq_75 rfl rfl (fun (t782 : _ = 79) => ?_)
      refine ez_go (n := 1) (pc' := 29) (L' := [(0, .inr (.inr (some (770)))), (1, .inl (t)), (2, .inl (i))]) (st' := [.inl (t), .inr (.inr (some (782))), .inl (i)]) rfl ?_
      have n7 : 8 ≤ qz_N h1 782 ∧ qz_N h1 782 ≤ 8 := ez_len hP t782 tq_79 rfl
      refine ez_aI hP t782 rfl tq_79 rfl rfl (by omega) (by omega) (fun (b6 : 0 ≤ qz_I h1 782 (t).toNat) (b6' : qz_I h1 782 (t).toNat ≤ 2000) => ?_)
      have k1P : ∀ q, q ≠ 770 → h1.2.2 q = h.2.2 q := fun q hq => fP.2.2 q (dz_beq_ne hq)
      have c73 : ∀ j, qz_I h1 773 j = qz_I h 773 j := fun j => fP.I rfl j
      have mt := (mxh.k (g := h1) (fun q hq => k1P q (by omega))) (t).toNat (by omega)
      have mt2 := mt.2.2
      rw [show qz_I h1 782 (t).toNat = ((X (t).toNat).length : Int) from mt.1.1]
      refine ez_icmp rfl rfl ⟨by first | omega | exact (sz_i32 _).1, by first | omega | exact (sz_i32 _).2⟩ ⟨by first | omega | exact (sz_i32 _).1, by first | omega | exact (sz_i32 _).2⟩ (fun (c8 : (i) < (((X (t).toNat).length : Int))) => ?_) (fun (c8 : ¬((i) < (((X (t).toNat).length : Int)))) => ?_)
      · skip
        refine ez_go (n := 1) (pc' := 42) (L' := [(0, .inr (.inr (some (770)))), (1, .inl (t)), (2, .inl (i))]) (st' := [.inr (.inr (some (770)))]) rfl ?_
        refine ez_gC (p := 773) (tg := 78) hP t770 rfl rfl tq_75 rfl rfl (fun (t773 : _ = 78) => ?_)
        refine ez_go (n := 1) (pc' := 46) (L' := [(0, .inr (.inr (some (770)))), (1, .inl (t)), (2, .inl (i))]) (st' := [.inl (t), .inr (.inr (some (773)))]) rfl ?_
        have n10 : 8 ≤ qz_N h1 773 ∧ qz_N h1 773 ≤ 8 := ez_len hP t773 tq_78 rfl
        have y11 : 1 ≤ qz_I h1 773 (t).toNat := (by have := (sl t.toNat (by omega)).2; rw [c73]; omega)
        have y12 : 1 ≤ qz_I h1 773 (t).toNat ∧ qz_I h1 773 (t).toNat ≤ 1000000 := ez_aB hP t773 tq_78 rfl rfl (by decide) (by omega) (by omega)
        have y12' : ((qz_P h1 773 (t).toNat : Nat) : Int) + 1 = qz_I h1 773 (t).toNat := by unfold qz_P; omega
        refine ez_aR hP t773 rfl tq_78 rfl rfl (by omega) (by omega) (by omega) (fun (t9 : _ = 37) => ?_)
        rw [show qz_P h1 773 (t).toNat = 774 + (t).toNat by unfold qz_P; have := (sl (t).toNat (by omega)).2; rw [show qz_I h1 773 (t).toNat = qz_I h 773 (t).toNat from c73 _]; omega]
        refine ez_go (n := 1) (pc' := 48) (L' := [(0, .inr (.inr (some (770)))), (1, .inl (t)), (2, .inl (i))]) (st' := [.inl (i), .inr (.inr (some (774 + (t).toNat)))]) rfl ?_
        have n14 : 2000 ≤ qz_N h1 (774 + (t).toNat) ∧ qz_N h1 (774 + (t).toNat) ≤ 2000 := ez_len hP (mx_tag hX (show (t).toNat < 8 by omega)).1 tq_37 rfl
        refine ez_aI hP (mx_tag hX (show (t).toNat < 8 by omega)).1 rfl tq_37 rfl rfl (by omega) (by omega) (fun (b13 : -2147483648 ≤ qz_I h1 (774 + (t).toNat) (i).toNat) (b13' : qz_I h1 (774 + (t).toNat) (i).toNat ≤ 2147483647) => ?_)
        rw [show qz_I h1 (774 + (t).toNat) (i).toNat = uX (X (t).toNat) i from mt.1.2 _ _ (uX_e (by omega))]
        exact ez_retI rfl rfl (k1 (by omega) (by omega) (by omega) h1 hP ⟨fP, iP, vP⟩)
      · skip
        refine ez_go (n := 2) (pc' := 35) (L' := [(0, .inr (.inr (some (770)))), (1, .inl (t)), (2, .inl (i))]) (st' := [.inl (2), .inr (.inr (some (770)))]) rfl ?_
        refine ez_cv hP t770 rfl rfl rfl tq_75 rfl rfl rfl (rd_mfail hP t770 (by omega) (by omega) (fun gf hBf ff jf vf0 => ez_K1 ?_))
        refine ez_go (n := 1) (pc' := 49) (L' := [(0, .inr (.inr (some (770)))), (1, .inl (t)), (2, .inl (i))]) (st' := [.inl (0)]) rfl ?_
        exact ez_retI rfl rfl (kB (by omega) (by omega) gf hBf (mF.trans ⟨fP, iP, vP⟩ ⟨ff, jf, vf0⟩))

theorem rd_msize {t : Int} (hB : ez_B τ h) (hX : jz_X τ) (sl : slt h) (mxh : mxs h X) (tr : ez_rg t) (kA : (t < 0 ∨ 7 < t) → ∀ g, ez_B τ g → mF h g 1 → Q (.inl (some (ez_v (.inl 0))), g)) (k1 : (0 ≤ t ∧ t ≤ 7) → ∀ g, ez_B τ g → mF h g 0 → Q (.inl (some (ez_v (.inl ((X (t).toNat).length : Int)))), g)) : ez_W (d + 1) cm_300 0 [(0, .inr (.inr (some (770)))), (1, .inl (t))] [] h Q := by
  have t770 : τ 770 = 75 := hX 770 (by decide)
  obtain ⟨tr1, tr2⟩ := id tr
  refine ez_go (n := 2) (pc' := 2) (L' := [(0, .inr (.inr (some (770)))), (1, .inl (t))]) (st' := [.inl (0), .inr (.inr (some (770)))]) rfl ?_
  refine ez_pf hB t770 rfl rfl tq_75 rfl rfl rfl rfl (ez_vdI rfl rfl (by omega) (by omega)) (fun hB1 w2 => ?_)
  have fP : ez_fr (ez_one 770) h (dz_put h 770 0 (ez_v (.inl (0)))) := (ez_fr.refl (ez_one 770) h).put rfl _ _
  have vP : qz_I (dz_put h 770 0 (ez_v (.inl (0)))) 770 0 = 0 := w2.trans (rz_rd ⟨by omega, by omega⟩)
  have iP : ∀ j, j ≠ 0 → qz_I (dz_put h 770 0 (ez_v (.inl (0)))) 770 j = qz_I h 770 j := fun j hj => ez_put_I (fun w => hj w.2)
  have hP := hB1
  generalize (dz_put h 770 0 (ez_v (.inl (0)))) = h1 at *
  have cP1 := fP.1; have cP2 := fP.2.1
  refine ez_go (n := 2) (pc' := 7) (L' := [(0, .inr (.inr (some (770)))), (1, .inl (t))]) (st' := [.inl (t), .inr (.inr (some (770)))]) rfl ?_
  refine ez_cv hP t770 rfl rfl rfl tq_75 rfl rfl rfl (rd_mout (show ez_rg (t) by assumption) (fun o7 => ez_K1 ?_) (fun o7 => ez_K1 ?_))
  · skip
    refine ez_if rfl rfl ⟨by decide, by decide⟩ (fun (c3 : (1 : Int) = (0)) => absurd c3 (by decide)) (fun _ => ?_)
    refine ez_go (n := 2) (pc' := 15) (L' := [(0, .inr (.inr (some (770)))), (1, .inl (t))]) (st' := [.inl (1), .inr (.inr (some (770)))]) rfl ?_
    refine ez_cv hP t770 rfl rfl rfl tq_75 rfl rfl rfl (rd_mfail hP t770 (by omega) (by omega) (fun gf hBf ff jf vf0 => ez_K1 ?_))
    refine ez_go (n := 1) (pc' := 27) (L' := [(0, .inr (.inr (some (770)))), (1, .inl (t))]) (st' := [.inl (0)]) rfl ?_
    exact ez_retI rfl rfl (kA (by omega) gf hBf (mF.trans ⟨fP, iP, vP⟩ ⟨ff, jf, vf0⟩))
  · skip
    refine ez_if rfl rfl ⟨by decide, by decide⟩ (fun _ => ?_) (fun (c4 : ¬((0 : Int) = (0))) => absurd c4 (by decide))
    refine ez_go (n := 1) (pc' := 22) (L' := [(0, .inr (.inr (some (770)))), (1, .inl (t))]) (st' := [.inr (.inr (some (770)))]) rfl ?_
    refine ez_gC (p := 782) (tg := 79) hP t770 rfl rfl tq_75 rfl rfl (fun (t782 : _ = 79) => ?_)
    refine ez_go (n := 1) (pc' := 26) (L' := [(0, .inr (.inr (some (770)))), (1, .inl (t))]) (st' := [.inl (t), .inr (.inr (some (782)))]) rfl ?_
    have n6 : 8 ≤ qz_N h1 782 ∧ qz_N h1 782 ≤ 8 := ez_len hP t782 tq_79 rfl
    refine ez_aI hP t782 rfl tq_79 rfl rfl (by omega) (by omega) (fun (b5 : 0 ≤ qz_I h1 782 (t).toNat) (b5' : qz_I h1 782 (t).toNat ≤ 2000) => ?_)
    have k1P : ∀ q, q ≠ 770 → h1.2.2 q = h.2.2 q := fun q hq => fP.2.2 q (dz_beq_ne hq)
    have c73 : ∀ j, qz_I h1 773 j = qz_I h 773 j := fun j => fP.I rfl j
    have mt := (mxh.k (g := h1) (fun q hq => k1P q (by omega))) (t).toNat (by omega)
    have mt2 := mt.2.2
    rw [show qz_I h1 782 (t).toNat = ((X (t).toNat).length : Int) from mt.1.1]
    exact ez_retI rfl rfl (k1 (by omega) h1 hP ⟨fP, iP, vP⟩)

def qaP (h : cz_H) (A Xr : Prop) (V : Int → Prop) (F : cz_F) : Prop := (A ∧ F = (.inr h.1, xc h 1)) ∨ (Xr ∧ F = (.inr h.1, xc h 0)) ∨ ∃ v, V v ∧ F = (.inl (some (ez_v (.inl v))), h)
theorem ow_CO {v : Int} (hX : jz_X τ) : ∀ q, τ q ≠ 0 → pkt (τ q) = false → τ q ≠ 35 → τ q ≠ 88 → τ q ≠ 89 → (ow h v).2.2 q = h.2.2 q := fun q _ _ c _ _ => ow_at (fun w => c (by rw [w]; exact hX 805 (by decide)))
/-- asked, and answered -/
theorem tg_as {g3 : cz_H} {v c1 : Int} (hb : dz_B tz_T (qz_X rR) τ h) (hn : qz_I h 192 1 = qz_I h 770 2) (m1 : mF (ow h v) g3 c1) (B3 : ez_B τ g3) : dz_B tz_T (qz_X rR) τ g3 ∧ stp h g3 := by
  have hX := hb.2.1.1
  have t770 : τ 770 = 75 := hX 770 (by decide)
  refine tg_mk hb hn (ow_CO hX) ⟨Nat.le_succ _, Nat.le_add_right _ _⟩ m1.H (nk.refl τ g3) (fun _ _ _ _ _ => rfl) (fun _ _ => rfl) ⟨by omega, by omega⟩ B3 B3 ?_
  obtain ⟨Ls, -, ww, xx⟩ := hb.2.1.2.2.2.2
  refine rX_t ww.1 xx (fun q hq => ?_)
  rw [m1.1.2.2 q (dz_beq_ne (fun e => by rw [e, t770] at hq; omega))]
  exact ow_at (fun e => by rw [e, hX 805 (by decide)] at hq; revert hq; decide)
theorem hp_point {a1 a2 : Int} (hB : ez_B τ h) (t192 : τ 192 = 44) (hc : ez_W d cm_27 0 [(0, .inr (.inr (some (192)))), (1, .inl (a1)), (2, .inl (a2))] [] h P) (k : ∀ F, P F → (∃ v τ1 g, F = (.inl (some (ez_v (.inl v))), g) ∧ ez_B τ1 g ∧ τ1 805 = 35 ∧ (ez_B τ1 (ow g v) → Q (.inl (some (ez_v (.inl 0))), ow g v))) ∨ (∃ r g, F = (.inr r, g) ∧ cz_exc g r = some 1 ∧ Q (.inl (some (ez_v (.inl 1))), g)) ∨ (∃ r g, F = (.inr r, g) ∧ cz_exc g r = some 0 ∧ Q (.inl (some (ez_v (.inl 2))), g))) : ez_W (d + 1) cm_210 0 [(0, .inr (.inr (some (192)))), (1, .inl (a1)), (2, .inl (a2)), (3, .inr (.inr (some (805))))] [] h Q := by
  refine ez_go (n := 5) (pc' := 5) (L' := [(0, .inr (.inr (some (192)))), (1, .inl (a1)), (2, .inl (a2)), (3, .inr (.inr (some (805))))]) (st' := [.inl (a2), .inl (a1), .inr (.inr (some (192))), .inl (0), .inr (.inr (some (805)))]) rfl ?_
  refine ez_cv hB t192 rfl rfl rfl tq_44 rfl rfl rfl (ez_mono hc (fun F hF => ?_))
  rcases k F hF with ⟨v, τ1, g, rfl, hB1, u805, kq⟩ | ⟨r, g, rfl, he, kq⟩ | ⟨r, g, rfl, he, kq⟩
  · refine ez_K1 ?_
    refine ez_go (n := 1) (pc' := 9) (L' := [(0, .inr (.inr (some (192)))), (1, .inl (a1)), (2, .inl (a2)), (3, .inr (.inr (some (805))))]) (st' := [.inr (.inl ((Int32.ofInt (v)).toInt64)), .inl (0), .inr (.inr (some (805)))]) rfl ?_
    have n3 : 1 ≤ qz_N g 805 ∧ qz_N g 805 ≤ 1 := ez_len hB1 u805 tq_35 rfl
    refine ez_as hB1 u805 rfl tq_35 rfl rfl (by omega) (by omega) ez_vdJ (fun hB1 w2 => ?_)
    refine ez_go (n := 2) (pc' := 22) (L' := [(0, .inr (.inr (some (192)))), (1, .inl (a1)), (2, .inl (a2)), (3, .inr (.inr (some (805))))]) (st' := [.inl (0)]) rfl ?_
    exact ez_retI rfl rfl (kq hB1)
  · refine ez_Kc he rfl ?_
    refine ez_go (n := 2) (pc' := 16) (L' := [(4, .inr (.inr (some (r)))), (0, .inr (.inr (some (192)))), (1, .inl (a1)), (2, .inl (a2)), (3, .inr (.inr (some (805))))]) (st' := [.inl (1)]) rfl ?_
    exact ez_retI rfl rfl kq
  · refine ez_Kc he rfl ?_
    refine ez_go (n := 2) (pc' := 20) (L' := [(4, .inr (.inr (some (r)))), (0, .inr (.inr (some (192)))), (1, .inl (a1)), (2, .inl (a2)), (3, .inr (.inr (some (805))))]) (st' := [.inl (2)]) rfl ?_
    exact ez_retI rfl rfl kq

theorem rd_pointP {a1 a2 : Int} (hB : ez_B τ h) (hX : jz_X τ) (sl : slt h) (txh : txs h X) (r1 : ez_rg a1) (r2 : ez_rg a2) (hr1 : h.1 + 1 ≤ 600192) (hr2 : h.2.1 + 6 ≤ 7302232) : ez_W (d + 8) cm_27 0 [(0, .inr (.inr (some (192)))), (1, .inl (a1)), (2, .inl (a2))] [] h (qaP h (a1 < 0 ∨ 7 < a1) ((0 ≤ a1 ∧ a1 ≤ 7) ∧ (a2 < 0 ∨ ((X a1.toNat).length : Int) ≤ a2)) (fun v => ((0 ≤ a1 ∧ a1 ≤ 7) ∧ 0 ≤ a2 ∧ a2 < ((X a1.toNat).length : Int)) ∧ v = uX (X a1.toNat) a2)) :=
  rd_cpoint hB hX sl txh r1 r2 hr1 hr2 (fun w => Or.inl ⟨w, rfl⟩) (fun w l => Or.inr (Or.inl ⟨⟨w, l⟩, rfl⟩)) (fun w l r => Or.inr (Or.inr ⟨_, ⟨⟨w, l, r⟩, rfl⟩, rfl⟩))
theorem lw_point {i : Int} (hb : dz_B tz_T (qz_X rR) τ h) (hn : qz_I h 192 1 = qz_I h 770 2) (i0 : 0 ≤ i) (i1 : i + 6 ≤ qz_N h 0) (i2 : i ≤ 4000) (hr1 : h.1 + 1100 ≤ 600192) (hr2 : h.2.1 + 150100 ≤ 7302232) (k : ∀ τ2 g, dz_B tz_T (qz_X rR) τ2 g → stp h g → ez_W (d + 11) cm_0 1213 [(4, .inl (i)), (0, .inr (.inr (some (0)))), (1, .inr (.inr (some (192)))), (2, .inr (.inr (some (770)))), (3, .inr (.inr (some (805))))] [] g Q) : ez_W (d + 11) cm_0 441 [(4, .inl (i)), (0, .inr (.inr (some (0)))), (1, .inr (.inr (some (192)))), (2, .inr (.inr (some (770)))), (3, .inr (.inr (some (805))))] [] h Q := by
  have hB := dz_ezB hb
  have hX := hb.2.1
  have t0 : τ 0 = 34 := hX.1 0 (by decide)
  have t192 : τ 192 = 44 := hX.1 192 (by decide)
  have t770 : τ 770 = 75 := hX.1 770 (by decide)
  have t805 : τ 805 = 35 := hX.1 805 (by decide)
  obtain ⟨Ls, ⟨t, c, m, w, s6, s77, u, p⟩, ww, X, x1, x2⟩ := id hX.2.2.2.2
  have sl := ww.2.1
  refine ez_go (n := 5) (pc' := 447) (L' := [(4, .inl (i)), (0, .inr (.inr (some (0)))), (1, .inr (.inr (some (192)))), (2, .inr (.inr (some (770)))), (3, .inr (.inr (some (805))))]) (st' := [.inl ((i) + (1)), .inr (.inr (some (0))), .inr (.inr (some (192)))]) rfl ?_
  have n2 : 0 ≤ qz_N h 0 ∧ qz_N h 0 ≤ 3072 := ez_len hB t0 tq_34 rfl
  refine ez_aI hB t0 rfl tq_34 rfl rfl (by omega) (by omega) (fun (b1 : -2147483648 ≤ qz_I h 0 ((i) + (1)).toNat) (b1' : qz_I h 0 ((i) + (1)).toNat ≤ 2147483647) => ?_)
  refine ez_go (n := 4) (pc' := 453) (L' := [(4, .inl (i)), (0, .inr (.inr (some (0)))), (1, .inr (.inr (some (192)))), (2, .inr (.inr (some (770)))), (3, .inr (.inr (some (805))))]) (st' := [.inl ((i) + (2)), .inr (.inr (some (0))), .inl (qz_I h 0 ((i) + (1)).toNat), .inr (.inr (some (192)))]) rfl ?_
  have n4 : 0 ≤ qz_N h 0 ∧ qz_N h 0 ≤ 3072 := ez_len hB t0 tq_34 rfl
  refine ez_aI hB t0 rfl tq_34 rfl rfl (by omega) (by omega) (fun (b3 : -2147483648 ≤ qz_I h 0 ((i) + (2)).toNat) (b3' : qz_I h 0 ((i) + (2)).toNat ≤ 2147483647) => ?_)
  refine ez_go (n := 1) (pc' := 455) (L' := [(4, .inl (i)), (0, .inr (.inr (some (0)))), (1, .inr (.inr (some (192)))), (2, .inr (.inr (some (770)))), (3, .inr (.inr (some (805))))]) (st' := [.inr (.inr (some (805))), .inl (qz_I h 0 ((i) + (2)).toNat), .inl (qz_I h 0 ((i) + (1)).toNat), .inr (.inr (some (192)))]) rfl ?_
  refine ez_cs hB.2.1 rfl rfl rfl rfl rfl (hp_point hB t192 (rd_pointP (d := d + 1) hB hX.1 sl x1 ⟨by omega, by omega⟩ ⟨by omega, by omega⟩ (by omega) (by omega)) (fun F hF => ?_))
  generalize ea1 : qz_I h 0 ((i) + (1)).toNat = a1 at *
  have ar1 : ez_rg a1 := ⟨by omega, by omega⟩
  generalize ea2 : qz_I h 0 ((i) + (2)).toNat = a2 at *
  have ar2 : ez_rg a2 := ⟨by omega, by omega⟩
  rcases hF with ⟨wA, rfl⟩ | ⟨wX, rfl⟩ | ⟨v, wV, rfl⟩
  · refine Or.inr (Or.inl ⟨_, _, rfl, xc_exc hB rfl, ez_K1 ?_⟩)
    have hBx : ez_B τ (xc h 1) := xc_B hB (by omega) (by omega)
    obtain ⟨⟨pM, pN⟩, pS, pX, p7, sc, sn⟩ := tg_pre hX.1 t m w s77 ww x2 hBx (fun q a _ _ _ _ => xc_t hB a)
    refine ez_go (n := 6) (pc' := 466) (L' := [(5, .inl (1)), (4, .inl (i)), (0, .inr (.inr (some (0)))), (1, .inr (.inr (some (192)))), (2, .inr (.inr (some (770)))), (3, .inr (.inr (some (805))))]) (st' := [.inl ((i) + (1)), .inr (.inr (some (0))), .inr (.inr (some (770)))]) rfl ?_
    have n6 : 0 ≤ qz_N (xc h 1) 0 ∧ qz_N (xc h 1) 0 ≤ 3072 := ez_len hBx t0 tq_34 rfl
    refine ez_aI hBx t0 rfl tq_34 rfl rfl (by omega) (by omega) (fun (b5 : -2147483648 ≤ qz_I (xc h 1) 0 ((i) + (1)).toNat) (b5' : qz_I (xc h 1) 0 ((i) + (1)).toNat ≤ 2147483647) => ?_)
    rw [show qz_I (xc h 1) 0 ((i) + (1)).toNat = qz_I h 0 ((i) + (1)).toNat from sc _, ea1]
    refine ez_go (n := 4) (pc' := 472) (L' := [(5, .inl (1)), (4, .inl (i)), (0, .inr (.inr (some (0)))), (1, .inr (.inr (some (192)))), (2, .inr (.inr (some (770)))), (3, .inr (.inr (some (805))))]) (st' := [.inl ((i) + (2)), .inr (.inr (some (0))), .inl (a1), .inr (.inr (some (770)))]) rfl ?_
    have n8 : 0 ≤ qz_N (xc h 1) 0 ∧ qz_N (xc h 1) 0 ≤ 3072 := ez_len hBx t0 tq_34 rfl
    refine ez_aI hBx t0 rfl tq_34 rfl rfl (by omega) (by omega) (fun (b7 : -2147483648 ≤ qz_I (xc h 1) 0 ((i) + (2)).toNat) (b7' : qz_I (xc h 1) 0 ((i) + (2)).toNat ≤ 2147483647) => ?_)
    rw [show qz_I (xc h 1) 0 ((i) + (2)).toNat = qz_I h 0 ((i) + (2)).toNat from sc _, ea2]
    refine ez_cv hBx t770 rfl rfl rfl tq_75 rfl rfl rfl (rd_mpoint hBx hX.1 pS pX ar1 ar2 (fun _ g3 b1 b2 => ez_K1 ?_) (fun w9 => absurd w9 (by omega)) (fun w9 => absurd w9 (by omega)))
    have FN := ref_X hb hn b1 b2.1 b2.2.1
    have b0 := b2.2.2
    refine ez_go (n := 2) (pc' := 1213) (L' := [(6, .inl (0)), (5, .inl (1)), (4, .inl (i)), (0, .inr (.inr (some (0)))), (1, .inr (.inr (some (192)))), (2, .inr (.inr (some (770)))), (3, .inr (.inr (some (805))))]) (st' := []) rfl ?_
    refine ez_less [(4, .inl (i)), (0, .inr (.inr (some (0)))), (1, .inr (.inr (some (192)))), (2, .inr (.inr (some (770)))), (3, .inr (.inr (some (805))))] rfl ⟨rfl, rfl, rfl, rfl, rfl, trivial⟩ ?_
    exact k _ _ FN.1 FN.2
  · refine Or.inr (Or.inr ⟨_, _, rfl, xc_exc hB rfl, ez_K1 ?_⟩)
    have hBx : ez_B τ (xc h 0) := xc_B hB (by omega) (by omega)
    obtain ⟨⟨pM, pN⟩, pS, pX, p7, sc, sn⟩ := tg_pre hX.1 t m w s77 ww x2 hBx (fun q a _ _ _ _ => xc_t hB a)
    refine ez_go (n := 6) (pc' := 466) (L' := [(5, .inl (2)), (4, .inl (i)), (0, .inr (.inr (some (0)))), (1, .inr (.inr (some (192)))), (2, .inr (.inr (some (770)))), (3, .inr (.inr (some (805))))]) (st' := [.inl ((i) + (1)), .inr (.inr (some (0))), .inr (.inr (some (770)))]) rfl ?_
    have n10 : 0 ≤ qz_N (xc h 0) 0 ∧ qz_N (xc h 0) 0 ≤ 3072 := ez_len hBx t0 tq_34 rfl
    refine ez_aI hBx t0 rfl tq_34 rfl rfl (by omega) (by omega) (fun (b9 : -2147483648 ≤ qz_I (xc h 0) 0 ((i) + (1)).toNat) (b9' : qz_I (xc h 0) 0 ((i) + (1)).toNat ≤ 2147483647) => ?_)
    rw [show qz_I (xc h 0) 0 ((i) + (1)).toNat = qz_I h 0 ((i) + (1)).toNat from sc _, ea1]
    refine ez_go (n := 4) (pc' := 472) (L' := [(5, .inl (2)), (4, .inl (i)), (0, .inr (.inr (some (0)))), (1, .inr (.inr (some (192)))), (2, .inr (.inr (some (770)))), (3, .inr (.inr (some (805))))]) (st' := [.inl ((i) + (2)), .inr (.inr (some (0))), .inl (a1), .inr (.inr (some (770)))]) rfl ?_
    have n12 : 0 ≤ qz_N (xc h 0) 0 ∧ qz_N (xc h 0) 0 ≤ 3072 := ez_len hBx t0 tq_34 rfl
    refine ez_aI hBx t0 rfl tq_34 rfl rfl (by omega) (by omega) (fun (b11 : -2147483648 ≤ qz_I (xc h 0) 0 ((i) + (2)).toNat) (b11' : qz_I (xc h 0) 0 ((i) + (2)).toNat ≤ 2147483647) => ?_)
    rw [show qz_I (xc h 0) 0 ((i) + (2)).toNat = qz_I h 0 ((i) + (2)).toNat from sc _, ea2]
    refine ez_cv hBx t770 rfl rfl rfl tq_75 rfl rfl rfl (rd_mpoint hBx hX.1 pS pX ar1 ar2 (fun w9 => absurd w9 (by omega)) (fun _ _ g3 b1 b2 => ez_K1 ?_) (fun _ w8 w7 => absurd wX.2 (by omega)))
    have FN := ref_X hb hn b1 b2.1 b2.2.1
    have b0 := b2.2.2
    refine ez_go (n := 2) (pc' := 1213) (L' := [(6, .inl (0)), (5, .inl (2)), (4, .inl (i)), (0, .inr (.inr (some (0)))), (1, .inr (.inr (some (192)))), (2, .inr (.inr (some (770)))), (3, .inr (.inr (some (805))))]) (st' := []) rfl ?_
    refine ez_less [(4, .inl (i)), (0, .inr (.inr (some (0)))), (1, .inr (.inr (some (192)))), (2, .inr (.inr (some (770)))), (3, .inr (.inr (some (805))))] rfl ⟨rfl, rfl, rfl, rfl, rfl, trivial⟩ ?_
    exact k _ _ FN.1 FN.2
  · refine Or.inl ⟨v, τ, h, rfl, hB, t805, fun hBo => ez_K1 ?_⟩
    obtain ⟨ok, ev⟩ := wV
    obtain ⟨⟨pM, pN⟩, pS, pX, p7, sc, sn⟩ := tg_pre hX.1 t m w s77 ww x2 hBo (ow_CO hX.1)
    refine ez_go (n := 6) (pc' := 466) (L' := [(5, .inl (0)), (4, .inl (i)), (0, .inr (.inr (some (0)))), (1, .inr (.inr (some (192)))), (2, .inr (.inr (some (770)))), (3, .inr (.inr (some (805))))]) (st' := [.inl ((i) + (1)), .inr (.inr (some (0))), .inr (.inr (some (770)))]) rfl ?_
    have n14 : 0 ≤ qz_N (ow h v) 0 ∧ qz_N (ow h v) 0 ≤ 3072 := ez_len hBo t0 tq_34 rfl
    refine ez_aI hBo t0 rfl tq_34 rfl rfl (by omega) (by omega) (fun (b13 : -2147483648 ≤ qz_I (ow h v) 0 ((i) + (1)).toNat) (b13' : qz_I (ow h v) 0 ((i) + (1)).toNat ≤ 2147483647) => ?_)
    rw [show qz_I (ow h v) 0 ((i) + (1)).toNat = qz_I h 0 ((i) + (1)).toNat from sc _, ea1]
    refine ez_go (n := 4) (pc' := 472) (L' := [(5, .inl (0)), (4, .inl (i)), (0, .inr (.inr (some (0)))), (1, .inr (.inr (some (192)))), (2, .inr (.inr (some (770)))), (3, .inr (.inr (some (805))))]) (st' := [.inl ((i) + (2)), .inr (.inr (some (0))), .inl (a1), .inr (.inr (some (770)))]) rfl ?_
    have n16 : 0 ≤ qz_N (ow h v) 0 ∧ qz_N (ow h v) 0 ≤ 3072 := ez_len hBo t0 tq_34 rfl
    refine ez_aI hBo t0 rfl tq_34 rfl rfl (by omega) (by omega) (fun (b15 : -2147483648 ≤ qz_I (ow h v) 0 ((i) + (2)).toNat) (b15' : qz_I (ow h v) 0 ((i) + (2)).toNat ≤ 2147483647) => ?_)
    rw [show qz_I (ow h v) 0 ((i) + (2)).toNat = qz_I h 0 ((i) + (2)).toNat from sc _, ea2]
    refine ez_cv hBo t770 rfl rfl rfl tq_75 rfl rfl rfl (rd_mpoint hBo hX.1 pS pX ar1 ar2 (fun w9 => absurd w9 (by omega)) (fun w9 w8 => absurd w8 (by omega)) (fun _ _ _ g3 b1 b2 => ez_K1 ?_))
    have FN := tg_as hb hn b2 b1
    rw [← ev]
    have b0 := b2.2.2
    refine ez_go (n := 2) (pc' := 1213) (L' := [(6, .inl (v)), (5, .inl (0)), (4, .inl (i)), (0, .inr (.inr (some (0)))), (1, .inr (.inr (some (192)))), (2, .inr (.inr (some (770)))), (3, .inr (.inr (some (805))))]) (st' := []) rfl ?_
    refine ez_less [(4, .inl (i)), (0, .inr (.inr (some (0)))), (1, .inr (.inr (some (192)))), (2, .inr (.inr (some (770)))), (3, .inr (.inr (some (805))))] rfl ⟨rfl, rfl, rfl, rfl, rfl, trivial⟩ ?_
    exact k _ _ FN.1 FN.2

theorem hp_size {a1 : Int} (hB : ez_B τ h) (t192 : τ 192 = 44) (hc : ez_W d cm_38 0 [(0, .inr (.inr (some (192)))), (1, .inl (a1))] [] h P) (k : ∀ F, P F → (∃ v τ1 g, F = (.inl (some (ez_v (.inl v))), g) ∧ ez_B τ1 g ∧ τ1 805 = 35 ∧ (ez_B τ1 (ow g v) → Q (.inl (some (ez_v (.inl 0))), ow g v))) ∨ (∃ r g, F = (.inr r, g) ∧ cz_exc g r = some 1 ∧ Q (.inl (some (ez_v (.inl 1))), g))) : ez_W (d + 1) cm_212 0 [(0, .inr (.inr (some (192)))), (1, .inl (a1)), (2, .inr (.inr (some (805))))] [] h Q := by
  refine ez_go (n := 4) (pc' := 4) (L' := [(0, .inr (.inr (some (192)))), (1, .inl (a1)), (2, .inr (.inr (some (805))))]) (st' := [.inl (a1), .inr (.inr (some (192))), .inl (0), .inr (.inr (some (805)))]) rfl ?_
  refine ez_cv hB t192 rfl rfl rfl tq_44 rfl rfl rfl (ez_mono hc (fun F hF => ?_))
  rcases k F hF with ⟨v, τ1, g, rfl, hB1, u805, kq⟩ | ⟨r, g, rfl, he, kq⟩
  · refine ez_K1 ?_
    refine ez_go (n := 1) (pc' := 8) (L' := [(0, .inr (.inr (some (192)))), (1, .inl (a1)), (2, .inr (.inr (some (805))))]) (st' := [.inr (.inl ((Int32.ofInt (v)).toInt64)), .inl (0), .inr (.inr (some (805)))]) rfl ?_
    have n3 : 1 ≤ qz_N g 805 ∧ qz_N g 805 ≤ 1 := ez_len hB1 u805 tq_35 rfl
    refine ez_as hB1 u805 rfl tq_35 rfl rfl (by omega) (by omega) ez_vdJ (fun hB1 w2 => ?_)
    refine ez_go (n := 2) (pc' := 16) (L' := [(0, .inr (.inr (some (192)))), (1, .inl (a1)), (2, .inr (.inr (some (805))))]) (st' := [.inl (0)]) rfl ?_
    exact ez_retI rfl rfl (kq hB1)
  · refine ez_Kc he rfl ?_
    refine ez_go (n := 2) (pc' := 14) (L' := [(3, .inr (.inr (some (r)))), (0, .inr (.inr (some (192)))), (1, .inl (a1)), (2, .inr (.inr (some (805))))]) (st' := [.inl (1)]) rfl ?_
    exact ez_retI rfl rfl kq

theorem rd_sizeP {a1 : Int} (hB : ez_B τ h) (hX : jz_X τ) (sl : slt h) (txh : txs h X) (r1 : ez_rg a1) (hr1 : h.1 + 1 ≤ 600192) (hr2 : h.2.1 + 6 ≤ 7302232) : ez_W (d + 8) cm_38 0 [(0, .inr (.inr (some (192)))), (1, .inl (a1))] [] h (qaP h (a1 < 0 ∨ 7 < a1) False (fun v => (0 ≤ a1 ∧ a1 ≤ 7) ∧ v = ((X a1.toNat).length : Int))) :=
  rd_csize hB hX sl txh r1 hr1 hr2 (fun w => Or.inl ⟨w, rfl⟩) (fun w => Or.inr (Or.inr ⟨_, ⟨w, rfl⟩, rfl⟩))
theorem lw_size {i : Int} (hb : dz_B tz_T (qz_X rR) τ h) (hn : qz_I h 192 1 = qz_I h 770 2) (i0 : 0 ≤ i) (i1 : i + 6 ≤ qz_N h 0) (i2 : i ≤ 4000) (hr1 : h.1 + 1100 ≤ 600192) (hr2 : h.2.1 + 150100 ≤ 7302232) (k : ∀ τ2 g, dz_B tz_T (qz_X rR) τ2 g → stp h g → ez_W (d + 11) cm_0 1213 [(4, .inl (i)), (0, .inr (.inr (some (0)))), (1, .inr (.inr (some (192)))), (2, .inr (.inr (some (770)))), (3, .inr (.inr (some (805))))] [] g Q) : ez_W (d + 11) cm_0 481 [(4, .inl (i)), (0, .inr (.inr (some (0)))), (1, .inr (.inr (some (192)))), (2, .inr (.inr (some (770)))), (3, .inr (.inr (some (805))))] [] h Q := by
  have hB := dz_ezB hb
  have hX := hb.2.1
  have t0 : τ 0 = 34 := hX.1 0 (by decide)
  have t192 : τ 192 = 44 := hX.1 192 (by decide)
  have t770 : τ 770 = 75 := hX.1 770 (by decide)
  have t805 : τ 805 = 35 := hX.1 805 (by decide)
  obtain ⟨Ls, ⟨t, c, m, w, s6, s77, u, p⟩, ww, X, x1, x2⟩ := id hX.2.2.2.2
  have sl := ww.2.1
  refine ez_go (n := 5) (pc' := 487) (L' := [(4, .inl (i)), (0, .inr (.inr (some (0)))), (1, .inr (.inr (some (192)))), (2, .inr (.inr (some (770)))), (3, .inr (.inr (some (805))))]) (st' := [.inl ((i) + (1)), .inr (.inr (some (0))), .inr (.inr (some (192)))]) rfl ?_
  have n2 : 0 ≤ qz_N h 0 ∧ qz_N h 0 ≤ 3072 := ez_len hB t0 tq_34 rfl
  refine ez_aI hB t0 rfl tq_34 rfl rfl (by omega) (by omega) (fun (b1 : -2147483648 ≤ qz_I h 0 ((i) + (1)).toNat) (b1' : qz_I h 0 ((i) + (1)).toNat ≤ 2147483647) => ?_)
  refine ez_go (n := 1) (pc' := 489) (L' := [(4, .inl (i)), (0, .inr (.inr (some (0)))), (1, .inr (.inr (some (192)))), (2, .inr (.inr (some (770)))), (3, .inr (.inr (some (805))))]) (st' := [.inr (.inr (some (805))), .inl (qz_I h 0 ((i) + (1)).toNat), .inr (.inr (some (192)))]) rfl ?_
  refine ez_cs hB.2.1 rfl rfl rfl rfl rfl (hp_size hB t192 (rd_sizeP (d := d + 1) hB hX.1 sl x1 ⟨by omega, by omega⟩ (by omega) (by omega)) (fun F hF => ?_))
  generalize ea1 : qz_I h 0 ((i) + (1)).toNat = a1 at *
  have ar1 : ez_rg a1 := ⟨by omega, by omega⟩
  rcases hF with ⟨wA, rfl⟩ | ⟨wX, rfl⟩ | ⟨v, wV, rfl⟩
  · refine Or.inr ⟨_, _, rfl, xc_exc hB rfl, ez_K1 ?_⟩
    have hBx : ez_B τ (xc h 1) := xc_B hB (by omega) (by omega)
    obtain ⟨⟨pM, pN⟩, pS, pX, p7, sc, sn⟩ := tg_pre hX.1 t m w s77 ww x2 hBx (fun q a _ _ _ _ => xc_t hB a)
    refine ez_go (n := 6) (pc' := 500) (L' := [(5, .inl (1)), (4, .inl (i)), (0, .inr (.inr (some (0)))), (1, .inr (.inr (some (192)))), (2, .inr (.inr (some (770)))), (3, .inr (.inr (some (805))))]) (st' := [.inl ((i) + (1)), .inr (.inr (some (0))), .inr (.inr (some (770)))]) rfl ?_
    have n4 : 0 ≤ qz_N (xc h 1) 0 ∧ qz_N (xc h 1) 0 ≤ 3072 := ez_len hBx t0 tq_34 rfl
    refine ez_aI hBx t0 rfl tq_34 rfl rfl (by omega) (by omega) (fun (b3 : -2147483648 ≤ qz_I (xc h 1) 0 ((i) + (1)).toNat) (b3' : qz_I (xc h 1) 0 ((i) + (1)).toNat ≤ 2147483647) => ?_)
    rw [show qz_I (xc h 1) 0 ((i) + (1)).toNat = qz_I h 0 ((i) + (1)).toNat from sc _, ea1]
    refine ez_cv hBx t770 rfl rfl rfl tq_75 rfl rfl rfl (rd_msize hBx hX.1 pS pX ar1 (fun _ g3 b1 b2 => ez_K1 ?_) (fun w9 => absurd w9 (by omega)))
    have FN := ref_X hb hn b1 b2.1 b2.2.1
    have b0 := b2.2.2
    refine ez_go (n := 2) (pc' := 1213) (L' := [(6, .inl (0)), (5, .inl (1)), (4, .inl (i)), (0, .inr (.inr (some (0)))), (1, .inr (.inr (some (192)))), (2, .inr (.inr (some (770)))), (3, .inr (.inr (some (805))))]) (st' := []) rfl ?_
    refine ez_less [(4, .inl (i)), (0, .inr (.inr (some (0)))), (1, .inr (.inr (some (192)))), (2, .inr (.inr (some (770)))), (3, .inr (.inr (some (805))))] rfl ⟨rfl, rfl, rfl, rfl, rfl, trivial⟩ ?_
    exact k _ _ FN.1 FN.2
  · exact wX.elim
  · refine Or.inl ⟨v, τ, h, rfl, hB, t805, fun hBo => ez_K1 ?_⟩
    obtain ⟨ok, ev⟩ := wV
    obtain ⟨⟨pM, pN⟩, pS, pX, p7, sc, sn⟩ := tg_pre hX.1 t m w s77 ww x2 hBo (ow_CO hX.1)
    refine ez_go (n := 6) (pc' := 500) (L' := [(5, .inl (0)), (4, .inl (i)), (0, .inr (.inr (some (0)))), (1, .inr (.inr (some (192)))), (2, .inr (.inr (some (770)))), (3, .inr (.inr (some (805))))]) (st' := [.inl ((i) + (1)), .inr (.inr (some (0))), .inr (.inr (some (770)))]) rfl ?_
    have n6 : 0 ≤ qz_N (ow h v) 0 ∧ qz_N (ow h v) 0 ≤ 3072 := ez_len hBo t0 tq_34 rfl
    refine ez_aI hBo t0 rfl tq_34 rfl rfl (by omega) (by omega) (fun (b5 : -2147483648 ≤ qz_I (ow h v) 0 ((i) + (1)).toNat) (b5' : qz_I (ow h v) 0 ((i) + (1)).toNat ≤ 2147483647) => ?_)
    rw [show qz_I (ow h v) 0 ((i) + (1)).toNat = qz_I h 0 ((i) + (1)).toNat from sc _, ea1]
    refine ez_cv hBo t770 rfl rfl rfl tq_75 rfl rfl rfl (rd_msize hBo hX.1 pS pX ar1 (fun w9 => absurd w9 (by omega)) (fun _ g3 b1 b2 => ez_K1 ?_))
    have FN := tg_as hb hn b2 b1
    rw [← ev]
    have b0 := b2.2.2
    refine ez_go (n := 2) (pc' := 1213) (L' := [(6, .inl (v)), (5, .inl (0)), (4, .inl (i)), (0, .inr (.inr (some (0)))), (1, .inr (.inr (some (192)))), (2, .inr (.inr (some (770)))), (3, .inr (.inr (some (805))))]) (st' := []) rfl ?_
    refine ez_less [(4, .inl (i)), (0, .inr (.inr (some (0)))), (1, .inr (.inr (some (192)))), (2, .inr (.inr (some (770)))), (3, .inr (.inr (some (805))))] rfl ⟨rfl, rfl, rfl, rfl, rfl, trivial⟩ ?_
    exact k _ _ FN.1 FN.2

end EzPs
/-! bytes: how many. (Written by wip/p2/py/pvx2.py.) -/
def uws : List Int → Int
  | [] => 0
  | p :: l => uw p + uws l
theorem uws_app : ∀ (l m : List Int), uws (l ++ m) = uws l + uws m
  | [], m => by show uws m = 0 + uws m; omega
  | p :: l, m => by show uw p + uws (l ++ m) = uw p + uws l + uws m; rw [uws_app l m]; omega
theorem uws_bd : ∀ (l : List Int), 0 ≤ uws l ∧ uws l ≤ 4 * (l.length : Int)
  | [] => by show (0 : Int) ≤ 0 ∧ (0 : Int) ≤ 4 * ((0 : Nat) : Int); omega
  | p :: l => by
    have a := uws_bd l; have b := uw_bd p
    show 0 ≤ uw p + uws l ∧ uw p + uws l ≤ 4 * ((l.length + 1 : Nat) : Int); omega
theorem uws_tk {l : List Int} {i : Nat} (h : i < l.length) : uws (l.take (i + 1)) = uws (l.take i) + uw (uX l (i : Int)) := by
  have e : l[i]? = some (uX l (i : Int)) := uX_e (u := l) (j := (i : Int)) (by rw [Int.toNat_natCast]; exact h)
  rw [List.take_add_one, e, Option.toList_some, uws_app]
  show uws (l.take i) + (uw (uX l (i : Int)) + 0) = _; omega
theorem uws_le {l : List Int} (i : Nat) : uws (l.take i) ≤ 4 * (l.length : Int) := by
  have := (uws_bd (l.take i)).2
  have h : (l.take i).length ≤ l.length := by rw [List.length_take]; omega
  omega
def sur (p : Int) : Prop := 55296 ≤ p ∧ p ≤ 57343
section EzBy
variable {d : Nat} {h : cz_H} {τ : Nat → Nat} {P Q : cz_F → Prop} {X : Nat → List Int} {l : List Int} {r : Nat}
theorem rd_hsur_l (hB : ez_B τ h) (tr : τ r = 88) (a : tx h r l) (pl : ptl l) (l2 : l.length ≤ 2000) (k1 : (∃ x, x ∈ l ∧ sur x) → Q (.inl (some (ez_v (.inl 1))), h)) (k0 : (∀ x, x ∈ l → ¬ sur x) → Q (.inl (some (ez_v (.inl 0))), h)) : ∀ (n : Nat) (i : Int), n = ((l.length : Int) - i).toNat → 0 ≤ i → i ≤ (l.length : Int) → (∀ (j : Nat) v, j < i.toNat → l[j]? = some v → ¬ sur v) → ez_W (d + 1) cm_14 2 [(1, .inl (i)), (0, .inr (.inr (some (r))))] [] h Q := by
  intro n
  induction n with
  | zero =>
    intro i hn0 i0 i1 hno
    refine ez_go (n := 2) (pc' := 4) (L' := [(1, .inl (i)), (0, .inr (.inr (some (r))))]) (st' := [.inr (.inr (some (r))), .inl (i)]) rfl ?_
    refine ez_gI hB tr rfl rfl tq_88 rfl rfl (fun (b1 : 0 ≤ qz_I h r 1) (b1' : qz_I h r 1 ≤ 2000) => ?_)
    rw [show qz_I h r 1 = (l.length : Int) from a.1]
    refine ez_icmp rfl rfl ⟨by first | omega | exact (sz_i32 _).1, by first | omega | exact (sz_i32 _).2⟩ ⟨by first | omega | exact (sz_i32 _).1, by first | omega | exact (sz_i32 _).2⟩ (fun (c2 : ((l.length : Int)) ≤ (i)) => ?_) (fun (c2 : ¬(((l.length : Int)) ≤ (i))) => ?_)
    · skip
      refine ez_go (n := 1) (pc' := 31) (L' := [(1, .inl (i)), (0, .inr (.inr (some (r))))]) (st' := [.inl (0)]) rfl ?_
      exact ez_retZ rfl rfl (by decide) (k0 (fun x hx => by obtain ⟨j, hj⟩ := List.getElem?_of_mem hx; exact hno j x (by have := (List.getElem?_eq_some_iff.mp hj).1; omega) hj))
    · exfalso; omega
  | succ n ih =>
    intro i hn0 i0 i1 hno
    refine ez_go (n := 2) (pc' := 4) (L' := [(1, .inl (i)), (0, .inr (.inr (some (r))))]) (st' := [.inr (.inr (some (r))), .inl (i)]) rfl ?_
    refine ez_gI hB tr rfl rfl tq_88 rfl rfl (fun (b1 : 0 ≤ qz_I h r 1) (b1' : qz_I h r 1 ≤ 2000) => ?_)
    rw [show qz_I h r 1 = (l.length : Int) from a.1]
    refine ez_icmp rfl rfl ⟨by first | omega | exact (sz_i32 _).1, by first | omega | exact (sz_i32 _).2⟩ ⟨by first | omega | exact (sz_i32 _).1, by first | omega | exact (sz_i32 _).2⟩ (fun (c2 : ((l.length : Int)) ≤ (i)) => ?_) (fun (c2 : ¬(((l.length : Int)) ≤ (i))) => ?_)
    · skip
      refine ez_go (n := 1) (pc' := 31) (L' := [(1, .inl (i)), (0, .inr (.inr (some (r))))]) (st' := [.inl (0)]) rfl ?_
      exact ez_retZ rfl rfl (by decide) (k0 (fun x hx => by obtain ⟨j, hj⟩ := List.getElem?_of_mem hx; exact hno j x (by have := (List.getElem?_eq_some_iff.mp hj).1; omega) hj))
    · skip
      refine ez_go (n := 1) (pc' := 11) (L' := [(1, .inl (i)), (0, .inr (.inr (some (r))))]) (st' := [.inr (.inr (some (r)))]) rfl ?_
      refine ez_g3 hB tr rfl rfl tq_88 rfl rfl (fun (t3 : _ = 89) => ?_)
      refine ez_go (n := 1) (pc' := 15) (L' := [(1, .inl (i)), (0, .inr (.inr (some (r))))]) (st' := [.inl (i), .inr (.inr (some (r + 1)))]) rfl ?_
      have n5 : 2000 ≤ qz_N h (r + 1) ∧ qz_N h (r + 1) ≤ 2000 := ez_len hB t3 tq_89 rfl
      refine ez_aI hB t3 rfl tq_89 rfl rfl (by omega) (by omega) (fun (b4 : -2147483648 ≤ qz_I h (r + 1) (i).toNat) (b4' : qz_I h (r + 1) (i).toNat ≤ 2147483647) => ?_)
      have l9 : (i).toNat < l.length := by omega
      have pb := uX_ptl pl l9
      rw [show qz_I h (r + 1) (i).toNat = uX l i from uX_tx a l9]
      refine ez_cs hB.2.1 rfl rfl rfl rfl rfl (rd_isSurr ⟨by omega, by omega⟩ (fun sr => ez_K1 ?_) (fun sr => ez_K1 ?_))
      · skip
        refine ez_if rfl rfl ⟨by decide, by decide⟩ (fun (c6 : (1 : Int) = (0)) => absurd c6 (by decide)) (fun _ => ?_)
        refine ez_go (n := 1) (pc' := 23) (L' := [(1, .inl (i)), (0, .inr (.inr (some (r))))]) (st' := [.inl (1)]) rfl ?_
        exact ez_retZ rfl rfl (by decide) (k1 ⟨uX l i, List.mem_of_getElem? (uX_e l9), sr⟩)
      · skip
        refine ez_if rfl rfl ⟨by decide, by decide⟩ (fun _ => ?_) (fun (c7 : ¬((0 : Int) = (0))) => absurd c7 (by decide))
        refine ez_go (n := 2) (pc' := 2) (L' := [(1, .inl (i + 1)), (0, .inr (.inr (some (r))))]) (st' := []) rfl ?_
        refine ez_less [(1, .inl (i + 1)), (0, .inr (.inr (some (r))))] rfl ⟨rfl, rfl, trivial⟩ ?_
        refine ih (i + 1) (by omega) (by omega) (by omega) (fun j v hj hv => ?_)
        by_cases e : j = (i).toNat
        · rw [e, uX_e l9] at hv
          cases hv; exact sr
        · exact hno j v (by omega) hv

theorem rd_hsur (hB : ez_B τ h) (tr : τ r = 88) (a : tx h r l) (pl : ptl l) (l2 : l.length ≤ 2000) (k1 : (∃ x, x ∈ l ∧ sur x) → Q (.inl (some (ez_v (.inl 1))), h)) (k0 : (∀ x, x ∈ l → ¬ sur x) → Q (.inl (some (ez_v (.inl 0))), h)) : ez_W (d + 1) cm_14 0 [(0, .inr (.inr (some (r))))] [] h Q := by
  refine ez_go (n := 2) (pc' := 2) (L' := [(1, .inl (0)), (0, .inr (.inr (some (r))))]) (st' := []) rfl ?_
  refine ez_less [(1, .inl (0)), (0, .inr (.inr (some (r))))] rfl ⟨rfl, rfl, trivial⟩ ?_
  exact rd_hsur_l hB tr a pl l2 k1 k0 _ 0 rfl (by omega) (by omega) (fun j v hj => by omega)

theorem rd_wu8_l {p n0 : Int} (t192 : τ 192 = 44) (n00 : 0 ≤ n0) (n01 : n0 + 4 ≤ 65536) (k : ∀ g, ez_B τ g → ez_fr (nz_P2 192 194) h g → (∀ j, j ≠ 3 → qz_I g 192 j = qz_I h 192 j) → qz_I g 192 3 = n0 + uw p → Q (.inl none, g)) {ld : Int} : ∀ (n : Nat) (kk : Int) (g : cz_H), n = (uw p - kk).toNat → 0 ≤ kk → kk ≤ uw p → ez_B τ g → ez_fr (nz_P2 192 194) h g → (∀ j, j ≠ 3 → qz_I g 192 j = qz_I h 192 j) → qz_I g 192 3 = n0 + kk → ez_W (d + 1) cm_42 27 [(4, .inl (kk)), (3, .inl (ld)), (2, .inl (uw p)), (0, .inr (.inr (some (192)))), (1, .inl (p))] [] g Q := by
  have wb := uw_bd p
  intro n
  induction n with
  | zero =>
    intro kk g hn0 k0 k1 hBg hf ho hk
    refine ez_go (n := 2) (pc' := 30) (L' := [(4, .inl (kk)), (3, .inl (ld)), (2, .inl (uw p)), (0, .inr (.inr (some (192)))), (1, .inl (p))]) (st' := [.inl (uw p), .inl (kk)]) rfl ?_
    refine ez_icmp rfl rfl ⟨by first | omega | exact (sz_i32 _).1, by first | omega | exact (sz_i32 _).2⟩ ⟨by first | omega | exact (sz_i32 _).1, by first | omega | exact (sz_i32 _).2⟩ (fun (c1 : (uw p) ≤ (kk)) => ?_) (fun (c1 : ¬((uw p) ≤ (kk))) => ?_)
    · skip
      exact ez_ret0 rfl rfl (k g hBg hf ho (by rw [hk]; omega))
    · exfalso; omega
  | succ n ih =>
    intro kk g hn0 k0 k1 hBg hf ho hk
    refine ez_go (n := 2) (pc' := 30) (L' := [(4, .inl (kk)), (3, .inl (ld)), (2, .inl (uw p)), (0, .inr (.inr (some (192)))), (1, .inl (p))]) (st' := [.inl (uw p), .inl (kk)]) rfl ?_
    refine ez_icmp rfl rfl ⟨by first | omega | exact (sz_i32 _).1, by first | omega | exact (sz_i32 _).2⟩ ⟨by first | omega | exact (sz_i32 _).1, by first | omega | exact (sz_i32 _).2⟩ (fun (c1 : (uw p) ≤ (kk)) => ?_) (fun (c1 : ¬((uw p) ≤ (kk))) => ?_)
    · skip
      exact ez_ret0 rfl rfl (k g hBg hf ho (by rw [hk]; omega))
    · skip
      refine ez_go (n := 11) (pc' := 48) (L' := [(5, .inl ((((Int32.ofInt (p)).toUInt32 >>> ((Int32.ofInt ((6) * (((uw p) - (1)) - (kk)))).toUInt32 &&& Int32.toUInt32 31)).toInt32).toInt)), (4, .inl (kk)), (3, .inl (ld)), (2, .inl (uw p)), (0, .inr (.inr (some (192)))), (1, .inl (p))]) (st' := [.inl (kk)]) rfl ?_
      refine ez_if rfl rfl ⟨by first | omega | exact (sz_i32 _).1, by first | omega | exact (sz_i32 _).2⟩ (fun (c2 : (kk) ≠ (0)) => ?_) (fun (c2 : ¬((kk) ≠ (0))) => ?_)
      · skip
        refine ez_go (n := 7) (pc' := 70) (L' := [(5, .inl ((Int32.ofInt (128) ||| Int32.ofInt ((Int32.ofInt ((((Int32.ofInt (p)).toUInt32 >>> ((Int32.ofInt ((6) * (((uw p) - (1)) - (kk)))).toUInt32 &&& Int32.toUInt32 31)).toInt32).toInt) &&& Int32.ofInt (63)).toInt)).toInt)), (4, .inl (kk)), (3, .inl (ld)), (2, .inl (uw p)), (0, .inr (.inr (some (192)))), (1, .inl (p))]) (st' := [.inr (.inr (some (192)))]) rfl ?_
        refine ez_gC (p := 194) (tg := 46) hBg t192 rfl rfl tq_44 rfl rfl (fun (t194 : _ = 46) => ?_)
        refine ez_go (n := 1) (pc' := 74) (L' := [(5, .inl ((Int32.ofInt (128) ||| Int32.ofInt ((Int32.ofInt ((((Int32.ofInt (p)).toUInt32 >>> ((Int32.ofInt ((6) * (((uw p) - (1)) - (kk)))).toUInt32 &&& Int32.toUInt32 31)).toInt32).toInt) &&& Int32.ofInt (63)).toInt)).toInt)), (4, .inl (kk)), (3, .inl (ld)), (2, .inl (uw p)), (0, .inr (.inr (some (192)))), (1, .inl (p))]) (st' := [.inr (.inr (some (192))), .inr (.inr (some (194)))]) rfl ?_
        refine ez_gI hBg t192 rfl rfl tq_44 rfl rfl (fun (b3 : 0 ≤ qz_I g 192 3) (b3' : qz_I g 192 3 ≤ 65536) => ?_)
        rw [show qz_I g 192 3 = n0 + kk from hk]
        refine ez_go (n := 2) (pc' := 80) (L' := [(5, .inl ((Int32.ofInt (128) ||| Int32.ofInt ((Int32.ofInt ((((Int32.ofInt (p)).toUInt32 >>> ((Int32.ofInt ((6) * (((uw p) - (1)) - (kk)))).toUInt32 &&& Int32.toUInt32 31)).toInt32).toInt) &&& Int32.ofInt (63)).toInt)).toInt)), (4, .inl (kk)), (3, .inl (ld)), (2, .inl (uw p)), (0, .inr (.inr (some (192)))), (1, .inl (p))]) (st' := [.inl ((Int32.ofInt ((Int32.ofInt (128) ||| Int32.ofInt ((Int32.ofInt ((((Int32.ofInt (p)).toUInt32 >>> ((Int32.ofInt ((6) * (((uw p) - (1)) - (kk)))).toUInt32 &&& Int32.toUInt32 31)).toInt32).toInt) &&& Int32.ofInt (63)).toInt)).toInt)).toInt8.toInt32.toInt), .inl (n0 + kk), .inr (.inr (some (194)))]) rfl ?_
        have n6 : 65536 ≤ qz_N g 194 ∧ qz_N g 194 ≤ 65536 := ez_len hBg t194 tq_46 rfl
        refine ez_ab hBg t194 rfl tq_46 rfl rfl (by omega) (by omega) (by first | omega | exact (i8_bd _).1) (by first | omega | exact (i8_bd _).2) (fun hB4 w5 => ?_)
        have oA : ∀ q j, q ≠ 194 → qz_I (dz_put g 194 (n0 + kk).toNat (ez_v (.inl ((Int32.ofInt ((Int32.ofInt (128) ||| Int32.ofInt ((Int32.ofInt ((((Int32.ofInt (p)).toUInt32 >>> ((Int32.ofInt ((6) * (((uw p) - (1)) - (kk)))).toUInt32 &&& Int32.toUInt32 31)).toInt32).toInt) &&& Int32.ofInt (63)).toInt)).toInt)).toInt8.toInt32.toInt)))) q j = qz_I g q j := fun q j w => ez_put_I (fun e => w e.1)
        have fA : ez_fr (nz_P2 192 194) h (dz_put g 194 (n0 + kk).toNat (ez_v (.inl ((Int32.ofInt ((Int32.ofInt (128) ||| Int32.ofInt ((Int32.ofInt ((((Int32.ofInt (p)).toUInt32 >>> ((Int32.ofInt ((6) * (((uw p) - (1)) - (kk)))).toUInt32 &&& Int32.toUInt32 31)).toInt32).toInt) &&& Int32.ofInt (63)).toInt)).toInt)).toInt8.toInt32.toInt)))) := hf.put (by unfold nz_P2; rfl) _ _
        have hA := hB4
        generalize (dz_put g 194 (n0 + kk).toNat (ez_v (.inl ((Int32.ofInt ((Int32.ofInt (128) ||| Int32.ofInt ((Int32.ofInt ((((Int32.ofInt (p)).toUInt32 >>> ((Int32.ofInt ((6) * (((uw p) - (1)) - (kk)))).toUInt32 &&& Int32.toUInt32 31)).toInt32).toInt) &&& Int32.ofInt (63)).toInt)).toInt)).toInt8.toInt32.toInt)))) = gA at *
        have e3 : qz_I gA 192 3 = n0 + kk := (oA 192 3 (by decide)).trans hk
        refine ez_go (n := 2) (pc' := 83) (L' := [(5, .inl ((Int32.ofInt (128) ||| Int32.ofInt ((Int32.ofInt ((((Int32.ofInt (p)).toUInt32 >>> ((Int32.ofInt ((6) * (((uw p) - (1)) - (kk)))).toUInt32 &&& Int32.toUInt32 31)).toInt32).toInt) &&& Int32.ofInt (63)).toInt)).toInt)), (4, .inl (kk)), (3, .inl (ld)), (2, .inl (uw p)), (0, .inr (.inr (some (192)))), (1, .inl (p))]) (st' := [.inr (.inr (some (192))), .inr (.inr (some (192)))]) rfl ?_
        refine ez_gI hA t192 rfl rfl tq_44 rfl rfl (fun (b7 : 0 ≤ qz_I gA 192 3) (b7' : qz_I gA 192 3 ≤ 65536) => ?_)
        rw [show qz_I gA 192 3 = n0 + kk from e3]
        refine ez_go (n := 2) (pc' := 88) (L' := [(5, .inl ((Int32.ofInt (128) ||| Int32.ofInt ((Int32.ofInt ((((Int32.ofInt (p)).toUInt32 >>> ((Int32.ofInt ((6) * (((uw p) - (1)) - (kk)))).toUInt32 &&& Int32.toUInt32 31)).toInt32).toInt) &&& Int32.ofInt (63)).toInt)).toInt)), (4, .inl (kk)), (3, .inl (ld)), (2, .inl (uw p)), (0, .inr (.inr (some (192)))), (1, .inl (p))]) (st' := [.inl ((n0 + kk) + (1)), .inr (.inr (some (192)))]) rfl ?_
        refine ez_pf hA t192 rfl rfl tq_44 rfl rfl rfl rfl (ez_vdI rfl rfl (by omega) (by omega)) (fun hB8 w9 => ?_)
        have v3 : qz_I (dz_put gA 192 3 (ez_v (.inl ((n0 + kk) + (1))))) 192 3 = n0 + (kk + 1) := w9.trans ((rz_rd ⟨by omega, by omega⟩).trans (by omega))
        have o3 : ∀ j, j ≠ 3 → qz_I (dz_put gA 192 3 (ez_v (.inl ((n0 + kk) + (1))))) 192 j = qz_I gA 192 j := fun j hj => ez_put_I (fun e => hj e.2)
        have fB : ez_fr (nz_P2 192 194) h (dz_put gA 192 3 (ez_v (.inl ((n0 + kk) + (1))))) := fA.put (by unfold nz_P2; rfl) _ _
        have hB9 := hB8
        generalize (dz_put gA 192 3 (ez_v (.inl ((n0 + kk) + (1))))) = gB at *
        refine ez_go (n := 2) (pc' := 27) (L' := [(4, .inl (kk + 1)), (5, .inl ((Int32.ofInt (128) ||| Int32.ofInt ((Int32.ofInt ((((Int32.ofInt (p)).toUInt32 >>> ((Int32.ofInt ((6) * (((uw p) - (1)) - (kk)))).toUInt32 &&& Int32.toUInt32 31)).toInt32).toInt) &&& Int32.ofInt (63)).toInt)).toInt)), (3, .inl (ld)), (2, .inl (uw p)), (0, .inr (.inr (some (192)))), (1, .inl (p))]) (st' := []) rfl ?_
        refine ez_less [(4, .inl (kk + 1)), (3, .inl (ld)), (2, .inl (uw p)), (0, .inr (.inr (some (192)))), (1, .inl (p))] rfl ⟨rfl, rfl, rfl, rfl, rfl, trivial⟩ ?_
        exact ih (kk + 1) gB (by omega) (by omega) (by omega) hB9 fB (fun j hj => (o3 j hj).trans ((oA 192 j (by decide)).trans (ho j hj))) v3
      · skip
        refine ez_go (n := 6) (pc' := 70) (L' := [(5, .inl ((Int32.ofInt (ld) ||| Int32.ofInt ((((Int32.ofInt (p)).toUInt32 >>> ((Int32.ofInt ((6) * (((uw p) - (1)) - (kk)))).toUInt32 &&& Int32.toUInt32 31)).toInt32).toInt)).toInt)), (4, .inl (kk)), (3, .inl (ld)), (2, .inl (uw p)), (0, .inr (.inr (some (192)))), (1, .inl (p))]) (st' := [.inr (.inr (some (192)))]) rfl ?_
        refine ez_gC (p := 194) (tg := 46) hBg t192 rfl rfl tq_44 rfl rfl (fun (t194 : _ = 46) => ?_)
        refine ez_go (n := 1) (pc' := 74) (L' := [(5, .inl ((Int32.ofInt (ld) ||| Int32.ofInt ((((Int32.ofInt (p)).toUInt32 >>> ((Int32.ofInt ((6) * (((uw p) - (1)) - (kk)))).toUInt32 &&& Int32.toUInt32 31)).toInt32).toInt)).toInt)), (4, .inl (kk)), (3, .inl (ld)), (2, .inl (uw p)), (0, .inr (.inr (some (192)))), (1, .inl (p))]) (st' := [.inr (.inr (some (192))), .inr (.inr (some (194)))]) rfl ?_
        refine ez_gI hBg t192 rfl rfl tq_44 rfl rfl (fun (b10 : 0 ≤ qz_I g 192 3) (b10' : qz_I g 192 3 ≤ 65536) => ?_)
        rw [show qz_I g 192 3 = n0 + kk from hk]
        refine ez_go (n := 2) (pc' := 80) (L' := [(5, .inl ((Int32.ofInt (ld) ||| Int32.ofInt ((((Int32.ofInt (p)).toUInt32 >>> ((Int32.ofInt ((6) * (((uw p) - (1)) - (kk)))).toUInt32 &&& Int32.toUInt32 31)).toInt32).toInt)).toInt)), (4, .inl (kk)), (3, .inl (ld)), (2, .inl (uw p)), (0, .inr (.inr (some (192)))), (1, .inl (p))]) (st' := [.inl ((Int32.ofInt ((Int32.ofInt (ld) ||| Int32.ofInt ((((Int32.ofInt (p)).toUInt32 >>> ((Int32.ofInt ((6) * (((uw p) - (1)) - (kk)))).toUInt32 &&& Int32.toUInt32 31)).toInt32).toInt)).toInt)).toInt8.toInt32.toInt), .inl (n0 + kk), .inr (.inr (some (194)))]) rfl ?_
        have n13 : 65536 ≤ qz_N g 194 ∧ qz_N g 194 ≤ 65536 := ez_len hBg t194 tq_46 rfl
        refine ez_ab hBg t194 rfl tq_46 rfl rfl (by omega) (by omega) (by first | omega | exact (i8_bd _).1) (by first | omega | exact (i8_bd _).2) (fun hB11 w12 => ?_)
        have oA : ∀ q j, q ≠ 194 → qz_I (dz_put g 194 (n0 + kk).toNat (ez_v (.inl ((Int32.ofInt ((Int32.ofInt (ld) ||| Int32.ofInt ((((Int32.ofInt (p)).toUInt32 >>> ((Int32.ofInt ((6) * (((uw p) - (1)) - (kk)))).toUInt32 &&& Int32.toUInt32 31)).toInt32).toInt)).toInt)).toInt8.toInt32.toInt)))) q j = qz_I g q j := fun q j w => ez_put_I (fun e => w e.1)
        have fA : ez_fr (nz_P2 192 194) h (dz_put g 194 (n0 + kk).toNat (ez_v (.inl ((Int32.ofInt ((Int32.ofInt (ld) ||| Int32.ofInt ((((Int32.ofInt (p)).toUInt32 >>> ((Int32.ofInt ((6) * (((uw p) - (1)) - (kk)))).toUInt32 &&& Int32.toUInt32 31)).toInt32).toInt)).toInt)).toInt8.toInt32.toInt)))) := hf.put (by unfold nz_P2; rfl) _ _
        have hA := hB11
        generalize (dz_put g 194 (n0 + kk).toNat (ez_v (.inl ((Int32.ofInt ((Int32.ofInt (ld) ||| Int32.ofInt ((((Int32.ofInt (p)).toUInt32 >>> ((Int32.ofInt ((6) * (((uw p) - (1)) - (kk)))).toUInt32 &&& Int32.toUInt32 31)).toInt32).toInt)).toInt)).toInt8.toInt32.toInt)))) = gA at *
        have e3 : qz_I gA 192 3 = n0 + kk := (oA 192 3 (by decide)).trans hk
        refine ez_go (n := 2) (pc' := 83) (L' := [(5, .inl ((Int32.ofInt (ld) ||| Int32.ofInt ((((Int32.ofInt (p)).toUInt32 >>> ((Int32.ofInt ((6) * (((uw p) - (1)) - (kk)))).toUInt32 &&& Int32.toUInt32 31)).toInt32).toInt)).toInt)), (4, .inl (kk)), (3, .inl (ld)), (2, .inl (uw p)), (0, .inr (.inr (some (192)))), (1, .inl (p))]) (st' := [.inr (.inr (some (192))), .inr (.inr (some (192)))]) rfl ?_
        refine ez_gI hA t192 rfl rfl tq_44 rfl rfl (fun (b14 : 0 ≤ qz_I gA 192 3) (b14' : qz_I gA 192 3 ≤ 65536) => ?_)
        rw [show qz_I gA 192 3 = n0 + kk from e3]
        refine ez_go (n := 2) (pc' := 88) (L' := [(5, .inl ((Int32.ofInt (ld) ||| Int32.ofInt ((((Int32.ofInt (p)).toUInt32 >>> ((Int32.ofInt ((6) * (((uw p) - (1)) - (kk)))).toUInt32 &&& Int32.toUInt32 31)).toInt32).toInt)).toInt)), (4, .inl (kk)), (3, .inl (ld)), (2, .inl (uw p)), (0, .inr (.inr (some (192)))), (1, .inl (p))]) (st' := [.inl ((n0 + kk) + (1)), .inr (.inr (some (192)))]) rfl ?_
        refine ez_pf hA t192 rfl rfl tq_44 rfl rfl rfl rfl (ez_vdI rfl rfl (by omega) (by omega)) (fun hB15 w16 => ?_)
        have v3 : qz_I (dz_put gA 192 3 (ez_v (.inl ((n0 + kk) + (1))))) 192 3 = n0 + (kk + 1) := w16.trans ((rz_rd ⟨by omega, by omega⟩).trans (by omega))
        have o3 : ∀ j, j ≠ 3 → qz_I (dz_put gA 192 3 (ez_v (.inl ((n0 + kk) + (1))))) 192 j = qz_I gA 192 j := fun j hj => ez_put_I (fun e => hj e.2)
        have fB : ez_fr (nz_P2 192 194) h (dz_put gA 192 3 (ez_v (.inl ((n0 + kk) + (1))))) := fA.put (by unfold nz_P2; rfl) _ _
        have hB9 := hB15
        generalize (dz_put gA 192 3 (ez_v (.inl ((n0 + kk) + (1))))) = gB at *
        refine ez_go (n := 2) (pc' := 27) (L' := [(4, .inl (kk + 1)), (5, .inl ((Int32.ofInt (ld) ||| Int32.ofInt ((((Int32.ofInt (p)).toUInt32 >>> ((Int32.ofInt ((6) * (((uw p) - (1)) - (kk)))).toUInt32 &&& Int32.toUInt32 31)).toInt32).toInt)).toInt)), (3, .inl (ld)), (2, .inl (uw p)), (0, .inr (.inr (some (192)))), (1, .inl (p))]) (st' := []) rfl ?_
        refine ez_less [(4, .inl (kk + 1)), (3, .inl (ld)), (2, .inl (uw p)), (0, .inr (.inr (some (192)))), (1, .inl (p))] rfl ⟨rfl, rfl, rfl, rfl, rfl, trivial⟩ ?_
        exact ih (kk + 1) gB (by omega) (by omega) (by omega) hB9 fB (fun j hj => (o3 j hj).trans ((oA 192 j (by decide)).trans (ho j hj))) v3

theorem rd_wu8 (hB : ez_B τ h) {p n0 : Int} (t192 : τ 192 = 44) (n00 : 0 ≤ n0) (n01 : n0 + 4 ≤ 65536) (k : ∀ g, ez_B τ g → ez_fr (nz_P2 192 194) h g → (∀ j, j ≠ 3 → qz_I g 192 j = qz_I h 192 j) → qz_I g 192 3 = n0 + uw p → Q (.inl none, g)) (pb : 0 ≤ p ∧ p ≤ 1114111) (hn : qz_I h 192 3 = n0) : ez_W (d + 1) cm_42 0 [(0, .inr (.inr (some (192)))), (1, .inl (p))] [] h Q := by
  refine ez_go (n := 1) (pc' := 1) (L' := [(0, .inr (.inr (some (192)))), (1, .inl (p))]) (st' := [.inl (p)]) rfl ?_
  refine ez_cs hB.2.1 rfl rfl rfl rfl rfl (rd_u8w ⟨by omega, by omega⟩ (ez_K1 ?_))
  have wb := uw_bd p
  refine ez_go (n := 3) (pc' := 7) (L' := [(2, .inl (uw p)), (0, .inr (.inr (some (192)))), (1, .inl (p))]) (st' := [.inl (1), .inl (uw p)]) rfl ?_
  refine ez_icmp rfl rfl ⟨by first | omega | exact (sz_i32 _).1, by first | omega | exact (sz_i32 _).2⟩ ⟨by first | omega | exact (sz_i32 _).1, by first | omega | exact (sz_i32 _).2⟩ (fun (c1 : (uw p) ≠ (1)) => ?_) (fun (c1 : ¬((uw p) ≠ (1))) => ?_)
  · skip
    refine ez_go (n := 8) (pc' := 27) (L' := [(4, .inl (0)), (3, .inl ((Int32.ofInt ((Int32.ofInt (3840) >>> (Int32.ofInt (uw p) &&& 31)).toInt) &&& Int32.ofInt (255)).toInt)), (2, .inl (uw p)), (0, .inr (.inr (some (192)))), (1, .inl (p))]) (st' := []) rfl ?_
    refine ez_less [(4, .inl (0)), (3, .inl ((Int32.ofInt ((Int32.ofInt (3840) >>> (Int32.ofInt (uw p) &&& 31)).toInt) &&& Int32.ofInt (255)).toInt)), (2, .inl (uw p)), (0, .inr (.inr (some (192)))), (1, .inl (p))] rfl ⟨rfl, rfl, rfl, rfl, rfl, trivial⟩ ?_
    exact rd_wu8_l t192 n00 n01 k _ 0 h rfl (by omega) (by omega) hB (ez_fr.refl _ h) (fun _ _ => rfl) (by rw [hn]; omega)
  · skip
    refine ez_go (n := 5) (pc' := 27) (L' := [(4, .inl (0)), (3, .inl (0)), (2, .inl (uw p)), (0, .inr (.inr (some (192)))), (1, .inl (p))]) (st' := []) rfl ?_
    refine ez_less [(4, .inl (0)), (3, .inl (0)), (2, .inl (uw p)), (0, .inr (.inr (some (192)))), (1, .inl (p))] rfl ⟨rfl, rfl, rfl, rfl, rfl, trivial⟩ ?_
    exact rd_wu8_l t192 n00 n01 k _ 0 h rfl (by omega) (by omega) hB (ez_fr.refl _ h) (fun _ _ => rfl) (by rw [hn]; omega)

theorem rd_cby_l {t : Int} (t192 : τ 192 = 44) (t0 : 0 ≤ t) (t7 : t ≤ 7) (tr : τ (754 + 2 * (t).toNat) = 88) (tt : tx h (754 + 2 * (t).toNat) (X (t).toNat) ∧ ptl (X (t).toNat) ∧ (X (t).toNat).length ≤ 2000) (k : ∀ g, ez_B τ g → ez_fr (nz_P2 192 194) h g → (∀ j, j ≠ 3 → qz_I g 192 j = qz_I h 192 j) → qz_I g 192 3 = uws (X (t).toNat) → Q (.inl (some (ez_v (.inl (uws (X (t).toNat))))), g)) : ∀ (n : Nat) (i : Int) (g : cz_H), n = (((X (t).toNat).length : Int) - i).toNat → 0 ≤ i → i ≤ ((X (t).toNat).length : Int) → ez_B τ g → ez_fr (nz_P2 192 194) h g → (∀ j, j ≠ 3 → qz_I g 192 j = qz_I h 192 j) → qz_I g 192 3 = uws ((X (t).toNat).take (i).toNat) → ez_W (d + 2) cm_4 33 [(3, .inl (i)), (2, .inr (.inr (some (754 + 2 * (t).toNat)))), (0, .inr (.inr (some (192)))), (1, .inl (t))] [] g Q := by
  have l2 := tt.2.2
  intro n
  induction n with
  | zero =>
    intro i g hn0 i0 i1 hBg hf ho hk
    refine ez_go (n := 2) (pc' := 35) (L' := [(3, .inl (i)), (2, .inr (.inr (some (754 + 2 * (t).toNat)))), (0, .inr (.inr (some (192)))), (1, .inl (t))]) (st' := [.inr (.inr (some (754 + 2 * (t).toNat))), .inl (i)]) rfl ?_
    refine ez_gI hBg tr rfl rfl tq_88 rfl rfl (fun (b1 : 0 ≤ qz_I g (754 + 2 * (t).toNat) 1) (b1' : qz_I g (754 + 2 * (t).toNat) 1 ≤ 2000) => ?_)
    rw [show qz_I g (754 + 2 * (t).toNat) 1 = ((X (t).toNat).length : Int) from (hf.I (nz_P2_f (by omega) (by omega)) 1).trans tt.1.1]
    refine ez_icmp rfl rfl ⟨by first | omega | exact (sz_i32 _).1, by first | omega | exact (sz_i32 _).2⟩ ⟨by first | omega | exact (sz_i32 _).1, by first | omega | exact (sz_i32 _).2⟩ (fun (c2 : (((X (t).toNat).length : Int)) ≤ (i)) => ?_) (fun (c2 : ¬((((X (t).toNat).length : Int)) ≤ (i))) => ?_)
    · skip
      refine ez_go (n := 1) (pc' := 58) (L' := [(3, .inl (i)), (2, .inr (.inr (some (754 + 2 * (t).toNat)))), (0, .inr (.inr (some (192)))), (1, .inl (t))]) (st' := [.inr (.inr (some (192)))]) rfl ?_
      refine ez_gI hBg t192 rfl rfl tq_44 rfl rfl (fun (b3 : 0 ≤ qz_I g 192 3) (b3' : qz_I g 192 3 ≤ 65536) => ?_)
      have ei : (X (t).toNat).take (i).toNat = X (t).toNat := List.take_of_length_le (by omega)
      rw [ei] at hk
      rw [show qz_I g 192 3 = uws (X (t).toNat) from hk]
      exact ez_retI rfl rfl (k g hBg hf ho hk)
    · exfalso; omega
  | succ n ih =>
    intro i g hn0 i0 i1 hBg hf ho hk
    refine ez_go (n := 2) (pc' := 35) (L' := [(3, .inl (i)), (2, .inr (.inr (some (754 + 2 * (t).toNat)))), (0, .inr (.inr (some (192)))), (1, .inl (t))]) (st' := [.inr (.inr (some (754 + 2 * (t).toNat))), .inl (i)]) rfl ?_
    refine ez_gI hBg tr rfl rfl tq_88 rfl rfl (fun (b1 : 0 ≤ qz_I g (754 + 2 * (t).toNat) 1) (b1' : qz_I g (754 + 2 * (t).toNat) 1 ≤ 2000) => ?_)
    rw [show qz_I g (754 + 2 * (t).toNat) 1 = ((X (t).toNat).length : Int) from (hf.I (nz_P2_f (by omega) (by omega)) 1).trans tt.1.1]
    refine ez_icmp rfl rfl ⟨by first | omega | exact (sz_i32 _).1, by first | omega | exact (sz_i32 _).2⟩ ⟨by first | omega | exact (sz_i32 _).1, by first | omega | exact (sz_i32 _).2⟩ (fun (c2 : (((X (t).toNat).length : Int)) ≤ (i)) => ?_) (fun (c2 : ¬((((X (t).toNat).length : Int)) ≤ (i))) => ?_)
    · skip
      refine ez_go (n := 1) (pc' := 58) (L' := [(3, .inl (i)), (2, .inr (.inr (some (754 + 2 * (t).toNat)))), (0, .inr (.inr (some (192)))), (1, .inl (t))]) (st' := [.inr (.inr (some (192)))]) rfl ?_
      refine ez_gI hBg t192 rfl rfl tq_44 rfl rfl (fun (b3 : 0 ≤ qz_I g 192 3) (b3' : qz_I g 192 3 ≤ 65536) => ?_)
      have ei : (X (t).toNat).take (i).toNat = X (t).toNat := List.take_of_length_le (by omega)
      rw [ei] at hk
      rw [show qz_I g 192 3 = uws (X (t).toNat) from hk]
      exact ez_retI rfl rfl (k g hBg hf ho hk)
    · skip
      refine ez_go (n := 2) (pc' := 43) (L' := [(3, .inl (i)), (2, .inr (.inr (some (754 + 2 * (t).toNat)))), (0, .inr (.inr (some (192)))), (1, .inl (t))]) (st' := [.inr (.inr (some (754 + 2 * (t).toNat))), .inr (.inr (some (192)))]) rfl ?_
      refine ez_g3 hBg tr rfl rfl tq_88 rfl rfl (fun (t4 : _ = 89) => ?_)
      refine ez_go (n := 1) (pc' := 47) (L' := [(3, .inl (i)), (2, .inr (.inr (some (754 + 2 * (t).toNat)))), (0, .inr (.inr (some (192)))), (1, .inl (t))]) (st' := [.inl (i), .inr (.inr (some (754 + 2 * (t).toNat + 1))), .inr (.inr (some (192)))]) rfl ?_
      have n6 : 2000 ≤ qz_N g (754 + 2 * (t).toNat + 1) ∧ qz_N g (754 + 2 * (t).toNat + 1) ≤ 2000 := ez_len hBg t4 tq_89 rfl
      refine ez_aI hBg t4 rfl tq_89 rfl rfl (by omega) (by omega) (fun (b5 : -2147483648 ≤ qz_I g (754 + 2 * (t).toNat + 1) (i).toNat) (b5' : qz_I g (754 + 2 * (t).toNat + 1) (i).toNat ≤ 2147483647) => ?_)
      have l9 : (i).toNat < (X (t).toNat).length := by omega
      have pb := uX_ptl tt.2.1 l9
      rw [show qz_I g (754 + 2 * (t).toNat + 1) (i).toNat = uX (X (t).toNat) i from (hf.I (nz_P2_f (by omega) (by omega)) _).trans (uX_tx tt.1 l9)]
      have ul := uws_le (l := X (t).toNat) (i).toNat
      have ub := (uws_bd ((X (t).toNat).take (i).toNat)).1
      refine ez_cv hBg t192 rfl rfl rfl tq_44 rfl rfl rfl (rd_wu8 (n0 := uws ((X (t).toNat).take (i).toNat)) hBg t192 ub (by omega) (fun g2 hB2 f2 o2 v2 => ez_K0 ?_) pb hk)
      refine ez_go (n := 2) (pc' := 33) (L' := [(3, .inl (i + 1)), (2, .inr (.inr (some (754 + 2 * (t).toNat)))), (0, .inr (.inr (some (192)))), (1, .inl (t))]) (st' := []) rfl ?_
      refine ez_less [(3, .inl (i + 1)), (2, .inr (.inr (some (754 + 2 * (t).toNat)))), (0, .inr (.inr (some (192)))), (1, .inl (t))] rfl ⟨rfl, rfl, rfl, rfl, trivial⟩ ?_
      refine ih (i + 1) g2 (by omega) (by omega) (by omega) hB2 (hf.trans f2) (fun j hj => (o2 j hj).trans (ho j hj)) ?_
      rw [v2, show (i + 1).toNat = (i).toNat + 1 by omega, uws_tk l9, show (((i).toNat : Nat) : Int) = i by omega]

theorem rd_cbytes {t : Int} (hB : ez_B τ h) (hX : jz_X τ) (sl : slt h) (txh : txs h X) (tr : ez_rg t) (hr1 : h.1 + 1 ≤ 600192) (hr2 : h.2.1 + 6 ≤ 7302232) (kA : (t < 0 ∨ 7 < t) → Q (.inr h.1, xc h 1)) (kB : (0 ≤ t ∧ t ≤ 7) → (∃ x, x ∈ X (t).toNat ∧ sur x) → Q (.inr h.1, xc h 3)) (k1 : (0 ≤ t ∧ t ≤ 7) → (∀ x, x ∈ X (t).toNat → ¬ sur x) → ∀ g, ez_B τ g → ez_fr (nz_P2 192 194) h g → (∀ j, j ≠ 3 → qz_I g 192 j = qz_I h 192 j) → qz_I g 192 3 = uws (X (t).toNat) → Q (.inl (some (ez_v (.inl (uws (X (t).toNat))))), g)) : ez_W (d + 8) cm_4 0 [(0, .inr (.inr (some (192)))), (1, .inl (t))] [] h Q := by
  have t192 : τ 192 = 44 := hX 192 (by decide)
  obtain ⟨tr1, tr2⟩ := id tr
  refine ez_go (n := 1) (pc' := 1) (L' := [(0, .inr (.inr (some (192)))), (1, .inl (t))]) (st' := [.inl (t)]) rfl ?_
  refine ez_cs hB.2.1 rfl rfl rfl rfl rfl (rd_reqSlot hB (show ez_rg (t) by assumption) (by omega) (by omega) (fun a1 b1 => ez_K0 ?_) (fun w => ez_Kp (xc_exc hB rfl) rfl (kA (by omega))))
  refine ez_go (n := 1) (pc' := 5) (L' := [(0, .inr (.inr (some (192)))), (1, .inl (t))]) (st' := [.inr (.inr (some (192)))]) rfl ?_
  refine ez_gC (p := 195) (tg := 47) hB t192 rfl rfl tq_44 rfl rfl (fun (t195 : _ = 47) => ?_)
  refine ez_go (n := 1) (pc' := 9) (L' := [(0, .inr (.inr (some (192)))), (1, .inl (t))]) (st' := [.inl (t), .inr (.inr (some (195)))]) rfl ?_
  have n2 : 8 ≤ qz_N h 195 ∧ qz_N h 195 ≤ 8 := ez_len hB t195 tq_47 rfl
  have y3 : 1 ≤ qz_I h 195 (t).toNat ∧ qz_I h 195 (t).toNat ≤ 1000000 := ez_aB hB t195 tq_47 rfl rfl (by decide) (by omega) (by omega)
  have y3' : ((qz_P h 195 (t).toNat : Nat) : Int) + 1 = qz_I h 195 (t).toNat := by unfold qz_P; omega
  refine ez_aR hB t195 rfl tq_47 rfl rfl (by omega) (by omega) (by omega) (fun (t1 : _ = 88) => ?_)
  rw [show qz_P h 195 (t).toNat = 754 + 2 * (t).toNat by unfold qz_P; have := (sl (t).toNat (by omega)).1; omega]
  refine ez_go (n := 2) (pc' := 12) (L' := [(2, .inr (.inr (some (754 + 2 * (t).toNat)))), (0, .inr (.inr (some (192)))), (1, .inl (t))]) (st' := [.inr (.inr (some (754 + 2 * (t).toNat)))]) rfl ?_
  have tt := txh (t).toNat (by omega)
  have tr8 := (mx_tag hX (show (t).toNat < 8 by omega)).2.1
  refine ez_cs hB.2.1 rfl rfl rfl rfl rfl (rd_hsur hB tr8 tt.1 tt.2.1 tt.2.2 (fun sr => ez_K1 ?_) (fun sr => ez_K1 ?_))
  · skip
    refine ez_if rfl rfl ⟨by decide, by decide⟩ (fun (c4 : (1 : Int) = (0)) => absurd c4 (by decide)) (fun _ => ?_)
    exact ez_th rfl rfl (by omega) (by omega) (by omega) rfl (kB (by omega) sr)
  · skip
    refine ez_if rfl rfl ⟨by decide, by decide⟩ (fun _ => ?_) (fun (c5 : ¬((0 : Int) = (0))) => absurd c5 (by decide))
    refine ez_go (n := 2) (pc' := 28) (L' := [(2, .inr (.inr (some (754 + 2 * (t).toNat)))), (0, .inr (.inr (some (192)))), (1, .inl (t))]) (st' := [.inl (0), .inr (.inr (some (192)))]) rfl ?_
    refine ez_pf hB t192 rfl rfl tq_44 rfl rfl rfl rfl (ez_vdI rfl rfl (by omega) (by omega)) (fun hB6 w7 => ?_)
    have v3 : qz_I (dz_put h 192 3 (ez_v (.inl (0)))) 192 3 = 0 := w7.trans (rz_rd ⟨by omega, by omega⟩)
    have o3 : ∀ j, j ≠ 3 → qz_I (dz_put h 192 3 (ez_v (.inl (0)))) 192 j = qz_I h 192 j := fun j hj => ez_put_I (fun e => hj e.2)
    have fB : ez_fr (nz_P2 192 194) h (dz_put h 192 3 (ez_v (.inl (0)))) := (ez_fr.refl _ h).put (by unfold nz_P2; rfl) _ _
    have hB9 := hB6
    generalize (dz_put h 192 3 (ez_v (.inl (0)))) = gB at *
    refine ez_go (n := 2) (pc' := 33) (L' := [(3, .inl (0)), (2, .inr (.inr (some (754 + 2 * (t).toNat)))), (0, .inr (.inr (some (192)))), (1, .inl (t))]) (st' := []) rfl ?_
    refine ez_less [(3, .inl (0)), (2, .inr (.inr (some (754 + 2 * (t).toNat)))), (0, .inr (.inr (some (192)))), (1, .inl (t))] rfl ⟨rfl, rfl, rfl, rfl, trivial⟩ ?_
    exact rd_cby_l t192 (by omega) (by omega) tr8 tt (k1 (by omega) sr) _ 0 gB rfl (by omega) (by omega) hB9 fB o3 (by rw [v3]; rfl)

theorem rd_mby_j {t p n0 mo kx : Int} (t770 : τ 770 = 75) (n00 : 0 ≤ n0) (n01 : n0 + 4 ≤ 65536) (m0 : 0 ≤ mo) (m3 : mo ≤ 3) (k : ∀ g, ez_B τ g → ez_fr (nz_P2 770 772) h g → (∀ j, j ≠ 4 → qz_I g 770 j = qz_I h 770 j) → qz_I g 770 4 = n0 + (mo + 1) → ez_W (d + 1) cm_226 247 [(2, .inl (kx)), (0, .inr (.inr (some (770)))), (1, .inl (t))] [] g Q) : ∀ (n : Nat) (j : Int) (g : cz_H), n = (j + 1).toNat → -1 ≤ j → j < mo + 1 → ez_B τ g → ez_fr (nz_P2 770 772) h g → (∀ j, j ≠ 4 → qz_I g 770 j = qz_I h 770 j) → qz_I g 770 4 = n0 + (mo - j) → ez_W (d + 1) cm_226 202 [(5, .inl (j)), (4, .inl (mo)), (3, .inl (p)), (2, .inl (kx)), (0, .inr (.inr (some (770)))), (1, .inl (t))] [] g Q := by
  intro n
  induction n with
  | zero =>
    intro j g hn0 j0 j1 hBg hf ho hk
    refine ez_go (n := 1) (pc' := 204) (L' := [(5, .inl (j)), (4, .inl (mo)), (3, .inl (p)), (2, .inl (kx)), (0, .inr (.inr (some (770)))), (1, .inl (t))]) (st' := [.inl (j)]) rfl ?_
    refine ez_if rfl rfl ⟨by first | omega | exact (sz_i32 _).1, by first | omega | exact (sz_i32 _).2⟩ (fun (c1 : (j) < (0)) => ?_) (fun (c1 : ¬((j) < (0))) => ?_)
    · skip
      refine ez_less [(2, .inl (kx)), (0, .inr (.inr (some (770)))), (1, .inl (t))] rfl ⟨rfl, rfl, rfl, trivial⟩ ?_
      exact k g hBg hf ho (by rw [hk]; omega)
    · exfalso; omega
  | succ n ih =>
    intro j g hn0 j0 j1 hBg hf ho hk
    refine ez_go (n := 1) (pc' := 204) (L' := [(5, .inl (j)), (4, .inl (mo)), (3, .inl (p)), (2, .inl (kx)), (0, .inr (.inr (some (770)))), (1, .inl (t))]) (st' := [.inl (j)]) rfl ?_
    refine ez_if rfl rfl ⟨by first | omega | exact (sz_i32 _).1, by first | omega | exact (sz_i32 _).2⟩ (fun (c1 : (j) < (0)) => ?_) (fun (c1 : ¬((j) < (0))) => ?_)
    · skip
      refine ez_less [(2, .inl (kx)), (0, .inr (.inr (some (770)))), (1, .inl (t))] rfl ⟨rfl, rfl, rfl, trivial⟩ ?_
      exact k g hBg hf ho (by rw [hk]; omega)
    · skip
      refine ez_go (n := 1) (pc' := 208) (L' := [(5, .inl (j)), (4, .inl (mo)), (3, .inl (p)), (2, .inl (kx)), (0, .inr (.inr (some (770)))), (1, .inl (t))]) (st' := [.inr (.inr (some (770)))]) rfl ?_
      refine ez_gC (p := 772) (tg := 77) hBg t770 rfl rfl tq_75 rfl rfl (fun (t772 : _ = 77) => ?_)
      refine ez_go (n := 1) (pc' := 212) (L' := [(5, .inl (j)), (4, .inl (mo)), (3, .inl (p)), (2, .inl (kx)), (0, .inr (.inr (some (770)))), (1, .inl (t))]) (st' := [.inr (.inr (some (770))), .inr (.inr (some (772)))]) rfl ?_
      refine ez_gI hBg t770 rfl rfl tq_75 rfl rfl (fun (b2 : 0 ≤ qz_I g 770 4) (b2' : qz_I g 770 4 ≤ 65536) => ?_)
      rw [show qz_I g 770 4 = n0 + (mo - j) from hk]
      refine ez_go (n := 10) (pc' := 230) (L' := [(5, .inl (j)), (4, .inl (mo)), (3, .inl (p)), (2, .inl (kx)), (0, .inr (.inr (some (770)))), (1, .inl (t))]) (st' := [.inl ((Int32.ofInt ((Int32.ofInt (128) ||| Int32.ofInt ((Int32.ofInt ((Int32.ofInt (p) >>> (Int32.ofInt ((6) * (j)) &&& 31)).toInt) &&& Int32.ofInt (63)).toInt)).toInt)).toInt8.toInt32.toInt), .inl (n0 + (mo - j)), .inr (.inr (some (772)))]) rfl ?_
      have n5 : 65536 ≤ qz_N g 772 ∧ qz_N g 772 ≤ 65536 := ez_len hBg t772 tq_77 rfl
      refine ez_ab hBg t772 rfl tq_77 rfl rfl (by omega) (by omega) (by first | omega | exact (i8_bd _).1) (by first | omega | exact (i8_bd _).2) (fun hB3 w4 => ?_)
      have oRS : ∀ q9 j9, q9 ≠ 772 → qz_I (dz_put g 772 (n0 + (mo - j)).toNat (ez_v (.inl ((Int32.ofInt ((Int32.ofInt (128) ||| Int32.ofInt ((Int32.ofInt ((Int32.ofInt (p) >>> (Int32.ofInt ((6) * (j)) &&& 31)).toInt) &&& Int32.ofInt (63)).toInt)).toInt)).toInt8.toInt32.toInt)))) q9 j9 = qz_I g q9 j9 := fun q9 j9 w => ez_put_I (fun e => w e.1)
      have fRS : ez_fr (nz_P2 770 772) h (dz_put g 772 (n0 + (mo - j)).toNat (ez_v (.inl ((Int32.ofInt ((Int32.ofInt (128) ||| Int32.ofInt ((Int32.ofInt ((Int32.ofInt (p) >>> (Int32.ofInt ((6) * (j)) &&& 31)).toInt) &&& Int32.ofInt (63)).toInt)).toInt)).toInt8.toInt32.toInt)))) := hf.put (by unfold nz_P2; rfl) _ _
      have hRS := hB3
      generalize (dz_put g 772 (n0 + (mo - j)).toNat (ez_v (.inl ((Int32.ofInt ((Int32.ofInt (128) ||| Int32.ofInt ((Int32.ofInt ((Int32.ofInt (p) >>> (Int32.ofInt ((6) * (j)) &&& 31)).toInt) &&& Int32.ofInt (63)).toInt)).toInt)).toInt8.toInt32.toInt)))) = gR at *
      have sRS : qz_I gR 770 4 = n0 + (mo - j) := (oRS 770 4 (by decide)).trans hk
      refine ez_go (n := 2) (pc' := 233) (L' := [(5, .inl (j)), (4, .inl (mo)), (3, .inl (p)), (2, .inl (kx)), (0, .inr (.inr (some (770)))), (1, .inl (t))]) (st' := [.inr (.inr (some (770))), .inr (.inr (some (770)))]) rfl ?_
      refine ez_gI hRS t770 rfl rfl tq_75 rfl rfl (fun (b6 : 0 ≤ qz_I gR 770 4) (b6' : qz_I gR 770 4 ≤ 65536) => ?_)
      rw [show qz_I gR 770 4 = n0 + (mo - j) from sRS]
      refine ez_go (n := 2) (pc' := 238) (L' := [(5, .inl (j)), (4, .inl (mo)), (3, .inl (p)), (2, .inl (kx)), (0, .inr (.inr (some (770)))), (1, .inl (t))]) (st' := [.inl ((n0 + (mo - j)) + (1)), .inr (.inr (some (770)))]) rfl ?_
      refine ez_pf hRS t770 rfl rfl tq_75 rfl rfl rfl rfl (ez_vdI rfl rfl (by omega) (by omega)) (fun hB7 w8 => ?_)
      have v4S : qz_I (dz_put gR 770 4 (ez_v (.inl ((n0 + (mo - j)) + (1))))) 770 4 = n0 + (mo - j) + 1 := w8.trans ((rz_rd ⟨by omega, by omega⟩).trans (by omega))
      have o4S : ∀ j9, j9 ≠ 4 → qz_I (dz_put gR 770 4 (ez_v (.inl ((n0 + (mo - j)) + (1))))) 770 j9 = qz_I gR 770 j9 := fun j9 hj => ez_put_I (fun e => hj e.2)
      have f4S : ez_fr (nz_P2 770 772) h (dz_put gR 770 4 (ez_v (.inl ((n0 + (mo - j)) + (1))))) := fRS.put (by unfold nz_P2; rfl) _ _
      have h4S := hB7
      generalize (dz_put gR 770 4 (ez_v (.inl ((n0 + (mo - j)) + (1))))) = gS at *
      refine ez_go (n := 2) (pc' := 202) (L' := [(5, .inl (j + (-1))), (4, .inl (mo)), (3, .inl (p)), (2, .inl (kx)), (0, .inr (.inr (some (770)))), (1, .inl (t))]) (st' := []) rfl ?_
      refine ez_less [(5, .inl (j + (-1))), (4, .inl (mo)), (3, .inl (p)), (2, .inl (kx)), (0, .inr (.inr (some (770)))), (1, .inl (t))] rfl ⟨rfl, rfl, rfl, rfl, rfl, rfl, trivial⟩ ?_
      refine ih _ gS (by omega) (by omega) (by omega) h4S f4S (fun q hq => (o4S q hq).trans ((oRS 770 q (by decide)).trans (ho q hq))) ?_
      rw [v4S]; omega

theorem rd_mby_p {t p n0 kx : Int} {g : cz_H} (t770 : τ 770 = 75) (n00 : 0 ≤ n0) (n01 : n0 + 4 ≤ 65536) (pb : 0 ≤ p ∧ p ≤ 1114111) (hBg : ez_B τ g) (hf : ez_fr (nz_P2 770 772) h g) (ho : ∀ j, j ≠ 4 → qz_I g 770 j = qz_I h 770 j) (hk : qz_I g 770 4 = n0) (k : ∀ g, ez_B τ g → ez_fr (nz_P2 770 772) h g → (∀ j, j ≠ 4 → qz_I g 770 j = qz_I h 770 j) → qz_I g 770 4 = n0 + uw p → ez_W (d + 1) cm_226 247 [(2, .inl (kx)), (0, .inr (.inr (some (770)))), (1, .inl (t))] [] g Q) : ez_W (d + 1) cm_226 97 [(3, .inl (p)), (2, .inl (kx)), (0, .inr (.inr (some (770)))), (1, .inl (t))] [] g Q := by
  refine ez_go (n := 2) (pc' := 101) (L' := [(3, .inl (p)), (2, .inl (kx)), (0, .inr (.inr (some (770)))), (1, .inl (t))]) (st' := [.inl (128), .inl (p)]) rfl ?_
  refine ez_icmp rfl rfl ⟨by first | omega | exact (sz_i32 _).1, by first | omega | exact (sz_i32 _).2⟩ ⟨by first | omega | exact (sz_i32 _).1, by first | omega | exact (sz_i32 _).2⟩ (fun (c1 : (128) ≤ (p)) => ?_) (fun (c1 : ¬((128) ≤ (p))) => ?_)
  · skip
    refine ez_go (n := 2) (pc' := 112) (L' := [(3, .inl (p)), (2, .inl (kx)), (0, .inr (.inr (some (770)))), (1, .inl (t))]) (st' := [.inl (2048), .inl (p)]) rfl ?_
    refine ez_icmp rfl rfl ⟨by first | omega | exact (sz_i32 _).1, by first | omega | exact (sz_i32 _).2⟩ ⟨by first | omega | exact (sz_i32 _).1, by first | omega | exact (sz_i32 _).2⟩ (fun (c2 : (2048) ≤ (p)) => ?_) (fun (c2 : ¬((2048) ≤ (p))) => ?_)
    · skip
      refine ez_go (n := 1) (pc' := 120) (L' := [(3, .inl (p)), (2, .inl (kx)), (0, .inr (.inr (some (770)))), (1, .inl (t))]) (st' := [.inl (p)]) rfl ?_
      refine ez_ldc (65536) rfl rfl rfl ?_
      refine ez_icmp rfl rfl ⟨by first | omega | exact (sz_i32 _).1, by first | omega | exact (sz_i32 _).2⟩ ⟨by first | omega | exact (sz_i32 _).1, by first | omega | exact (sz_i32 _).2⟩ (fun (c3 : (65536) ≤ (p)) => ?_) (fun (c3 : ¬((65536) ≤ (p))) => ?_)
      · skip
        refine ez_go (n := 3) (pc' := 133) (L' := [(4, .inl (3)), (3, .inl (p)), (2, .inl (kx)), (0, .inr (.inr (some (770)))), (1, .inl (t))]) (st' := [.inr (.inr (some (770)))]) rfl ?_
        refine ez_gC (p := 772) (tg := 77) hBg t770 rfl rfl tq_75 rfl rfl (fun (t772 : _ = 77) => ?_)
        refine ez_go (n := 1) (pc' := 137) (L' := [(4, .inl (3)), (3, .inl (p)), (2, .inl (kx)), (0, .inr (.inr (some (770)))), (1, .inl (t))]) (st' := [.inr (.inr (some (770))), .inr (.inr (some (772)))]) rfl ?_
        refine ez_gI hBg t770 rfl rfl tq_75 rfl rfl (fun (b4 : 0 ≤ qz_I g 770 4) (b4' : qz_I g 770 4 ≤ 65536) => ?_)
        rw [show qz_I g 770 4 = n0 from hk]
        refine ez_go (n := 1) (pc' := 142) (L' := [(4, .inl (3)), (3, .inl (p)), (2, .inl (kx)), (0, .inr (.inr (some (770)))), (1, .inl (t))]) (st' := [.inl (3), .inl (n0), .inr (.inr (some (772)))]) rfl ?_
        refine ez_if rfl rfl ⟨by decide, by decide⟩ (fun _ => ?_) (fun (c5 : ¬((3 : Int) ≠ (0))) => absurd c5 (by decide))
        refine ez_go (n := 2) (pc' := 152) (L' := [(4, .inl (3)), (3, .inl (p)), (2, .inl (kx)), (0, .inr (.inr (some (770)))), (1, .inl (t))]) (st' := [.inl (1), .inl (3), .inl (n0), .inr (.inr (some (772)))]) rfl ?_
        refine ez_icmp rfl rfl ⟨by decide, by decide⟩ ⟨by decide, by decide⟩ (fun _ => ?_) (fun (c6 : ¬((3 : Int) ≠ (1))) => absurd c6 (by decide))
        refine ez_go (n := 2) (pc' := 164) (L' := [(4, .inl (3)), (3, .inl (p)), (2, .inl (kx)), (0, .inr (.inr (some (770)))), (1, .inl (t))]) (st' := [.inl (2), .inl (3), .inl (n0), .inr (.inr (some (772)))]) rfl ?_
        refine ez_icmp rfl rfl ⟨by decide, by decide⟩ ⟨by decide, by decide⟩ (fun _ => ?_) (fun (c7 : ¬((3 : Int) ≠ (2))) => absurd c7 (by decide))
        refine ez_go (n := 8) (pc' := 185) (L' := [(4, .inl (3)), (3, .inl (p)), (2, .inl (kx)), (0, .inr (.inr (some (770)))), (1, .inl (t))]) (st' := [.inl ((Int32.ofInt ((Int32.ofInt (240) ||| Int32.ofInt ((Int32.ofInt (p) >>> (Int32.ofInt ((6) * (3)) &&& 31)).toInt)).toInt)).toInt8.toInt32.toInt), .inl (n0), .inr (.inr (some (772)))]) rfl ?_
        have n10 : 65536 ≤ qz_N g 772 ∧ qz_N g 772 ≤ 65536 := ez_len hBg t772 tq_77 rfl
        refine ez_ab hBg t772 rfl tq_77 rfl rfl (by omega) (by omega) (by first | omega | exact (i8_bd _).1) (by first | omega | exact (i8_bd _).2) (fun hB8 w9 => ?_)
        have oRQ : ∀ q9 j9, q9 ≠ 772 → qz_I (dz_put g 772 (n0).toNat (ez_v (.inl ((Int32.ofInt ((Int32.ofInt (240) ||| Int32.ofInt ((Int32.ofInt (p) >>> (Int32.ofInt ((6) * (3)) &&& 31)).toInt)).toInt)).toInt8.toInt32.toInt)))) q9 j9 = qz_I g q9 j9 := fun q9 j9 w => ez_put_I (fun e => w e.1)
        have fRQ : ez_fr (nz_P2 770 772) h (dz_put g 772 (n0).toNat (ez_v (.inl ((Int32.ofInt ((Int32.ofInt (240) ||| Int32.ofInt ((Int32.ofInt (p) >>> (Int32.ofInt ((6) * (3)) &&& 31)).toInt)).toInt)).toInt8.toInt32.toInt)))) := hf.put (by unfold nz_P2; rfl) _ _
        have hRQ := hB8
        generalize (dz_put g 772 (n0).toNat (ez_v (.inl ((Int32.ofInt ((Int32.ofInt (240) ||| Int32.ofInt ((Int32.ofInt (p) >>> (Int32.ofInt ((6) * (3)) &&& 31)).toInt)).toInt)).toInt8.toInt32.toInt)))) = gP at *
        have sRQ : qz_I gP 770 4 = n0 := (oRQ 770 4 (by decide)).trans hk
        refine ez_go (n := 2) (pc' := 188) (L' := [(4, .inl (3)), (3, .inl (p)), (2, .inl (kx)), (0, .inr (.inr (some (770)))), (1, .inl (t))]) (st' := [.inr (.inr (some (770))), .inr (.inr (some (770)))]) rfl ?_
        refine ez_gI hRQ t770 rfl rfl tq_75 rfl rfl (fun (b11 : 0 ≤ qz_I gP 770 4) (b11' : qz_I gP 770 4 ≤ 65536) => ?_)
        rw [show qz_I gP 770 4 = n0 from sRQ]
        refine ez_go (n := 2) (pc' := 193) (L' := [(4, .inl (3)), (3, .inl (p)), (2, .inl (kx)), (0, .inr (.inr (some (770)))), (1, .inl (t))]) (st' := [.inl ((n0) + (1)), .inr (.inr (some (770)))]) rfl ?_
        refine ez_pf hRQ t770 rfl rfl tq_75 rfl rfl rfl rfl (ez_vdI rfl rfl (by omega) (by omega)) (fun hB12 w13 => ?_)
        have v4Q : qz_I (dz_put gP 770 4 (ez_v (.inl ((n0) + (1))))) 770 4 = n0 + 1 := w13.trans ((rz_rd ⟨by omega, by omega⟩).trans (by omega))
        have o4Q : ∀ j9, j9 ≠ 4 → qz_I (dz_put gP 770 4 (ez_v (.inl ((n0) + (1))))) 770 j9 = qz_I gP 770 j9 := fun j9 hj => ez_put_I (fun e => hj e.2)
        have f4Q : ez_fr (nz_P2 770 772) h (dz_put gP 770 4 (ez_v (.inl ((n0) + (1))))) := fRQ.put (by unfold nz_P2; rfl) _ _
        have h4Q := hB12
        generalize (dz_put gP 770 4 (ez_v (.inl ((n0) + (1))))) = gQ at *
        refine ez_go (n := 4) (pc' := 202) (L' := [(5, .inl ((3) - (1))), (4, .inl (3)), (3, .inl (p)), (2, .inl (kx)), (0, .inr (.inr (some (770)))), (1, .inl (t))]) (st' := []) rfl ?_
        refine ez_less [(5, .inl ((3) - (1))), (4, .inl (3)), (3, .inl (p)), (2, .inl (kx)), (0, .inr (.inr (some (770)))), (1, .inl (t))] rfl ⟨rfl, rfl, rfl, rfl, rfl, rfl, trivial⟩ ?_
        refine rd_mby_j (h := h) (n0 := n0) (mo := 3) t770 n00 n01 (by decide) (by decide) (fun g9 q1 q2 q3 q4 => k g9 q1 q2 q3 (by rw [q4]; unfold uw; first | rw [if_pos (by omega)]; rfl | rw [if_neg (by omega), if_pos (by omega)]; rfl | rw [if_neg (by omega), if_neg (by omega), if_pos (by omega)]; rfl | rw [if_neg (by omega), if_neg (by omega), if_neg (by omega)]; rfl)) _ _ gQ rfl (by omega) (by omega) h4Q f4Q (fun q hq => (o4Q q hq).trans ((oRQ 770 q (by decide)).trans (ho q hq))) ?_
        rw [v4Q]; omega
      · skip
        refine ez_go (n := 4) (pc' := 133) (L' := [(4, .inl (2)), (3, .inl (p)), (2, .inl (kx)), (0, .inr (.inr (some (770)))), (1, .inl (t))]) (st' := [.inr (.inr (some (770)))]) rfl ?_
        refine ez_gC (p := 772) (tg := 77) hBg t770 rfl rfl tq_75 rfl rfl (fun (t772 : _ = 77) => ?_)
        refine ez_go (n := 1) (pc' := 137) (L' := [(4, .inl (2)), (3, .inl (p)), (2, .inl (kx)), (0, .inr (.inr (some (770)))), (1, .inl (t))]) (st' := [.inr (.inr (some (770))), .inr (.inr (some (772)))]) rfl ?_
        refine ez_gI hBg t770 rfl rfl tq_75 rfl rfl (fun (b14 : 0 ≤ qz_I g 770 4) (b14' : qz_I g 770 4 ≤ 65536) => ?_)
        rw [show qz_I g 770 4 = n0 from hk]
        refine ez_go (n := 1) (pc' := 142) (L' := [(4, .inl (2)), (3, .inl (p)), (2, .inl (kx)), (0, .inr (.inr (some (770)))), (1, .inl (t))]) (st' := [.inl (2), .inl (n0), .inr (.inr (some (772)))]) rfl ?_
        refine ez_if rfl rfl ⟨by decide, by decide⟩ (fun _ => ?_) (fun (c15 : ¬((2 : Int) ≠ (0))) => absurd c15 (by decide))
        refine ez_go (n := 2) (pc' := 152) (L' := [(4, .inl (2)), (3, .inl (p)), (2, .inl (kx)), (0, .inr (.inr (some (770)))), (1, .inl (t))]) (st' := [.inl (1), .inl (2), .inl (n0), .inr (.inr (some (772)))]) rfl ?_
        refine ez_icmp rfl rfl ⟨by decide, by decide⟩ ⟨by decide, by decide⟩ (fun _ => ?_) (fun (c16 : ¬((2 : Int) ≠ (1))) => absurd c16 (by decide))
        refine ez_go (n := 2) (pc' := 164) (L' := [(4, .inl (2)), (3, .inl (p)), (2, .inl (kx)), (0, .inr (.inr (some (770)))), (1, .inl (t))]) (st' := [.inl (2), .inl (2), .inl (n0), .inr (.inr (some (772)))]) rfl ?_
        refine ez_icmp rfl rfl ⟨by decide, by decide⟩ ⟨by decide, by decide⟩ (fun (c17 : (2 : Int) ≠ (2)) => absurd c17 (by decide)) (fun _ => ?_)
        refine ez_go (n := 9) (pc' := 185) (L' := [(4, .inl (2)), (3, .inl (p)), (2, .inl (kx)), (0, .inr (.inr (some (770)))), (1, .inl (t))]) (st' := [.inl ((Int32.ofInt ((Int32.ofInt (224) ||| Int32.ofInt ((Int32.ofInt (p) >>> (Int32.ofInt ((6) * (2)) &&& 31)).toInt)).toInt)).toInt8.toInt32.toInt), .inl (n0), .inr (.inr (some (772)))]) rfl ?_
        have n20 : 65536 ≤ qz_N g 772 ∧ qz_N g 772 ≤ 65536 := ez_len hBg t772 tq_77 rfl
        refine ez_ab hBg t772 rfl tq_77 rfl rfl (by omega) (by omega) (by first | omega | exact (i8_bd _).1) (by first | omega | exact (i8_bd _).2) (fun hB18 w19 => ?_)
        have oRQ : ∀ q9 j9, q9 ≠ 772 → qz_I (dz_put g 772 (n0).toNat (ez_v (.inl ((Int32.ofInt ((Int32.ofInt (224) ||| Int32.ofInt ((Int32.ofInt (p) >>> (Int32.ofInt ((6) * (2)) &&& 31)).toInt)).toInt)).toInt8.toInt32.toInt)))) q9 j9 = qz_I g q9 j9 := fun q9 j9 w => ez_put_I (fun e => w e.1)
        have fRQ : ez_fr (nz_P2 770 772) h (dz_put g 772 (n0).toNat (ez_v (.inl ((Int32.ofInt ((Int32.ofInt (224) ||| Int32.ofInt ((Int32.ofInt (p) >>> (Int32.ofInt ((6) * (2)) &&& 31)).toInt)).toInt)).toInt8.toInt32.toInt)))) := hf.put (by unfold nz_P2; rfl) _ _
        have hRQ := hB18
        generalize (dz_put g 772 (n0).toNat (ez_v (.inl ((Int32.ofInt ((Int32.ofInt (224) ||| Int32.ofInt ((Int32.ofInt (p) >>> (Int32.ofInt ((6) * (2)) &&& 31)).toInt)).toInt)).toInt8.toInt32.toInt)))) = gP at *
        have sRQ : qz_I gP 770 4 = n0 := (oRQ 770 4 (by decide)).trans hk
        refine ez_go (n := 2) (pc' := 188) (L' := [(4, .inl (2)), (3, .inl (p)), (2, .inl (kx)), (0, .inr (.inr (some (770)))), (1, .inl (t))]) (st' := [.inr (.inr (some (770))), .inr (.inr (some (770)))]) rfl ?_
        refine ez_gI hRQ t770 rfl rfl tq_75 rfl rfl (fun (b21 : 0 ≤ qz_I gP 770 4) (b21' : qz_I gP 770 4 ≤ 65536) => ?_)
        rw [show qz_I gP 770 4 = n0 from sRQ]
        refine ez_go (n := 2) (pc' := 193) (L' := [(4, .inl (2)), (3, .inl (p)), (2, .inl (kx)), (0, .inr (.inr (some (770)))), (1, .inl (t))]) (st' := [.inl ((n0) + (1)), .inr (.inr (some (770)))]) rfl ?_
        refine ez_pf hRQ t770 rfl rfl tq_75 rfl rfl rfl rfl (ez_vdI rfl rfl (by omega) (by omega)) (fun hB22 w23 => ?_)
        have v4Q : qz_I (dz_put gP 770 4 (ez_v (.inl ((n0) + (1))))) 770 4 = n0 + 1 := w23.trans ((rz_rd ⟨by omega, by omega⟩).trans (by omega))
        have o4Q : ∀ j9, j9 ≠ 4 → qz_I (dz_put gP 770 4 (ez_v (.inl ((n0) + (1))))) 770 j9 = qz_I gP 770 j9 := fun j9 hj => ez_put_I (fun e => hj e.2)
        have f4Q : ez_fr (nz_P2 770 772) h (dz_put gP 770 4 (ez_v (.inl ((n0) + (1))))) := fRQ.put (by unfold nz_P2; rfl) _ _
        have h4Q := hB22
        generalize (dz_put gP 770 4 (ez_v (.inl ((n0) + (1))))) = gQ at *
        refine ez_go (n := 4) (pc' := 202) (L' := [(5, .inl ((2) - (1))), (4, .inl (2)), (3, .inl (p)), (2, .inl (kx)), (0, .inr (.inr (some (770)))), (1, .inl (t))]) (st' := []) rfl ?_
        refine ez_less [(5, .inl ((2) - (1))), (4, .inl (2)), (3, .inl (p)), (2, .inl (kx)), (0, .inr (.inr (some (770)))), (1, .inl (t))] rfl ⟨rfl, rfl, rfl, rfl, rfl, rfl, trivial⟩ ?_
        refine rd_mby_j (h := h) (n0 := n0) (mo := 2) t770 n00 n01 (by decide) (by decide) (fun g9 q1 q2 q3 q4 => k g9 q1 q2 q3 (by rw [q4]; unfold uw; first | rw [if_pos (by omega)]; rfl | rw [if_neg (by omega), if_pos (by omega)]; rfl | rw [if_neg (by omega), if_neg (by omega), if_pos (by omega)]; rfl | rw [if_neg (by omega), if_neg (by omega), if_neg (by omega)]; rfl)) _ _ gQ rfl (by omega) (by omega) h4Q f4Q (fun q hq => (o4Q q hq).trans ((oRQ 770 q (by decide)).trans (ho q hq))) ?_
        rw [v4Q]; omega
    · skip
      refine ez_go (n := 4) (pc' := 133) (L' := [(4, .inl (1)), (3, .inl (p)), (2, .inl (kx)), (0, .inr (.inr (some (770)))), (1, .inl (t))]) (st' := [.inr (.inr (some (770)))]) rfl ?_
      refine ez_gC (p := 772) (tg := 77) hBg t770 rfl rfl tq_75 rfl rfl (fun (t772 : _ = 77) => ?_)
      refine ez_go (n := 1) (pc' := 137) (L' := [(4, .inl (1)), (3, .inl (p)), (2, .inl (kx)), (0, .inr (.inr (some (770)))), (1, .inl (t))]) (st' := [.inr (.inr (some (770))), .inr (.inr (some (772)))]) rfl ?_
      refine ez_gI hBg t770 rfl rfl tq_75 rfl rfl (fun (b24 : 0 ≤ qz_I g 770 4) (b24' : qz_I g 770 4 ≤ 65536) => ?_)
      rw [show qz_I g 770 4 = n0 from hk]
      refine ez_go (n := 1) (pc' := 142) (L' := [(4, .inl (1)), (3, .inl (p)), (2, .inl (kx)), (0, .inr (.inr (some (770)))), (1, .inl (t))]) (st' := [.inl (1), .inl (n0), .inr (.inr (some (772)))]) rfl ?_
      refine ez_if rfl rfl ⟨by decide, by decide⟩ (fun _ => ?_) (fun (c25 : ¬((1 : Int) ≠ (0))) => absurd c25 (by decide))
      refine ez_go (n := 2) (pc' := 152) (L' := [(4, .inl (1)), (3, .inl (p)), (2, .inl (kx)), (0, .inr (.inr (some (770)))), (1, .inl (t))]) (st' := [.inl (1), .inl (1), .inl (n0), .inr (.inr (some (772)))]) rfl ?_
      refine ez_icmp rfl rfl ⟨by decide, by decide⟩ ⟨by decide, by decide⟩ (fun (c26 : (1 : Int) ≠ (1)) => absurd c26 (by decide)) (fun _ => ?_)
      refine ez_go (n := 9) (pc' := 185) (L' := [(4, .inl (1)), (3, .inl (p)), (2, .inl (kx)), (0, .inr (.inr (some (770)))), (1, .inl (t))]) (st' := [.inl ((Int32.ofInt ((Int32.ofInt (192) ||| Int32.ofInt ((Int32.ofInt (p) >>> (Int32.ofInt ((6) * (1)) &&& 31)).toInt)).toInt)).toInt8.toInt32.toInt), .inl (n0), .inr (.inr (some (772)))]) rfl ?_
      have n29 : 65536 ≤ qz_N g 772 ∧ qz_N g 772 ≤ 65536 := ez_len hBg t772 tq_77 rfl
      refine ez_ab hBg t772 rfl tq_77 rfl rfl (by omega) (by omega) (by first | omega | exact (i8_bd _).1) (by first | omega | exact (i8_bd _).2) (fun hB27 w28 => ?_)
      have oRQ : ∀ q9 j9, q9 ≠ 772 → qz_I (dz_put g 772 (n0).toNat (ez_v (.inl ((Int32.ofInt ((Int32.ofInt (192) ||| Int32.ofInt ((Int32.ofInt (p) >>> (Int32.ofInt ((6) * (1)) &&& 31)).toInt)).toInt)).toInt8.toInt32.toInt)))) q9 j9 = qz_I g q9 j9 := fun q9 j9 w => ez_put_I (fun e => w e.1)
      have fRQ : ez_fr (nz_P2 770 772) h (dz_put g 772 (n0).toNat (ez_v (.inl ((Int32.ofInt ((Int32.ofInt (192) ||| Int32.ofInt ((Int32.ofInt (p) >>> (Int32.ofInt ((6) * (1)) &&& 31)).toInt)).toInt)).toInt8.toInt32.toInt)))) := hf.put (by unfold nz_P2; rfl) _ _
      have hRQ := hB27
      generalize (dz_put g 772 (n0).toNat (ez_v (.inl ((Int32.ofInt ((Int32.ofInt (192) ||| Int32.ofInt ((Int32.ofInt (p) >>> (Int32.ofInt ((6) * (1)) &&& 31)).toInt)).toInt)).toInt8.toInt32.toInt)))) = gP at *
      have sRQ : qz_I gP 770 4 = n0 := (oRQ 770 4 (by decide)).trans hk
      refine ez_go (n := 2) (pc' := 188) (L' := [(4, .inl (1)), (3, .inl (p)), (2, .inl (kx)), (0, .inr (.inr (some (770)))), (1, .inl (t))]) (st' := [.inr (.inr (some (770))), .inr (.inr (some (770)))]) rfl ?_
      refine ez_gI hRQ t770 rfl rfl tq_75 rfl rfl (fun (b30 : 0 ≤ qz_I gP 770 4) (b30' : qz_I gP 770 4 ≤ 65536) => ?_)
      rw [show qz_I gP 770 4 = n0 from sRQ]
      refine ez_go (n := 2) (pc' := 193) (L' := [(4, .inl (1)), (3, .inl (p)), (2, .inl (kx)), (0, .inr (.inr (some (770)))), (1, .inl (t))]) (st' := [.inl ((n0) + (1)), .inr (.inr (some (770)))]) rfl ?_
      refine ez_pf hRQ t770 rfl rfl tq_75 rfl rfl rfl rfl (ez_vdI rfl rfl (by omega) (by omega)) (fun hB31 w32 => ?_)
      have v4Q : qz_I (dz_put gP 770 4 (ez_v (.inl ((n0) + (1))))) 770 4 = n0 + 1 := w32.trans ((rz_rd ⟨by omega, by omega⟩).trans (by omega))
      have o4Q : ∀ j9, j9 ≠ 4 → qz_I (dz_put gP 770 4 (ez_v (.inl ((n0) + (1))))) 770 j9 = qz_I gP 770 j9 := fun j9 hj => ez_put_I (fun e => hj e.2)
      have f4Q : ez_fr (nz_P2 770 772) h (dz_put gP 770 4 (ez_v (.inl ((n0) + (1))))) := fRQ.put (by unfold nz_P2; rfl) _ _
      have h4Q := hB31
      generalize (dz_put gP 770 4 (ez_v (.inl ((n0) + (1))))) = gQ at *
      refine ez_go (n := 4) (pc' := 202) (L' := [(5, .inl ((1) - (1))), (4, .inl (1)), (3, .inl (p)), (2, .inl (kx)), (0, .inr (.inr (some (770)))), (1, .inl (t))]) (st' := []) rfl ?_
      refine ez_less [(5, .inl ((1) - (1))), (4, .inl (1)), (3, .inl (p)), (2, .inl (kx)), (0, .inr (.inr (some (770)))), (1, .inl (t))] rfl ⟨rfl, rfl, rfl, rfl, rfl, rfl, trivial⟩ ?_
      refine rd_mby_j (h := h) (n0 := n0) (mo := 1) t770 n00 n01 (by decide) (by decide) (fun g9 q1 q2 q3 q4 => k g9 q1 q2 q3 (by rw [q4]; unfold uw; first | rw [if_pos (by omega)]; rfl | rw [if_neg (by omega), if_pos (by omega)]; rfl | rw [if_neg (by omega), if_neg (by omega), if_pos (by omega)]; rfl | rw [if_neg (by omega), if_neg (by omega), if_neg (by omega)]; rfl)) _ _ gQ rfl (by omega) (by omega) h4Q f4Q (fun q hq => (o4Q q hq).trans ((oRQ 770 q (by decide)).trans (ho q hq))) ?_
      rw [v4Q]; omega
  · skip
    refine ez_go (n := 4) (pc' := 133) (L' := [(4, .inl (0)), (3, .inl (p)), (2, .inl (kx)), (0, .inr (.inr (some (770)))), (1, .inl (t))]) (st' := [.inr (.inr (some (770)))]) rfl ?_
    refine ez_gC (p := 772) (tg := 77) hBg t770 rfl rfl tq_75 rfl rfl (fun (t772 : _ = 77) => ?_)
    refine ez_go (n := 1) (pc' := 137) (L' := [(4, .inl (0)), (3, .inl (p)), (2, .inl (kx)), (0, .inr (.inr (some (770)))), (1, .inl (t))]) (st' := [.inr (.inr (some (770))), .inr (.inr (some (772)))]) rfl ?_
    refine ez_gI hBg t770 rfl rfl tq_75 rfl rfl (fun (b33 : 0 ≤ qz_I g 770 4) (b33' : qz_I g 770 4 ≤ 65536) => ?_)
    rw [show qz_I g 770 4 = n0 from hk]
    refine ez_go (n := 1) (pc' := 142) (L' := [(4, .inl (0)), (3, .inl (p)), (2, .inl (kx)), (0, .inr (.inr (some (770)))), (1, .inl (t))]) (st' := [.inl (0), .inl (n0), .inr (.inr (some (772)))]) rfl ?_
    refine ez_if rfl rfl ⟨by decide, by decide⟩ (fun (c34 : (0 : Int) ≠ (0)) => absurd c34 (by decide)) (fun _ => ?_)
    refine ez_go (n := 3) (pc' := 185) (L' := [(4, .inl (0)), (3, .inl (p)), (2, .inl (kx)), (0, .inr (.inr (some (770)))), (1, .inl (t))]) (st' := [.inl ((Int32.ofInt (p)).toInt8.toInt32.toInt), .inl (n0), .inr (.inr (some (772)))]) rfl ?_
    have n37 : 65536 ≤ qz_N g 772 ∧ qz_N g 772 ≤ 65536 := ez_len hBg t772 tq_77 rfl
    refine ez_ab hBg t772 rfl tq_77 rfl rfl (by omega) (by omega) (by first | omega | exact (i8_bd _).1) (by first | omega | exact (i8_bd _).2) (fun hB35 w36 => ?_)
    have oRQ : ∀ q9 j9, q9 ≠ 772 → qz_I (dz_put g 772 (n0).toNat (ez_v (.inl ((Int32.ofInt (p)).toInt8.toInt32.toInt)))) q9 j9 = qz_I g q9 j9 := fun q9 j9 w => ez_put_I (fun e => w e.1)
    have fRQ : ez_fr (nz_P2 770 772) h (dz_put g 772 (n0).toNat (ez_v (.inl ((Int32.ofInt (p)).toInt8.toInt32.toInt)))) := hf.put (by unfold nz_P2; rfl) _ _
    have hRQ := hB35
    generalize (dz_put g 772 (n0).toNat (ez_v (.inl ((Int32.ofInt (p)).toInt8.toInt32.toInt)))) = gP at *
    have sRQ : qz_I gP 770 4 = n0 := (oRQ 770 4 (by decide)).trans hk
    refine ez_go (n := 2) (pc' := 188) (L' := [(4, .inl (0)), (3, .inl (p)), (2, .inl (kx)), (0, .inr (.inr (some (770)))), (1, .inl (t))]) (st' := [.inr (.inr (some (770))), .inr (.inr (some (770)))]) rfl ?_
    refine ez_gI hRQ t770 rfl rfl tq_75 rfl rfl (fun (b38 : 0 ≤ qz_I gP 770 4) (b38' : qz_I gP 770 4 ≤ 65536) => ?_)
    rw [show qz_I gP 770 4 = n0 from sRQ]
    refine ez_go (n := 2) (pc' := 193) (L' := [(4, .inl (0)), (3, .inl (p)), (2, .inl (kx)), (0, .inr (.inr (some (770)))), (1, .inl (t))]) (st' := [.inl ((n0) + (1)), .inr (.inr (some (770)))]) rfl ?_
    refine ez_pf hRQ t770 rfl rfl tq_75 rfl rfl rfl rfl (ez_vdI rfl rfl (by omega) (by omega)) (fun hB39 w40 => ?_)
    have v4Q : qz_I (dz_put gP 770 4 (ez_v (.inl ((n0) + (1))))) 770 4 = n0 + 1 := w40.trans ((rz_rd ⟨by omega, by omega⟩).trans (by omega))
    have o4Q : ∀ j9, j9 ≠ 4 → qz_I (dz_put gP 770 4 (ez_v (.inl ((n0) + (1))))) 770 j9 = qz_I gP 770 j9 := fun j9 hj => ez_put_I (fun e => hj e.2)
    have f4Q : ez_fr (nz_P2 770 772) h (dz_put gP 770 4 (ez_v (.inl ((n0) + (1))))) := fRQ.put (by unfold nz_P2; rfl) _ _
    have h4Q := hB39
    generalize (dz_put gP 770 4 (ez_v (.inl ((n0) + (1))))) = gQ at *
    refine ez_go (n := 4) (pc' := 202) (L' := [(5, .inl ((0) - (1))), (4, .inl (0)), (3, .inl (p)), (2, .inl (kx)), (0, .inr (.inr (some (770)))), (1, .inl (t))]) (st' := []) rfl ?_
    refine ez_less [(5, .inl ((0) - (1))), (4, .inl (0)), (3, .inl (p)), (2, .inl (kx)), (0, .inr (.inr (some (770)))), (1, .inl (t))] rfl ⟨rfl, rfl, rfl, rfl, rfl, rfl, trivial⟩ ?_
    refine rd_mby_j (h := h) (n0 := n0) (mo := 0) t770 n00 n01 (by decide) (by decide) (fun g9 q1 q2 q3 q4 => k g9 q1 q2 q3 (by rw [q4]; unfold uw; first | rw [if_pos (by omega)]; rfl | rw [if_neg (by omega), if_pos (by omega)]; rfl | rw [if_neg (by omega), if_neg (by omega), if_pos (by omega)]; rfl | rw [if_neg (by omega), if_neg (by omega), if_neg (by omega)]; rfl)) _ _ gQ rfl (by omega) (by omega) h4Q f4Q (fun q hq => (o4Q q hq).trans ((oRQ 770 q (by decide)).trans (ho q hq))) ?_
    rw [v4Q]; omega

theorem rd_mby_o {t : Int} (hX : jz_X τ) (t770 : τ 770 = 75) (sl : slt h) (t0 : 0 ≤ t) (t7 : t ≤ 7) (tt : mx h (t).toNat (X (t).toNat) ∧ ptl (X (t).toNat) ∧ (X (t).toNat).length ≤ 2000) (k : ∀ g, ez_B τ g → ez_fr (nz_P2 770 772) h g → (∀ j, j ≠ 4 → qz_I g 770 j = qz_I h 770 j) → qz_I g 770 4 = uws (X (t).toNat) → Q (.inl (some (ez_v (.inl (uws (X (t).toNat))))), g)) : ∀ (n : Nat) (kx : Int) (g : cz_H), n = (((X (t).toNat).length : Int) - kx).toNat → 0 ≤ kx → kx ≤ ((X (t).toNat).length : Int) → ez_B τ g → ez_fr (nz_P2 770 772) h g → (∀ j, j ≠ 4 → qz_I g 770 j = qz_I h 770 j) → qz_I g 770 4 = uws ((X (t).toNat).take (kx).toNat) → ez_W (d + 1) cm_226 78 [(2, .inl (kx)), (0, .inr (.inr (some (770)))), (1, .inl (t))] [] g Q := by
  have l2 := tt.2.2
  intro n
  induction n with
  | zero =>
    intro kx g hn0 k0 k1 hBg hf ho hk
    have c73 : ∀ j, qz_I g 773 j = qz_I h 773 j := fun j => hf.I (nz_P2_f (by decide) (by decide)) j
    refine ez_go (n := 2) (pc' := 80) (L' := [(2, .inl (kx)), (0, .inr (.inr (some (770)))), (1, .inl (t))]) (st' := [.inr (.inr (some (770))), .inl (kx)]) rfl ?_
    refine ez_gC (p := 782) (tg := 79) hBg t770 rfl rfl tq_75 rfl rfl (fun (t782 : _ = 79) => ?_)
    refine ez_go (n := 1) (pc' := 84) (L' := [(2, .inl (kx)), (0, .inr (.inr (some (770)))), (1, .inl (t))]) (st' := [.inl (t), .inr (.inr (some (782))), .inl (kx)]) rfl ?_
    have n2 : 8 ≤ qz_N g 782 ∧ qz_N g 782 ≤ 8 := ez_len hBg t782 tq_79 rfl
    refine ez_aI hBg t782 rfl tq_79 rfl rfl (by omega) (by omega) (fun (b1 : 0 ≤ qz_I g 782 (t).toNat) (b1' : qz_I g 782 (t).toNat ≤ 2000) => ?_)
    rw [show qz_I g 782 (t).toNat = ((X (t).toNat).length : Int) from (hf.I (nz_P2_f (by decide) (by decide)) _).trans tt.1.1]
    refine ez_icmp rfl rfl ⟨by first | omega | exact (sz_i32 _).1, by first | omega | exact (sz_i32 _).2⟩ ⟨by first | omega | exact (sz_i32 _).1, by first | omega | exact (sz_i32 _).2⟩ (fun (c3 : (((X (t).toNat).length : Int)) ≤ (kx)) => ?_) (fun (c3 : ¬((((X (t).toNat).length : Int)) ≤ (kx))) => ?_)
    · skip
      refine ez_go (n := 1) (pc' := 254) (L' := [(2, .inl (kx)), (0, .inr (.inr (some (770)))), (1, .inl (t))]) (st' := [.inr (.inr (some (770)))]) rfl ?_
      refine ez_gI hBg t770 rfl rfl tq_75 rfl rfl (fun (b4 : 0 ≤ qz_I g 770 4) (b4' : qz_I g 770 4 ≤ 65536) => ?_)
      have ei : (X (t).toNat).take (kx).toNat = X (t).toNat := List.take_of_length_le (by omega)
      rw [ei] at hk
      rw [show qz_I g 770 4 = uws (X (t).toNat) from hk]
      exact ez_retI rfl rfl (k g hBg hf ho hk)
    · exfalso; omega
  | succ n ih =>
    intro kx g hn0 k0 k1 hBg hf ho hk
    have c73 : ∀ j, qz_I g 773 j = qz_I h 773 j := fun j => hf.I (nz_P2_f (by decide) (by decide)) j
    refine ez_go (n := 2) (pc' := 80) (L' := [(2, .inl (kx)), (0, .inr (.inr (some (770)))), (1, .inl (t))]) (st' := [.inr (.inr (some (770))), .inl (kx)]) rfl ?_
    refine ez_gC (p := 782) (tg := 79) hBg t770 rfl rfl tq_75 rfl rfl (fun (t782 : _ = 79) => ?_)
    refine ez_go (n := 1) (pc' := 84) (L' := [(2, .inl (kx)), (0, .inr (.inr (some (770)))), (1, .inl (t))]) (st' := [.inl (t), .inr (.inr (some (782))), .inl (kx)]) rfl ?_
    have n2 : 8 ≤ qz_N g 782 ∧ qz_N g 782 ≤ 8 := ez_len hBg t782 tq_79 rfl
    refine ez_aI hBg t782 rfl tq_79 rfl rfl (by omega) (by omega) (fun (b1 : 0 ≤ qz_I g 782 (t).toNat) (b1' : qz_I g 782 (t).toNat ≤ 2000) => ?_)
    rw [show qz_I g 782 (t).toNat = ((X (t).toNat).length : Int) from (hf.I (nz_P2_f (by decide) (by decide)) _).trans tt.1.1]
    refine ez_icmp rfl rfl ⟨by first | omega | exact (sz_i32 _).1, by first | omega | exact (sz_i32 _).2⟩ ⟨by first | omega | exact (sz_i32 _).1, by first | omega | exact (sz_i32 _).2⟩ (fun (c3 : (((X (t).toNat).length : Int)) ≤ (kx)) => ?_) (fun (c3 : ¬((((X (t).toNat).length : Int)) ≤ (kx))) => ?_)
    · skip
      refine ez_go (n := 1) (pc' := 254) (L' := [(2, .inl (kx)), (0, .inr (.inr (some (770)))), (1, .inl (t))]) (st' := [.inr (.inr (some (770)))]) rfl ?_
      refine ez_gI hBg t770 rfl rfl tq_75 rfl rfl (fun (b4 : 0 ≤ qz_I g 770 4) (b4' : qz_I g 770 4 ≤ 65536) => ?_)
      have ei : (X (t).toNat).take (kx).toNat = X (t).toNat := List.take_of_length_le (by omega)
      rw [ei] at hk
      rw [show qz_I g 770 4 = uws (X (t).toNat) from hk]
      exact ez_retI rfl rfl (k g hBg hf ho hk)
    · skip
      refine ez_go (n := 1) (pc' := 89) (L' := [(2, .inl (kx)), (0, .inr (.inr (some (770)))), (1, .inl (t))]) (st' := [.inr (.inr (some (770)))]) rfl ?_
      refine ez_gC (p := 773) (tg := 78) hBg t770 rfl rfl tq_75 rfl rfl (fun (t773 : _ = 78) => ?_)
      refine ez_go (n := 1) (pc' := 93) (L' := [(2, .inl (kx)), (0, .inr (.inr (some (770)))), (1, .inl (t))]) (st' := [.inl (t), .inr (.inr (some (773)))]) rfl ?_
      have n6 : 8 ≤ qz_N g 773 ∧ qz_N g 773 ≤ 8 := ez_len hBg t773 tq_78 rfl
      have y7 : 1 ≤ qz_I g 773 (t).toNat := (by have := (sl t.toNat (by omega)).2; rw [c73]; omega)
      have y8 : 1 ≤ qz_I g 773 (t).toNat ∧ qz_I g 773 (t).toNat ≤ 1000000 := ez_aB hBg t773 tq_78 rfl rfl (by decide) (by omega) (by omega)
      have y8' : ((qz_P g 773 (t).toNat : Nat) : Int) + 1 = qz_I g 773 (t).toNat := by unfold qz_P; omega
      refine ez_aR hBg t773 rfl tq_78 rfl rfl (by omega) (by omega) (by omega) (fun (t5 : _ = 37) => ?_)
      rw [show qz_P g 773 (t).toNat = 774 + (t).toNat by unfold qz_P; have := (sl (t).toNat (by omega)).2; rw [show qz_I g 773 (t).toNat = qz_I h 773 (t).toNat from c73 _]; omega]
      refine ez_go (n := 1) (pc' := 95) (L' := [(2, .inl (kx)), (0, .inr (.inr (some (770)))), (1, .inl (t))]) (st' := [.inl (kx), .inr (.inr (some (774 + (t).toNat)))]) rfl ?_
      have n10 : 2000 ≤ qz_N g (774 + (t).toNat) ∧ qz_N g (774 + (t).toNat) ≤ 2000 := ez_len hBg (mx_tag hX (show (t).toNat < 8 by omega)).1 tq_37 rfl
      refine ez_aI hBg (mx_tag hX (show (t).toNat < 8 by omega)).1 rfl tq_37 rfl rfl (by omega) (by omega) (fun (b9 : -2147483648 ≤ qz_I g (774 + (t).toNat) (kx).toNat) (b9' : qz_I g (774 + (t).toNat) (kx).toNat ≤ 2147483647) => ?_)
      have l9 : (kx).toNat < (X (t).toNat).length := by omega
      have pb := uX_ptl tt.2.1 l9
      rw [show qz_I g (774 + (t).toNat) (kx).toNat = uX (X (t).toNat) kx from (hf.I (nz_P2_f (by omega) (by omega)) _).trans (tt.1.2 _ _ (uX_e l9))]
      refine ez_go (n := 1) (pc' := 97) (L' := [(3, .inl (uX (X (t).toNat) kx)), (2, .inl (kx)), (0, .inr (.inr (some (770)))), (1, .inl (t))]) (st' := []) rfl ?_
      have ul := uws_le (l := X (t).toNat) (kx).toNat
      have ub := (uws_bd ((X (t).toNat).take (kx).toNat)).1
      refine rd_mby_p (h := h) t770 ub (by omega) pb hBg hf ho hk (fun g2 hB2 f2 o2 v2 => ?_)
      refine ez_go (n := 2) (pc' := 78) (L' := [(2, .inl (kx + 1)), (0, .inr (.inr (some (770)))), (1, .inl (t))]) (st' := []) rfl ?_
      refine ez_less [(2, .inl (kx + 1)), (0, .inr (.inr (some (770)))), (1, .inl (t))] rfl ⟨rfl, rfl, rfl, trivial⟩ ?_
      refine ih (kx + 1) g2 (by omega) (by omega) (by omega) hB2 f2 o2 ?_
      rw [v2, show (kx + 1).toNat = (kx).toNat + 1 by omega, uws_tk l9, show (((kx).toNat : Nat) : Int) = kx by omega]

theorem rd_mby_s (hB : ez_B τ h) {t : Int} (hX : jz_X τ) (t770 : τ 770 = 75) (sl : slt h) (t0 : 0 ≤ t) (t7 : t ≤ 7) (tt : mx h (t).toNat (X (t).toNat) ∧ ptl (X (t).toNat) ∧ (X (t).toNat).length ≤ 2000) (k1 : (∃ x, x ∈ X (t).toNat ∧ sur x) → ∀ g, ez_B τ g → mF h g 2 → Q (.inl (some (ez_v (.inl 0))), g)) (k0 : (∀ x, x ∈ X (t).toNat → ¬ sur x) → ez_W (d + 1) cm_226 71 [(0, .inr (.inr (some (770)))), (1, .inl (t))] [] h Q) : ∀ (n : Nat) (kx : Int), n = (((X (t).toNat).length : Int) - kx).toNat → 0 ≤ kx → kx ≤ ((X (t).toNat).length : Int) → (∀ (j : Nat) v, j < kx.toNat → (X (t).toNat)[j]? = some v → ¬ sur v) → ez_W (d + 1) cm_226 21 [(2, .inl (kx)), (0, .inr (.inr (some (770)))), (1, .inl (t))] [] h Q := by
  have l2 := tt.2.2
  intro n
  induction n with
  | zero =>
    intro kx hn0 q0 q1 hno
    refine ez_go (n := 2) (pc' := 23) (L' := [(2, .inl (kx)), (0, .inr (.inr (some (770)))), (1, .inl (t))]) (st' := [.inr (.inr (some (770))), .inl (kx)]) rfl ?_
    refine ez_gC (p := 782) (tg := 79) hB t770 rfl rfl tq_75 rfl rfl (fun (t782 : _ = 79) => ?_)
    refine ez_go (n := 1) (pc' := 27) (L' := [(2, .inl (kx)), (0, .inr (.inr (some (770)))), (1, .inl (t))]) (st' := [.inl (t), .inr (.inr (some (782))), .inl (kx)]) rfl ?_
    have n2 : 8 ≤ qz_N h 782 ∧ qz_N h 782 ≤ 8 := ez_len hB t782 tq_79 rfl
    refine ez_aI hB t782 rfl tq_79 rfl rfl (by omega) (by omega) (fun (b1 : 0 ≤ qz_I h 782 (t).toNat) (b1' : qz_I h 782 (t).toNat ≤ 2000) => ?_)
    rw [show qz_I h 782 (t).toNat = ((X (t).toNat).length : Int) from tt.1.1]
    refine ez_icmp rfl rfl ⟨by first | omega | exact (sz_i32 _).1, by first | omega | exact (sz_i32 _).2⟩ ⟨by first | omega | exact (sz_i32 _).1, by first | omega | exact (sz_i32 _).2⟩ (fun (c3 : (((X (t).toNat).length : Int)) ≤ (kx)) => ?_) (fun (c3 : ¬((((X (t).toNat).length : Int)) ≤ (kx))) => ?_)
    · skip
      refine ez_less [(0, .inr (.inr (some (770)))), (1, .inl (t))] rfl ⟨rfl, rfl, trivial⟩ ?_
      exact k0 (fun x hx => by obtain ⟨j, hj⟩ := List.getElem?_of_mem hx; exact hno j x (by have := (List.getElem?_eq_some_iff.mp hj).1; omega) hj)
    · exfalso; omega
  | succ n ih =>
    intro kx hn0 q0 q1 hno
    refine ez_go (n := 2) (pc' := 23) (L' := [(2, .inl (kx)), (0, .inr (.inr (some (770)))), (1, .inl (t))]) (st' := [.inr (.inr (some (770))), .inl (kx)]) rfl ?_
    refine ez_gC (p := 782) (tg := 79) hB t770 rfl rfl tq_75 rfl rfl (fun (t782 : _ = 79) => ?_)
    refine ez_go (n := 1) (pc' := 27) (L' := [(2, .inl (kx)), (0, .inr (.inr (some (770)))), (1, .inl (t))]) (st' := [.inl (t), .inr (.inr (some (782))), .inl (kx)]) rfl ?_
    have n2 : 8 ≤ qz_N h 782 ∧ qz_N h 782 ≤ 8 := ez_len hB t782 tq_79 rfl
    refine ez_aI hB t782 rfl tq_79 rfl rfl (by omega) (by omega) (fun (b1 : 0 ≤ qz_I h 782 (t).toNat) (b1' : qz_I h 782 (t).toNat ≤ 2000) => ?_)
    rw [show qz_I h 782 (t).toNat = ((X (t).toNat).length : Int) from tt.1.1]
    refine ez_icmp rfl rfl ⟨by first | omega | exact (sz_i32 _).1, by first | omega | exact (sz_i32 _).2⟩ ⟨by first | omega | exact (sz_i32 _).1, by first | omega | exact (sz_i32 _).2⟩ (fun (c3 : (((X (t).toNat).length : Int)) ≤ (kx)) => ?_) (fun (c3 : ¬((((X (t).toNat).length : Int)) ≤ (kx))) => ?_)
    · skip
      refine ez_less [(0, .inr (.inr (some (770)))), (1, .inl (t))] rfl ⟨rfl, rfl, trivial⟩ ?_
      exact k0 (fun x hx => by obtain ⟨j, hj⟩ := List.getElem?_of_mem hx; exact hno j x (by have := (List.getElem?_eq_some_iff.mp hj).1; omega) hj)
    · skip
      refine ez_go (n := 1) (pc' := 32) (L' := [(2, .inl (kx)), (0, .inr (.inr (some (770)))), (1, .inl (t))]) (st' := [.inr (.inr (some (770)))]) rfl ?_
      refine ez_gC (p := 773) (tg := 78) hB t770 rfl rfl tq_75 rfl rfl (fun (t773 : _ = 78) => ?_)
      refine ez_go (n := 1) (pc' := 36) (L' := [(2, .inl (kx)), (0, .inr (.inr (some (770)))), (1, .inl (t))]) (st' := [.inl (t), .inr (.inr (some (773)))]) rfl ?_
      have n5 : 8 ≤ qz_N h 773 ∧ qz_N h 773 ≤ 8 := ez_len hB t773 tq_78 rfl
      have y6 : 1 ≤ qz_I h 773 (t).toNat := (by have := (sl t.toNat (by omega)).2; omega)
      have y7 : 1 ≤ qz_I h 773 (t).toNat ∧ qz_I h 773 (t).toNat ≤ 1000000 := ez_aB hB t773 tq_78 rfl rfl (by decide) (by omega) (by omega)
      have y7' : ((qz_P h 773 (t).toNat : Nat) : Int) + 1 = qz_I h 773 (t).toNat := by unfold qz_P; omega
      refine ez_aR hB t773 rfl tq_78 rfl rfl (by omega) (by omega) (by omega) (fun (t4 : _ = 37) => ?_)
      rw [show qz_P h 773 (t).toNat = 774 + (t).toNat by unfold qz_P; have := (sl (t).toNat (by omega)).2; rw [show qz_I h 773 (t).toNat = qz_I h 773 (t).toNat from rfl]; omega]
      refine ez_go (n := 1) (pc' := 38) (L' := [(2, .inl (kx)), (0, .inr (.inr (some (770)))), (1, .inl (t))]) (st' := [.inl (kx), .inr (.inr (some (774 + (t).toNat)))]) rfl ?_
      have n9 : 2000 ≤ qz_N h (774 + (t).toNat) ∧ qz_N h (774 + (t).toNat) ≤ 2000 := ez_len hB (mx_tag hX (show (t).toNat < 8 by omega)).1 tq_37 rfl
      refine ez_aI hB (mx_tag hX (show (t).toNat < 8 by omega)).1 rfl tq_37 rfl rfl (by omega) (by omega) (fun (b8 : -2147483648 ≤ qz_I h (774 + (t).toNat) (kx).toNat) (b8' : qz_I h (774 + (t).toNat) (kx).toNat ≤ 2147483647) => ?_)
      have l9 : (kx).toNat < (X (t).toNat).length := by omega
      have pb := uX_ptl tt.2.1 l9
      rw [show qz_I h (774 + (t).toNat) (kx).toNat = uX (X (t).toNat) kx from tt.1.2 _ _ (uX_e l9)]
      refine ez_ldcV (55296) rfl rfl rfl ?_
      refine ez_icmp rfl rfl ⟨by first | omega | exact (sz_i32 _).1, by first | omega | exact (sz_i32 _).2⟩ ⟨by first | omega | exact (sz_i32 _).1, by first | omega | exact (sz_i32 _).2⟩ (fun (c10 : (uX (X (t).toNat) kx) < (55296)) => ?_) (fun (c10 : ¬((uX (X (t).toNat) kx) < (55296))) => ?_)
      · skip
        refine ez_go (n := 2) (pc' := 21) (L' := [(2, .inl (kx + 1)), (0, .inr (.inr (some (770)))), (1, .inl (t))]) (st' := []) rfl ?_
        refine ez_less [(2, .inl (kx + 1)), (0, .inr (.inr (some (770)))), (1, .inl (t))] rfl ⟨rfl, rfl, rfl, trivial⟩ ?_
        refine ih (kx + 1) (by omega) (by omega) (by omega) (fun j v hj hv => ?_)
        by_cases e : j = (kx).toNat
        · rw [e, uX_e l9] at hv
          cases hv; unfold sur; omega
        · exact hno j v (by omega) hv
      · skip
        refine ez_go (n := 1) (pc' := 46) (L' := [(2, .inl (kx)), (0, .inr (.inr (some (770)))), (1, .inl (t))]) (st' := [.inr (.inr (some (770)))]) rfl ?_
        refine ez_gC (p := 773) (tg := 78) hB t770 rfl rfl tq_75 rfl rfl (fun (t773 : _ = 78) => ?_)
        refine ez_go (n := 1) (pc' := 50) (L' := [(2, .inl (kx)), (0, .inr (.inr (some (770)))), (1, .inl (t))]) (st' := [.inl (t), .inr (.inr (some (773)))]) rfl ?_
        have n12 : 8 ≤ qz_N h 773 ∧ qz_N h 773 ≤ 8 := ez_len hB t773 tq_78 rfl
        have y13 : 1 ≤ qz_I h 773 (t).toNat := (by have := (sl t.toNat (by omega)).2; omega)
        have y14 : 1 ≤ qz_I h 773 (t).toNat ∧ qz_I h 773 (t).toNat ≤ 1000000 := ez_aB hB t773 tq_78 rfl rfl (by decide) (by omega) (by omega)
        have y14' : ((qz_P h 773 (t).toNat : Nat) : Int) + 1 = qz_I h 773 (t).toNat := by unfold qz_P; omega
        refine ez_aR hB t773 rfl tq_78 rfl rfl (by omega) (by omega) (by omega) (fun (t11 : _ = 37) => ?_)
        rw [show qz_P h 773 (t).toNat = 774 + (t).toNat by unfold qz_P; have := (sl (t).toNat (by omega)).2; rw [show qz_I h 773 (t).toNat = qz_I h 773 (t).toNat from rfl]; omega]
        refine ez_go (n := 1) (pc' := 52) (L' := [(2, .inl (kx)), (0, .inr (.inr (some (770)))), (1, .inl (t))]) (st' := [.inl (kx), .inr (.inr (some (774 + (t).toNat)))]) rfl ?_
        have n16 : 2000 ≤ qz_N h (774 + (t).toNat) ∧ qz_N h (774 + (t).toNat) ≤ 2000 := ez_len hB (mx_tag hX (show (t).toNat < 8 by omega)).1 tq_37 rfl
        refine ez_aI hB (mx_tag hX (show (t).toNat < 8 by omega)).1 rfl tq_37 rfl rfl (by omega) (by omega) (fun (b15 : -2147483648 ≤ qz_I h (774 + (t).toNat) (kx).toNat) (b15' : qz_I h (774 + (t).toNat) (kx).toNat ≤ 2147483647) => ?_)
        rw [show qz_I h (774 + (t).toNat) (kx).toNat = uX (X (t).toNat) kx from tt.1.2 _ _ (uX_e l9)]
        refine ez_ldcV (57344) rfl rfl rfl ?_
        refine ez_icmp rfl rfl ⟨by first | omega | exact (sz_i32 _).1, by first | omega | exact (sz_i32 _).2⟩ ⟨by first | omega | exact (sz_i32 _).1, by first | omega | exact (sz_i32 _).2⟩ (fun (c17 : (57344) ≤ (uX (X (t).toNat) kx)) => ?_) (fun (c17 : ¬((57344) ≤ (uX (X (t).toNat) kx))) => ?_)
        · skip
          refine ez_go (n := 2) (pc' := 21) (L' := [(2, .inl (kx + 1)), (0, .inr (.inr (some (770)))), (1, .inl (t))]) (st' := []) rfl ?_
          refine ez_less [(2, .inl (kx + 1)), (0, .inr (.inr (some (770)))), (1, .inl (t))] rfl ⟨rfl, rfl, rfl, trivial⟩ ?_
          refine ih (kx + 1) (by omega) (by omega) (by omega) (fun j v hj hv => ?_)
          by_cases e : j = (kx).toNat
          · rw [e, uX_e l9] at hv
            cases hv; unfold sur; omega
          · exact hno j v (by omega) hv
        · skip
          refine ez_go (n := 2) (pc' := 61) (L' := [(2, .inl (kx)), (0, .inr (.inr (some (770)))), (1, .inl (t))]) (st' := [.inl (2), .inr (.inr (some (770)))]) rfl ?_
          refine ez_cv hB t770 rfl rfl rfl tq_75 rfl rfl rfl (rd_mfail hB t770 (by omega) (by omega) (fun gf hBf ff jf vf0 => ez_K1 ?_))
          exact ez_retI rfl rfl (k1 ⟨uX (X (t).toNat) kx, List.mem_of_getElem? (uX_e l9), by unfold sur; omega⟩ gf hBf ⟨ff, jf, vf0⟩)

theorem rd_mbytes {t : Int} (hB : ez_B τ h) (hX : jz_X τ) (sl : slt h) (mxh : mxs h X) (tr : ez_rg t) (kA : (t < 0 ∨ 7 < t) → ∀ g, ez_B τ g → mF h g 1 → Q (.inl (some (ez_v (.inl 0))), g)) (kB : (0 ≤ t ∧ t ≤ 7) → (∃ x, x ∈ X (t).toNat ∧ sur x) → ∀ g, ez_B τ g → mF h g 2 → Q (.inl (some (ez_v (.inl 0))), g)) (k1 : (0 ≤ t ∧ t ≤ 7) → (∀ x, x ∈ X (t).toNat → ¬ sur x) → ∀ h1, ez_B τ h1 → mF h h1 0 → ∀ g, ez_B τ g → ez_fr (nz_P2 770 772) h1 g → (∀ j, j ≠ 4 → qz_I g 770 j = qz_I h1 770 j) → qz_I g 770 4 = uws (X (t).toNat) → Q (.inl (some (ez_v (.inl (uws (X (t).toNat))))), g)) : ez_W (d + 1) cm_226 0 [(0, .inr (.inr (some (770)))), (1, .inl (t))] [] h Q := by
  have t770 : τ 770 = 75 := hX 770 (by decide)
  obtain ⟨tr1, tr2⟩ := id tr
  refine ez_go (n := 2) (pc' := 2) (L' := [(0, .inr (.inr (some (770)))), (1, .inl (t))]) (st' := [.inl (0), .inr (.inr (some (770)))]) rfl ?_
  refine ez_pf hB t770 rfl rfl tq_75 rfl rfl rfl rfl (ez_vdI rfl rfl (by omega) (by omega)) (fun hB1 w2 => ?_)
  have fP : ez_fr (ez_one 770) h (dz_put h 770 0 (ez_v (.inl (0)))) := (ez_fr.refl (ez_one 770) h).put rfl _ _
  have vP : qz_I (dz_put h 770 0 (ez_v (.inl (0)))) 770 0 = 0 := w2.trans (rz_rd ⟨by omega, by omega⟩)
  have iP : ∀ j, j ≠ 0 → qz_I (dz_put h 770 0 (ez_v (.inl (0)))) 770 j = qz_I h 770 j := fun j hj => ez_put_I (fun w => hj w.2)
  have hP := hB1
  generalize (dz_put h 770 0 (ez_v (.inl (0)))) = h1 at *
  have cP1 := fP.1; have cP2 := fP.2.1
  refine ez_go (n := 2) (pc' := 7) (L' := [(0, .inr (.inr (some (770)))), (1, .inl (t))]) (st' := [.inl (t), .inr (.inr (some (770)))]) rfl ?_
  refine ez_cv hP t770 rfl rfl rfl tq_75 rfl rfl rfl (rd_mout (show ez_rg (t) by assumption) (fun o6 => ez_K1 ?_) (fun o6 => ez_K1 ?_))
  · skip
    refine ez_if rfl rfl ⟨by decide, by decide⟩ (fun (c3 : (1 : Int) = (0)) => absurd c3 (by decide)) (fun _ => ?_)
    refine ez_go (n := 2) (pc' := 15) (L' := [(0, .inr (.inr (some (770)))), (1, .inl (t))]) (st' := [.inl (1), .inr (.inr (some (770)))]) rfl ?_
    refine ez_cv hP t770 rfl rfl rfl tq_75 rfl rfl rfl (rd_mfail hP t770 (by omega) (by omega) (fun gf hBf ff jf vf0 => ez_K1 ?_))
    exact ez_retI rfl rfl (kA (by omega) gf hBf (mF.trans ⟨fP, iP, vP⟩ ⟨ff, jf, vf0⟩))
  · skip
    refine ez_if rfl rfl ⟨by decide, by decide⟩ (fun _ => ?_) (fun (c4 : ¬((0 : Int) = (0))) => absurd c4 (by decide))
    refine ez_go (n := 2) (pc' := 21) (L' := [(2, .inl (0)), (0, .inr (.inr (some (770)))), (1, .inl (t))]) (st' := []) rfl ?_
    have k1P : ∀ q, q ≠ 770 → h1.2.2 q = h.2.2 q := fun q hq => fP.2.2 q (dz_beq_ne hq)
    have mt := (mxh.k (g := h1) (fun q hq => k1P q (by omega))) (t).toNat (by omega)
    have sl1 : slt h1 := sl.k (k1P 195 (by decide)) (k1P 773 (by decide))
    refine ez_less [(2, .inl (0)), (0, .inr (.inr (some (770)))), (1, .inl (t))] rfl ⟨rfl, rfl, rfl, trivial⟩ ?_
    refine rd_mby_s (X := X) hP hX t770 sl1 (by omega) (by omega) mt (fun sr gf9 b1 b2 => kB (by omega) sr gf9 b1 (mF.trans ⟨fP, iP, vP⟩ b2)) (fun sr => ?_) _ 0 rfl (by omega) (by omega) (fun j v hj => by omega)
    refine ez_go (n := 2) (pc' := 73) (L' := [(0, .inr (.inr (some (770)))), (1, .inl (t))]) (st' := [.inl (0), .inr (.inr (some (770)))]) rfl ?_
    refine ez_pf hP t770 rfl rfl tq_75 rfl rfl rfl rfl (ez_vdI rfl rfl (by omega) (by omega)) (fun hB5 w6 => ?_)
    have v4Z : qz_I (dz_put h1 770 4 (ez_v (.inl (0)))) 770 4 = 0 := w6.trans ((rz_rd ⟨by omega, by omega⟩).trans (by omega))
    have o4Z : ∀ j9, j9 ≠ 4 → qz_I (dz_put h1 770 4 (ez_v (.inl (0)))) 770 j9 = qz_I h1 770 j9 := fun j9 hj => ez_put_I (fun e => hj e.2)
    have f4Z : ez_fr (nz_P2 770 772) h1 (dz_put h1 770 4 (ez_v (.inl (0)))) := (ez_fr.refl (nz_P2 770 772) h1).put (by unfold nz_P2; rfl) _ _
    have h4Z := hB5
    generalize (dz_put h1 770 4 (ez_v (.inl (0)))) = gZ at *
    refine ez_go (n := 2) (pc' := 78) (L' := [(2, .inl (0)), (0, .inr (.inr (some (770)))), (1, .inl (t))]) (st' := []) rfl ?_
    refine ez_less [(2, .inl (0)), (0, .inr (.inr (some (770)))), (1, .inl (t))] rfl ⟨rfl, rfl, rfl, trivial⟩ ?_
    exact rd_mby_o (X := X) (h := h1) hX t770 sl1 (by omega) (by omega) mt (fun g9 q1 q2 q3 q4 => k1 (by omega) sr h1 hP ⟨fP, iP, vP⟩ g9 q1 q2 q3 q4) _ 0 gZ rfl (by omega) (by omega) h4Z f4Z o4Z (by rw [v4Z]; rfl)

end EzBy
/-! The law: bytes. (Written by wip/p2/py/pvx6.py.) -/
section EzBl
variable {d : Nat} {h : cz_H} {τ : Nat → Nat} {P Q : cz_F → Prop} {X : Nat → List Int}
def qcP (τ : Nat → Nat) (h : cz_H) (X : Nat → List Int) (a1 : Int) (F : cz_F) : Prop := ((a1 < 0 ∨ 7 < a1) ∧ F = (.inr h.1, xc h 1)) ∨ (((0 ≤ a1 ∧ a1 ≤ 7) ∧ ∃ x, x ∈ X a1.toNat ∧ sur x) ∧ F = (.inr h.1, xc h 3)) ∨ ∃ g, (((0 ≤ a1 ∧ a1 ≤ 7) ∧ ∀ x, x ∈ X a1.toNat → ¬ sur x) ∧ ez_B τ g ∧ ez_fr (nz_P2 192 194) h g ∧ (∀ j, j ≠ 3 → qz_I g 192 j = qz_I h 192 j)) ∧ F = (.inl (some (ez_v (.inl (uws (X a1.toNat))))), g)
/-- what the class wrote -/
theorem by_CH {gA : cz_H} {v : Int} (hX : jz_X τ) (fA : ez_fr (nz_P2 192 194) h gA) : ∀ q, q ≠ 192 → q ≠ 194 → q ≠ 805 → (ow gA v).2.2 q = h.2.2 q := fun q a b c => by
  rw [ow_at c, fA.2.2 q (nz_P2_f a b)]
theorem tg_by {gA h1 g3 : cz_H} {v c1 : Int} (hb : dz_B tz_T (qz_X rR) τ h) (hn : qz_I h 192 1 = qz_I h 770 2) (fA : ez_fr (nz_P2 192 194) h gA) (oA : ∀ j, j ≠ 3 → qz_I gA 192 j = qz_I h 192 j) (m1 : mF (ow gA v) h1 c1) (f3 : ez_fr (nz_P2 770 772) h1 g3) (o3 : ∀ j, j ≠ 4 → qz_I g3 770 j = qz_I h1 770 j) (B3 : ez_B τ g3) : dz_B tz_T (qz_X rR) τ g3 ∧ stp h g3 := by
  have hB := dz_ezB hb
  have hX := hb.2.1.1
  have t770 : τ 770 = 75 := hX 770 (by decide)
  have t192 : τ 192 = 44 := hX 192 (by decide)
  have CO := by_CH (v := v) hX fA
  have C : ∀ q, q ≠ 192 → q ≠ 194 → q ≠ 805 → q ≠ 770 → q ≠ 772 → g3.2.2 q = h.2.2 q := fun q a b c e f => by
    rw [f3.2.2 q (nz_P2_f e f), m1.1.2.2 q (dz_beq_ne e), CO q a b c]
  have nt : ∀ q, tgk (τ q) = false → ∀ p, tz_ex p ≠ 0 → tgk (tz_ex p) = true → q ≠ p := fun q hk p w1 w2 e => by rw [e, hX p w1, w2] at hk; cases hk
  have J : ∀ j, j ≠ 0 → j ≠ 4 → qz_I g3 770 j = qz_I h 770 j := fun j a b => by
    rw [o3 j b, m1.2.1 j a]; unfold qz_I; rw [CO 770 (by decide) (by decide) (by decide)]
  have tsk := ez_tsk hB t770
  have esk : sk g3 = sk h := by unfold sk qz_P; rw [J 24 (by decide) (by decide)]
  have nsk : ∀ p, tz_ex p ≠ 0 → tz_ex p ≠ 21 → sk h ≠ p := fun p w1 w2 e => by rw [e, hX p w1] at tsk; exact w2 tsk
  have Nsk : qz_N g3 (sk g3) = qz_N h (sk h) := by rw [esk]; unfold qz_N; rw [C _ (nsk 192 (by decide) (by decide)) (nsk 194 (by decide) (by decide)) (nsk 805 (by decide) (by decide)) (nsk 770 (by decide) (by decide)) (nsk 772 (by decide) (by decide))]
  have i192 : qz_I g3 192 1 = qz_I h 192 1 := by
    rw [show qz_I g3 192 1 = qz_I gA 192 1 by unfold qz_I; rw [f3.2.2 192 (nz_P2_f (by decide) (by decide)), m1.1.2.2 192 (dz_beq_ne (by decide)), ow_at (by decide)]]; exact oA 1 (by decide)
  have bt : 0 ≤ qz_I h 192 1 ∧ qz_I h 192 1 ≤ 4096 := ez_fB (cl := 0) hB t192 tq_44 rfl rfl (by decide)
  have r1 : g3.1 = h.1 := f3.1.trans (m1.1.1.trans fA.1)
  have r2 : g3.2.1 = h.2.1 := f3.2.1.trans (m1.1.2.1.trans fA.2.1)
  refine tg_fin hb B3 (fun _ _ => rfl) (fun q a b => absurd a b) (fun q _ ht => C q (nt q ht 192 (by decide) rfl) (nt q ht 194 (by decide) rfl) (nt q ht 805 (by decide) rfl) (nt q ht 770 (by decide) rfl) (nt q ht 772 (by decide) rfl)) (fun j a _ b _ _ _ _ => J j a b) (by rw [i192, J 2 (by decide) (by decide)]; exact hn) (by rw [i192]; omega) (fun w => by rw [J 25 (by decide) (by decide), Nsk]; exact w) (by rw [Nsk, r2]; omega) (by rw [Nsk, r1]; omega) ?_
  obtain ⟨Ls, -, ww, xx⟩ := hb.2.1.2.2.2.2
  refine rX_t ww.1 xx (fun q hq => ?_)
  have nq : ∀ p, tz_ex p ≠ 0 → (tz_ex p ≠ 88 ∧ tz_ex p ≠ 89 ∧ tz_ex p ≠ 37 ∧ tz_ex p ≠ 79) → q ≠ p := fun p w1 w2 e => by rw [e, hX p w1] at hq; omega
  exact C q (nq 192 (by decide) (by decide)) (nq 194 (by decide) (by decide)) (nq 805 (by decide) (by decide)) (nq 770 (by decide) (by decide)) (nq 772 (by decide) (by decide))
/-- what the model asks for, behind bytes of the class -/
theorem by_pre {gA : cz_H} {v : Int} (hX : jz_X τ) (ww : slt h) (x2 : mxs h X) (fA : ez_fr (nz_P2 192 194) h gA) : slt (ow gA v) ∧ mxs (ow gA v) X ∧ (∀ j, qz_I (ow gA v) 0 j = qz_I h 0 j) ∧ qz_N (ow gA v) 0 = qz_N h 0 := by
  have CO := by_CH (v := v) hX fA
  exact ⟨ww.k (CO 195 (by decide) (by decide) (by decide)) (CO 773 (by decide) (by decide) (by decide)), x2.k (fun q hq => CO q (by omega) (by omega) (by omega)), fun j => by unfold qz_I; rw [CO 0 (by decide) (by decide) (by decide)], by unfold qz_N; rw [CO 0 (by decide) (by decide) (by decide)]⟩
theorem hp_bytes {a1 : Int} (hB : ez_B τ h) (t192 : τ 192 = 44) (hc : ez_W d cm_4 0 [(0, .inr (.inr (some (192)))), (1, .inl (a1))] [] h P) (k : ∀ F, P F → (∃ v τ1 g, F = (.inl (some (ez_v (.inl v))), g) ∧ ez_B τ1 g ∧ τ1 805 = 35 ∧ (ez_B τ1 (ow g v) → Q (.inl (some (ez_v (.inl 0))), ow g v))) ∨ (∃ r g, F = (.inr r, g) ∧ cz_exc g r = some 1 ∧ Q (.inl (some (ez_v (.inl 1))), g)) ∨ (∃ r g, F = (.inr r, g) ∧ cz_exc g r = some 3 ∧ Q (.inl (some (ez_v (.inl 2))), g))) : ez_W (d + 1) cm_195 0 [(0, .inr (.inr (some (192)))), (1, .inl (a1)), (2, .inr (.inr (some (805))))] [] h Q := by
  refine ez_go (n := 4) (pc' := 4) (L' := [(0, .inr (.inr (some (192)))), (1, .inl (a1)), (2, .inr (.inr (some (805))))]) (st' := [.inl (a1), .inr (.inr (some (192))), .inl (0), .inr (.inr (some (805)))]) rfl ?_
  refine ez_cv hB t192 rfl rfl rfl tq_44 rfl rfl rfl (ez_mono hc (fun F hF => ?_))
  rcases k F hF with ⟨v, τ1, g, rfl, hB1, u805, kq⟩ | ⟨r, g, rfl, he, kq⟩ | ⟨r, g, rfl, he, kq⟩
  · refine ez_K1 ?_
    refine ez_go (n := 1) (pc' := 8) (L' := [(0, .inr (.inr (some (192)))), (1, .inl (a1)), (2, .inr (.inr (some (805))))]) (st' := [.inr (.inl ((Int32.ofInt (v)).toInt64)), .inl (0), .inr (.inr (some (805)))]) rfl ?_
    have n3 : 1 ≤ qz_N g 805 ∧ qz_N g 805 ≤ 1 := ez_len hB1 u805 tq_35 rfl
    refine ez_as hB1 u805 rfl tq_35 rfl rfl (by omega) (by omega) ez_vdJ (fun hB1 w2 => ?_)
    refine ez_go (n := 2) (pc' := 19) (L' := [(0, .inr (.inr (some (192)))), (1, .inl (a1)), (2, .inr (.inr (some (805))))]) (st' := [.inl (0)]) rfl ?_
    exact ez_retI rfl rfl (kq hB1)
  · refine ez_Kc he rfl ?_
    refine ez_go (n := 2) (pc' := 14) (L' := [(3, .inr (.inr (some (r)))), (0, .inr (.inr (some (192)))), (1, .inl (a1)), (2, .inr (.inr (some (805))))]) (st' := [.inl (1)]) rfl ?_
    exact ez_retI rfl rfl kq
  · refine ez_Kc he rfl ?_
    refine ez_go (n := 2) (pc' := 17) (L' := [(3, .inr (.inr (some (r)))), (0, .inr (.inr (some (192)))), (1, .inl (a1)), (2, .inr (.inr (some (805))))]) (st' := [.inl (2)]) rfl ?_
    exact ez_retI rfl rfl kq

theorem rd_bytesP {a1 : Int} (hB : ez_B τ h) (hX : jz_X τ) (sl : slt h) (txh : txs h X) (r1 : ez_rg a1) (hr1 : h.1 + 1 ≤ 600192) (hr2 : h.2.1 + 6 ≤ 7302232) : ez_W (d + 8) cm_4 0 [(0, .inr (.inr (some (192)))), (1, .inl (a1))] [] h (qcP τ h X a1) :=
  rd_cbytes hB hX sl txh r1 hr1 hr2 (fun w => Or.inl ⟨w, rfl⟩) (fun w s => Or.inr (Or.inl ⟨⟨w, s⟩, rfl⟩)) (fun w s g b f o i3 => Or.inr (Or.inr ⟨g, ⟨⟨w, s⟩, b, f, o⟩, rfl⟩))
theorem lw_bytes {i : Int} (hb : dz_B tz_T (qz_X rR) τ h) (hn : qz_I h 192 1 = qz_I h 770 2) (i0 : 0 ≤ i) (i1 : i + 6 ≤ qz_N h 0) (i2 : i ≤ 4000) (hr1 : h.1 + 1100 ≤ 600192) (hr2 : h.2.1 + 150100 ≤ 7302232) (k : ∀ τ2 g, dz_B tz_T (qz_X rR) τ2 g → stp h g → ez_W (d + 11) cm_0 1213 [(4, .inl (i)), (0, .inr (.inr (some (0)))), (1, .inr (.inr (some (192)))), (2, .inr (.inr (some (770)))), (3, .inr (.inr (some (805))))] [] g Q) : ez_W (d + 11) cm_0 1101 [(4, .inl (i)), (0, .inr (.inr (some (0)))), (1, .inr (.inr (some (192)))), (2, .inr (.inr (some (770)))), (3, .inr (.inr (some (805))))] [] h Q := by
  have hB := dz_ezB hb
  have hX := hb.2.1
  have t0 : τ 0 = 34 := hX.1 0 (by decide)
  have t192 : τ 192 = 44 := hX.1 192 (by decide)
  have t770 : τ 770 = 75 := hX.1 770 (by decide)
  have t805 : τ 805 = 35 := hX.1 805 (by decide)
  obtain ⟨Ls, ⟨t, c, m, w, s6, s77, u, p⟩, ww, X, x1, x2⟩ := id hX.2.2.2.2
  have sl := ww.2.1
  refine ez_go (n := 5) (pc' := 1107) (L' := [(4, .inl (i)), (0, .inr (.inr (some (0)))), (1, .inr (.inr (some (192)))), (2, .inr (.inr (some (770)))), (3, .inr (.inr (some (805))))]) (st' := [.inl ((i) + (1)), .inr (.inr (some (0))), .inr (.inr (some (192)))]) rfl ?_
  have n2 : 0 ≤ qz_N h 0 ∧ qz_N h 0 ≤ 3072 := ez_len hB t0 tq_34 rfl
  refine ez_aI hB t0 rfl tq_34 rfl rfl (by omega) (by omega) (fun (b1 : -2147483648 ≤ qz_I h 0 ((i) + (1)).toNat) (b1' : qz_I h 0 ((i) + (1)).toNat ≤ 2147483647) => ?_)
  refine ez_go (n := 1) (pc' := 1109) (L' := [(4, .inl (i)), (0, .inr (.inr (some (0)))), (1, .inr (.inr (some (192)))), (2, .inr (.inr (some (770)))), (3, .inr (.inr (some (805))))]) (st' := [.inr (.inr (some (805))), .inl (qz_I h 0 ((i) + (1)).toNat), .inr (.inr (some (192)))]) rfl ?_
  refine ez_cs hB.2.1 rfl rfl rfl rfl rfl (hp_bytes hB t192 (rd_bytesP (d := d + 1) hB hX.1 sl x1 ⟨by omega, by omega⟩ (by omega) (by omega)) (fun F hF => ?_))
  generalize ea1 : qz_I h 0 ((i) + (1)).toNat = a1 at *
  have ar1 : ez_rg a1 := ⟨by omega, by omega⟩
  rcases hF with ⟨wA, rfl⟩ | ⟨wX, rfl⟩ | ⟨gA, ⟨ok, BA, fA, oA⟩, rfl⟩
  · refine Or.inr (Or.inl ⟨_, _, rfl, xc_exc hB rfl, ez_K1 ?_⟩)
    have hBx : ez_B τ (xc h 1) := xc_B hB (by omega) (by omega)
    obtain ⟨⟨pM, pN⟩, pS, pX, p7, sc, sn⟩ := tg_pre hX.1 t m w s77 ww x2 hBx (fun q a _ _ _ _ => xc_t hB a)
    refine ez_go (n := 6) (pc' := 1120) (L' := [(5, .inl (1)), (4, .inl (i)), (0, .inr (.inr (some (0)))), (1, .inr (.inr (some (192)))), (2, .inr (.inr (some (770)))), (3, .inr (.inr (some (805))))]) (st' := [.inl ((i) + (1)), .inr (.inr (some (0))), .inr (.inr (some (770)))]) rfl ?_
    have n4 : 0 ≤ qz_N (xc h 1) 0 ∧ qz_N (xc h 1) 0 ≤ 3072 := ez_len hBx t0 tq_34 rfl
    refine ez_aI hBx t0 rfl tq_34 rfl rfl (by omega) (by omega) (fun (b3 : -2147483648 ≤ qz_I (xc h 1) 0 ((i) + (1)).toNat) (b3' : qz_I (xc h 1) 0 ((i) + (1)).toNat ≤ 2147483647) => ?_)
    rw [show qz_I (xc h 1) 0 ((i) + (1)).toNat = qz_I h 0 ((i) + (1)).toNat from sc _, ea1]
    have r2 : True := trivial
    refine ez_cv hBx t770 rfl rfl rfl tq_75 rfl rfl rfl (rd_mbytes hBx hX.1 pS pX ar1 (fun _ g3 b1 b2 => ez_K1 ?_) (fun w9 => absurd w9 (by omega)) (fun w9 => absurd w9 (by omega)))
    have FN := ref_X hb hn b1 b2.1 b2.2.1
    have b0 := b2.2.2
    refine ez_go (n := 2) (pc' := 1127) (L' := [(6, .inl (0)), (5, .inl (1)), (4, .inl (i)), (0, .inr (.inr (some (0)))), (1, .inr (.inr (some (192)))), (2, .inr (.inr (some (770)))), (3, .inr (.inr (some (805))))]) (st' := [.inr (.inr (some (770)))]) rfl ?_
    refine ez_cv b1 t770 rfl rfl rfl tq_75 rfl rfl rfl (rd_thrown b1 t770 (ez_K1 ?_))
    rw [b0]
    refine ez_go (n := 1) (pc' := 1132) (L' := [(6, .inl (0)), (5, .inl (1)), (4, .inl (i)), (0, .inr (.inr (some (0)))), (1, .inr (.inr (some (192)))), (2, .inr (.inr (some (770)))), (3, .inr (.inr (some (805))))]) (st' := [.inl (1), .inl (1)]) rfl ?_
    refine ez_icmp rfl rfl ⟨by decide, by decide⟩ ⟨by decide, by decide⟩ (fun _ => ?_) (fun (c5 : ¬((1 : Int) = (1))) => absurd c5 (by decide))
    refine ez_go (n := 1) (pc' := 1139) (L' := [(6, .inl (0)), (5, .inl (1)), (4, .inl (i)), (0, .inr (.inr (some (0)))), (1, .inr (.inr (some (192)))), (2, .inr (.inr (some (770)))), (3, .inr (.inr (some (805))))]) (st' := [.inl (1)]) rfl ?_
    refine ez_if rfl rfl ⟨by decide, by decide⟩ (fun _ => ?_) (fun (c6 : ¬((1 : Int) ≠ (0))) => absurd c6 (by decide))
    refine ez_go (n := 1) (pc' := 1213) (L' := [(6, .inl (0)), (5, .inl (1)), (4, .inl (i)), (0, .inr (.inr (some (0)))), (1, .inr (.inr (some (192)))), (2, .inr (.inr (some (770)))), (3, .inr (.inr (some (805))))]) (st' := []) rfl ?_
    refine ez_less [(4, .inl (i)), (0, .inr (.inr (some (0)))), (1, .inr (.inr (some (192)))), (2, .inr (.inr (some (770)))), (3, .inr (.inr (some (805))))] rfl ⟨rfl, rfl, rfl, rfl, rfl, trivial⟩ ?_
    exact k _ _ FN.1 FN.2
  · refine Or.inr (Or.inr ⟨_, _, rfl, xc_exc hB rfl, ez_K1 ?_⟩)
    have hBx : ez_B τ (xc h 3) := xc_B hB (by omega) (by omega)
    obtain ⟨⟨pM, pN⟩, pS, pX, p7, sc, sn⟩ := tg_pre hX.1 t m w s77 ww x2 hBx (fun q a _ _ _ _ => xc_t hB a)
    refine ez_go (n := 6) (pc' := 1120) (L' := [(5, .inl (2)), (4, .inl (i)), (0, .inr (.inr (some (0)))), (1, .inr (.inr (some (192)))), (2, .inr (.inr (some (770)))), (3, .inr (.inr (some (805))))]) (st' := [.inl ((i) + (1)), .inr (.inr (some (0))), .inr (.inr (some (770)))]) rfl ?_
    have n8 : 0 ≤ qz_N (xc h 3) 0 ∧ qz_N (xc h 3) 0 ≤ 3072 := ez_len hBx t0 tq_34 rfl
    refine ez_aI hBx t0 rfl tq_34 rfl rfl (by omega) (by omega) (fun (b7 : -2147483648 ≤ qz_I (xc h 3) 0 ((i) + (1)).toNat) (b7' : qz_I (xc h 3) 0 ((i) + (1)).toNat ≤ 2147483647) => ?_)
    rw [show qz_I (xc h 3) 0 ((i) + (1)).toNat = qz_I h 0 ((i) + (1)).toNat from sc _, ea1]
    have r2 : True := trivial
    refine ez_cv hBx t770 rfl rfl rfl tq_75 rfl rfl rfl (rd_mbytes hBx hX.1 pS pX ar1 (fun w9 => absurd w9 (by omega)) (fun _ _ g3 b1 b2 => ez_K1 ?_) (fun _ w8 => by obtain ⟨-, x, x1, x2⟩ := wX; exact absurd x2 (w8 x x1)))
    have FN := ref_X hb hn b1 b2.1 b2.2.1
    have b0 := b2.2.2
    refine ez_go (n := 2) (pc' := 1127) (L' := [(6, .inl (0)), (5, .inl (2)), (4, .inl (i)), (0, .inr (.inr (some (0)))), (1, .inr (.inr (some (192)))), (2, .inr (.inr (some (770)))), (3, .inr (.inr (some (805))))]) (st' := [.inr (.inr (some (770)))]) rfl ?_
    refine ez_cv b1 t770 rfl rfl rfl tq_75 rfl rfl rfl (rd_thrown b1 t770 (ez_K1 ?_))
    rw [b0]
    refine ez_go (n := 1) (pc' := 1132) (L' := [(6, .inl (0)), (5, .inl (2)), (4, .inl (i)), (0, .inr (.inr (some (0)))), (1, .inr (.inr (some (192)))), (2, .inr (.inr (some (770)))), (3, .inr (.inr (some (805))))]) (st' := [.inl (2), .inl (2)]) rfl ?_
    refine ez_icmp rfl rfl ⟨by decide, by decide⟩ ⟨by decide, by decide⟩ (fun _ => ?_) (fun (c9 : ¬((2 : Int) = (2))) => absurd c9 (by decide))
    refine ez_go (n := 1) (pc' := 1139) (L' := [(6, .inl (0)), (5, .inl (2)), (4, .inl (i)), (0, .inr (.inr (some (0)))), (1, .inr (.inr (some (192)))), (2, .inr (.inr (some (770)))), (3, .inr (.inr (some (805))))]) (st' := [.inl (2)]) rfl ?_
    refine ez_if rfl rfl ⟨by decide, by decide⟩ (fun _ => ?_) (fun (c10 : ¬((2 : Int) ≠ (0))) => absurd c10 (by decide))
    refine ez_go (n := 1) (pc' := 1213) (L' := [(6, .inl (0)), (5, .inl (2)), (4, .inl (i)), (0, .inr (.inr (some (0)))), (1, .inr (.inr (some (192)))), (2, .inr (.inr (some (770)))), (3, .inr (.inr (some (805))))]) (st' := []) rfl ?_
    refine ez_less [(4, .inl (i)), (0, .inr (.inr (some (0)))), (1, .inr (.inr (some (192)))), (2, .inr (.inr (some (770)))), (3, .inr (.inr (some (805))))] rfl ⟨rfl, rfl, rfl, rfl, rfl, trivial⟩ ?_
    exact k _ _ FN.1 FN.2
  · refine Or.inl ⟨_, τ, gA, rfl, BA, t805, fun hBo => ez_K1 ?_⟩
    obtain ⟨pS, pX, sc, sn⟩ := by_pre (v := uws (X (a1).toNat)) hX.1 sl x2 fA
    refine ez_go (n := 6) (pc' := 1120) (L' := [(5, .inl (0)), (4, .inl (i)), (0, .inr (.inr (some (0)))), (1, .inr (.inr (some (192)))), (2, .inr (.inr (some (770)))), (3, .inr (.inr (some (805))))]) (st' := [.inl ((i) + (1)), .inr (.inr (some (0))), .inr (.inr (some (770)))]) rfl ?_
    have n12 : 0 ≤ qz_N (ow gA (uws (X (a1).toNat))) 0 ∧ qz_N (ow gA (uws (X (a1).toNat))) 0 ≤ 3072 := ez_len hBo t0 tq_34 rfl
    refine ez_aI hBo t0 rfl tq_34 rfl rfl (by omega) (by omega) (fun (b11 : -2147483648 ≤ qz_I (ow gA (uws (X (a1).toNat))) 0 ((i) + (1)).toNat) (b11' : qz_I (ow gA (uws (X (a1).toNat))) 0 ((i) + (1)).toNat ≤ 2147483647) => ?_)
    rw [show qz_I (ow gA (uws (X (a1).toNat))) 0 ((i) + (1)).toNat = qz_I h 0 ((i) + (1)).toNat from sc _, ea1]
    refine ez_cv hBo t770 rfl rfl rfl tq_75 rfl rfl rfl (rd_mbytes hBo hX.1 pS pX ar1 (fun w9 => absurd w9 (by omega)) (fun _ w8 => absurd w8 (fun q => by obtain ⟨x, x1, x2⟩ := q; exact ok.2 x x1 x2)) (fun _ _ h1 c1 c2 g3 b1 f3 o3 i4 => ez_K1 ?_))
    have FN := tg_by hb hn fA oA c2 f3 o3 b1
    have b0 : qz_I g3 770 0 = 0 := (o3 0 (by decide)).trans c2.2.2
    have ub9 := uws_bd (X (a1).toNat)
    have ul9 := (x1 (a1).toNat (by omega)).2.2
    refine ez_go (n := 2) (pc' := 1127) (L' := [(6, .inl (uws (X (a1).toNat))), (5, .inl (0)), (4, .inl (i)), (0, .inr (.inr (some (0)))), (1, .inr (.inr (some (192)))), (2, .inr (.inr (some (770)))), (3, .inr (.inr (some (805))))]) (st' := [.inr (.inr (some (770)))]) rfl ?_
    refine ez_cv b1 t770 rfl rfl rfl tq_75 rfl rfl rfl (rd_thrown b1 t770 (ez_K1 ?_))
    rw [b0]
    refine ez_go (n := 1) (pc' := 1132) (L' := [(6, .inl (uws (X (a1).toNat))), (5, .inl (0)), (4, .inl (i)), (0, .inr (.inr (some (0)))), (1, .inr (.inr (some (192)))), (2, .inr (.inr (some (770)))), (3, .inr (.inr (some (805))))]) (st' := [.inl (0), .inl (0)]) rfl ?_
    refine ez_icmp rfl rfl ⟨by decide, by decide⟩ ⟨by decide, by decide⟩ (fun _ => ?_) (fun (c13 : ¬((0 : Int) = (0))) => absurd c13 (by decide))
    refine ez_go (n := 1) (pc' := 1139) (L' := [(6, .inl (uws (X (a1).toNat))), (5, .inl (0)), (4, .inl (i)), (0, .inr (.inr (some (0)))), (1, .inr (.inr (some (192)))), (2, .inr (.inr (some (770)))), (3, .inr (.inr (some (805))))]) (st' := [.inl (0)]) rfl ?_
    refine ez_if rfl rfl ⟨by decide, by decide⟩ (fun (c14 : (0 : Int) ≠ (0)) => absurd c14 (by decide)) (fun _ => ?_)
    refine ez_go (n := 2) (pc' := 1144) (L' := [(6, .inl (uws (X (a1).toNat))), (5, .inl (0)), (4, .inl (i)), (0, .inr (.inr (some (0)))), (1, .inr (.inr (some (192)))), (2, .inr (.inr (some (770)))), (3, .inr (.inr (some (805))))]) (st' := [.inl (0), .inr (.inr (some (805)))]) rfl ?_
    have n15 : 1 ≤ qz_N g3 805 ∧ qz_N g3 805 ≤ 1 := ez_len b1 t805 tq_35 rfl
    refine ez_aL b1 t805 rfl tq_35 rfl rfl (by omega) (by omega) ?_
    refine ez_go (n := 3) (pc' := 1149) (L' := [(6, .inl (uws (X (a1).toNat))), (5, .inl (0)), (4, .inl (i)), (0, .inr (.inr (some (0)))), (1, .inr (.inr (some (192)))), (2, .inr (.inr (some (770)))), (3, .inr (.inr (some (805))))]) (st' := [.inl ((lg_cmp (Int64.ofInt (qz_I g3 805 (0 : Int).toNat)) ((Int32.ofInt (uws (X (a1).toNat))).toInt64)).toInt)]) rfl ?_
    have M5 : g3.2.2 805 = (ow gA (uws (X (a1).toNat))).2.2 805 := (f3.2.2 805 (nz_P2_f (by decide) (by decide))).trans (c2.1.2.2 805 rfl)
    rw [show (lg_cmp (Int64.ofInt (qz_I g3 805 (0 : Int).toNat)) ((Int32.ofInt (uws (X (a1).toNat))).toInt64)).toInt = 0 by rw [show qz_I g3 805 (0 : Int).toNat = ((Int32.ofInt (uws (X (a1).toNat))).toInt64).toInt from (show qz_I g3 805 (0 : Int).toNat = qz_I (ow gA (uws (X (a1).toNat))) 805 (0 : Int).toNat by unfold qz_I; rw [M5]).trans (ow_0 BA t805), Int64.ofInt_toInt]; exact lg_same _]
    refine ez_if rfl rfl ⟨by decide, by decide⟩ (fun _ => ?_) (fun (c16 : ¬((0 : Int) = (0))) => absurd c16 (by decide))
    refine ez_go (n := 1) (pc' := 1213) (L' := [(6, .inl (uws (X (a1).toNat))), (5, .inl (0)), (4, .inl (i)), (0, .inr (.inr (some (0)))), (1, .inr (.inr (some (192)))), (2, .inr (.inr (some (770)))), (3, .inr (.inr (some (805))))]) (st' := []) rfl ?_
    refine ez_less [(4, .inl (i)), (0, .inr (.inr (some (0)))), (1, .inr (.inr (some (192)))), (2, .inr (.inr (some (770)))), (3, .inr (.inr (some (805))))] rfl ⟨rfl, rfl, rfl, rfl, rfl, trivial⟩ ?_
    exact k _ _ FN.1 FN.2

end EzBl
/-! GRAPHEMES, edge, next: the class. (Written by wip/p2/py/pvz1.py.) -/
def yc6 (v : vy) (p : Int) : Prop := (v.1.1 = 3 ∧ v.2.2.1.1 = 0) ∧ cvr v p
theorem sz_set3 {gr nm v : Int} (h0 : gr = 0) : sz_set gr nm 3 v = nm := by unfold sz_set; rw [if_neg (by omega), if_pos (by omega)]
theorem sz_set3n {gr nm v : Int} (h0 : gr = 1 ∨ gr = 2) : sz_set gr nm 3 v = v := by unfold sz_set; rw [if_neg (by omega), if_neg (by omega), if_neg (by omega)]
theorem yd6_n {Es : List vy} {p : Int} (gr : ∀ v ∈ Es, v.1.1 = 3 → 0 ≤ v.2.2.1.1 ∧ v.2.2.1.1 ≤ 2) (h : ∀ (k : Nat) v, Es[k]? = some v → ¬ yc6 v p) : (xDs Es p).2.1.2.1 = 0 :=
  xds_none (fun D => D.2.1.2.1) (fun v => yc6 v p ∨ ¬ (v.1.1 = 3 → 0 ≤ v.2.2.1.1 ∧ v.2.2.1.1 ≤ 2)) p (fun D v hv => xd_cs (P := fun X => X.2.1.2.1 = (D p).2.1.2.1) D v p (fun _ => rfl) (fun _ _ => rfl) (fun _ _ => rfl) (fun _ _ => rfl) (fun a c => sz_set3n (by
    have q := (Classical.not_not.mp (fun w => hv (Or.inr w))) a
    have q2 : v.2.2.1.1 ≠ 0 := fun w => hv (Or.inl ⟨⟨a, w⟩, c⟩)
    omega)) (fun _ _ _ _ => rfl)) Es xD0 (fun v hv w => w.elim (mem_of_at h v hv) (fun w => w (gr v hv)))
theorem yd6_a {Es : List vy} {p : Int} (gr : ∀ v ∈ Es, v.1.1 = 3 → 0 ≤ v.2.2.1.1 ∧ v.2.2.1.1 ≤ 2) {k : Nat} {v : vy} (hk : Es[k]? = some v) (hc : yc6 v p) (h : ∀ (j : Nat) y, k < j → Es[j]? = some y → ¬ yc6 y p) : (xDs Es p).2.1.2.1 = v.2.2.1.2 := by
  have key : ∀ (Es : List vy) (D : Int → xD) (k : Nat) (v : vy), (∀ v ∈ Es, v.1.1 = 3 → 0 ≤ v.2.2.1.1 ∧ v.2.2.1.1 ≤ 2) → Es[k]? = some v → yc6 v p → (∀ (j : Nat) y, k < j → Es[j]? = some y → ¬ yc6 y p) → (Es.foldl xd D p).2.1.2.1 = v.2.2.1.2 := by
    intro Es
    induction Es with
    | nil => intro D k v _ hk; cases hk
    | cons e t ih =>
      intro D k v gr hk hc hn
      cases k with
      | zero =>
        cases hk
        show (t.foldl xd (xd D e) p).2.1.2.1 = _
        have z := xds_none (fun D => D.2.1.2.1) (fun v => yc6 v p ∨ ¬ (v.1.1 = 3 → 0 ≤ v.2.2.1.1 ∧ v.2.2.1.1 ≤ 2)) p (fun D v hv => xd_cs (P := fun X => X.2.1.2.1 = (D p).2.1.2.1) D v p (fun _ => rfl) (fun _ _ => rfl) (fun _ _ => rfl) (fun _ _ => rfl) (fun a c => sz_set3n (by
          have q := (Classical.not_not.mp (fun w => hv (Or.inr w))) a
          have q2 : v.2.2.1.1 ≠ 0 := fun w => hv (Or.inl ⟨⟨a, w⟩, c⟩)
          omega)) (fun _ _ _ _ => rfl)) t (xd D e) (fun w hw q => q.elim (fun q => by
            obtain ⟨j, hj⟩ := List.getElem?_of_mem hw
            exact hn (j + 1) w (Nat.succ_pos _) hj q) (fun q => q (gr w (List.mem_cons_of_mem _ hw))))
        refine Eq.trans z ?_
        exact xd_cs (P := fun X => X.2.1.2.1 = e.2.2.1.2) D e p (fun a => absurd hc.2 a) (fun a _ => by have := hc.1.1; omega) (fun a _ => by have := hc.1.1; omega) (fun a _ => by have := hc.1.1; omega) (fun _ _ => sz_set3 hc.1.2) (fun _ _ _ a => absurd hc.1.1 a)
      | succ k => exact ih (xd D e) k v (fun w hw => gr w (List.mem_cons_of_mem _ hw)) hk hc (fun j y hj hy => hn (j + 1) y (by omega) hy)
  exact key Es xD0 k v gr hk hc h
section Yc6
variable {h : cz_H} {l : Nat} {v : vy} {p : Int}
theorem vx_c6 (a : vx h l v) : (qz_I h l 0 = 3 ∧ qz_I h l 5 = 6 ∧ qz_I h l 1 ≤ p ∧ p ≤ qz_I h l 2) ↔ yc6 v p := by
  obtain ⟨a0, -, -, -, a4⟩ := a
  unfold yc6 cvr
  rw [← a0]
  have key : qz_I h l 0 = 3 → (qz_I h l 1 = v.1.2.1 ∧ qz_I h l 2 = v.1.2.2) ∧ (qz_I h l 5 = 6 ↔ v.2.2.1.1 = 0) := fun w => by
    obtain ⟨b1, b2, -, b4, b5, b6⟩ := a4 (by omega)
    refine ⟨b1, ?_⟩
    rw [b2]
    by_cases e0 : v.2.2.1.1 = 0
    · rw [if_pos e0]; omega
    · rw [if_neg e0]
      by_cases e1 : v.2.2.1.1 = 1
      · rw [if_pos e1]; omega
      · rw [if_neg e1]; have := b6 (by omega); omega
  refine ⟨fun w => ?_, fun w => ?_⟩
  · obtain ⟨k1, k2⟩ := key w.1
    rw [← k1.1, ← k1.2]; exact ⟨⟨w.1, k2.mp w.2.1⟩, w.2.2⟩
  · obtain ⟨k1, k2⟩ := key w.1.1
    rw [k1.1, k1.2]; exact ⟨w.1.1, k2.mpr w.1.2, w.2⟩
end Yc6
theorem cz_tab_d {dflt lo hi : Int} {offs : Array Int} {n : Int} (h : n < lo ∨ hi < n) : cz_tab dflt lo hi offs n = some dflt := by
  unfold cz_tab
  rcases h with h | h
  · rw [decide_eq_true h]; rfl
  · rw [decide_eq_true h, Bool.or_true]; rfl
/-- a boundary of GRAPHEMES -/
abbrev ctl (v : Int) : Prop := v = 1 ∨ v = 2 ∨ v = 3
abbrev isy (a b : Int) : Prop := (a = 9 ∧ (b = 9 ∨ b = 10 ∨ b = 12 ∨ b = 13)) ∨ ((a = 12 ∨ a = 10) ∧ (b = 10 ∨ b = 11)) ∨ ((a = 13 ∨ a = 11) ∧ b = 11)
abbrev gA (a b : Int) : Prop := isy a b ∨ b = 4 ∨ b = 5 ∨ b = 8 ∨ a = 7
def gV (D : Int → xD) (u : List Int) (k : Int) : Int := (D (uX u k)).2.1.2.1
def pbf (V : Int → Int) (pic : Int → Prop) : Nat → Prop
  | 0 => False
  | k + 1 => pic (k : Int) ∨ (V (k : Int) = 4 ∧ pbf V pic k)
def odg (V : Int → Int) : Nat → Prop
  | 0 => V 0 = 6
  | k + 1 => V ((k : Int) + 1) = 6 ∧ ¬ odg V k
def cgn (V : Int → Int) : Nat → Int
  | 0 => 0
  | k + 1 => if V (k : Int) = 6 then cgn V k + 1 else 0
theorem cgn_bd (V : Int → Int) : ∀ k : Nat, 0 ≤ cgn V k ∧ cgn V k ≤ (k : Int)
  | 0 => ⟨Int.le_refl _, Int.le_refl _⟩
  | k + 1 => by
    have := cgn_bd V k
    show 0 ≤ (if V (k : Int) = 6 then cgn V k + 1 else 0) ∧ (if V (k : Int) = 6 then cgn V k + 1 else 0) ≤ ((k + 1 : Nat) : Int)
    by_cases e : V (k : Int) = 6
    · rw [if_pos e]; omega
    · rw [if_neg e]; omega
theorem cgn_s (V : Int → Int) {k : Int} (h : 0 ≤ k) : cgn V (k + 1).toNat = if V k = 6 then cgn V k.toNat + 1 else 0 := by
  have e : (k + 1).toNat = k.toNat + 1 := by omega
  have e2 : ((k.toNat : Nat) : Int) = k := by omega
  rw [e]
  show (if V ((k.toNat : Nat) : Int) = 6 then cgn V k.toNat + 1 else 0) = _
  rw [e2]
theorem odg_c (V : Int → Int) : ∀ k : Nat, odg V k ↔ cgn V (k + 1) % 2 = 1
  | 0 => by
    show V 0 = 6 ↔ (if V 0 = 6 then (0 : Int) + 1 else 0) % 2 = 1
    by_cases e : V 0 = 6
    · rw [if_pos e]; exact ⟨fun _ => by decide, fun _ => e⟩
    · rw [if_neg e]; exact ⟨fun w => absurd w e, fun w => absurd w (by decide)⟩
  | k + 1 => by
    have ih := odg_c V k
    have b := cgn_bd V (k + 1)
    show (V ((k : Int) + 1) = 6 ∧ ¬ odg V k) ↔ (if V ((k + 1 : Nat) : Int) = 6 then cgn V (k + 1) + 1 else 0) % 2 = 1
    rw [show ((k + 1 : Nat) : Int) = (k : Int) + 1 by omega, ih]
    by_cases e : V ((k : Int) + 1) = 6
    · rw [if_pos e]; exact ⟨fun w => by have := w.2; omega, fun w => ⟨e, by omega⟩⟩
    · rw [if_neg e]; exact ⟨fun w => absurd w.1 e, fun w => absurd w (by decide)⟩
theorem odg_s (V : Int → Int) {i : Int} (h : 0 ≤ i) : odg V i.toNat ↔ (V i = 6 ∧ ¬ (0 < i ∧ odg V (i - 1).toNat)) := by
  by_cases e : 0 < i
  · have e1 : i.toNat = (i - 1).toNat + 1 := by omega
    have e2 : (((i - 1).toNat : Nat) : Int) + 1 = i := by omega
    rw [e1]
    show (V ((((i - 1).toNat : Nat) : Int) + 1) = 6 ∧ ¬ odg V (i - 1).toNat) ↔ _
    rw [e2]
    exact ⟨fun w => ⟨w.1, fun q => w.2 q.2⟩, fun w => ⟨w.1, fun q => w.2 ⟨e, q⟩⟩⟩
  · have e0 : i = 0 := by omega
    subst e0
    exact ⟨fun w => ⟨w, fun q => e q.1⟩, fun w => w.1⟩
theorem pbf_s (V : Int → Int) (pic : Int → Prop) {k : Int} (h : 0 ≤ k) : pbf V pic (k + 1).toNat ↔ (pic k ∨ (V k = 4 ∧ pbf V pic k.toNat)) := by
  have e : (k + 1).toNat = k.toNat + 1 := by omega
  have e2 : ((k.toNat : Nat) : Int) = k := by omega
  rw [e]
  show (pic ((k.toNat : Nat) : Int) ∨ (V ((k.toNat : Nat) : Int) = 4 ∧ pbf V pic k.toNat)) ↔ _
  rw [e2]
theorem pbf_0 (V : Int → Int) (pic : Int → Prop) {k : Int} (h : k ≤ 0) : ¬ pbf V pic k.toNat := by rw [show k.toNat = 0 by omega]; exact id
def gbd (V : Int → Int) (pic : Int → Prop) (n i : Int) : Prop := i ≤ 0 ∨ n ≤ i ∨ (¬ (V (i - 1) = 1 ∧ V i = 2) ∧ ((ctl (V (i - 1)) ∨ ctl (V i)) ∨ (¬ gA (V (i - 1)) (V i) ∧ ¬ (V (i - 1) = 5 ∧ pic i ∧ pbf V pic (i - 1).toNat) ∧ ¬ (V i = 6 ∧ odg V (i - 1).toNat))))
section YGb
variable {V : Int → Int} {pic : Int → Prop} {n i : Int}
theorem gbd_o (h : i ≤ 0 ∨ n ≤ i) : gbd V pic n i := h.elim Or.inl (fun w => Or.inr (Or.inl w))
theorem gbd_n (i0 : 0 < i) (i1 : i < n) (h : (V (i - 1) = 1 ∧ V i = 2) ∨ ((¬ ctl (V (i - 1)) ∧ ¬ ctl (V i)) ∧ (gA (V (i - 1)) (V i) ∨ (V (i - 1) = 5 ∧ pic i ∧ pbf V pic (i - 1).toNat) ∨ (V i = 6 ∧ odg V (i - 1).toNat)))) : ¬ gbd V pic n i := fun w => by
  rcases w with w | w | ⟨w1, w2⟩
  · omega
  · omega
  · rcases h with h | ⟨h1, h2⟩
    · exact w1 h
    · rcases w2 with w | ⟨w3, w4, w5⟩
      · exact w.elim h1.1 h1.2
      · rcases h2 with h | h | h
        · exact w3 h
        · exact w4 h
        · exact w5 h
theorem gbd_2 (h1 : ¬ (V (i - 1) = 1 ∧ V i = 2)) (h2 : ctl (V (i - 1)) ∨ ctl (V i)) : gbd V pic n i := Or.inr (Or.inr ⟨h1, Or.inl h2⟩)
theorem gbd_4 (h1 : ¬ (V (i - 1) = 1 ∧ V i = 2)) (h2 : ¬ gA (V (i - 1)) (V i)) (h3 : ¬ (V (i - 1) = 5 ∧ pic i ∧ pbf V pic (i - 1).toNat)) (h4 : ¬ (V i = 6 ∧ odg V (i - 1).toNat)) : gbd V pic n i := Or.inr (Or.inr ⟨h1, Or.inr ⟨h2, h3, h4⟩⟩)
end YGb
/-- a boundary -/
def edP (D : Int → xD) (u : List Int) (kind i : Int) : Prop := u.length ≠ 0 ∧ (kind = 1 → wbd (wV D u) (wpi D u) u.length i) ∧ (kind = 0 → gbd (gV D u) (wpi D u) u.length i)
def bwP (P : Prop) (v : Int) : Prop := (P ∧ v = 1) ∨ (¬ P ∧ v = 0)
theorem bwP_u {P : Prop} {v w : Int} (a : bwP P v) (b : bwP P w) : v = w := by
  rcases a with ⟨a1, a2⟩ | ⟨a1, a2⟩ <;> rcases b with ⟨b1, b2⟩ | ⟨b1, b2⟩
  · omega
  · exact absurd a1 b1
  · exact absurd b1 a1
  · omega
/-- the next one, the one before -/
def nxf (P : Int → Prop) (n i v : Int) : Prop := (i < v ∧ v ≤ n ∧ P v ∧ ∀ k, i < k → k < v → ¬ P k) ∨ (v = -1 ∧ ∀ k, i < k → k ≤ n → ¬ P k)
def nxb (P : Int → Prop) (i v : Int) : Prop := (0 ≤ v ∧ v < i ∧ P v ∧ ∀ k, v < k → k < i → ¬ P k) ∨ (v = -1 ∧ ∀ k, 0 ≤ k → k < i → ¬ P k)
theorem nxf_u {P : Int → Prop} {n i v w : Int} (a : nxf P n i v) (b : nxf P n i w) : v = w := by
  rcases a with ⟨a1, a2, a3, a4⟩ | ⟨a1, a2⟩ <;> rcases b with ⟨b1, b2, b3, b4⟩ | ⟨b1, b2⟩
  · rcases Int.lt_trichotomy v w with e | e | e
    · exact absurd a3 (b4 v a1 e)
    · exact e
    · exact absurd b3 (a4 w b1 e)
  · exact absurd a3 (b2 v a1 a2)
  · exact absurd b3 (a2 w b1 b2)
  · omega
theorem nxb_u {P : Int → Prop} {i v w : Int} (a : nxb P i v) (b : nxb P i w) : v = w := by
  rcases a with ⟨a1, a2, a3, a4⟩ | ⟨a1, a2⟩ <;> rcases b with ⟨b1, b2, b3, b4⟩ | ⟨b1, b2⟩
  · rcases Int.lt_trichotomy v w with e | e | e
    · exact absurd b3 (a4 w e b2)
    · exact e
    · exact absurd a3 (b4 v e a2)
  · exact absurd a3 (b2 v a1 a2)
  · exact absurd b3 (a2 w b1 b2)
  · omega
/-- Breaks has loaded u for GRAPHEMES -/
def bkG (τ : Nat → Nat) (h : cz_H) (D : Int → xD) (u : List Int) : Prop := (ez_B τ h ∧ jz_X τ) ∧ (u.length : Int) ≤ 2000 ∧ (qz_I h 733 5 = (u.length : Int) ∧ qz_I h 733 6 = 0) ∧ ∀ k : Int, 0 ≤ k → k < (u.length : Int) → qz_I h 734 k.toNat = gV D u k ∧ (qz_I h 735 k.toNat = 1 ↔ wpi D u k) ∧ qz_I h 736 k.toNat = k ∧ (qz_I h 737 k.toNat = 1 ↔ odg (gV D u) k.toNat)
def bkK (τ : Nat → Nat) (h : cz_H) (D : Int → xD) (u : List Int) (kind : Int) : Prop := (kind = 1 ∧ bkC τ h D u) ∨ (kind = 0 ∧ bkG τ h D u)
section EzGr
variable {d : Nat} {h : cz_H} {τ : Nat → Nat} {P Q : cz_F → Prop} {F : rz_W} {E : Int → Prop} {T : Int → Nat} {D : Int → xD} {O : Nat → Int} {u : List Int} {r : Nat} {X : Nat → List Int}
theorem rd_bctl {v : Int} (hB : ez_B τ h) (vr : ez_rg v) (k1 : ctl v → Q (.inl (some (ez_v (.inl 1))), h)) (k0 : ¬ ctl v → Q (.inl (some (ez_v (.inl 0))), h)) : ez_W d cm_48 0 [(0, .inl (v))] [] h Q := by
  obtain ⟨vr1, vr2⟩ := id vr
  refine ez_go (n := 2) (pc' := 2) (L' := [(0, .inl (v))]) (st' := [.inl (1), .inl (v)]) rfl ?_
  refine ez_icmp rfl rfl ⟨by first | omega | exact (sz_i32 _).1, by first | omega | exact (sz_i32 _).2⟩ ⟨by first | omega | exact (sz_i32 _).1, by first | omega | exact (sz_i32 _).2⟩ (fun (c1 : (v) = (1)) => ?_) (fun (c1 : ¬((v) = (1))) => ?_)
  · skip
    refine ez_go (n := 2) (pc' := 20) (L' := [(0, .inl (v))]) (st' := [.inl (1)]) rfl ?_
    exact ez_retZ rfl rfl (Or.inr rfl) (k1 (by omega))
  · skip
    refine ez_go (n := 2) (pc' := 7) (L' := [(0, .inl (v))]) (st' := [.inl (2), .inl (v)]) rfl ?_
    refine ez_icmp rfl rfl ⟨by first | omega | exact (sz_i32 _).1, by first | omega | exact (sz_i32 _).2⟩ ⟨by first | omega | exact (sz_i32 _).1, by first | omega | exact (sz_i32 _).2⟩ (fun (c2 : (v) = (2)) => ?_) (fun (c2 : ¬((v) = (2))) => ?_)
    · skip
      refine ez_go (n := 2) (pc' := 20) (L' := [(0, .inl (v))]) (st' := [.inl (1)]) rfl ?_
      exact ez_retZ rfl rfl (Or.inr rfl) (k1 (by omega))
    · skip
      refine ez_go (n := 2) (pc' := 12) (L' := [(0, .inl (v))]) (st' := [.inl (3), .inl (v)]) rfl ?_
      refine ez_icmp rfl rfl ⟨by first | omega | exact (sz_i32 _).1, by first | omega | exact (sz_i32 _).2⟩ ⟨by first | omega | exact (sz_i32 _).1, by first | omega | exact (sz_i32 _).2⟩ (fun (c3 : (v) ≠ (3)) => ?_) (fun (c3 : ¬((v) ≠ (3))) => ?_)
      · skip
        refine ez_go (n := 1) (pc' := 20) (L' := [(0, .inl (v))]) (st' := [.inl (0)]) rfl ?_
        exact ez_retZ rfl rfl (Or.inl rfl) (k0 (by omega))
      · skip
        refine ez_go (n := 2) (pc' := 20) (L' := [(0, .inl (v))]) (st' := [.inl (1)]) rfl ?_
        exact ez_retZ rfl rfl (Or.inr rfl) (k1 (by omega))

theorem rd_bsyl {a b : Int} (hB : ez_B τ h) (ar : ez_rg a) (br : ez_rg b) (k1 : isy a b → Q (.inl (some (ez_v (.inl 1))), h)) (k0 : ¬ isy a b → Q (.inl (some (ez_v (.inl 0))), h)) : ez_W d cm_51 0 [(0, .inl (a)), (1, .inl (b))] [] h Q := by
  obtain ⟨ar1, ar2⟩ := id ar
  obtain ⟨br1, br2⟩ := id br
  refine ez_go (n := 1) (pc' := 1) (L' := [(0, .inl (a)), (1, .inl (b))]) (st' := [.inl (a)]) rfl ?_
  have ha : a = 9 ∨ a = 10 ∨ a = 11 ∨ a = 12 ∨ a = 13 ∨ (a < 9 ∨ 13 < a) := by omega
  rcases ha with e | e | e | e | e | e
  · subst e
    refine ez_sw (t := 36) rfl ⟨by decide, by decide⟩ ⟨_, rfl, rfl⟩ ?_
    refine ez_go (n := 2) (pc' := 39) (L' := [(0, .inl (9)), (1, .inl (b))]) (st' := [.inl (9), .inl (b)]) rfl ?_
    refine ez_icmp rfl rfl ⟨by first | omega | exact (sz_i32 _).1, by first | omega | exact (sz_i32 _).2⟩ ⟨by first | omega | exact (sz_i32 _).1, by first | omega | exact (sz_i32 _).2⟩ (fun (c1 : (b) = (9)) => ?_) (fun (c1 : ¬((b) = (9))) => ?_)
    · skip
      refine ez_go (n := 2) (pc' := 65) (L' := [(0, .inl (9)), (1, .inl (b))]) (st' := [.inl (1)]) rfl ?_
      exact ez_retZ rfl rfl (Or.inr rfl) (k1 (by omega))
    · skip
      refine ez_go (n := 2) (pc' := 45) (L' := [(0, .inl (9)), (1, .inl (b))]) (st' := [.inl (10), .inl (b)]) rfl ?_
      refine ez_icmp rfl rfl ⟨by first | omega | exact (sz_i32 _).1, by first | omega | exact (sz_i32 _).2⟩ ⟨by first | omega | exact (sz_i32 _).1, by first | omega | exact (sz_i32 _).2⟩ (fun (c2 : (b) = (10)) => ?_) (fun (c2 : ¬((b) = (10))) => ?_)
      · skip
        refine ez_go (n := 2) (pc' := 65) (L' := [(0, .inl (9)), (1, .inl (b))]) (st' := [.inl (1)]) rfl ?_
        exact ez_retZ rfl rfl (Or.inr rfl) (k1 (by omega))
      · skip
        refine ez_go (n := 2) (pc' := 51) (L' := [(0, .inl (9)), (1, .inl (b))]) (st' := [.inl (12), .inl (b)]) rfl ?_
        refine ez_icmp rfl rfl ⟨by first | omega | exact (sz_i32 _).1, by first | omega | exact (sz_i32 _).2⟩ ⟨by first | omega | exact (sz_i32 _).1, by first | omega | exact (sz_i32 _).2⟩ (fun (c3 : (b) = (12)) => ?_) (fun (c3 : ¬((b) = (12))) => ?_)
        · skip
          refine ez_go (n := 2) (pc' := 65) (L' := [(0, .inl (9)), (1, .inl (b))]) (st' := [.inl (1)]) rfl ?_
          exact ez_retZ rfl rfl (Or.inr rfl) (k1 (by omega))
        · skip
          refine ez_go (n := 2) (pc' := 57) (L' := [(0, .inl (9)), (1, .inl (b))]) (st' := [.inl (13), .inl (b)]) rfl ?_
          refine ez_icmp rfl rfl ⟨by first | omega | exact (sz_i32 _).1, by first | omega | exact (sz_i32 _).2⟩ ⟨by first | omega | exact (sz_i32 _).1, by first | omega | exact (sz_i32 _).2⟩ (fun (c4 : (b) ≠ (13)) => ?_) (fun (c4 : ¬((b) ≠ (13))) => ?_)
          · skip
            refine ez_go (n := 1) (pc' := 65) (L' := [(0, .inl (9)), (1, .inl (b))]) (st' := [.inl (0)]) rfl ?_
            exact ez_retZ rfl rfl (Or.inl rfl) (k0 (by omega))
          · skip
            refine ez_go (n := 2) (pc' := 65) (L' := [(0, .inl (9)), (1, .inl (b))]) (st' := [.inl (1)]) rfl ?_
            exact ez_retZ rfl rfl (Or.inr rfl) (k1 (by omega))
  · subst e
    refine ez_sw (t := 66) rfl ⟨by decide, by decide⟩ ⟨_, rfl, rfl⟩ ?_
    refine ez_go (n := 2) (pc' := 69) (L' := [(0, .inl (10)), (1, .inl (b))]) (st' := [.inl (10), .inl (b)]) rfl ?_
    refine ez_icmp rfl rfl ⟨by first | omega | exact (sz_i32 _).1, by first | omega | exact (sz_i32 _).2⟩ ⟨by first | omega | exact (sz_i32 _).1, by first | omega | exact (sz_i32 _).2⟩ (fun (c1 : (b) = (10)) => ?_) (fun (c1 : ¬((b) = (10))) => ?_)
    · skip
      refine ez_go (n := 2) (pc' := 83) (L' := [(0, .inl (10)), (1, .inl (b))]) (st' := [.inl (1)]) rfl ?_
      exact ez_retZ rfl rfl (Or.inr rfl) (k1 (by omega))
    · skip
      refine ez_go (n := 2) (pc' := 75) (L' := [(0, .inl (10)), (1, .inl (b))]) (st' := [.inl (11), .inl (b)]) rfl ?_
      refine ez_icmp rfl rfl ⟨by first | omega | exact (sz_i32 _).1, by first | omega | exact (sz_i32 _).2⟩ ⟨by first | omega | exact (sz_i32 _).1, by first | omega | exact (sz_i32 _).2⟩ (fun (c2 : (b) ≠ (11)) => ?_) (fun (c2 : ¬((b) ≠ (11))) => ?_)
      · skip
        refine ez_go (n := 1) (pc' := 83) (L' := [(0, .inl (10)), (1, .inl (b))]) (st' := [.inl (0)]) rfl ?_
        exact ez_retZ rfl rfl (Or.inl rfl) (k0 (by omega))
      · skip
        refine ez_go (n := 2) (pc' := 83) (L' := [(0, .inl (10)), (1, .inl (b))]) (st' := [.inl (1)]) rfl ?_
        exact ez_retZ rfl rfl (Or.inr rfl) (k1 (by omega))
  · subst e
    refine ez_sw (t := 84) rfl ⟨by decide, by decide⟩ ⟨_, rfl, rfl⟩ ?_
    refine ez_go (n := 2) (pc' := 87) (L' := [(0, .inl (11)), (1, .inl (b))]) (st' := [.inl (11), .inl (b)]) rfl ?_
    refine ez_icmp rfl rfl ⟨by first | omega | exact (sz_i32 _).1, by first | omega | exact (sz_i32 _).2⟩ ⟨by first | omega | exact (sz_i32 _).1, by first | omega | exact (sz_i32 _).2⟩ (fun (c1 : (b) ≠ (11)) => ?_) (fun (c1 : ¬((b) ≠ (11))) => ?_)
    · skip
      refine ez_go (n := 1) (pc' := 95) (L' := [(0, .inl (11)), (1, .inl (b))]) (st' := [.inl (0)]) rfl ?_
      exact ez_retZ rfl rfl (Or.inl rfl) (k0 (by omega))
    · skip
      refine ez_go (n := 2) (pc' := 95) (L' := [(0, .inl (11)), (1, .inl (b))]) (st' := [.inl (1)]) rfl ?_
      exact ez_retZ rfl rfl (Or.inr rfl) (k1 (by omega))
  · subst e
    refine ez_sw (t := 66) rfl ⟨by decide, by decide⟩ ⟨_, rfl, rfl⟩ ?_
    refine ez_go (n := 2) (pc' := 69) (L' := [(0, .inl (12)), (1, .inl (b))]) (st' := [.inl (10), .inl (b)]) rfl ?_
    refine ez_icmp rfl rfl ⟨by first | omega | exact (sz_i32 _).1, by first | omega | exact (sz_i32 _).2⟩ ⟨by first | omega | exact (sz_i32 _).1, by first | omega | exact (sz_i32 _).2⟩ (fun (c1 : (b) = (10)) => ?_) (fun (c1 : ¬((b) = (10))) => ?_)
    · skip
      refine ez_go (n := 2) (pc' := 83) (L' := [(0, .inl (12)), (1, .inl (b))]) (st' := [.inl (1)]) rfl ?_
      exact ez_retZ rfl rfl (Or.inr rfl) (k1 (by omega))
    · skip
      refine ez_go (n := 2) (pc' := 75) (L' := [(0, .inl (12)), (1, .inl (b))]) (st' := [.inl (11), .inl (b)]) rfl ?_
      refine ez_icmp rfl rfl ⟨by first | omega | exact (sz_i32 _).1, by first | omega | exact (sz_i32 _).2⟩ ⟨by first | omega | exact (sz_i32 _).1, by first | omega | exact (sz_i32 _).2⟩ (fun (c2 : (b) ≠ (11)) => ?_) (fun (c2 : ¬((b) ≠ (11))) => ?_)
      · skip
        refine ez_go (n := 1) (pc' := 83) (L' := [(0, .inl (12)), (1, .inl (b))]) (st' := [.inl (0)]) rfl ?_
        exact ez_retZ rfl rfl (Or.inl rfl) (k0 (by omega))
      · skip
        refine ez_go (n := 2) (pc' := 83) (L' := [(0, .inl (12)), (1, .inl (b))]) (st' := [.inl (1)]) rfl ?_
        exact ez_retZ rfl rfl (Or.inr rfl) (k1 (by omega))
  · subst e
    refine ez_sw (t := 84) rfl ⟨by decide, by decide⟩ ⟨_, rfl, rfl⟩ ?_
    refine ez_go (n := 2) (pc' := 87) (L' := [(0, .inl (13)), (1, .inl (b))]) (st' := [.inl (11), .inl (b)]) rfl ?_
    refine ez_icmp rfl rfl ⟨by first | omega | exact (sz_i32 _).1, by first | omega | exact (sz_i32 _).2⟩ ⟨by first | omega | exact (sz_i32 _).1, by first | omega | exact (sz_i32 _).2⟩ (fun (c1 : (b) ≠ (11)) => ?_) (fun (c1 : ¬((b) ≠ (11))) => ?_)
    · skip
      refine ez_go (n := 1) (pc' := 95) (L' := [(0, .inl (13)), (1, .inl (b))]) (st' := [.inl (0)]) rfl ?_
      exact ez_retZ rfl rfl (Or.inl rfl) (k0 (by omega))
    · skip
      refine ez_go (n := 2) (pc' := 95) (L' := [(0, .inl (13)), (1, .inl (b))]) (st' := [.inl (1)]) rfl ?_
      exact ez_retZ rfl rfl (Or.inr rfl) (k1 (by omega))
  · refine ez_sw (t := 96) rfl ⟨by omega, by omega⟩ ⟨_, cz_tab_d (by omega), rfl⟩ ?_
    refine ez_go (n := 1) (pc' := 97) (L' := [(0, .inl (a)), (1, .inl (b))]) (st' := [.inl (0)]) rfl ?_
    exact ez_retZ rfl rfl (Or.inl rfl) (k0 (by omega))

theorem rd_isPB_l {j : Int} (c : bkG τ h D u) (j1 : j ≤ (u.length : Int)) (k1 : pbf (gV D u) (wpi D u) j.toNat → Q (.inl (some (ez_v (.inl 1))), h)) (k0 : ¬ pbf (gV D u) (wpi D u) j.toNat → Q (.inl (some (ez_v (.inl 0))), h)) : ∀ (n : Nat) (k : Int), n = (k + 1).toNat → -1 ≤ k → k < j → (pbf (gV D u) (wpi D u) j.toNat ↔ pbf (gV D u) (wpi D u) (k + 1).toNat) → ez_W d cm_55 4 [(2, .inl (k)), (0, .inr (.inr (some (733)))), (1, .inl (j))] [] h Q := by
  have hB := c.1.1
  have t733 : τ 733 = 65 := c.1.2 733 (by decide)
  have n2 := c.2.1
  have e5 := c.2.2.1.1
  have e6 := c.2.2.1.2
  intro n
  induction n with
  | zero =>
    intro k hn0 ka kb he
    refine ez_go (n := 1) (pc' := 5) (L' := [(2, .inl (k)), (0, .inr (.inr (some (733)))), (1, .inl (j))]) (st' := [.inl (k)]) rfl ?_
    refine ez_if rfl rfl ⟨by first | omega | exact (sz_i32 _).1, by first | omega | exact (sz_i32 _).2⟩ (fun (c1 : (k) < (0)) => ?_) (fun (c1 : ¬((k) < (0))) => ?_)
    · skip
      refine ez_go (n := 1) (pc' := 38) (L' := [(2, .inl (k)), (0, .inr (.inr (some (733)))), (1, .inl (j))]) (st' := [.inl (0)]) rfl ?_
      exact ez_retZ rfl rfl (Or.inl rfl) (k0 (fun w => by have w := he.mp w; first | exact absurd w (pbf_0 _ _ (by omega)) | (rw [pbf_s _ _ (by omega)] at w; rcases w with w | w; (· exact absurd (e35.mpr w) (by omega)); (· have := w.1; omega))))
    · skip
      refine ez_go (n := 1) (pc' := 9) (L' := [(2, .inl (k)), (0, .inr (.inr (some (733)))), (1, .inl (j))]) (st' := [.inr (.inr (some (733)))]) rfl ?_
      refine ez_gC (p := 735) (tg := 67) hB t733 rfl rfl tq_65 rfl rfl (fun (t735 : _ = 67) => ?_)
      refine ez_go (n := 1) (pc' := 13) (L' := [(2, .inl (k)), (0, .inr (.inr (some (733)))), (1, .inl (j))]) (st' := [.inl (k), .inr (.inr (some (735)))]) rfl ?_
      have n3 : 2000 ≤ qz_N h 735 ∧ qz_N h 735 ≤ 2000 := ez_len hB t735 tq_67 rfl
      refine ez_aI hB t735 rfl tq_67 rfl rfl (by omega) (by omega) (fun (b2 : 0 ≤ qz_I h 735 (k).toNat) (b2' : qz_I h 735 (k).toNat ≤ 1) => ?_)
      have e35 := (c.2.2.2 (k) (by omega) (by omega)).2.1
      refine ez_if rfl rfl ⟨by first | omega | exact (sz_i32 _).1, by first | omega | exact (sz_i32 _).2⟩ (fun (c4 : (qz_I h 735 (k).toNat) = (0)) => ?_) (fun (c4 : ¬((qz_I h 735 (k).toNat) = (0))) => ?_)
      · skip
        refine ez_go (n := 1) (pc' := 20) (L' := [(2, .inl (k)), (0, .inr (.inr (some (733)))), (1, .inl (j))]) (st' := [.inr (.inr (some (733)))]) rfl ?_
        refine ez_gC (p := 734) (tg := 66) hB t733 rfl rfl tq_65 rfl rfl (fun (t734 : _ = 66) => ?_)
        refine ez_go (n := 1) (pc' := 24) (L' := [(2, .inl (k)), (0, .inr (.inr (some (733)))), (1, .inl (j))]) (st' := [.inl (k), .inr (.inr (some (734)))]) rfl ?_
        have n6 : 2000 ≤ qz_N h 734 ∧ qz_N h 734 ≤ 2000 := ez_len hB t734 tq_66 rfl
        refine ez_aI hB t734 rfl tq_66 rfl rfl (by omega) (by omega) (fun (b5 : -2147483648 ≤ qz_I h 734 (k).toNat) (b5' : qz_I h 734 (k).toNat ≤ 2147483647) => ?_)
        have e34 := (c.2.2.2 (k) (by omega) (by omega)).1
        rw [show qz_I h 734 (k).toNat = gV D u (k) from e34]
        refine ez_go (n := 1) (pc' := 26) (L' := [(2, .inl (k)), (0, .inr (.inr (some (733)))), (1, .inl (j))]) (st' := [.inl (4), .inl (gV D u (k))]) rfl ?_
        refine ez_icmp rfl rfl ⟨by first | omega | exact (sz_i32 _).1, by first | omega | exact (sz_i32 _).2⟩ ⟨by first | omega | exact (sz_i32 _).1, by first | omega | exact (sz_i32 _).2⟩ (fun (c7 : (gV D u (k)) = (4)) => ?_) (fun (c7 : ¬((gV D u (k)) = (4))) => ?_)
        · skip
          refine ez_go (n := 2) (pc' := 4) (L' := [(2, .inl (k + (-1))), (0, .inr (.inr (some (733)))), (1, .inl (j))]) (st' := []) rfl ?_
          exfalso; omega
        · skip
          refine ez_go (n := 1) (pc' := 30) (L' := [(2, .inl (k)), (0, .inr (.inr (some (733)))), (1, .inl (j))]) (st' := [.inl (0)]) rfl ?_
          exact ez_retZ rfl rfl (Or.inl rfl) (k0 (fun w => by have w := he.mp w; first | exact absurd w (pbf_0 _ _ (by omega)) | (rw [pbf_s _ _ (by omega)] at w; rcases w with w | w; (· exact absurd (e35.mpr w) (by omega)); (· have := w.1; omega))))
      · skip
        refine ez_go (n := 1) (pc' := 18) (L' := [(2, .inl (k)), (0, .inr (.inr (some (733)))), (1, .inl (j))]) (st' := [.inl (1)]) rfl ?_
        exact ez_retZ rfl rfl (Or.inr rfl) (k1 (he.mpr ((pbf_s _ _ (by omega)).mpr (Or.inl (e35.mp (by omega))))))
  | succ n ih =>
    intro k hn0 ka kb he
    refine ez_go (n := 1) (pc' := 5) (L' := [(2, .inl (k)), (0, .inr (.inr (some (733)))), (1, .inl (j))]) (st' := [.inl (k)]) rfl ?_
    refine ez_if rfl rfl ⟨by first | omega | exact (sz_i32 _).1, by first | omega | exact (sz_i32 _).2⟩ (fun (c1 : (k) < (0)) => ?_) (fun (c1 : ¬((k) < (0))) => ?_)
    · skip
      refine ez_go (n := 1) (pc' := 38) (L' := [(2, .inl (k)), (0, .inr (.inr (some (733)))), (1, .inl (j))]) (st' := [.inl (0)]) rfl ?_
      exact ez_retZ rfl rfl (Or.inl rfl) (k0 (fun w => by have w := he.mp w; first | exact absurd w (pbf_0 _ _ (by omega)) | (rw [pbf_s _ _ (by omega)] at w; rcases w with w | w; (· exact absurd (e35.mpr w) (by omega)); (· have := w.1; omega))))
    · skip
      refine ez_go (n := 1) (pc' := 9) (L' := [(2, .inl (k)), (0, .inr (.inr (some (733)))), (1, .inl (j))]) (st' := [.inr (.inr (some (733)))]) rfl ?_
      refine ez_gC (p := 735) (tg := 67) hB t733 rfl rfl tq_65 rfl rfl (fun (t735 : _ = 67) => ?_)
      refine ez_go (n := 1) (pc' := 13) (L' := [(2, .inl (k)), (0, .inr (.inr (some (733)))), (1, .inl (j))]) (st' := [.inl (k), .inr (.inr (some (735)))]) rfl ?_
      have n3 : 2000 ≤ qz_N h 735 ∧ qz_N h 735 ≤ 2000 := ez_len hB t735 tq_67 rfl
      refine ez_aI hB t735 rfl tq_67 rfl rfl (by omega) (by omega) (fun (b2 : 0 ≤ qz_I h 735 (k).toNat) (b2' : qz_I h 735 (k).toNat ≤ 1) => ?_)
      have e35 := (c.2.2.2 (k) (by omega) (by omega)).2.1
      refine ez_if rfl rfl ⟨by first | omega | exact (sz_i32 _).1, by first | omega | exact (sz_i32 _).2⟩ (fun (c4 : (qz_I h 735 (k).toNat) = (0)) => ?_) (fun (c4 : ¬((qz_I h 735 (k).toNat) = (0))) => ?_)
      · skip
        refine ez_go (n := 1) (pc' := 20) (L' := [(2, .inl (k)), (0, .inr (.inr (some (733)))), (1, .inl (j))]) (st' := [.inr (.inr (some (733)))]) rfl ?_
        refine ez_gC (p := 734) (tg := 66) hB t733 rfl rfl tq_65 rfl rfl (fun (t734 : _ = 66) => ?_)
        refine ez_go (n := 1) (pc' := 24) (L' := [(2, .inl (k)), (0, .inr (.inr (some (733)))), (1, .inl (j))]) (st' := [.inl (k), .inr (.inr (some (734)))]) rfl ?_
        have n6 : 2000 ≤ qz_N h 734 ∧ qz_N h 734 ≤ 2000 := ez_len hB t734 tq_66 rfl
        refine ez_aI hB t734 rfl tq_66 rfl rfl (by omega) (by omega) (fun (b5 : -2147483648 ≤ qz_I h 734 (k).toNat) (b5' : qz_I h 734 (k).toNat ≤ 2147483647) => ?_)
        have e34 := (c.2.2.2 (k) (by omega) (by omega)).1
        rw [show qz_I h 734 (k).toNat = gV D u (k) from e34]
        refine ez_go (n := 1) (pc' := 26) (L' := [(2, .inl (k)), (0, .inr (.inr (some (733)))), (1, .inl (j))]) (st' := [.inl (4), .inl (gV D u (k))]) rfl ?_
        refine ez_icmp rfl rfl ⟨by first | omega | exact (sz_i32 _).1, by first | omega | exact (sz_i32 _).2⟩ ⟨by first | omega | exact (sz_i32 _).1, by first | omega | exact (sz_i32 _).2⟩ (fun (c7 : (gV D u (k)) = (4)) => ?_) (fun (c7 : ¬((gV D u (k)) = (4))) => ?_)
        · skip
          refine ez_go (n := 2) (pc' := 4) (L' := [(2, .inl (k + (-1))), (0, .inr (.inr (some (733)))), (1, .inl (j))]) (st' := []) rfl ?_
          refine ez_less [(2, .inl (k + (-1))), (0, .inr (.inr (some (733)))), (1, .inl (j))] rfl ⟨rfl, rfl, rfl, trivial⟩ ?_
          refine ih (k + (-1)) (by omega) (by omega) (by omega) ?_
          rw [he, pbf_s _ _ (by omega), show (k + (-1) + 1).toNat = k.toNat by omega]
          exact ⟨fun w => by rcases w with w | w; (· exact absurd (e35.mpr w) (by omega)); (· exact w.2), fun w => Or.inr ⟨by omega, w⟩⟩
        · skip
          refine ez_go (n := 1) (pc' := 30) (L' := [(2, .inl (k)), (0, .inr (.inr (some (733)))), (1, .inl (j))]) (st' := [.inl (0)]) rfl ?_
          exact ez_retZ rfl rfl (Or.inl rfl) (k0 (fun w => by have w := he.mp w; first | exact absurd w (pbf_0 _ _ (by omega)) | (rw [pbf_s _ _ (by omega)] at w; rcases w with w | w; (· exact absurd (e35.mpr w) (by omega)); (· have := w.1; omega))))
      · skip
        refine ez_go (n := 1) (pc' := 18) (L' := [(2, .inl (k)), (0, .inr (.inr (some (733)))), (1, .inl (j))]) (st' := [.inl (1)]) rfl ?_
        exact ez_retZ rfl rfl (Or.inr rfl) (k1 (he.mpr ((pbf_s _ _ (by omega)).mpr (Or.inl (e35.mp (by omega))))))

theorem rd_isPB {j : Int} (c : bkG τ h D u) (j1 : j ≤ (u.length : Int)) (k1 : pbf (gV D u) (wpi D u) j.toNat → Q (.inl (some (ez_v (.inl 1))), h)) (k0 : ¬ pbf (gV D u) (wpi D u) j.toNat → Q (.inl (some (ez_v (.inl 0))), h)) (j0 : 0 ≤ j) : ez_W d cm_55 0 [(0, .inr (.inr (some (733)))), (1, .inl (j))] [] h Q := by
  have hB := c.1.1
  have t733 : τ 733 = 65 := c.1.2 733 (by decide)
  have n2 := c.2.1
  have e5 := c.2.2.1.1
  have e6 := c.2.2.1.2
  refine ez_go (n := 4) (pc' := 4) (L' := [(2, .inl ((j) - (1))), (0, .inr (.inr (some (733)))), (1, .inl (j))]) (st' := []) rfl ?_
  refine ez_less [(2, .inl ((j) - (1))), (0, .inr (.inr (some (733)))), (1, .inl (j))] rfl ⟨rfl, rfl, rfl, trivial⟩ ?_
  exact rd_isPB_l c j1 k1 k0 _ _ rfl (by omega) (by omega) (by rw [show ((j) - (1) + 1).toNat = j.toNat by omega])

theorem rd_isGB76 {i : Int} (c : bkG τ h D u) (i0 : 0 < i) (i1 : i < (u.length : Int)) (k1 : gbd (gV D u) (wpi D u) u.length i → Q (.inl (some (ez_v (.inl 1))), h)) (k0 : ¬ gbd (gV D u) (wpi D u) u.length i → Q (.inl (some (ez_v (.inl 0))), h)) (ra : ez_rg (gV D u (i - 1))) (rb : ez_rg (gV D u (i))) (hq12 : ¬ (gV D u (i - 1) = 1 ∧ gV D u (i) = 2)) (wa : ¬ ctl (gV D u (i - 1))) (wb : ¬ ctl (gV D u (i))) (nA : ¬ gA (gV D u (i - 1)) (gV D u (i))) : ez_W (d + 1) cm_49 76 [(2, .inl (gV D u (i - 1))), (3, .inl (gV D u (i))), (0, .inr (.inr (some (733)))), (1, .inl (i))] [] h Q := by
  have hB := c.1.1
  have t733 : τ 733 = 65 := c.1.2 733 (by decide)
  have n2 := c.2.1
  have e5 := c.2.2.1.1
  have e6 := c.2.2.1.2
  obtain ⟨ra1, ra2⟩ := id ra
  obtain ⟨rb1, rb2⟩ := id rb
  refine ez_go (n := 2) (pc' := 78) (L' := [(2, .inl (gV D u (i - 1))), (3, .inl (gV D u (i))), (0, .inr (.inr (some (733)))), (1, .inl (i))]) (st' := [.inl (5), .inl (gV D u (i - 1))]) rfl ?_
  refine ez_icmp rfl rfl ⟨by first | omega | exact (sz_i32 _).1, by first | omega | exact (sz_i32 _).2⟩ ⟨by first | omega | exact (sz_i32 _).1, by first | omega | exact (sz_i32 _).2⟩ (fun (c1 : (gV D u (i - 1)) ≠ (5)) => ?_) (fun (c1 : ¬((gV D u (i - 1)) ≠ (5))) => ?_)
  · skip
    refine ez_go (n := 2) (pc' := 105) (L' := [(2, .inl (gV D u (i - 1))), (3, .inl (gV D u (i))), (0, .inr (.inr (some (733)))), (1, .inl (i))]) (st' := [.inl (6), .inl (gV D u (i))]) rfl ?_
    refine ez_icmp rfl rfl ⟨by first | omega | exact (sz_i32 _).1, by first | omega | exact (sz_i32 _).2⟩ ⟨by first | omega | exact (sz_i32 _).1, by first | omega | exact (sz_i32 _).2⟩ (fun (c2 : (gV D u (i)) ≠ (6)) => ?_) (fun (c2 : ¬((gV D u (i)) ≠ (6))) => ?_)
    · skip
      refine ez_go (n := 2) (pc' := 124) (L' := [(2, .inl (gV D u (i - 1))), (3, .inl (gV D u (i))), (0, .inr (.inr (some (733)))), (1, .inl (i))]) (st' := [.inl (1)]) rfl ?_
      exact ez_retZ rfl rfl (Or.inr rfl) (k1 (by first | exact gbd_2 (by omega) (by omega) | exact gbd_4 (by omega) (by omega) (fun w => by first | (exfalso; have := w.1; omega) | exact absurd (e35.mpr w.2.1) (by omega) | exact absurd w.2.2 wp) (fun w => by first | (exfalso; have := w.1; omega) | exact absurd (e37.mpr w.2) (by omega))))
    · skip
      refine ez_go (n := 1) (pc' := 109) (L' := [(2, .inl (gV D u (i - 1))), (3, .inl (gV D u (i))), (0, .inr (.inr (some (733)))), (1, .inl (i))]) (st' := [.inr (.inr (some (733)))]) rfl ?_
      refine ez_gC (p := 737) (tg := 69) hB t733 rfl rfl tq_65 rfl rfl (fun (t737 : _ = 69) => ?_)
      refine ez_go (n := 3) (pc' := 115) (L' := [(2, .inl (gV D u (i - 1))), (3, .inl (gV D u (i))), (0, .inr (.inr (some (733)))), (1, .inl (i))]) (st' := [.inl ((i) - (1)), .inr (.inr (some (737)))]) rfl ?_
      have n4 : 2000 ≤ qz_N h 737 ∧ qz_N h 737 ≤ 2000 := ez_len hB t737 tq_69 rfl
      refine ez_aI hB t737 rfl tq_69 rfl rfl (by omega) (by omega) (fun (b3 : 0 ≤ qz_I h 737 ((i) - (1)).toNat) (b3' : qz_I h 737 ((i) - (1)).toNat ≤ 1) => ?_)
      have e37 := (c.2.2.2 (i - 1) (by omega) (by omega)).2.2.2
      refine ez_if rfl rfl ⟨by first | omega | exact (sz_i32 _).1, by first | omega | exact (sz_i32 _).2⟩ (fun (c5 : (qz_I h 737 ((i) - (1)).toNat) ≠ (0)) => ?_) (fun (c5 : ¬((qz_I h 737 ((i) - (1)).toNat) ≠ (0))) => ?_)
      · skip
        refine ez_go (n := 1) (pc' := 124) (L' := [(2, .inl (gV D u (i - 1))), (3, .inl (gV D u (i))), (0, .inr (.inr (some (733)))), (1, .inl (i))]) (st' := [.inl (0)]) rfl ?_
        exact ez_retZ rfl rfl (Or.inl rfl) (k0 (gbd_n i0 i1 (by first | exact Or.inl ⟨by omega, by omega⟩ | exact Or.inr ⟨⟨wa, wb⟩, Or.inl (by omega)⟩ | exact Or.inr ⟨⟨wa, wb⟩, Or.inr (Or.inl ⟨by omega, e35.mp (by omega), wp⟩)⟩ | exact Or.inr ⟨⟨wa, wb⟩, Or.inr (Or.inr ⟨by omega, e37.mp (by omega)⟩)⟩)))
      · skip
        refine ez_go (n := 2) (pc' := 124) (L' := [(2, .inl (gV D u (i - 1))), (3, .inl (gV D u (i))), (0, .inr (.inr (some (733)))), (1, .inl (i))]) (st' := [.inl (1)]) rfl ?_
        exact ez_retZ rfl rfl (Or.inr rfl) (k1 (by first | exact gbd_2 (by omega) (by omega) | exact gbd_4 (by omega) (by omega) (fun w => by first | (exfalso; have := w.1; omega) | exact absurd (e35.mpr w.2.1) (by omega) | exact absurd w.2.2 wp) (fun w => by first | (exfalso; have := w.1; omega) | exact absurd (e37.mpr w.2) (by omega))))
  · skip
    refine ez_go (n := 1) (pc' := 82) (L' := [(2, .inl (gV D u (i - 1))), (3, .inl (gV D u (i))), (0, .inr (.inr (some (733)))), (1, .inl (i))]) (st' := [.inr (.inr (some (733)))]) rfl ?_
    refine ez_gC (p := 735) (tg := 67) hB t733 rfl rfl tq_65 rfl rfl (fun (t735 : _ = 67) => ?_)
    refine ez_go (n := 1) (pc' := 86) (L' := [(2, .inl (gV D u (i - 1))), (3, .inl (gV D u (i))), (0, .inr (.inr (some (733)))), (1, .inl (i))]) (st' := [.inl (i), .inr (.inr (some (735)))]) rfl ?_
    have n7 : 2000 ≤ qz_N h 735 ∧ qz_N h 735 ≤ 2000 := ez_len hB t735 tq_67 rfl
    refine ez_aI hB t735 rfl tq_67 rfl rfl (by omega) (by omega) (fun (b6 : 0 ≤ qz_I h 735 (i).toNat) (b6' : qz_I h 735 (i).toNat ≤ 1) => ?_)
    have e35 := (c.2.2.2 (i) (by omega) (by omega)).2.1
    refine ez_if rfl rfl ⟨by first | omega | exact (sz_i32 _).1, by first | omega | exact (sz_i32 _).2⟩ (fun (c8 : (qz_I h 735 (i).toNat) = (0)) => ?_) (fun (c8 : ¬((qz_I h 735 (i).toNat) = (0))) => ?_)
    · skip
      refine ez_go (n := 2) (pc' := 105) (L' := [(2, .inl (gV D u (i - 1))), (3, .inl (gV D u (i))), (0, .inr (.inr (some (733)))), (1, .inl (i))]) (st' := [.inl (6), .inl (gV D u (i))]) rfl ?_
      refine ez_icmp rfl rfl ⟨by first | omega | exact (sz_i32 _).1, by first | omega | exact (sz_i32 _).2⟩ ⟨by first | omega | exact (sz_i32 _).1, by first | omega | exact (sz_i32 _).2⟩ (fun (c9 : (gV D u (i)) ≠ (6)) => ?_) (fun (c9 : ¬((gV D u (i)) ≠ (6))) => ?_)
      · skip
        refine ez_go (n := 2) (pc' := 124) (L' := [(2, .inl (gV D u (i - 1))), (3, .inl (gV D u (i))), (0, .inr (.inr (some (733)))), (1, .inl (i))]) (st' := [.inl (1)]) rfl ?_
        exact ez_retZ rfl rfl (Or.inr rfl) (k1 (by first | exact gbd_2 (by omega) (by omega) | exact gbd_4 (by omega) (by omega) (fun w => by first | (exfalso; have := w.1; omega) | exact absurd (e35.mpr w.2.1) (by omega) | exact absurd w.2.2 wp) (fun w => by first | (exfalso; have := w.1; omega) | exact absurd (e37.mpr w.2) (by omega))))
      · skip
        refine ez_go (n := 1) (pc' := 109) (L' := [(2, .inl (gV D u (i - 1))), (3, .inl (gV D u (i))), (0, .inr (.inr (some (733)))), (1, .inl (i))]) (st' := [.inr (.inr (some (733)))]) rfl ?_
        refine ez_gC (p := 737) (tg := 69) hB t733 rfl rfl tq_65 rfl rfl (fun (t737 : _ = 69) => ?_)
        refine ez_go (n := 3) (pc' := 115) (L' := [(2, .inl (gV D u (i - 1))), (3, .inl (gV D u (i))), (0, .inr (.inr (some (733)))), (1, .inl (i))]) (st' := [.inl ((i) - (1)), .inr (.inr (some (737)))]) rfl ?_
        have n11 : 2000 ≤ qz_N h 737 ∧ qz_N h 737 ≤ 2000 := ez_len hB t737 tq_69 rfl
        refine ez_aI hB t737 rfl tq_69 rfl rfl (by omega) (by omega) (fun (b10 : 0 ≤ qz_I h 737 ((i) - (1)).toNat) (b10' : qz_I h 737 ((i) - (1)).toNat ≤ 1) => ?_)
        have e37 := (c.2.2.2 (i - 1) (by omega) (by omega)).2.2.2
        refine ez_if rfl rfl ⟨by first | omega | exact (sz_i32 _).1, by first | omega | exact (sz_i32 _).2⟩ (fun (c12 : (qz_I h 737 ((i) - (1)).toNat) ≠ (0)) => ?_) (fun (c12 : ¬((qz_I h 737 ((i) - (1)).toNat) ≠ (0))) => ?_)
        · skip
          refine ez_go (n := 1) (pc' := 124) (L' := [(2, .inl (gV D u (i - 1))), (3, .inl (gV D u (i))), (0, .inr (.inr (some (733)))), (1, .inl (i))]) (st' := [.inl (0)]) rfl ?_
          exact ez_retZ rfl rfl (Or.inl rfl) (k0 (gbd_n i0 i1 (by first | exact Or.inl ⟨by omega, by omega⟩ | exact Or.inr ⟨⟨wa, wb⟩, Or.inl (by omega)⟩ | exact Or.inr ⟨⟨wa, wb⟩, Or.inr (Or.inl ⟨by omega, e35.mp (by omega), wp⟩)⟩ | exact Or.inr ⟨⟨wa, wb⟩, Or.inr (Or.inr ⟨by omega, e37.mp (by omega)⟩)⟩)))
        · skip
          refine ez_go (n := 2) (pc' := 124) (L' := [(2, .inl (gV D u (i - 1))), (3, .inl (gV D u (i))), (0, .inr (.inr (some (733)))), (1, .inl (i))]) (st' := [.inl (1)]) rfl ?_
          exact ez_retZ rfl rfl (Or.inr rfl) (k1 (by first | exact gbd_2 (by omega) (by omega) | exact gbd_4 (by omega) (by omega) (fun w => by first | (exfalso; have := w.1; omega) | exact absurd (e35.mpr w.2.1) (by omega) | exact absurd w.2.2 wp) (fun w => by first | (exfalso; have := w.1; omega) | exact absurd (e37.mpr w.2) (by omega))))
    · skip
      refine ez_go (n := 4) (pc' := 94) (L' := [(2, .inl (gV D u (i - 1))), (3, .inl (gV D u (i))), (0, .inr (.inr (some (733)))), (1, .inl (i))]) (st' := [.inl ((i) - (1)), .inr (.inr (some (733)))]) rfl ?_
      refine ez_cv hB t733 rfl rfl rfl tq_65 rfl rfl rfl (rd_isPB c (by omega) (fun wp => ez_K1 ?_) (fun wp => ez_K1 ?_) (by omega))
      · skip
        refine ez_if rfl rfl ⟨by decide, by decide⟩ (fun (c13 : (1 : Int) = (0)) => absurd c13 (by decide)) (fun _ => ?_)
        refine ez_go (n := 1) (pc' := 101) (L' := [(2, .inl (gV D u (i - 1))), (3, .inl (gV D u (i))), (0, .inr (.inr (some (733)))), (1, .inl (i))]) (st' := [.inl (0)]) rfl ?_
        exact ez_retZ rfl rfl (Or.inl rfl) (k0 (gbd_n i0 i1 (by first | exact Or.inl ⟨by omega, by omega⟩ | exact Or.inr ⟨⟨wa, wb⟩, Or.inl (by omega)⟩ | exact Or.inr ⟨⟨wa, wb⟩, Or.inr (Or.inl ⟨by omega, e35.mp (by omega), wp⟩)⟩ | exact Or.inr ⟨⟨wa, wb⟩, Or.inr (Or.inr ⟨by omega, e37.mp (by omega)⟩)⟩)))
      · skip
        refine ez_if rfl rfl ⟨by decide, by decide⟩ (fun _ => ?_) (fun (c14 : ¬((0 : Int) = (0))) => absurd c14 (by decide))
        refine ez_go (n := 2) (pc' := 105) (L' := [(2, .inl (gV D u (i - 1))), (3, .inl (gV D u (i))), (0, .inr (.inr (some (733)))), (1, .inl (i))]) (st' := [.inl (6), .inl (gV D u (i))]) rfl ?_
        refine ez_icmp rfl rfl ⟨by first | omega | exact (sz_i32 _).1, by first | omega | exact (sz_i32 _).2⟩ ⟨by first | omega | exact (sz_i32 _).1, by first | omega | exact (sz_i32 _).2⟩ (fun (c15 : (gV D u (i)) ≠ (6)) => ?_) (fun (c15 : ¬((gV D u (i)) ≠ (6))) => ?_)
        · skip
          refine ez_go (n := 2) (pc' := 124) (L' := [(2, .inl (gV D u (i - 1))), (3, .inl (gV D u (i))), (0, .inr (.inr (some (733)))), (1, .inl (i))]) (st' := [.inl (1)]) rfl ?_
          exact ez_retZ rfl rfl (Or.inr rfl) (k1 (by first | exact gbd_2 (by omega) (by omega) | exact gbd_4 (by omega) (by omega) (fun w => by first | (exfalso; have := w.1; omega) | exact absurd (e35.mpr w.2.1) (by omega) | exact absurd w.2.2 wp) (fun w => by first | (exfalso; have := w.1; omega) | exact absurd (e37.mpr w.2) (by omega))))
        · skip
          refine ez_go (n := 1) (pc' := 109) (L' := [(2, .inl (gV D u (i - 1))), (3, .inl (gV D u (i))), (0, .inr (.inr (some (733)))), (1, .inl (i))]) (st' := [.inr (.inr (some (733)))]) rfl ?_
          refine ez_gC (p := 737) (tg := 69) hB t733 rfl rfl tq_65 rfl rfl (fun (t737 : _ = 69) => ?_)
          refine ez_go (n := 3) (pc' := 115) (L' := [(2, .inl (gV D u (i - 1))), (3, .inl (gV D u (i))), (0, .inr (.inr (some (733)))), (1, .inl (i))]) (st' := [.inl ((i) - (1)), .inr (.inr (some (737)))]) rfl ?_
          have n17 : 2000 ≤ qz_N h 737 ∧ qz_N h 737 ≤ 2000 := ez_len hB t737 tq_69 rfl
          refine ez_aI hB t737 rfl tq_69 rfl rfl (by omega) (by omega) (fun (b16 : 0 ≤ qz_I h 737 ((i) - (1)).toNat) (b16' : qz_I h 737 ((i) - (1)).toNat ≤ 1) => ?_)
          have e37 := (c.2.2.2 (i - 1) (by omega) (by omega)).2.2.2
          refine ez_if rfl rfl ⟨by first | omega | exact (sz_i32 _).1, by first | omega | exact (sz_i32 _).2⟩ (fun (c18 : (qz_I h 737 ((i) - (1)).toNat) ≠ (0)) => ?_) (fun (c18 : ¬((qz_I h 737 ((i) - (1)).toNat) ≠ (0))) => ?_)
          · skip
            refine ez_go (n := 1) (pc' := 124) (L' := [(2, .inl (gV D u (i - 1))), (3, .inl (gV D u (i))), (0, .inr (.inr (some (733)))), (1, .inl (i))]) (st' := [.inl (0)]) rfl ?_
            exact ez_retZ rfl rfl (Or.inl rfl) (k0 (gbd_n i0 i1 (by first | exact Or.inl ⟨by omega, by omega⟩ | exact Or.inr ⟨⟨wa, wb⟩, Or.inl (by omega)⟩ | exact Or.inr ⟨⟨wa, wb⟩, Or.inr (Or.inl ⟨by omega, e35.mp (by omega), wp⟩)⟩ | exact Or.inr ⟨⟨wa, wb⟩, Or.inr (Or.inr ⟨by omega, e37.mp (by omega)⟩)⟩)))
          · skip
            refine ez_go (n := 2) (pc' := 124) (L' := [(2, .inl (gV D u (i - 1))), (3, .inl (gV D u (i))), (0, .inr (.inr (some (733)))), (1, .inl (i))]) (st' := [.inl (1)]) rfl ?_
            exact ez_retZ rfl rfl (Or.inr rfl) (k1 (by first | exact gbd_2 (by omega) (by omega) | exact gbd_4 (by omega) (by omega) (fun w => by first | (exfalso; have := w.1; omega) | exact absurd (e35.mpr w.2.1) (by omega) | exact absurd w.2.2 wp) (fun w => by first | (exfalso; have := w.1; omega) | exact absurd (e37.mpr w.2) (by omega))))

theorem rd_isGB {i : Int} (c : bkG τ h D u) (i0 : 0 < i) (i1 : i < (u.length : Int)) (k1 : gbd (gV D u) (wpi D u) u.length i → Q (.inl (some (ez_v (.inl 1))), h)) (k0 : ¬ gbd (gV D u) (wpi D u) u.length i → Q (.inl (some (ez_v (.inl 0))), h)) : ez_W (d + 1) cm_49 0 [(0, .inr (.inr (some (733)))), (1, .inl (i))] [] h Q := by
  have hB := c.1.1
  have t733 : τ 733 = 65 := c.1.2 733 (by decide)
  have n2 := c.2.1
  have e5 := c.2.2.1.1
  have e6 := c.2.2.1.2
  refine ez_go (n := 1) (pc' := 1) (L' := [(0, .inr (.inr (some (733)))), (1, .inl (i))]) (st' := [.inr (.inr (some (733)))]) rfl ?_
  refine ez_gC (p := 734) (tg := 66) hB t733 rfl rfl tq_65 rfl rfl (fun (t734 : _ = 66) => ?_)
  refine ez_go (n := 3) (pc' := 7) (L' := [(0, .inr (.inr (some (733)))), (1, .inl (i))]) (st' := [.inl ((i) - (1)), .inr (.inr (some (734)))]) rfl ?_
  have n2 : 2000 ≤ qz_N h 734 ∧ qz_N h 734 ≤ 2000 := ez_len hB t734 tq_66 rfl
  refine ez_aI hB t734 rfl tq_66 rfl rfl (by omega) (by omega) (fun (b1 : -2147483648 ≤ qz_I h 734 ((i) - (1)).toNat) (b1' : qz_I h 734 ((i) - (1)).toNat ≤ 2147483647) => ?_)
  have e34a := (c.2.2.2 (i - 1) (by omega) (by omega)).1
  have ra : ez_rg (gV D u (i - 1)) := ⟨by omega, by omega⟩
  rw [show qz_I h 734 ((i) - (1)).toNat = gV D u (i - 1) from e34a]
  refine ez_go (n := 2) (pc' := 10) (L' := [(2, .inl (gV D u (i - 1))), (0, .inr (.inr (some (733)))), (1, .inl (i))]) (st' := [.inr (.inr (some (733)))]) rfl ?_
  refine ez_gC (p := 734) (tg := 66) hB t733 rfl rfl tq_65 rfl rfl (fun (t734 : _ = 66) => ?_)
  refine ez_go (n := 1) (pc' := 14) (L' := [(2, .inl (gV D u (i - 1))), (0, .inr (.inr (some (733)))), (1, .inl (i))]) (st' := [.inl (i), .inr (.inr (some (734)))]) rfl ?_
  have n4 : 2000 ≤ qz_N h 734 ∧ qz_N h 734 ≤ 2000 := ez_len hB t734 tq_66 rfl
  refine ez_aI hB t734 rfl tq_66 rfl rfl (by omega) (by omega) (fun (b3 : -2147483648 ≤ qz_I h 734 (i).toNat) (b3' : qz_I h 734 (i).toNat ≤ 2147483647) => ?_)
  have e34b := (c.2.2.2 (i) (by omega) (by omega)).1
  have rb : ez_rg (gV D u (i)) := ⟨by omega, by omega⟩
  obtain ⟨ra1, ra2⟩ := id ra
  obtain ⟨rb1, rb2⟩ := id rb
  rw [show qz_I h 734 (i).toNat = gV D u (i) from e34b]
  refine ez_go (n := 3) (pc' := 18) (L' := [(3, .inl (gV D u (i))), (2, .inl (gV D u (i - 1))), (0, .inr (.inr (some (733)))), (1, .inl (i))]) (st' := [.inl (1), .inl (gV D u (i - 1))]) rfl ?_
  refine ez_icmp rfl rfl ⟨by first | omega | exact (sz_i32 _).1, by first | omega | exact (sz_i32 _).2⟩ ⟨by first | omega | exact (sz_i32 _).1, by first | omega | exact (sz_i32 _).2⟩ (fun (c5 : (gV D u (i - 1)) ≠ (1)) => ?_) (fun (c5 : ¬((gV D u (i - 1)) ≠ (1))) => ?_)
  · skip
    refine ez_go (n := 1) (pc' := 29) (L' := [(3, .inl (gV D u (i))), (2, .inl (gV D u (i - 1))), (0, .inr (.inr (some (733)))), (1, .inl (i))]) (st' := [.inl (gV D u (i - 1))]) rfl ?_
    refine ez_cs hB.2.1 rfl rfl rfl rfl rfl (rd_bctl hB ra (fun wa => ez_K1 ?_) (fun wa => ez_K1 ?_))
    · skip
      refine ez_if rfl rfl ⟨by decide, by decide⟩ (fun _ => ?_) (fun (c6 : ¬((1 : Int) ≠ (0))) => absurd c6 (by decide))
      refine ez_go (n := 1) (pc' := 43) (L' := [(3, .inl (gV D u (i))), (2, .inl (gV D u (i - 1))), (0, .inr (.inr (some (733)))), (1, .inl (i))]) (st' := [.inl (1)]) rfl ?_
      exact ez_retZ rfl rfl (Or.inr rfl) (k1 (by first | exact gbd_2 (by omega) (by omega) | exact gbd_4 (by omega) (by omega) (fun w => by first | (exfalso; have := w.1; omega) | exact absurd (e35.mpr w.2.1) (by omega) | exact absurd w.2.2 wp) (fun w => by first | (exfalso; have := w.1; omega) | exact absurd (e37.mpr w.2) (by omega))))
    · skip
      refine ez_if rfl rfl ⟨by decide, by decide⟩ (fun (c7 : (0 : Int) ≠ (0)) => absurd c7 (by decide)) (fun _ => ?_)
      refine ez_go (n := 1) (pc' := 36) (L' := [(3, .inl (gV D u (i))), (2, .inl (gV D u (i - 1))), (0, .inr (.inr (some (733)))), (1, .inl (i))]) (st' := [.inl (gV D u (i))]) rfl ?_
      refine ez_cs hB.2.1 rfl rfl rfl rfl rfl (rd_bctl hB rb (fun wb => ez_K1 ?_) (fun wb => ez_K1 ?_))
      · skip
        refine ez_if rfl rfl ⟨by decide, by decide⟩ (fun (c8 : (1 : Int) = (0)) => absurd c8 (by decide)) (fun _ => ?_)
        refine ez_go (n := 1) (pc' := 43) (L' := [(3, .inl (gV D u (i))), (2, .inl (gV D u (i - 1))), (0, .inr (.inr (some (733)))), (1, .inl (i))]) (st' := [.inl (1)]) rfl ?_
        exact ez_retZ rfl rfl (Or.inr rfl) (k1 (by first | exact gbd_2 (by omega) (by omega) | exact gbd_4 (by omega) (by omega) (fun w => by first | (exfalso; have := w.1; omega) | exact absurd (e35.mpr w.2.1) (by omega) | exact absurd w.2.2 wp) (fun w => by first | (exfalso; have := w.1; omega) | exact absurd (e37.mpr w.2) (by omega))))
      · skip
        refine ez_if rfl rfl ⟨by decide, by decide⟩ (fun _ => ?_) (fun (c9 : ¬((0 : Int) = (0))) => absurd c9 (by decide))
        refine ez_go (n := 2) (pc' := 46) (L' := [(3, .inl (gV D u (i))), (2, .inl (gV D u (i - 1))), (0, .inr (.inr (some (733)))), (1, .inl (i))]) (st' := [.inl (gV D u (i)), .inl (gV D u (i - 1))]) rfl ?_
        refine ez_cs hB.2.1 rfl rfl rfl rfl rfl (rd_bsyl hB ra rb (fun ws => ez_K1 ?_) (fun ws => ez_K1 ?_))
        · skip
          refine ez_if rfl rfl ⟨by decide, by decide⟩ (fun _ => ?_) (fun (c10 : ¬((1 : Int) ≠ (0))) => absurd c10 (by decide))
          refine ez_go (n := 1) (pc' := 75) (L' := [(3, .inl (gV D u (i))), (2, .inl (gV D u (i - 1))), (0, .inr (.inr (some (733)))), (1, .inl (i))]) (st' := [.inl (0)]) rfl ?_
          exact ez_retZ rfl rfl (Or.inl rfl) (k0 (gbd_n i0 i1 (by first | exact Or.inl ⟨by omega, by omega⟩ | exact Or.inr ⟨⟨wa, wb⟩, Or.inl (by omega)⟩ | exact Or.inr ⟨⟨wa, wb⟩, Or.inr (Or.inl ⟨by omega, e35.mp (by omega), wp⟩)⟩ | exact Or.inr ⟨⟨wa, wb⟩, Or.inr (Or.inr ⟨by omega, e37.mp (by omega)⟩)⟩)))
        · skip
          refine ez_if rfl rfl ⟨by decide, by decide⟩ (fun (c11 : (0 : Int) ≠ (0)) => absurd c11 (by decide)) (fun _ => ?_)
          refine ez_go (n := 2) (pc' := 54) (L' := [(3, .inl (gV D u (i))), (2, .inl (gV D u (i - 1))), (0, .inr (.inr (some (733)))), (1, .inl (i))]) (st' := [.inl (4), .inl (gV D u (i))]) rfl ?_
          refine ez_icmp rfl rfl ⟨by first | omega | exact (sz_i32 _).1, by first | omega | exact (sz_i32 _).2⟩ ⟨by first | omega | exact (sz_i32 _).1, by first | omega | exact (sz_i32 _).2⟩ (fun (c12 : (gV D u (i)) = (4)) => ?_) (fun (c12 : ¬((gV D u (i)) = (4))) => ?_)
          · skip
            refine ez_go (n := 1) (pc' := 75) (L' := [(3, .inl (gV D u (i))), (2, .inl (gV D u (i - 1))), (0, .inr (.inr (some (733)))), (1, .inl (i))]) (st' := [.inl (0)]) rfl ?_
            exact ez_retZ rfl rfl (Or.inl rfl) (k0 (gbd_n i0 i1 (by first | exact Or.inl ⟨by omega, by omega⟩ | exact Or.inr ⟨⟨wa, wb⟩, Or.inl (by omega)⟩ | exact Or.inr ⟨⟨wa, wb⟩, Or.inr (Or.inl ⟨by omega, e35.mp (by omega), wp⟩)⟩ | exact Or.inr ⟨⟨wa, wb⟩, Or.inr (Or.inr ⟨by omega, e37.mp (by omega)⟩)⟩)))
          · skip
            refine ez_go (n := 2) (pc' := 59) (L' := [(3, .inl (gV D u (i))), (2, .inl (gV D u (i - 1))), (0, .inr (.inr (some (733)))), (1, .inl (i))]) (st' := [.inl (5), .inl (gV D u (i))]) rfl ?_
            refine ez_icmp rfl rfl ⟨by first | omega | exact (sz_i32 _).1, by first | omega | exact (sz_i32 _).2⟩ ⟨by first | omega | exact (sz_i32 _).1, by first | omega | exact (sz_i32 _).2⟩ (fun (c13 : (gV D u (i)) = (5)) => ?_) (fun (c13 : ¬((gV D u (i)) = (5))) => ?_)
            · skip
              refine ez_go (n := 1) (pc' := 75) (L' := [(3, .inl (gV D u (i))), (2, .inl (gV D u (i - 1))), (0, .inr (.inr (some (733)))), (1, .inl (i))]) (st' := [.inl (0)]) rfl ?_
              exact ez_retZ rfl rfl (Or.inl rfl) (k0 (gbd_n i0 i1 (by first | exact Or.inl ⟨by omega, by omega⟩ | exact Or.inr ⟨⟨wa, wb⟩, Or.inl (by omega)⟩ | exact Or.inr ⟨⟨wa, wb⟩, Or.inr (Or.inl ⟨by omega, e35.mp (by omega), wp⟩)⟩ | exact Or.inr ⟨⟨wa, wb⟩, Or.inr (Or.inr ⟨by omega, e37.mp (by omega)⟩)⟩)))
            · skip
              refine ez_go (n := 2) (pc' := 65) (L' := [(3, .inl (gV D u (i))), (2, .inl (gV D u (i - 1))), (0, .inr (.inr (some (733)))), (1, .inl (i))]) (st' := [.inl (8), .inl (gV D u (i))]) rfl ?_
              refine ez_icmp rfl rfl ⟨by first | omega | exact (sz_i32 _).1, by first | omega | exact (sz_i32 _).2⟩ ⟨by first | omega | exact (sz_i32 _).1, by first | omega | exact (sz_i32 _).2⟩ (fun (c14 : (gV D u (i)) = (8)) => ?_) (fun (c14 : ¬((gV D u (i)) = (8))) => ?_)
              · skip
                refine ez_go (n := 1) (pc' := 75) (L' := [(3, .inl (gV D u (i))), (2, .inl (gV D u (i - 1))), (0, .inr (.inr (some (733)))), (1, .inl (i))]) (st' := [.inl (0)]) rfl ?_
                exact ez_retZ rfl rfl (Or.inl rfl) (k0 (gbd_n i0 i1 (by first | exact Or.inl ⟨by omega, by omega⟩ | exact Or.inr ⟨⟨wa, wb⟩, Or.inl (by omega)⟩ | exact Or.inr ⟨⟨wa, wb⟩, Or.inr (Or.inl ⟨by omega, e35.mp (by omega), wp⟩)⟩ | exact Or.inr ⟨⟨wa, wb⟩, Or.inr (Or.inr ⟨by omega, e37.mp (by omega)⟩)⟩)))
              · skip
                refine ez_go (n := 2) (pc' := 71) (L' := [(3, .inl (gV D u (i))), (2, .inl (gV D u (i - 1))), (0, .inr (.inr (some (733)))), (1, .inl (i))]) (st' := [.inl (7), .inl (gV D u (i - 1))]) rfl ?_
                refine ez_icmp rfl rfl ⟨by first | omega | exact (sz_i32 _).1, by first | omega | exact (sz_i32 _).2⟩ ⟨by first | omega | exact (sz_i32 _).1, by first | omega | exact (sz_i32 _).2⟩ (fun (c15 : (gV D u (i - 1)) ≠ (7)) => ?_) (fun (c15 : ¬((gV D u (i - 1)) ≠ (7))) => ?_)
                · skip
                  refine ez_less [(2, .inl (gV D u (i - 1))), (3, .inl (gV D u (i))), (0, .inr (.inr (some (733)))), (1, .inl (i))] rfl ⟨rfl, rfl, rfl, rfl, trivial⟩ ?_
                  exact rd_isGB76 c i0 i1 k1 k0 ra rb (by omega) wa wb (by omega)
                · skip
                  refine ez_go (n := 1) (pc' := 75) (L' := [(3, .inl (gV D u (i))), (2, .inl (gV D u (i - 1))), (0, .inr (.inr (some (733)))), (1, .inl (i))]) (st' := [.inl (0)]) rfl ?_
                  exact ez_retZ rfl rfl (Or.inl rfl) (k0 (gbd_n i0 i1 (by first | exact Or.inl ⟨by omega, by omega⟩ | exact Or.inr ⟨⟨wa, wb⟩, Or.inl (by omega)⟩ | exact Or.inr ⟨⟨wa, wb⟩, Or.inr (Or.inl ⟨by omega, e35.mp (by omega), wp⟩)⟩ | exact Or.inr ⟨⟨wa, wb⟩, Or.inr (Or.inr ⟨by omega, e37.mp (by omega)⟩)⟩)))
  · skip
    refine ez_go (n := 2) (pc' := 23) (L' := [(3, .inl (gV D u (i))), (2, .inl (gV D u (i - 1))), (0, .inr (.inr (some (733)))), (1, .inl (i))]) (st' := [.inl (2), .inl (gV D u (i))]) rfl ?_
    refine ez_icmp rfl rfl ⟨by first | omega | exact (sz_i32 _).1, by first | omega | exact (sz_i32 _).2⟩ ⟨by first | omega | exact (sz_i32 _).1, by first | omega | exact (sz_i32 _).2⟩ (fun (c16 : (gV D u (i)) ≠ (2)) => ?_) (fun (c16 : ¬((gV D u (i)) ≠ (2))) => ?_)
    · skip
      refine ez_go (n := 1) (pc' := 29) (L' := [(3, .inl (gV D u (i))), (2, .inl (gV D u (i - 1))), (0, .inr (.inr (some (733)))), (1, .inl (i))]) (st' := [.inl (gV D u (i - 1))]) rfl ?_
      refine ez_cs hB.2.1 rfl rfl rfl rfl rfl (rd_bctl hB ra (fun wa => ez_K1 ?_) (fun wa => ez_K1 ?_))
      · skip
        refine ez_if rfl rfl ⟨by decide, by decide⟩ (fun _ => ?_) (fun (c17 : ¬((1 : Int) ≠ (0))) => absurd c17 (by decide))
        refine ez_go (n := 1) (pc' := 43) (L' := [(3, .inl (gV D u (i))), (2, .inl (gV D u (i - 1))), (0, .inr (.inr (some (733)))), (1, .inl (i))]) (st' := [.inl (1)]) rfl ?_
        exact ez_retZ rfl rfl (Or.inr rfl) (k1 (by first | exact gbd_2 (by omega) (by omega) | exact gbd_4 (by omega) (by omega) (fun w => by first | (exfalso; have := w.1; omega) | exact absurd (e35.mpr w.2.1) (by omega) | exact absurd w.2.2 wp) (fun w => by first | (exfalso; have := w.1; omega) | exact absurd (e37.mpr w.2) (by omega))))
      · skip
        refine ez_if rfl rfl ⟨by decide, by decide⟩ (fun (c18 : (0 : Int) ≠ (0)) => absurd c18 (by decide)) (fun _ => ?_)
        refine ez_go (n := 1) (pc' := 36) (L' := [(3, .inl (gV D u (i))), (2, .inl (gV D u (i - 1))), (0, .inr (.inr (some (733)))), (1, .inl (i))]) (st' := [.inl (gV D u (i))]) rfl ?_
        refine ez_cs hB.2.1 rfl rfl rfl rfl rfl (rd_bctl hB rb (fun wb => ez_K1 ?_) (fun wb => ez_K1 ?_))
        · skip
          refine ez_if rfl rfl ⟨by decide, by decide⟩ (fun (c19 : (1 : Int) = (0)) => absurd c19 (by decide)) (fun _ => ?_)
          refine ez_go (n := 1) (pc' := 43) (L' := [(3, .inl (gV D u (i))), (2, .inl (gV D u (i - 1))), (0, .inr (.inr (some (733)))), (1, .inl (i))]) (st' := [.inl (1)]) rfl ?_
          exact ez_retZ rfl rfl (Or.inr rfl) (k1 (by first | exact gbd_2 (by omega) (by omega) | exact gbd_4 (by omega) (by omega) (fun w => by first | (exfalso; have := w.1; omega) | exact absurd (e35.mpr w.2.1) (by omega) | exact absurd w.2.2 wp) (fun w => by first | (exfalso; have := w.1; omega) | exact absurd (e37.mpr w.2) (by omega))))
        · skip
          refine ez_if rfl rfl ⟨by decide, by decide⟩ (fun _ => ?_) (fun (c20 : ¬((0 : Int) = (0))) => absurd c20 (by decide))
          refine ez_go (n := 2) (pc' := 46) (L' := [(3, .inl (gV D u (i))), (2, .inl (gV D u (i - 1))), (0, .inr (.inr (some (733)))), (1, .inl (i))]) (st' := [.inl (gV D u (i)), .inl (gV D u (i - 1))]) rfl ?_
          refine ez_cs hB.2.1 rfl rfl rfl rfl rfl (rd_bsyl hB ra rb (fun ws => ez_K1 ?_) (fun ws => ez_K1 ?_))
          · skip
            refine ez_if rfl rfl ⟨by decide, by decide⟩ (fun _ => ?_) (fun (c21 : ¬((1 : Int) ≠ (0))) => absurd c21 (by decide))
            refine ez_go (n := 1) (pc' := 75) (L' := [(3, .inl (gV D u (i))), (2, .inl (gV D u (i - 1))), (0, .inr (.inr (some (733)))), (1, .inl (i))]) (st' := [.inl (0)]) rfl ?_
            exact ez_retZ rfl rfl (Or.inl rfl) (k0 (gbd_n i0 i1 (by first | exact Or.inl ⟨by omega, by omega⟩ | exact Or.inr ⟨⟨wa, wb⟩, Or.inl (by omega)⟩ | exact Or.inr ⟨⟨wa, wb⟩, Or.inr (Or.inl ⟨by omega, e35.mp (by omega), wp⟩)⟩ | exact Or.inr ⟨⟨wa, wb⟩, Or.inr (Or.inr ⟨by omega, e37.mp (by omega)⟩)⟩)))
          · skip
            refine ez_if rfl rfl ⟨by decide, by decide⟩ (fun (c22 : (0 : Int) ≠ (0)) => absurd c22 (by decide)) (fun _ => ?_)
            refine ez_go (n := 2) (pc' := 54) (L' := [(3, .inl (gV D u (i))), (2, .inl (gV D u (i - 1))), (0, .inr (.inr (some (733)))), (1, .inl (i))]) (st' := [.inl (4), .inl (gV D u (i))]) rfl ?_
            refine ez_icmp rfl rfl ⟨by first | omega | exact (sz_i32 _).1, by first | omega | exact (sz_i32 _).2⟩ ⟨by first | omega | exact (sz_i32 _).1, by first | omega | exact (sz_i32 _).2⟩ (fun (c23 : (gV D u (i)) = (4)) => ?_) (fun (c23 : ¬((gV D u (i)) = (4))) => ?_)
            · skip
              refine ez_go (n := 1) (pc' := 75) (L' := [(3, .inl (gV D u (i))), (2, .inl (gV D u (i - 1))), (0, .inr (.inr (some (733)))), (1, .inl (i))]) (st' := [.inl (0)]) rfl ?_
              exact ez_retZ rfl rfl (Or.inl rfl) (k0 (gbd_n i0 i1 (by first | exact Or.inl ⟨by omega, by omega⟩ | exact Or.inr ⟨⟨wa, wb⟩, Or.inl (by omega)⟩ | exact Or.inr ⟨⟨wa, wb⟩, Or.inr (Or.inl ⟨by omega, e35.mp (by omega), wp⟩)⟩ | exact Or.inr ⟨⟨wa, wb⟩, Or.inr (Or.inr ⟨by omega, e37.mp (by omega)⟩)⟩)))
            · skip
              refine ez_go (n := 2) (pc' := 59) (L' := [(3, .inl (gV D u (i))), (2, .inl (gV D u (i - 1))), (0, .inr (.inr (some (733)))), (1, .inl (i))]) (st' := [.inl (5), .inl (gV D u (i))]) rfl ?_
              refine ez_icmp rfl rfl ⟨by first | omega | exact (sz_i32 _).1, by first | omega | exact (sz_i32 _).2⟩ ⟨by first | omega | exact (sz_i32 _).1, by first | omega | exact (sz_i32 _).2⟩ (fun (c24 : (gV D u (i)) = (5)) => ?_) (fun (c24 : ¬((gV D u (i)) = (5))) => ?_)
              · skip
                refine ez_go (n := 1) (pc' := 75) (L' := [(3, .inl (gV D u (i))), (2, .inl (gV D u (i - 1))), (0, .inr (.inr (some (733)))), (1, .inl (i))]) (st' := [.inl (0)]) rfl ?_
                exact ez_retZ rfl rfl (Or.inl rfl) (k0 (gbd_n i0 i1 (by first | exact Or.inl ⟨by omega, by omega⟩ | exact Or.inr ⟨⟨wa, wb⟩, Or.inl (by omega)⟩ | exact Or.inr ⟨⟨wa, wb⟩, Or.inr (Or.inl ⟨by omega, e35.mp (by omega), wp⟩)⟩ | exact Or.inr ⟨⟨wa, wb⟩, Or.inr (Or.inr ⟨by omega, e37.mp (by omega)⟩)⟩)))
              · skip
                refine ez_go (n := 2) (pc' := 65) (L' := [(3, .inl (gV D u (i))), (2, .inl (gV D u (i - 1))), (0, .inr (.inr (some (733)))), (1, .inl (i))]) (st' := [.inl (8), .inl (gV D u (i))]) rfl ?_
                refine ez_icmp rfl rfl ⟨by first | omega | exact (sz_i32 _).1, by first | omega | exact (sz_i32 _).2⟩ ⟨by first | omega | exact (sz_i32 _).1, by first | omega | exact (sz_i32 _).2⟩ (fun (c25 : (gV D u (i)) = (8)) => ?_) (fun (c25 : ¬((gV D u (i)) = (8))) => ?_)
                · skip
                  refine ez_go (n := 1) (pc' := 75) (L' := [(3, .inl (gV D u (i))), (2, .inl (gV D u (i - 1))), (0, .inr (.inr (some (733)))), (1, .inl (i))]) (st' := [.inl (0)]) rfl ?_
                  exact ez_retZ rfl rfl (Or.inl rfl) (k0 (gbd_n i0 i1 (by first | exact Or.inl ⟨by omega, by omega⟩ | exact Or.inr ⟨⟨wa, wb⟩, Or.inl (by omega)⟩ | exact Or.inr ⟨⟨wa, wb⟩, Or.inr (Or.inl ⟨by omega, e35.mp (by omega), wp⟩)⟩ | exact Or.inr ⟨⟨wa, wb⟩, Or.inr (Or.inr ⟨by omega, e37.mp (by omega)⟩)⟩)))
                · skip
                  refine ez_go (n := 2) (pc' := 71) (L' := [(3, .inl (gV D u (i))), (2, .inl (gV D u (i - 1))), (0, .inr (.inr (some (733)))), (1, .inl (i))]) (st' := [.inl (7), .inl (gV D u (i - 1))]) rfl ?_
                  refine ez_icmp rfl rfl ⟨by first | omega | exact (sz_i32 _).1, by first | omega | exact (sz_i32 _).2⟩ ⟨by first | omega | exact (sz_i32 _).1, by first | omega | exact (sz_i32 _).2⟩ (fun (c26 : (gV D u (i - 1)) ≠ (7)) => ?_) (fun (c26 : ¬((gV D u (i - 1)) ≠ (7))) => ?_)
                  · skip
                    refine ez_less [(2, .inl (gV D u (i - 1))), (3, .inl (gV D u (i))), (0, .inr (.inr (some (733)))), (1, .inl (i))] rfl ⟨rfl, rfl, rfl, rfl, trivial⟩ ?_
                    exact rd_isGB76 c i0 i1 k1 k0 ra rb (by omega) wa wb (by omega)
                  · skip
                    refine ez_go (n := 1) (pc' := 75) (L' := [(3, .inl (gV D u (i))), (2, .inl (gV D u (i - 1))), (0, .inr (.inr (some (733)))), (1, .inl (i))]) (st' := [.inl (0)]) rfl ?_
                    exact ez_retZ rfl rfl (Or.inl rfl) (k0 (gbd_n i0 i1 (by first | exact Or.inl ⟨by omega, by omega⟩ | exact Or.inr ⟨⟨wa, wb⟩, Or.inl (by omega)⟩ | exact Or.inr ⟨⟨wa, wb⟩, Or.inr (Or.inl ⟨by omega, e35.mp (by omega), wp⟩)⟩ | exact Or.inr ⟨⟨wa, wb⟩, Or.inr (Or.inr ⟨by omega, e37.mp (by omega)⟩)⟩)))
    · skip
      refine ez_go (n := 1) (pc' := 27) (L' := [(3, .inl (gV D u (i))), (2, .inl (gV D u (i - 1))), (0, .inr (.inr (some (733)))), (1, .inl (i))]) (st' := [.inl (0)]) rfl ?_
      exact ez_retZ rfl rfl (Or.inl rfl) (k0 (gbd_n i0 i1 (by first | exact Or.inl ⟨by omega, by omega⟩ | exact Or.inr ⟨⟨wa, wb⟩, Or.inl (by omega)⟩ | exact Or.inr ⟨⟨wa, wb⟩, Or.inr (Or.inl ⟨by omega, e35.mp (by omega), wp⟩)⟩ | exact Or.inr ⟨⟨wa, wb⟩, Or.inr (Or.inr ⟨by omega, e37.mp (by omega)⟩)⟩)))

theorem rd_isBd1 {i : Int} (c : bkC τ h D u) (ir : ez_rg i) (k1 : edP D u 1 i → Q (.inl (some (ez_v (.inl 1))), h)) (k0 : ¬ edP D u 1 i → Q (.inl (some (ez_v (.inl 0))), h)) : ez_W (d + 3) cm_47 0 [(0, .inr (.inr (some (733)))), (1, .inl (i))] [] h Q := by
  have hB := c.1.1
  have t733 : τ 733 = 65 := c.1.2 733 (by decide)
  have n2 := c.2.1
  have e5 := c.2.2.1.1
  have e6 := c.2.2.1.2
  obtain ⟨ir1, ir2⟩ := id ir
  refine ez_go (n := 1) (pc' := 1) (L' := [(0, .inr (.inr (some (733)))), (1, .inl (i))]) (st' := [.inr (.inr (some (733)))]) rfl ?_
  refine ez_gI hB t733 rfl rfl tq_65 rfl rfl (fun (b1 : 0 ≤ qz_I h 733 5) (b1' : qz_I h 733 5 ≤ 2000) => ?_)
  refine ez_if rfl rfl ⟨by first | omega | exact (sz_i32 _).1, by first | omega | exact (sz_i32 _).2⟩ (fun (c2 : (qz_I h 733 5) ≠ (0)) => ?_) (fun (c2 : ¬((qz_I h 733 5) ≠ (0))) => ?_)
  · skip
    refine ez_go (n := 1) (pc' := 10) (L' := [(0, .inr (.inr (some (733)))), (1, .inl (i))]) (st' := [.inl (i)]) rfl ?_
    refine ez_if rfl rfl ⟨by first | omega | exact (sz_i32 _).1, by first | omega | exact (sz_i32 _).2⟩ (fun (c3 : (i) ≤ (0)) => ?_) (fun (c3 : ¬((i) ≤ (0))) => ?_)
    · skip
      refine ez_go (n := 1) (pc' := 22) (L' := [(0, .inr (.inr (some (733)))), (1, .inl (i))]) (st' := [.inl (1)]) rfl ?_
      exact ez_retZ rfl rfl (Or.inr rfl) (k1 ⟨by omega, fun _ => (by first | exact w | exact wbd_o (by omega)), fun q => absurd q (by decide)⟩)
    · skip
      refine ez_go (n := 2) (pc' := 15) (L' := [(0, .inr (.inr (some (733)))), (1, .inl (i))]) (st' := [.inr (.inr (some (733))), .inl (i)]) rfl ?_
      refine ez_gI hB t733 rfl rfl tq_65 rfl rfl (fun (b4 : 0 ≤ qz_I h 733 5) (b4' : qz_I h 733 5 ≤ 2000) => ?_)
      refine ez_icmp rfl rfl ⟨by first | omega | exact (sz_i32 _).1, by first | omega | exact (sz_i32 _).2⟩ ⟨by first | omega | exact (sz_i32 _).1, by first | omega | exact (sz_i32 _).2⟩ (fun (c5 : (i) < (qz_I h 733 5)) => ?_) (fun (c5 : ¬((i) < (qz_I h 733 5))) => ?_)
      · skip
        refine ez_go (n := 1) (pc' := 24) (L' := [(0, .inr (.inr (some (733)))), (1, .inl (i))]) (st' := [.inr (.inr (some (733)))]) rfl ?_
        refine ez_gI hB t733 rfl rfl tq_65 rfl rfl (fun (b6 : 0 ≤ qz_I h 733 6) (b6' : qz_I h 733 6 ≤ 1) => ?_)
        refine ez_if rfl rfl ⟨by first | omega | exact (sz_i32 _).1, by first | omega | exact (sz_i32 _).2⟩ (fun (c7 : (qz_I h 733 6) = (0)) => ?_) (fun (c7 : ¬((qz_I h 733 6) = (0))) => ?_)
        · exfalso; omega
        · skip
          refine ez_go (n := 2) (pc' := 32) (L' := [(0, .inr (.inr (some (733)))), (1, .inl (i))]) (st' := [.inl (i), .inr (.inr (some (733)))]) rfl ?_
          refine ez_cv hB t733 rfl rfl rfl tq_65 rfl rfl rfl (rd_isWB c (by omega) (by omega) (fun w => ez_K1 ?_) (fun w => ez_K1 ?_))
          · skip
            refine ez_go (n := 1) (pc' := 43) (L' := [(0, .inr (.inr (some (733)))), (1, .inl (i))]) (st' := [.inl (1)]) rfl ?_
            exact ez_retZ rfl rfl (Or.inr rfl) (k1 ⟨by omega, fun _ => (by first | exact w | exact wbd_o (by omega)), fun q => absurd q (by decide)⟩)
          · skip
            refine ez_go (n := 1) (pc' := 43) (L' := [(0, .inr (.inr (some (733)))), (1, .inl (i))]) (st' := [.inl (0)]) rfl ?_
            exact ez_retZ rfl rfl (Or.inl rfl) (k0 (fun q => by first | exact absurd (q.2.1 rfl) w | exact absurd q.1 (by omega)))
      · skip
        refine ez_go (n := 1) (pc' := 22) (L' := [(0, .inr (.inr (some (733)))), (1, .inl (i))]) (st' := [.inl (1)]) rfl ?_
        exact ez_retZ rfl rfl (Or.inr rfl) (k1 ⟨by omega, fun _ => (by first | exact w | exact wbd_o (by omega)), fun q => absurd q (by decide)⟩)
  · skip
    refine ez_go (n := 1) (pc' := 8) (L' := [(0, .inr (.inr (some (733)))), (1, .inl (i))]) (st' := [.inl (0)]) rfl ?_
    exact ez_retZ rfl rfl (Or.inl rfl) (k0 (fun q => by first | exact absurd (q.2.1 rfl) w | exact absurd q.1 (by omega)))

theorem rd_isBd0 {i : Int} (c : bkG τ h D u) (ir : ez_rg i) (k1 : edP D u 0 i → Q (.inl (some (ez_v (.inl 1))), h)) (k0 : ¬ edP D u 0 i → Q (.inl (some (ez_v (.inl 0))), h)) : ez_W (d + 3) cm_47 0 [(0, .inr (.inr (some (733)))), (1, .inl (i))] [] h Q := by
  have hB := c.1.1
  have t733 : τ 733 = 65 := c.1.2 733 (by decide)
  have n2 := c.2.1
  have e5 := c.2.2.1.1
  have e6 := c.2.2.1.2
  obtain ⟨ir1, ir2⟩ := id ir
  refine ez_go (n := 1) (pc' := 1) (L' := [(0, .inr (.inr (some (733)))), (1, .inl (i))]) (st' := [.inr (.inr (some (733)))]) rfl ?_
  refine ez_gI hB t733 rfl rfl tq_65 rfl rfl (fun (b1 : 0 ≤ qz_I h 733 5) (b1' : qz_I h 733 5 ≤ 2000) => ?_)
  refine ez_if rfl rfl ⟨by first | omega | exact (sz_i32 _).1, by first | omega | exact (sz_i32 _).2⟩ (fun (c2 : (qz_I h 733 5) ≠ (0)) => ?_) (fun (c2 : ¬((qz_I h 733 5) ≠ (0))) => ?_)
  · skip
    refine ez_go (n := 1) (pc' := 10) (L' := [(0, .inr (.inr (some (733)))), (1, .inl (i))]) (st' := [.inl (i)]) rfl ?_
    refine ez_if rfl rfl ⟨by first | omega | exact (sz_i32 _).1, by first | omega | exact (sz_i32 _).2⟩ (fun (c3 : (i) ≤ (0)) => ?_) (fun (c3 : ¬((i) ≤ (0))) => ?_)
    · skip
      refine ez_go (n := 1) (pc' := 22) (L' := [(0, .inr (.inr (some (733)))), (1, .inl (i))]) (st' := [.inl (1)]) rfl ?_
      exact ez_retZ rfl rfl (Or.inr rfl) (k1 ⟨by omega, fun q => absurd q (by decide), fun _ => (by first | exact w | exact gbd_o (by omega))⟩)
    · skip
      refine ez_go (n := 2) (pc' := 15) (L' := [(0, .inr (.inr (some (733)))), (1, .inl (i))]) (st' := [.inr (.inr (some (733))), .inl (i)]) rfl ?_
      refine ez_gI hB t733 rfl rfl tq_65 rfl rfl (fun (b4 : 0 ≤ qz_I h 733 5) (b4' : qz_I h 733 5 ≤ 2000) => ?_)
      refine ez_icmp rfl rfl ⟨by first | omega | exact (sz_i32 _).1, by first | omega | exact (sz_i32 _).2⟩ ⟨by first | omega | exact (sz_i32 _).1, by first | omega | exact (sz_i32 _).2⟩ (fun (c5 : (i) < (qz_I h 733 5)) => ?_) (fun (c5 : ¬((i) < (qz_I h 733 5))) => ?_)
      · skip
        refine ez_go (n := 1) (pc' := 24) (L' := [(0, .inr (.inr (some (733)))), (1, .inl (i))]) (st' := [.inr (.inr (some (733)))]) rfl ?_
        refine ez_gI hB t733 rfl rfl tq_65 rfl rfl (fun (b6 : 0 ≤ qz_I h 733 6) (b6' : qz_I h 733 6 ≤ 1) => ?_)
        refine ez_if rfl rfl ⟨by first | omega | exact (sz_i32 _).1, by first | omega | exact (sz_i32 _).2⟩ (fun (c7 : (qz_I h 733 6) = (0)) => ?_) (fun (c7 : ¬((qz_I h 733 6) = (0))) => ?_)
        · skip
          refine ez_go (n := 2) (pc' := 40) (L' := [(0, .inr (.inr (some (733)))), (1, .inl (i))]) (st' := [.inl (i), .inr (.inr (some (733)))]) rfl ?_
          refine ez_cv hB t733 rfl rfl rfl tq_65 rfl rfl rfl (rd_isGB c (by omega) (by omega) (fun w => ez_K1 ?_) (fun w => ez_K1 ?_))
          · skip
            exact ez_retZ rfl rfl (Or.inr rfl) (k1 ⟨by omega, fun q => absurd q (by decide), fun _ => (by first | exact w | exact gbd_o (by omega))⟩)
          · skip
            exact ez_retZ rfl rfl (Or.inl rfl) (k0 (fun q => by first | exact absurd (q.2.2 rfl) w | exact absurd q.1 (by omega)))
        · exfalso; omega
      · skip
        refine ez_go (n := 1) (pc' := 22) (L' := [(0, .inr (.inr (some (733)))), (1, .inl (i))]) (st' := [.inl (1)]) rfl ?_
        exact ez_retZ rfl rfl (Or.inr rfl) (k1 ⟨by omega, fun q => absurd q (by decide), fun _ => (by first | exact w | exact gbd_o (by omega))⟩)
  · skip
    refine ez_go (n := 1) (pc' := 8) (L' := [(0, .inr (.inr (some (733)))), (1, .inl (i))]) (st' := [.inl (0)]) rfl ?_
    exact ez_retZ rfl rfl (Or.inl rfl) (k0 (fun q => by first | exact absurd (q.2.2 rfl) w | exact absurd q.1 (by omega)))

theorem rd_isBd {i kind : Int} (c : bkK τ h D u kind) (ir : ez_rg i) (k1 : edP D u kind i → Q (.inl (some (ez_v (.inl 1))), h)) (k0 : ¬ edP D u kind i → Q (.inl (some (ez_v (.inl 0))), h)) : ez_W (d + 3) cm_47 0 [(0, .inr (.inr (some (733)))), (1, .inl (i))] [] h Q := by
  rcases c with ⟨e, c⟩ | ⟨e, c⟩
  · subst e; exact rd_isBd1 c ir k1 k0
  · subst e; exact rd_isBd0 c ir k1 k0
theorem bkK.a {kind : Int} (c : bkK τ h D u kind) : (ez_B τ h ∧ jz_X τ) ∧ (u.length : Int) ≤ 2000 ∧ qz_I h 733 5 = (u.length : Int) := by
  rcases c with ⟨-, c⟩ | ⟨-, c⟩
  · exact ⟨c.1, c.2.1, c.2.2.1.1⟩
  · exact ⟨c.1, c.2.1, c.2.2.1.1⟩
theorem rd_firstBehind_l {i kind : Int} (c : bkK τ h D u kind) (i0 : 0 ≤ i) (i1 : i ≤ (u.length : Int)) (k9 : ∀ v, nxf (edP D u kind) u.length i v → (-1 ≤ v ∧ v ≤ 2000) → Q (.inl (some (ez_v (.inl v))), h)) : ∀ (n : Nat) (k : Int), n = ((u.length : Int) + 1 - k).toNat → i < k → k ≤ (u.length : Int) + 1 → (∀ j, i < j → j < k → ¬ edP D u kind j) → ez_W (d + 4) cm_44 4 [(2, .inl (k)), (0, .inr (.inr (some (733)))), (1, .inl (i))] [] h Q := by
  have hB := c.a.1.1
  have t733 : τ 733 = 65 := c.a.1.2 733 (by decide)
  have n2 := c.a.2.1
  have e5 := c.a.2.2
  intro n
  induction n with
  | zero =>
    intro k hn0 ka kb hn
    refine ez_go (n := 2) (pc' := 6) (L' := [(2, .inl (k)), (0, .inr (.inr (some (733)))), (1, .inl (i))]) (st' := [.inr (.inr (some (733))), .inl (k)]) rfl ?_
    refine ez_gI hB t733 rfl rfl tq_65 rfl rfl (fun (b1 : 0 ≤ qz_I h 733 5) (b1' : qz_I h 733 5 ≤ 2000) => ?_)
    refine ez_icmp rfl rfl ⟨by first | omega | exact (sz_i32 _).1, by first | omega | exact (sz_i32 _).2⟩ ⟨by first | omega | exact (sz_i32 _).1, by first | omega | exact (sz_i32 _).2⟩ (fun (c2 : (qz_I h 733 5) < (k)) => ?_) (fun (c2 : ¬((qz_I h 733 5) < (k))) => ?_)
    · skip
      refine ez_go (n := 1) (pc' := 29) (L' := [(2, .inl (k)), (0, .inr (.inr (some (733)))), (1, .inl (i))]) (st' := [.inl (-1)]) rfl ?_
      exact ez_retI rfl rfl (k9 _ (Or.inr ⟨rfl, fun j ja jb => hn j (by omega) (by omega)⟩) (by omega))
    · skip
      refine ez_go (n := 2) (pc' := 14) (L' := [(2, .inl (k)), (0, .inr (.inr (some (733)))), (1, .inl (i))]) (st' := [.inl (k), .inr (.inr (some (733)))]) rfl ?_
      refine ez_cv hB t733 rfl rfl rfl tq_65 rfl rfl rfl (rd_isBd c ⟨by omega, by omega⟩ (fun w => ez_K1 ?_) (fun w => ez_K1 ?_))
      · skip
        refine ez_if rfl rfl ⟨by decide, by decide⟩ (fun (c3 : (1 : Int) = (0)) => absurd c3 (by decide)) (fun _ => ?_)
        refine ez_go (n := 1) (pc' := 21) (L' := [(2, .inl (k)), (0, .inr (.inr (some (733)))), (1, .inl (i))]) (st' := [.inl (k)]) rfl ?_
        exact ez_retI rfl rfl (k9 _ (Or.inl ⟨by omega, by omega, w, fun j ja jb => hn j (by omega) (by omega)⟩) (by omega))
      · skip
        refine ez_if rfl rfl ⟨by decide, by decide⟩ (fun _ => ?_) (fun (c4 : ¬((0 : Int) = (0))) => absurd c4 (by decide))
        refine ez_go (n := 2) (pc' := 4) (L' := [(2, .inl (k + 1)), (0, .inr (.inr (some (733)))), (1, .inl (i))]) (st' := []) rfl ?_
        exfalso; omega
  | succ n ih =>
    intro k hn0 ka kb hn
    refine ez_go (n := 2) (pc' := 6) (L' := [(2, .inl (k)), (0, .inr (.inr (some (733)))), (1, .inl (i))]) (st' := [.inr (.inr (some (733))), .inl (k)]) rfl ?_
    refine ez_gI hB t733 rfl rfl tq_65 rfl rfl (fun (b1 : 0 ≤ qz_I h 733 5) (b1' : qz_I h 733 5 ≤ 2000) => ?_)
    refine ez_icmp rfl rfl ⟨by first | omega | exact (sz_i32 _).1, by first | omega | exact (sz_i32 _).2⟩ ⟨by first | omega | exact (sz_i32 _).1, by first | omega | exact (sz_i32 _).2⟩ (fun (c2 : (qz_I h 733 5) < (k)) => ?_) (fun (c2 : ¬((qz_I h 733 5) < (k))) => ?_)
    · skip
      refine ez_go (n := 1) (pc' := 29) (L' := [(2, .inl (k)), (0, .inr (.inr (some (733)))), (1, .inl (i))]) (st' := [.inl (-1)]) rfl ?_
      exact ez_retI rfl rfl (k9 _ (Or.inr ⟨rfl, fun j ja jb => hn j (by omega) (by omega)⟩) (by omega))
    · skip
      refine ez_go (n := 2) (pc' := 14) (L' := [(2, .inl (k)), (0, .inr (.inr (some (733)))), (1, .inl (i))]) (st' := [.inl (k), .inr (.inr (some (733)))]) rfl ?_
      refine ez_cv hB t733 rfl rfl rfl tq_65 rfl rfl rfl (rd_isBd c ⟨by omega, by omega⟩ (fun w => ez_K1 ?_) (fun w => ez_K1 ?_))
      · skip
        refine ez_if rfl rfl ⟨by decide, by decide⟩ (fun (c3 : (1 : Int) = (0)) => absurd c3 (by decide)) (fun _ => ?_)
        refine ez_go (n := 1) (pc' := 21) (L' := [(2, .inl (k)), (0, .inr (.inr (some (733)))), (1, .inl (i))]) (st' := [.inl (k)]) rfl ?_
        exact ez_retI rfl rfl (k9 _ (Or.inl ⟨by omega, by omega, w, fun j ja jb => hn j (by omega) (by omega)⟩) (by omega))
      · skip
        refine ez_if rfl rfl ⟨by decide, by decide⟩ (fun _ => ?_) (fun (c4 : ¬((0 : Int) = (0))) => absurd c4 (by decide))
        refine ez_go (n := 2) (pc' := 4) (L' := [(2, .inl (k + 1)), (0, .inr (.inr (some (733)))), (1, .inl (i))]) (st' := []) rfl ?_
        refine ez_less [(2, .inl (k + 1)), (0, .inr (.inr (some (733)))), (1, .inl (i))] rfl ⟨rfl, rfl, rfl, trivial⟩ ?_
        refine ih (k + 1) (by omega) (by omega) (by omega) (fun j ja jb => ?_)
        by_cases e : j = k
        · rw [e]; exact w
        · exact hn j (by omega) (by omega)

theorem rd_firstBehind {i kind : Int} (c : bkK τ h D u kind) (i0 : 0 ≤ i) (i1 : i ≤ (u.length : Int)) (k9 : ∀ v, nxf (edP D u kind) u.length i v → (-1 ≤ v ∧ v ≤ 2000) → Q (.inl (some (ez_v (.inl v))), h)) : ez_W (d + 4) cm_44 0 [(0, .inr (.inr (some (733)))), (1, .inl (i))] [] h Q := by
  have hB := c.a.1.1
  have t733 : τ 733 = 65 := c.a.1.2 733 (by decide)
  have n2 := c.a.2.1
  have e5 := c.a.2.2
  refine ez_go (n := 4) (pc' := 4) (L' := [(2, .inl ((i) + (1))), (0, .inr (.inr (some (733)))), (1, .inl (i))]) (st' := []) rfl ?_
  refine ez_less [(2, .inl ((i) + (1))), (0, .inr (.inr (some (733)))), (1, .inl (i))] rfl ⟨rfl, rfl, rfl, trivial⟩ ?_
  exact rd_firstBehind_l c i0 i1 k9 _ _ rfl (by omega) (by omega) (fun j ja jb => by omega)

theorem rd_lastBefore_l {i kind : Int} (c : bkK τ h D u kind) (i0 : 0 ≤ i) (i1 : i ≤ (u.length : Int)) (k9 : ∀ v, nxb (edP D u kind) i v → (-1 ≤ v ∧ v ≤ 2000) → Q (.inl (some (ez_v (.inl v))), h)) : ∀ (n : Nat) (k : Int), n = (k + 1).toNat → -1 ≤ k → k < i → (∀ j, k < j → j < i → ¬ edP D u kind j) → ez_W (d + 4) cm_58 4 [(2, .inl (k)), (0, .inr (.inr (some (733)))), (1, .inl (i))] [] h Q := by
  have hB := c.a.1.1
  have t733 : τ 733 = 65 := c.a.1.2 733 (by decide)
  have n2 := c.a.2.1
  have e5 := c.a.2.2
  intro n
  induction n with
  | zero =>
    intro k hn0 ka kb hn
    refine ez_go (n := 1) (pc' := 5) (L' := [(2, .inl (k)), (0, .inr (.inr (some (733)))), (1, .inl (i))]) (st' := [.inl (k)]) rfl ?_
    refine ez_if rfl rfl ⟨by first | omega | exact (sz_i32 _).1, by first | omega | exact (sz_i32 _).2⟩ (fun (c1 : (k) < (0)) => ?_) (fun (c1 : ¬((k) < (0))) => ?_)
    · skip
      refine ez_go (n := 1) (pc' := 25) (L' := [(2, .inl (k)), (0, .inr (.inr (some (733)))), (1, .inl (i))]) (st' := [.inl (-1)]) rfl ?_
      exact ez_retI rfl rfl (k9 _ (Or.inr ⟨rfl, fun j ja jb => hn j (by omega) (by omega)⟩) (by omega))
    · skip
      refine ez_go (n := 2) (pc' := 10) (L' := [(2, .inl (k)), (0, .inr (.inr (some (733)))), (1, .inl (i))]) (st' := [.inl (k), .inr (.inr (some (733)))]) rfl ?_
      refine ez_cv hB t733 rfl rfl rfl tq_65 rfl rfl rfl (rd_isBd c ⟨by omega, by omega⟩ (fun w => ez_K1 ?_) (fun w => ez_K1 ?_))
      · skip
        refine ez_if rfl rfl ⟨by decide, by decide⟩ (fun (c2 : (1 : Int) = (0)) => absurd c2 (by decide)) (fun _ => ?_)
        refine ez_go (n := 1) (pc' := 17) (L' := [(2, .inl (k)), (0, .inr (.inr (some (733)))), (1, .inl (i))]) (st' := [.inl (k)]) rfl ?_
        exact ez_retI rfl rfl (k9 _ (Or.inl ⟨by omega, by omega, w, fun j ja jb => hn j (by omega) (by omega)⟩) (by omega))
      · skip
        refine ez_if rfl rfl ⟨by decide, by decide⟩ (fun _ => ?_) (fun (c3 : ¬((0 : Int) = (0))) => absurd c3 (by decide))
        refine ez_go (n := 2) (pc' := 4) (L' := [(2, .inl (k + (-1))), (0, .inr (.inr (some (733)))), (1, .inl (i))]) (st' := []) rfl ?_
        exfalso; omega
  | succ n ih =>
    intro k hn0 ka kb hn
    refine ez_go (n := 1) (pc' := 5) (L' := [(2, .inl (k)), (0, .inr (.inr (some (733)))), (1, .inl (i))]) (st' := [.inl (k)]) rfl ?_
    refine ez_if rfl rfl ⟨by first | omega | exact (sz_i32 _).1, by first | omega | exact (sz_i32 _).2⟩ (fun (c1 : (k) < (0)) => ?_) (fun (c1 : ¬((k) < (0))) => ?_)
    · skip
      refine ez_go (n := 1) (pc' := 25) (L' := [(2, .inl (k)), (0, .inr (.inr (some (733)))), (1, .inl (i))]) (st' := [.inl (-1)]) rfl ?_
      exact ez_retI rfl rfl (k9 _ (Or.inr ⟨rfl, fun j ja jb => hn j (by omega) (by omega)⟩) (by omega))
    · skip
      refine ez_go (n := 2) (pc' := 10) (L' := [(2, .inl (k)), (0, .inr (.inr (some (733)))), (1, .inl (i))]) (st' := [.inl (k), .inr (.inr (some (733)))]) rfl ?_
      refine ez_cv hB t733 rfl rfl rfl tq_65 rfl rfl rfl (rd_isBd c ⟨by omega, by omega⟩ (fun w => ez_K1 ?_) (fun w => ez_K1 ?_))
      · skip
        refine ez_if rfl rfl ⟨by decide, by decide⟩ (fun (c2 : (1 : Int) = (0)) => absurd c2 (by decide)) (fun _ => ?_)
        refine ez_go (n := 1) (pc' := 17) (L' := [(2, .inl (k)), (0, .inr (.inr (some (733)))), (1, .inl (i))]) (st' := [.inl (k)]) rfl ?_
        exact ez_retI rfl rfl (k9 _ (Or.inl ⟨by omega, by omega, w, fun j ja jb => hn j (by omega) (by omega)⟩) (by omega))
      · skip
        refine ez_if rfl rfl ⟨by decide, by decide⟩ (fun _ => ?_) (fun (c3 : ¬((0 : Int) = (0))) => absurd c3 (by decide))
        refine ez_go (n := 2) (pc' := 4) (L' := [(2, .inl (k + (-1))), (0, .inr (.inr (some (733)))), (1, .inl (i))]) (st' := []) rfl ?_
        refine ez_less [(2, .inl (k + (-1))), (0, .inr (.inr (some (733)))), (1, .inl (i))] rfl ⟨rfl, rfl, rfl, trivial⟩ ?_
        refine ih (k + (-1)) (by omega) (by omega) (by omega) (fun j ja jb => ?_)
        by_cases e : j = k
        · rw [e]; exact w
        · exact hn j (by omega) (by omega)

theorem rd_lastBefore {i kind : Int} (c : bkK τ h D u kind) (i0 : 0 ≤ i) (i1 : i ≤ (u.length : Int)) (k9 : ∀ v, nxb (edP D u kind) i v → (-1 ≤ v ∧ v ≤ 2000) → Q (.inl (some (ez_v (.inl v))), h)) : ez_W (d + 4) cm_58 0 [(0, .inr (.inr (some (733)))), (1, .inl (i))] [] h Q := by
  have hB := c.a.1.1
  have t733 : τ 733 = 65 := c.a.1.2 733 (by decide)
  have n2 := c.a.2.1
  have e5 := c.a.2.2
  refine ez_go (n := 4) (pc' := 4) (L' := [(2, .inl ((i) - (1))), (0, .inr (.inr (some (733)))), (1, .inl (i))]) (st' := []) rfl ?_
  refine ez_less [(2, .inl ((i) - (1))), (0, .inr (.inr (some (733)))), (1, .inl (i))] rfl ⟨rfl, rfl, rfl, trivial⟩ ?_
  exact rd_lastBefore_l c i0 i1 k9 _ _ rfl (by omega) (by omega) (fun j ja jb => by omega)

theorem rd_isAtt0 {i : Int} (hB : ez_B τ h) (t733 : τ 733 = 65) (e6 : qz_I h 733 6 = 0) (k0 : Q (.inl (some (ez_v (.inl 0))), h)) : ez_W (d + 1) cm_46 0 [(0, .inr (.inr (some (733)))), (1, .inl (i))] [] h Q := by
  refine ez_go (n := 1) (pc' := 1) (L' := [(0, .inr (.inr (some (733)))), (1, .inl (i))]) (st' := [.inr (.inr (some (733)))]) rfl ?_
  refine ez_gI hB t733 rfl rfl tq_65 rfl rfl (fun (b1 : 0 ≤ qz_I h 733 6) (b1' : qz_I h 733 6 ≤ 1) => ?_)
  refine ez_if rfl rfl ⟨by first | omega | exact (sz_i32 _).1, by first | omega | exact (sz_i32 _).2⟩ (fun (c2 : (qz_I h 733 6) = (0)) => ?_) (fun (c2 : ¬((qz_I h 733 6) = (0))) => ?_)
  · skip
    refine ez_go (n := 1) (pc' := 42) (L' := [(0, .inr (.inr (some (733)))), (1, .inl (i))]) (st' := [.inl (0)]) rfl ?_
    exact ez_retZ rfl rfl (Or.inl rfl) k0
  · exfalso; omega

theorem rd_gl_c {i : Int} {g3 : cz_H} (hX : jz_X τ) (B3 : ez_B τ g3) (f3 : ez_fr cg_P h g3) (i0 : 0 ≤ i) (i1 : i < 2000) (v34c : qz_I g3 734 (i).toNat = gV D u i) (q3c : 0 < i → qz_I g3 736 (i - 1).toNat = i - 1) (q5c : ∀ k, 0 ≤ k → k < i → (qz_I g3 737 k.toNat = 1 ↔ odg (gV D u) k.toNat)) (kc : ∀ g4, ez_B τ g4 → ez_fr cg_P h g4 → (∀ q j, ¬ (q = 737 ∧ j = (i).toNat) → qz_I g4 q j = qz_I g3 q j) → (qz_I g4 737 (i).toNat = 1 ↔ odg (gV D u) (i).toNat) → ez_W (d + 2) cm_59 24 [(3, .inl (i + 1)), (0, .inr (.inr (some (733)))), (1, .inr (.inr (some (r)))), (2, .inl (0))] [] g4 Q) : ez_W (d + 2) cm_59 112 [(3, .inl (i)), (0, .inr (.inr (some (733)))), (1, .inr (.inr (some (r)))), (2, .inl (0))] [] g3 Q := by
  have t733 : τ 733 = 65 := hX 733 (by decide)
  refine ez_go (n := 1) (pc' := 113) (L' := [(3, .inl (i)), (0, .inr (.inr (some (733)))), (1, .inr (.inr (some (r)))), (2, .inl (0))]) (st' := [.inr (.inr (some (733)))]) rfl ?_
  refine ez_gC (p := 737) (tg := 69) B3 t733 rfl rfl tq_65 rfl rfl (fun (t737 : _ = 69) => ?_)
  refine ez_go (n := 2) (pc' := 118) (L' := [(3, .inl (i)), (0, .inr (.inr (some (733)))), (1, .inr (.inr (some (r)))), (2, .inl (0))]) (st' := [.inr (.inr (some (733))), .inl (i), .inr (.inr (some (737)))]) rfl ?_
  refine ez_gC (p := 734) (tg := 66) B3 t733 rfl rfl tq_65 rfl rfl (fun (t734 : _ = 66) => ?_)
  refine ez_go (n := 1) (pc' := 122) (L' := [(3, .inl (i)), (0, .inr (.inr (some (733)))), (1, .inr (.inr (some (r)))), (2, .inl (0))]) (st' := [.inl (i), .inr (.inr (some (734))), .inl (i), .inr (.inr (some (737)))]) rfl ?_
  have n2 : 2000 ≤ qz_N g3 734 ∧ qz_N g3 734 ≤ 2000 := ez_len B3 t734 tq_66 rfl
  refine ez_aI B3 t734 rfl tq_66 rfl rfl (by omega) (by omega) (fun (b1 : -2147483648 ≤ qz_I g3 734 (i).toNat) (b1' : qz_I g3 734 (i).toNat ≤ 2147483647) => ?_)
  rw [v34c]
  refine ez_go (n := 1) (pc' := 125) (L' := [(3, .inl (i)), (0, .inr (.inr (some (733)))), (1, .inr (.inr (some (r)))), (2, .inl (0))]) (st' := [.inl (6), .inl (gV D u i), .inl (i), .inr (.inr (some (737)))]) rfl ?_
  refine ez_icmp rfl rfl ⟨by first | omega | exact (sz_i32 _).1, by first | omega | exact (sz_i32 _).2⟩ ⟨by first | omega | exact (sz_i32 _).1, by first | omega | exact (sz_i32 _).2⟩ (fun (c3 : (gV D u i) ≠ (6)) => ?_) (fun (c3 : ¬((gV D u i) ≠ (6))) => ?_)
  · skip
    refine ez_go (n := 1) (pc' := 153) (L' := [(3, .inl (i)), (0, .inr (.inr (some (733)))), (1, .inr (.inr (some (r)))), (2, .inl (0))]) (st' := [.inl (0), .inl (i), .inr (.inr (some (737)))]) rfl ?_
    have n6 : 2000 ≤ qz_N g3 737 ∧ qz_N g3 737 ≤ 2000 := ez_len B3 t737 tq_69 rfl
    refine ez_az B3 t737 rfl tq_69 rfl rfl (by omega) (by omega) (by omega) (ez_vdI rfl rfl (by omega) (by omega)) (fun hB4 w5 => ?_)
    have v4 : qz_I (dz_put g3 737 (i).toNat (ez_v (.inl (0)))) 737 (i).toNat = 0 := w5.trans (ez_rg.v ⟨by omega, by omega⟩)
    have o4 : ∀ q j, ¬ (q = 737 ∧ j = (i).toNat) → qz_I (dz_put g3 737 (i).toNat (ez_v (.inl (0)))) q j = qz_I g3 q j := fun q j w => ez_put_I w
    have f4 : ez_fr cg_P h (dz_put g3 737 (i).toNat (ez_v (.inl (0)))) := f3.put (cg_Py (by decide) (by decide)) _ _
    have B4 := hB4
    generalize (dz_put g3 737 (i).toNat (ez_v (.inl (0)))) = g4 at *
    have e4 : qz_I g4 737 (i).toNat = 1 ↔ odg (gV D u) (i).toNat := by rw [odg_s _ i0]; exact ⟨fun w => by omega, fun w => by first | (exfalso; have := w.1; omega) | exact absurd ⟨by omega, q5.mp (by omega)⟩ w.2⟩
    refine ez_go (n := 2) (pc' := 24) (L' := [(3, .inl (i + 1)), (0, .inr (.inr (some (733)))), (1, .inr (.inr (some (r)))), (2, .inl (0))]) (st' := []) rfl ?_
    refine ez_less [(3, .inl (i + 1)), (0, .inr (.inr (some (733)))), (1, .inr (.inr (some (r)))), (2, .inl (0))] rfl ⟨rfl, rfl, rfl, rfl, trivial⟩ ?_
    exact kc g4 B4 f4 o4 e4
  · skip
    refine ez_go (n := 1) (pc' := 129) (L' := [(3, .inl (i)), (0, .inr (.inr (some (733)))), (1, .inr (.inr (some (r)))), (2, .inl (0))]) (st' := [.inl (i), .inl (i), .inr (.inr (some (737)))]) rfl ?_
    refine ez_if rfl rfl ⟨by first | omega | exact (sz_i32 _).1, by first | omega | exact (sz_i32 _).2⟩ (fun (c7 : (i) ≤ (0)) => ?_) (fun (c7 : ¬((i) ≤ (0))) => ?_)
    · skip
      refine ez_go (n := 2) (pc' := 153) (L' := [(3, .inl (i)), (0, .inr (.inr (some (733)))), (1, .inr (.inr (some (r)))), (2, .inl (0))]) (st' := [.inl (1), .inl (i), .inr (.inr (some (737)))]) rfl ?_
      have n10 : 2000 ≤ qz_N g3 737 ∧ qz_N g3 737 ≤ 2000 := ez_len B3 t737 tq_69 rfl
      refine ez_az B3 t737 rfl tq_69 rfl rfl (by omega) (by omega) (by omega) (ez_vdI rfl rfl (by omega) (by omega)) (fun hB8 w9 => ?_)
      have v4 : qz_I (dz_put g3 737 (i).toNat (ez_v (.inl (1)))) 737 (i).toNat = 1 := w9.trans (ez_rg.v ⟨by omega, by omega⟩)
      have o4 : ∀ q j, ¬ (q = 737 ∧ j = (i).toNat) → qz_I (dz_put g3 737 (i).toNat (ez_v (.inl (1)))) q j = qz_I g3 q j := fun q j w => ez_put_I w
      have f4 : ez_fr cg_P h (dz_put g3 737 (i).toNat (ez_v (.inl (1)))) := f3.put (cg_Py (by decide) (by decide)) _ _
      have B4 := hB8
      generalize (dz_put g3 737 (i).toNat (ez_v (.inl (1)))) = g4 at *
      have e4 : qz_I g4 737 (i).toNat = 1 ↔ odg (gV D u) (i).toNat := by rw [odg_s _ i0]; exact ⟨fun _ => ⟨by omega, fun w => by first | (exfalso; omega) | (have := q5.mpr w.2; omega)⟩, fun _ => v4⟩
      refine ez_go (n := 2) (pc' := 24) (L' := [(3, .inl (i + 1)), (0, .inr (.inr (some (733)))), (1, .inr (.inr (some (r)))), (2, .inl (0))]) (st' := []) rfl ?_
      refine ez_less [(3, .inl (i + 1)), (0, .inr (.inr (some (733)))), (1, .inr (.inr (some (r)))), (2, .inl (0))] rfl ⟨rfl, rfl, rfl, rfl, trivial⟩ ?_
      exact kc g4 B4 f4 o4 e4
    · skip
      refine ez_go (n := 1) (pc' := 133) (L' := [(3, .inl (i)), (0, .inr (.inr (some (733)))), (1, .inr (.inr (some (r)))), (2, .inl (0))]) (st' := [.inr (.inr (some (733))), .inl (i), .inr (.inr (some (737)))]) rfl ?_
      refine ez_gC (p := 737) (tg := 69) B3 t733 rfl rfl tq_65 rfl rfl (fun (t737 : _ = 69) => ?_)
      refine ez_go (n := 1) (pc' := 137) (L' := [(3, .inl (i)), (0, .inr (.inr (some (733)))), (1, .inr (.inr (some (r)))), (2, .inl (0))]) (st' := [.inr (.inr (some (733))), .inr (.inr (some (737))), .inl (i), .inr (.inr (some (737)))]) rfl ?_
      refine ez_gC (p := 736) (tg := 68) B3 t733 rfl rfl tq_65 rfl rfl (fun (t736 : _ = 68) => ?_)
      refine ez_go (n := 3) (pc' := 143) (L' := [(3, .inl (i)), (0, .inr (.inr (some (733)))), (1, .inr (.inr (some (r)))), (2, .inl (0))]) (st' := [.inl ((i) - (1)), .inr (.inr (some (736))), .inr (.inr (some (737))), .inl (i), .inr (.inr (some (737)))]) rfl ?_
      have n12 : 2000 ≤ qz_N g3 736 ∧ qz_N g3 736 ≤ 2000 := ez_len B3 t736 tq_68 rfl
      refine ez_aI B3 t736 rfl tq_68 rfl rfl (by omega) (by omega) (fun (b11 : 0 ≤ qz_I g3 736 ((i) - (1)).toNat) (b11' : qz_I g3 736 ((i) - (1)).toNat ≤ 1999) => ?_)
      have q3 := q3c (by omega)
      rw [show qz_I g3 736 ((i) - (1)).toNat = i - 1 from q3]
      have n14 : 2000 ≤ qz_N g3 737 ∧ qz_N g3 737 ≤ 2000 := ez_len B3 t737 tq_69 rfl
      refine ez_aI B3 t737 rfl tq_69 rfl rfl (by omega) (by omega) (fun (b13 : 0 ≤ qz_I g3 737 (i - 1).toNat) (b13' : qz_I g3 737 (i - 1).toNat ≤ 1) => ?_)
      have q5 := q5c (i - 1) (by omega) (by omega)
      refine ez_if rfl rfl ⟨by first | omega | exact (sz_i32 _).1, by first | omega | exact (sz_i32 _).2⟩ (fun (c15 : (qz_I g3 737 (i - 1).toNat) ≠ (0)) => ?_) (fun (c15 : ¬((qz_I g3 737 (i - 1).toNat) ≠ (0))) => ?_)
      · skip
        refine ez_go (n := 1) (pc' := 153) (L' := [(3, .inl (i)), (0, .inr (.inr (some (733)))), (1, .inr (.inr (some (r)))), (2, .inl (0))]) (st' := [.inl (0), .inl (i), .inr (.inr (some (737)))]) rfl ?_
        have n18 : 2000 ≤ qz_N g3 737 ∧ qz_N g3 737 ≤ 2000 := ez_len B3 t737 tq_69 rfl
        refine ez_az B3 t737 rfl tq_69 rfl rfl (by omega) (by omega) (by omega) (ez_vdI rfl rfl (by omega) (by omega)) (fun hB16 w17 => ?_)
        have v4 : qz_I (dz_put g3 737 (i).toNat (ez_v (.inl (0)))) 737 (i).toNat = 0 := w17.trans (ez_rg.v ⟨by omega, by omega⟩)
        have o4 : ∀ q j, ¬ (q = 737 ∧ j = (i).toNat) → qz_I (dz_put g3 737 (i).toNat (ez_v (.inl (0)))) q j = qz_I g3 q j := fun q j w => ez_put_I w
        have f4 : ez_fr cg_P h (dz_put g3 737 (i).toNat (ez_v (.inl (0)))) := f3.put (cg_Py (by decide) (by decide)) _ _
        have B4 := hB16
        generalize (dz_put g3 737 (i).toNat (ez_v (.inl (0)))) = g4 at *
        have e4 : qz_I g4 737 (i).toNat = 1 ↔ odg (gV D u) (i).toNat := by rw [odg_s _ i0]; exact ⟨fun w => by omega, fun w => by first | (exfalso; have := w.1; omega) | exact absurd ⟨by omega, q5.mp (by omega)⟩ w.2⟩
        refine ez_go (n := 2) (pc' := 24) (L' := [(3, .inl (i + 1)), (0, .inr (.inr (some (733)))), (1, .inr (.inr (some (r)))), (2, .inl (0))]) (st' := []) rfl ?_
        refine ez_less [(3, .inl (i + 1)), (0, .inr (.inr (some (733)))), (1, .inr (.inr (some (r)))), (2, .inl (0))] rfl ⟨rfl, rfl, rfl, rfl, trivial⟩ ?_
        exact kc g4 B4 f4 o4 e4
      · skip
        refine ez_go (n := 2) (pc' := 153) (L' := [(3, .inl (i)), (0, .inr (.inr (some (733)))), (1, .inr (.inr (some (r)))), (2, .inl (0))]) (st' := [.inl (1), .inl (i), .inr (.inr (some (737)))]) rfl ?_
        have n21 : 2000 ≤ qz_N g3 737 ∧ qz_N g3 737 ≤ 2000 := ez_len B3 t737 tq_69 rfl
        refine ez_az B3 t737 rfl tq_69 rfl rfl (by omega) (by omega) (by omega) (ez_vdI rfl rfl (by omega) (by omega)) (fun hB19 w20 => ?_)
        have v4 : qz_I (dz_put g3 737 (i).toNat (ez_v (.inl (1)))) 737 (i).toNat = 1 := w20.trans (ez_rg.v ⟨by omega, by omega⟩)
        have o4 : ∀ q j, ¬ (q = 737 ∧ j = (i).toNat) → qz_I (dz_put g3 737 (i).toNat (ez_v (.inl (1)))) q j = qz_I g3 q j := fun q j w => ez_put_I w
        have f4 : ez_fr cg_P h (dz_put g3 737 (i).toNat (ez_v (.inl (1)))) := f3.put (cg_Py (by decide) (by decide)) _ _
        have B4 := hB19
        generalize (dz_put g3 737 (i).toNat (ez_v (.inl (1)))) = g4 at *
        have e4 : qz_I g4 737 (i).toNat = 1 ↔ odg (gV D u) (i).toNat := by rw [odg_s _ i0]; exact ⟨fun _ => ⟨by omega, fun w => by first | (exfalso; omega) | (have := q5.mpr w.2; omega)⟩, fun _ => v4⟩
        refine ez_go (n := 2) (pc' := 24) (L' := [(3, .inl (i + 1)), (0, .inr (.inr (some (733)))), (1, .inr (.inr (some (r)))), (2, .inl (0))]) (st' := []) rfl ?_
        refine ez_less [(3, .inl (i + 1)), (0, .inr (.inr (some (733)))), (1, .inr (.inr (some (r)))), (2, .inl (0))] rfl ⟨rfl, rfl, rfl, rfl, trivial⟩ ?_
        exact kc g4 B4 f4 o4 e4

theorem rd_gload_l (hC : pz_C τ h T F E) (hx : sz_X τ h O D) (tr : τ r = 88) (a : tx h r u) (pu : ptl u) (u2 : (u.length : Int) ≤ 2000) (k9 : ∀ g, ez_B τ g → ez_fr cg_P h g → bkG τ g D u → Q (.inl none, g)) : ∀ (n : Nat) (i : Int) (g : cz_H), n = ((u.length : Int) - i).toNat → 0 ≤ i → i ≤ (u.length : Int) → ez_B τ g → ez_fr cg_P h g → (qz_I g 733 5 = (u.length : Int) ∧ qz_I g 733 6 = 0) → (∀ k, 0 ≤ k → k < i → qz_I g 734 k.toNat = gV D u k ∧ (qz_I g 735 k.toNat = 1 ↔ wpi D u k) ∧ qz_I g 736 k.toNat = k ∧ (qz_I g 737 k.toNat = 1 ↔ odg (gV D u) k.toNat)) → ez_W (d + 2) cm_59 24 [(3, .inl (i)), (0, .inr (.inr (some (733)))), (1, .inr (.inr (some (r)))), (2, .inl (0))] [] g Q := by
  have hB := hC.1
  have hX := hC.2.1
  have t738 : τ 738 = 70 := hX 738 (by decide)
  have t733 : τ 733 = 65 := hX 733 (by decide)
  have tp := tx_p88 hB tr
  have al := a.1
  have cr : cg_P r = false := cg_tag hX (by rw [tr]; decide) (by rw [tr]; decide) (Or.inr (by rw [tr]; decide))
  have cp : cg_P (r + 1) = false := cg_tag hX (by rw [tp]; decide) (by rw [tp]; decide) (Or.inr (by rw [tp]; decide))
  intro n
  induction n with
  | zero =>
    intro i g hn0 i0 i1 hBg hf hs hv
    have e7 := hs.1
    have e6 := hs.2
    refine ez_go (n := 2) (pc' := 26) (L' := [(3, .inl (i)), (0, .inr (.inr (some (733)))), (1, .inr (.inr (some (r)))), (2, .inl (0))]) (st' := [.inr (.inr (some (733))), .inl (i)]) rfl ?_
    refine ez_gI hBg t733 rfl rfl tq_65 rfl rfl (fun (b1 : 0 ≤ qz_I g 733 5) (b1' : qz_I g 733 5 ≤ 2000) => ?_)
    refine ez_icmp rfl rfl ⟨by first | omega | exact (sz_i32 _).1, by first | omega | exact (sz_i32 _).2⟩ ⟨by first | omega | exact (sz_i32 _).1, by first | omega | exact (sz_i32 _).2⟩ (fun (c2 : (qz_I g 733 5) ≤ (i)) => ?_) (fun (c2 : ¬((qz_I g 733 5) ≤ (i))) => ?_)
    · skip
      have hn : i = (u.length : Int) := by omega
      subst hn
      exact ez_ret0 rfl rfl (k9 g hBg hf ⟨⟨hBg, hX⟩, u2, hs, hv⟩)
    · exfalso; omega
  | succ n ih =>
    intro i g hn0 i0 i1 hBg hf hs hv
    have e7 := hs.1
    have e6 := hs.2
    refine ez_go (n := 2) (pc' := 26) (L' := [(3, .inl (i)), (0, .inr (.inr (some (733)))), (1, .inr (.inr (some (r)))), (2, .inl (0))]) (st' := [.inr (.inr (some (733))), .inl (i)]) rfl ?_
    refine ez_gI hBg t733 rfl rfl tq_65 rfl rfl (fun (b1 : 0 ≤ qz_I g 733 5) (b1' : qz_I g 733 5 ≤ 2000) => ?_)
    refine ez_icmp rfl rfl ⟨by first | omega | exact (sz_i32 _).1, by first | omega | exact (sz_i32 _).2⟩ ⟨by first | omega | exact (sz_i32 _).1, by first | omega | exact (sz_i32 _).2⟩ (fun (c2 : (qz_I g 733 5) ≤ (i)) => ?_) (fun (c2 : ¬((qz_I g 733 5) ≤ (i))) => ?_)
    · skip
      have hn : i = (u.length : Int) := by omega
      subst hn
      exact ez_ret0 rfl rfl (k9 g hBg hf ⟨⟨hBg, hX⟩, u2, hs, hv⟩)
    · skip
      refine ez_go (n := 1) (pc' := 33) (L' := [(3, .inl (i)), (0, .inr (.inr (some (733)))), (1, .inr (.inr (some (r)))), (2, .inl (0))]) (st' := [.inr (.inr (some (733)))]) rfl ?_
      refine ez_gC (p := 202) (tg := 48) hBg t733 rfl rfl tq_65 rfl rfl (fun (t202 : _ = 48) => ?_)
      refine ez_go (n := 1) (pc' := 37) (L' := [(3, .inl (i)), (0, .inr (.inr (some (733)))), (1, .inr (.inr (some (r)))), (2, .inl (0))]) (st' := [.inr (.inr (some (r))), .inr (.inr (some (202)))]) rfl ?_
      refine ez_g3 hBg tr rfl rfl tq_88 rfl rfl (fun (t3 : _ = 89) => ?_)
      refine ez_go (n := 1) (pc' := 41) (L' := [(3, .inl (i)), (0, .inr (.inr (some (733)))), (1, .inr (.inr (some (r)))), (2, .inl (0))]) (st' := [.inl (i), .inr (.inr (some (r + 1))), .inr (.inr (some (202)))]) rfl ?_
      have n5 : 2000 ≤ qz_N g (r + 1) ∧ qz_N g (r + 1) ≤ 2000 := ez_len hBg t3 tq_89 rfl
      refine ez_aI hBg t3 rfl tq_89 rfl rfl (by omega) (by omega) (fun (b4 : -2147483648 ≤ qz_I g (r + 1) (i).toNat) (b4' : qz_I g (r + 1) (i).toNat ≤ 2147483647) => ?_)
      have ep : qz_I g (r + 1) (i).toNat = uX u i := (hf.I cp _).trans (uX_tx a (by omega))
      have pb := uX_ptl pu (show i.toNat < u.length by omega)
      rw [ep]
      have hCg : pz_C τ g T F E := hC.keep hBg (cg_kD hX hf)
      refine ez_cv hBg t202 rfl rfl rfl tq_48 rfl rfl rfl (rd_spanAt hCg pb.1 pb.2 (fun m atg tz => ez_KA ?_))
      have xg := cg_X hB hX hx hf
      have xq := xg _ _ pb.1 pb.2 atg
      have f0 := hf
      have n34 : sz_p g m ≠ 734 := fun w => by have q := tz; rw [w, hX 734 (by decide)] at q; revert q; decide
      refine ez_go (n := 2) (pc' := 48) (L' := [(4, .inr (.inr (some (sz_p g m)))), (3, .inl (i)), (0, .inr (.inr (some (733)))), (1, .inr (.inr (some (r)))), (2, .inl (0))]) (st' := [.inr (.inr (some (733)))]) rfl ?_
      refine ez_gC (p := 734) (tg := 66) hBg t733 rfl rfl tq_65 rfl rfl (fun (t734 : _ = 66) => ?_)
      refine ez_go (n := 2) (pc' := 53) (L' := [(4, .inr (.inr (some (sz_p g m)))), (3, .inl (i)), (0, .inr (.inr (some (733)))), (1, .inr (.inr (some (r)))), (2, .inl (0))]) (st' := [.inr (.inr (some (733))), .inl (i), .inr (.inr (some (734)))]) rfl ?_
      refine ez_gI hBg t733 rfl rfl tq_65 rfl rfl (fun (b6 : 0 ≤ qz_I g 733 6) (b6' : qz_I g 733 6 ≤ 1) => ?_)
      refine ez_if rfl rfl ⟨by first | omega | exact (sz_i32 _).1, by first | omega | exact (sz_i32 _).2⟩ (fun (c7 : (qz_I g 733 6) = (0)) => ?_) (fun (c7 : ¬((qz_I g 733 6) = (0))) => ?_)
      · skip
        refine ez_go (n := 1) (pc' := 69) (L' := [(4, .inr (.inr (some (sz_p g m)))), (3, .inl (i)), (0, .inr (.inr (some (733)))), (1, .inr (.inr (some (r)))), (2, .inl (0))]) (st' := [.inr (.inr (some (sz_p g m))), .inl (i), .inr (.inr (some (734)))]) rfl ?_
        refine ez_gI hBg tz rfl rfl tq_4 rfl rfl (fun (b8 : -2147483648 ≤ qz_I g (sz_p g m) 3) (b8' : qz_I g (sz_p g m) 3 ≤ 2147483647) => ?_)
        have ew : qz_I g (sz_p g m) 3 = gV D u i := xq.2.1.2.1
        rw [ew]
        have n11 : 2000 ≤ qz_N g 734 ∧ qz_N g 734 ≤ 2000 := ez_len hBg t734 tq_66 rfl
        refine ez_as hBg t734 rfl tq_66 rfl rfl (by omega) (by omega) (ez_vdI rfl rfl (by omega) (by omega)) (fun hB9 w10 => ?_)
        have v1 : qz_I (dz_put g 734 (i).toNat (ez_v (.inl (gV D u i)))) 734 (i).toNat = gV D u i := w10.trans (ez_rg.v ⟨by omega, by omega⟩)
        have o1 : ∀ q j, ¬ (q = 734 ∧ j = (i).toNat) → qz_I (dz_put g 734 (i).toNat (ez_v (.inl (gV D u i)))) q j = qz_I g q j := fun q j w => ez_put_I w
        have f1 : ez_fr cg_P h (dz_put g 734 (i).toNat (ez_v (.inl (gV D u i)))) := f0.put (cg_Py (by decide) (by decide)) _ _
        have B1 := hB9
        generalize (dz_put g 734 (i).toNat (ez_v (.inl (gV D u i)))) = g1 at *
        refine ez_go (n := 1) (pc' := 74) (L' := [(4, .inr (.inr (some (sz_p g m)))), (3, .inl (i)), (0, .inr (.inr (some (733)))), (1, .inr (.inr (some (r)))), (2, .inl (0))]) (st' := [.inr (.inr (some (733)))]) rfl ?_
        refine ez_gC (p := 735) (tg := 67) B1 t733 rfl rfl tq_65 rfl rfl (fun (t735 : _ = 67) => ?_)
        refine ez_go (n := 3) (pc' := 82) (L' := [(4, .inr (.inr (some (sz_p g m)))), (3, .inl (i)), (0, .inr (.inr (some (733)))), (1, .inr (.inr (some (r)))), (2, .inl (0))]) (st' := [.inl (16), .inr (.inr (some (sz_p g m))), .inl (i), .inr (.inr (some (735)))]) rfl ?_
        have et : qz_I g1 (sz_p g m) 2 = (D (uX u i)).2.1.1 := (o1 _ _ (fun w => n34 w.1)).trans xq.2.1.1
        refine ez_cv B1 tz rfl rfl rfl tq_4 rfl rfl rfl (rd_hasT B1 tz ⟨by decide, by decide⟩ (fun tr4 => ez_K1 ?_) (fun tr4 => ez_K1 ?_))
        · rw [et] at tr4
          have n14 : 2000 ≤ qz_N g1 735 ∧ qz_N g1 735 ≤ 2000 := ez_len B1 t735 tq_67 rfl
          refine ez_az B1 t735 rfl tq_67 rfl rfl (by omega) (by omega) (by omega) (ez_vdI rfl rfl (by omega) (by omega)) (fun hB12 w13 => ?_)
          have v2 : qz_I (dz_put g1 735 (i).toNat (ez_v (.inl (1)))) 735 (i).toNat = 1 := w13.trans (ez_rg.v ⟨by omega, by omega⟩)
          have o2 : ∀ q j, ¬ (q = 735 ∧ j = (i).toNat) → qz_I (dz_put g1 735 (i).toNat (ez_v (.inl (1)))) q j = qz_I g1 q j := fun q j w => ez_put_I w
          have f2 : ez_fr cg_P h (dz_put g1 735 (i).toNat (ez_v (.inl (1)))) := f1.put (cg_Py (by decide) (by decide)) _ _
          have B2 := hB12
          generalize (dz_put g1 735 (i).toNat (ez_v (.inl (1)))) = g2 at *
          have e2 : qz_I g2 735 (i).toNat = 1 ↔ wpi D u i := ⟨fun w => tr4, fun w => v2⟩
          have v34 : qz_I g2 734 (i).toNat = gV D u i := (o2 _ _ (by omega)).trans v1
          refine ez_go (n := 1) (pc' := 87) (L' := [(4, .inr (.inr (some (sz_p g m)))), (3, .inl (i)), (0, .inr (.inr (some (733)))), (1, .inr (.inr (some (r)))), (2, .inl (0))]) (st' := [.inr (.inr (some (733)))]) rfl ?_
          refine ez_gC (p := 736) (tg := 68) B2 t733 rfl rfl tq_65 rfl rfl (fun (t736 : _ = 68) => ?_)
          refine ez_go (n := 3) (pc' := 93) (L' := [(4, .inr (.inr (some (sz_p g m)))), (3, .inl (i)), (0, .inr (.inr (some (733)))), (1, .inr (.inr (some (r)))), (2, .inl (0))]) (st' := [.inl (i), .inr (.inr (some (733))), .inl (i), .inr (.inr (some (736)))]) rfl ?_
          refine ez_cv B2 t733 rfl rfl rfl tq_65 rfl rfl rfl (rd_isAtt0 B2 t733 (by rw [o2 _ _ (by omega), o1 _ _ (by omega)]; exact hs.2) (ez_K1 ?_))
          refine ez_if rfl rfl ⟨by decide, by decide⟩ (fun _ => ?_) (fun (c15 : ¬((0 : Int) = (0))) => absurd c15 (by decide))
          refine ez_go (n := 1) (pc' := 111) (L' := [(4, .inr (.inr (some (sz_p g m)))), (3, .inl (i)), (0, .inr (.inr (some (733)))), (1, .inr (.inr (some (r)))), (2, .inl (0))]) (st' := [.inl (i), .inl (i), .inr (.inr (some (736)))]) rfl ?_
          have n18 : 2000 ≤ qz_N g2 736 ∧ qz_N g2 736 ≤ 2000 := ez_len B2 t736 tq_68 rfl
          refine ez_as B2 t736 rfl tq_68 rfl rfl (by omega) (by omega) (ez_vdI rfl rfl (by omega) (by omega)) (fun hB16 w17 => ?_)
          have v3 : qz_I (dz_put g2 736 (i).toNat (ez_v (.inl (i)))) 736 (i).toNat = i := w17.trans (ez_rg.v ⟨by omega, by omega⟩)
          have o3 : ∀ q j, ¬ (q = 736 ∧ j = (i).toNat) → qz_I (dz_put g2 736 (i).toNat (ez_v (.inl (i)))) q j = qz_I g2 q j := fun q j w => ez_put_I w
          have f3 : ez_fr cg_P h (dz_put g2 736 (i).toNat (ez_v (.inl (i)))) := f2.put (cg_Py (by decide) (by decide)) _ _
          have B3 := hB16
          generalize (dz_put g2 736 (i).toNat (ez_v (.inl (i)))) = g3 at *
          refine ez_less [(3, .inl (i)), (0, .inr (.inr (some (733)))), (1, .inr (.inr (some (r)))), (2, .inl (0))] rfl ⟨rfl, rfl, rfl, rfl, trivial⟩ ?_
          have v34c : qz_I g3 734 (i).toNat = gV D u i := (o3 _ _ (by omega)).trans v34
          refine rd_gl_c hX B3 f3 i0 (by omega) v34c (fun w => by have q := hv (i - 1) (by omega) (by omega); rw [o3 _ _ (by omega), o2 _ _ (by omega), o1 _ _ (by omega)]; exact q.2.2.1) (fun k k0 k1 => by have q := hv k k0 k1; rw [o3 _ _ (by omega), o2 _ _ (by omega), o1 _ _ (by omega)]; exact q.2.2.2) (fun g4 B4 f4 o4 e4 => ?_)
          have og : ∀ q j, ¬ (734 ≤ q ∧ q ≤ 737 ∧ j = (i).toNat) → qz_I g4 q j = qz_I g q j := fun q j w => by rw [o4 q j (by omega), o3 q j (by omega), o2 q j (by omega), o1 q j (by omega)]
          refine ih (i + 1) g4 (by omega) (by omega) (by omega) B4 f4 ⟨by rw [og 733 5 (by omega)]; exact hs.1, by rw [og 733 6 (by omega)]; exact hs.2⟩ (fun k k0 k1 => ?_)
          by_cases ek9 : k = i
          · rw [ek9]
            refine ⟨?_, ?_, ?_, e4⟩
            · rw [o4 _ _ (by omega)]; exact v34c
            · rw [o4 _ _ (by omega), o3 _ _ (by omega)]; exact e2
            · rw [o4 _ _ (by omega)]; exact v3
          · rw [og _ _ (by omega), og _ _ (by omega), og _ _ (by omega), og _ _ (by omega)]
            exact hv k k0 (by omega)
        · rw [et] at tr4
          have n21 : 2000 ≤ qz_N g1 735 ∧ qz_N g1 735 ≤ 2000 := ez_len B1 t735 tq_67 rfl
          refine ez_az B1 t735 rfl tq_67 rfl rfl (by omega) (by omega) (by omega) (ez_vdI rfl rfl (by omega) (by omega)) (fun hB19 w20 => ?_)
          have v2 : qz_I (dz_put g1 735 (i).toNat (ez_v (.inl (0)))) 735 (i).toNat = 0 := w20.trans (ez_rg.v ⟨by omega, by omega⟩)
          have o2 : ∀ q j, ¬ (q = 735 ∧ j = (i).toNat) → qz_I (dz_put g1 735 (i).toNat (ez_v (.inl (0)))) q j = qz_I g1 q j := fun q j w => ez_put_I w
          have f2 : ez_fr cg_P h (dz_put g1 735 (i).toNat (ez_v (.inl (0)))) := f1.put (cg_Py (by decide) (by decide)) _ _
          have B2 := hB19
          generalize (dz_put g1 735 (i).toNat (ez_v (.inl (0)))) = g2 at *
          have e2 : qz_I g2 735 (i).toNat = 1 ↔ wpi D u i := ⟨fun w => by omega, fun w => absurd w tr4⟩
          have v34 : qz_I g2 734 (i).toNat = gV D u i := (o2 _ _ (by omega)).trans v1
          refine ez_go (n := 1) (pc' := 87) (L' := [(4, .inr (.inr (some (sz_p g m)))), (3, .inl (i)), (0, .inr (.inr (some (733)))), (1, .inr (.inr (some (r)))), (2, .inl (0))]) (st' := [.inr (.inr (some (733)))]) rfl ?_
          refine ez_gC (p := 736) (tg := 68) B2 t733 rfl rfl tq_65 rfl rfl (fun (t736 : _ = 68) => ?_)
          refine ez_go (n := 3) (pc' := 93) (L' := [(4, .inr (.inr (some (sz_p g m)))), (3, .inl (i)), (0, .inr (.inr (some (733)))), (1, .inr (.inr (some (r)))), (2, .inl (0))]) (st' := [.inl (i), .inr (.inr (some (733))), .inl (i), .inr (.inr (some (736)))]) rfl ?_
          refine ez_cv B2 t733 rfl rfl rfl tq_65 rfl rfl rfl (rd_isAtt0 B2 t733 (by rw [o2 _ _ (by omega), o1 _ _ (by omega)]; exact hs.2) (ez_K1 ?_))
          refine ez_if rfl rfl ⟨by decide, by decide⟩ (fun _ => ?_) (fun (c22 : ¬((0 : Int) = (0))) => absurd c22 (by decide))
          refine ez_go (n := 1) (pc' := 111) (L' := [(4, .inr (.inr (some (sz_p g m)))), (3, .inl (i)), (0, .inr (.inr (some (733)))), (1, .inr (.inr (some (r)))), (2, .inl (0))]) (st' := [.inl (i), .inl (i), .inr (.inr (some (736)))]) rfl ?_
          have n25 : 2000 ≤ qz_N g2 736 ∧ qz_N g2 736 ≤ 2000 := ez_len B2 t736 tq_68 rfl
          refine ez_as B2 t736 rfl tq_68 rfl rfl (by omega) (by omega) (ez_vdI rfl rfl (by omega) (by omega)) (fun hB23 w24 => ?_)
          have v3 : qz_I (dz_put g2 736 (i).toNat (ez_v (.inl (i)))) 736 (i).toNat = i := w24.trans (ez_rg.v ⟨by omega, by omega⟩)
          have o3 : ∀ q j, ¬ (q = 736 ∧ j = (i).toNat) → qz_I (dz_put g2 736 (i).toNat (ez_v (.inl (i)))) q j = qz_I g2 q j := fun q j w => ez_put_I w
          have f3 : ez_fr cg_P h (dz_put g2 736 (i).toNat (ez_v (.inl (i)))) := f2.put (cg_Py (by decide) (by decide)) _ _
          have B3 := hB23
          generalize (dz_put g2 736 (i).toNat (ez_v (.inl (i)))) = g3 at *
          refine ez_less [(3, .inl (i)), (0, .inr (.inr (some (733)))), (1, .inr (.inr (some (r)))), (2, .inl (0))] rfl ⟨rfl, rfl, rfl, rfl, trivial⟩ ?_
          have v34c : qz_I g3 734 (i).toNat = gV D u i := (o3 _ _ (by omega)).trans v34
          refine rd_gl_c hX B3 f3 i0 (by omega) v34c (fun w => by have q := hv (i - 1) (by omega) (by omega); rw [o3 _ _ (by omega), o2 _ _ (by omega), o1 _ _ (by omega)]; exact q.2.2.1) (fun k k0 k1 => by have q := hv k k0 k1; rw [o3 _ _ (by omega), o2 _ _ (by omega), o1 _ _ (by omega)]; exact q.2.2.2) (fun g4 B4 f4 o4 e4 => ?_)
          have og : ∀ q j, ¬ (734 ≤ q ∧ q ≤ 737 ∧ j = (i).toNat) → qz_I g4 q j = qz_I g q j := fun q j w => by rw [o4 q j (by omega), o3 q j (by omega), o2 q j (by omega), o1 q j (by omega)]
          refine ih (i + 1) g4 (by omega) (by omega) (by omega) B4 f4 ⟨by rw [og 733 5 (by omega)]; exact hs.1, by rw [og 733 6 (by omega)]; exact hs.2⟩ (fun k k0 k1 => ?_)
          by_cases ek9 : k = i
          · rw [ek9]
            refine ⟨?_, ?_, ?_, e4⟩
            · rw [o4 _ _ (by omega)]; exact v34c
            · rw [o4 _ _ (by omega), o3 _ _ (by omega)]; exact e2
            · rw [o4 _ _ (by omega)]; exact v3
          · rw [og _ _ (by omega), og _ _ (by omega), og _ _ (by omega), og _ _ (by omega)]
            exact hv k k0 (by omega)
      · exfalso; omega

theorem rd_gload (hC : pz_C τ h T F E) (hx : sz_X τ h O D) (tr : τ r = 88) (a : tx h r u) (pu : ptl u) (u2 : (u.length : Int) ≤ 2000) (k9 : ∀ g, ez_B τ g → ez_fr cg_P h g → bkG τ g D u → Q (.inl none, g)) : ez_W (d + 2) cm_59 0 [(0, .inr (.inr (some (733)))), (1, .inr (.inr (some (r)))), (2, .inl (0))] [] h Q := by
  have hB := hC.1
  have hX := hC.2.1
  have t738 : τ 738 = 70 := hX 738 (by decide)
  have t733 : τ 733 = 65 := hX 733 (by decide)
  have tp := tx_p88 hB tr
  have al := a.1
  have cr : cg_P r = false := cg_tag hX (by rw [tr]; decide) (by rw [tr]; decide) (Or.inr (by rw [tr]; decide))
  have cp : cg_P (r + 1) = false := cg_tag hX (by rw [tp]; decide) (by rw [tp]; decide) (Or.inr (by rw [tp]; decide))
  refine ez_go (n := 2) (pc' := 2) (L' := [(0, .inr (.inr (some (733)))), (1, .inr (.inr (some (r)))), (2, .inl (0))]) (st' := [.inr (.inr (some (r))), .inr (.inr (some (733)))]) rfl ?_
  refine ez_gI hB tr rfl rfl tq_88 rfl rfl (fun (b1 : 0 ≤ qz_I h r 1) (b1' : qz_I h r 1 ≤ 2000) => ?_)
  have el : qz_I h r 1 = (u.length : Int) := al
  rw [el]
  have f0 := ez_fr.refl cg_P h
  refine ez_pf hB t733 rfl rfl tq_65 rfl rfl rfl rfl (ez_vdI rfl rfl (by omega) (by omega)) (fun hB2 w3 => ?_)
  have v1 : qz_I (dz_put h 733 5 (ez_v (.inl ((u.length : Int))))) 733 5 = (u.length : Int) := w3.trans (ez_rg.v ⟨by omega, by omega⟩)
  have o1 : ∀ q j, ¬ (q = 733 ∧ j = 5) → qz_I (dz_put h 733 5 (ez_v (.inl ((u.length : Int))))) q j = qz_I h q j := fun q j w => ez_put_I w
  have f1 : ez_fr cg_P h (dz_put h 733 5 (ez_v (.inl ((u.length : Int))))) := f0.put (cg_Py (by decide) (by decide)) _ _
  have B1 := hB2
  generalize (dz_put h 733 5 (ez_v (.inl ((u.length : Int))))) = g1 at *
  refine ez_go (n := 3) (pc' := 11) (L' := [(0, .inr (.inr (some (733)))), (1, .inr (.inr (some (r)))), (2, .inl (0))]) (st' := [.inl (1), .inl (0), .inr (.inr (some (733)))]) rfl ?_
  refine ez_icmp rfl rfl ⟨by decide, by decide⟩ ⟨by decide, by decide⟩ (fun _ => ?_) (fun (c4 : ¬((0 : Int) ≠ (1))) => absurd c4 (by decide))
  refine ez_go (n := 1) (pc' := 19) (L' := [(0, .inr (.inr (some (733)))), (1, .inr (.inr (some (r)))), (2, .inl (0))]) (st' := [.inl (0), .inr (.inr (some (733)))]) rfl ?_
  refine ez_pf B1 t733 rfl rfl tq_65 rfl rfl rfl rfl (ez_vdI rfl rfl (by omega) (by omega)) (fun hB5 w6 => ?_)
  have v2 : qz_I (dz_put g1 733 6 (ez_v (.inl (0)))) 733 6 = 0 := w6.trans (ez_rg.v ⟨by omega, by omega⟩)
  have o2 : ∀ q j, ¬ (q = 733 ∧ j = 6) → qz_I (dz_put g1 733 6 (ez_v (.inl (0)))) q j = qz_I g1 q j := fun q j w => ez_put_I w
  have f2 : ez_fr cg_P h (dz_put g1 733 6 (ez_v (.inl (0)))) := f1.put (cg_Py (by decide) (by decide)) _ _
  have B2 := hB5
  generalize (dz_put g1 733 6 (ez_v (.inl (0)))) = g2 at *
  refine ez_go (n := 2) (pc' := 24) (L' := [(3, .inl (0)), (0, .inr (.inr (some (733)))), (1, .inr (.inr (some (r)))), (2, .inl (0))]) (st' := []) rfl ?_
  refine ez_less [(3, .inl (0)), (0, .inr (.inr (some (733)))), (1, .inr (.inr (some (r)))), (2, .inl (0))] rfl ⟨rfl, rfl, rfl, rfl, trivial⟩ ?_
  exact rd_gload_l hC hx tr a pu u2 k9 _ 0 g2 rfl (by omega) (by omega) B2 f2 ⟨by rw [o2 _ _ (by omega)]; exact v1, v2⟩ (fun k k0 k1 => by omega)

theorem rd_kload {kind : Int} (hC : pz_C τ h T F E) (hx : sz_X τ h O D) (tr : τ r = 88) (a : tx h r u) (pu : ptl u) (u2 : (u.length : Int) ≤ 2000) (kd : kind = 0 ∨ kind = 1) (k9 : ∀ g, ez_B τ g → ez_fr cg_P h g → bkK τ g D u kind → Q (.inl none, g)) : ez_W (d + 2) cm_59 0 [(0, .inr (.inr (some (733)))), (1, .inr (.inr (some (r)))), (2, .inl (kind))] [] h Q := by
  rcases kd with e | e
  · subst e; exact rd_gload hC hx tr a pu u2 (fun g b f c => k9 g b f (Or.inr ⟨rfl, c⟩))
  · subst e; exact rd_bload hC hx tr a pu u2 (fun g b f _ c => k9 g b f (Or.inl ⟨rfl, c⟩))
theorem rd_reqPlace {t kind i : Int} (hB : ez_B τ h) (hX : jz_X τ) (sl : slt h) (txh : txs h X) (tr : ez_rg t) (kindr : ez_rg kind) (ir : ez_rg i) (hr1 : h.1 + 1 ≤ 600192) (hr2 : h.2.1 + 6 ≤ 7302232) (kA : (t < 0 ∨ 7 < t ∨ kind < 0 ∨ 1 < kind ∨ i < 0 ∨ ((X (t).toNat).length : Int) < i) → Q (.inr h.1, xc h 1)) (k1 : ((0 ≤ t ∧ t ≤ 7) ∧ (0 ≤ kind ∧ kind ≤ 1) ∧ 0 ≤ i ∧ i ≤ ((X (t).toNat).length : Int)) → Q (.inl none, h)) : ez_W (d + 8) cm_31 0 [(0, .inr (.inr (some (192)))), (1, .inl (t)), (2, .inl (kind)), (3, .inl (i))] [] h Q := by
  have t192 : τ 192 = 44 := hX 192 (by decide)
  obtain ⟨tr1, tr2⟩ := id tr
  obtain ⟨kindr1, kindr2⟩ := id kindr
  obtain ⟨ir1, ir2⟩ := id ir
  refine ez_go (n := 1) (pc' := 1) (L' := [(0, .inr (.inr (some (192)))), (1, .inl (t)), (2, .inl (kind)), (3, .inl (i))]) (st' := [.inl (t)]) rfl ?_
  refine ez_cs hB.2.1 rfl rfl rfl rfl rfl (rd_reqSlot hB (show ez_rg (t) by assumption) (by omega) (by omega) (fun a1 b1 => ez_K0 ?_) (fun w => ez_Kp (xc_exc hB rfl) rfl (kA (by omega))))
  refine ez_go (n := 3) (pc' := 7) (L' := [(0, .inr (.inr (some (192)))), (1, .inl (t)), (2, .inl (kind)), (3, .inl (i))]) (st' := [.inl (1), .inl (0), .inl (kind)]) rfl ?_
  refine ez_cs hB.2.1 rfl rfl rfl rfl rfl (rd_reqRange ⟨by omega, by omega⟩ ⟨by omega, by omega⟩ ⟨by omega, by omega⟩ (by omega) (by omega) (fun a2 b2 => ez_K0 ?_) (fun w => ez_Kp (xc_exc hB rfl) rfl (kA (by omega))))
  refine ez_go (n := 3) (pc' := 13) (L' := [(0, .inr (.inr (some (192)))), (1, .inl (t)), (2, .inl (kind)), (3, .inl (i))]) (st' := [.inr (.inr (some (192))), .inl (0), .inl (i)]) rfl ?_
  refine ez_gC (p := 195) (tg := 47) hB t192 rfl rfl tq_44 rfl rfl (fun (t195 : _ = 47) => ?_)
  refine ez_go (n := 1) (pc' := 17) (L' := [(0, .inr (.inr (some (192)))), (1, .inl (t)), (2, .inl (kind)), (3, .inl (i))]) (st' := [.inl (t), .inr (.inr (some (195))), .inl (0), .inl (i)]) rfl ?_
  have n2 : 8 ≤ qz_N h 195 ∧ qz_N h 195 ≤ 8 := ez_len hB t195 tq_47 rfl
  have y3 : 1 ≤ qz_I h 195 (t).toNat ∧ qz_I h 195 (t).toNat ≤ 1000000 := ez_aB hB t195 tq_47 rfl rfl (by decide) (by omega) (by omega)
  have y3' : ((qz_P h 195 (t).toNat : Nat) : Int) + 1 = qz_I h 195 (t).toNat := by unfold qz_P; omega
  refine ez_aR hB t195 rfl tq_47 rfl rfl (by omega) (by omega) (by omega) (fun (t1 : _ = 88) => ?_)
  rw [show qz_P h 195 (t).toNat = 754 + 2 * (t).toNat by unfold qz_P; have := (sl (t).toNat (by omega)).1; omega]
  refine ez_gI hB (mx_tag hX (show (t).toNat < 8 by omega)).2.1 rfl rfl tq_88 rfl rfl (fun (b4 : 0 ≤ qz_I h (754 + 2 * (t).toNat) 1) (b4' : qz_I h (754 + 2 * (t).toNat) 1 ≤ 2000) => ?_)
  rw [show qz_I h (754 + 2 * (t).toNat) 1 = ((X (t).toNat).length : Int) from (txh (t).toNat (by omega)).1.1]
  have tl9 := (txh (t).toNat (by omega)).2.2
  refine ez_cs hB.2.1 rfl rfl rfl rfl rfl (rd_reqRange ⟨by omega, by omega⟩ ⟨by omega, by omega⟩ ⟨by omega, by omega⟩ (by omega) (by omega) (fun a3 b3 => ez_K0 ?_) (fun w => ez_Kp (xc_exc hB rfl) rfl (kA (by omega))))
  exact ez_ret0 rfl rfl (k1 (by omega))

theorem rd_cedge {t kind i : Int} (hC : pz_C τ h T F E) (hx : sz_X τ h O D) (sl : slt h) (txh : txs h X) (tr : ez_rg t) (kindr : ez_rg kind) (ir : ez_rg i) (hr1 : h.1 + 1 ≤ 600192) (hr2 : h.2.1 + 6 ≤ 7302232) (kA : (t < 0 ∨ 7 < t ∨ kind < 0 ∨ 1 < kind ∨ i < 0 ∨ ((X (t).toNat).length : Int) < i) → Q (.inr h.1, xc h 1)) (kS : ((0 ≤ t ∧ t ≤ 7) ∧ (0 ≤ kind ∧ kind ≤ 1) ∧ 0 ≤ i ∧ i ≤ ((X (t).toNat).length : Int)) → qz_I h 202 6 = 0 → Q (.inr h.1, xc h 2)) (k1 : ((0 ≤ t ∧ t ≤ 7) ∧ (0 ≤ kind ∧ kind ≤ 1) ∧ 0 ≤ i ∧ i ≤ ((X (t).toNat).length : Int)) → qz_I h 202 6 ≠ 0 → ∀ v, bwP (edP D (X t.toNat) kind i) v → (0 ≤ v ∧ v ≤ 1) → ∀ g, ez_B τ g → ez_fr cg_P h g → Q (.inl (some (ez_v (.inl v))), g)) : ez_W (d + 9) cm_9 0 [(0, .inr (.inr (some (192)))), (1, .inl (t)), (2, .inl (kind)), (3, .inl (i))] [] h Q := by
  have hB := hC.1
  have hX := hC.2.1
  have t192 : τ 192 = 44 := hX 192 (by decide)
  obtain ⟨tr1, tr2⟩ := id tr
  obtain ⟨kindr1, kindr2⟩ := id kindr
  obtain ⟨ir1, ir2⟩ := id ir
  refine ez_go (n := 4) (pc' := 4) (L' := [(0, .inr (.inr (some (192)))), (1, .inl (t)), (2, .inl (kind)), (3, .inl (i))]) (st' := [.inl (i), .inl (kind), .inl (t), .inr (.inr (some (192)))]) rfl ?_
  refine ez_cv hB t192 rfl rfl rfl tq_44 rfl rfl rfl (rd_reqPlace hB hX sl txh tr kindr ir (by omega) (by omega) (fun w => ez_Kp (xc_exc hB rfl) rfl (kA w)) (fun ok => ez_K0 ?_))
  refine ez_go (n := 1) (pc' := 8) (L' := [(0, .inr (.inr (some (192)))), (1, .inl (t)), (2, .inl (kind)), (3, .inl (i))]) (st' := [.inr (.inr (some (192)))]) rfl ?_
  refine ez_cv hB t192 rfl rfl rfl tq_44 rfl rfl rfl (rd_reqSealed hB t192 (by omega) (by omega) (fun hsd => ez_K0 ?_) (fun w => ez_Kp (xc_exc hB rfl) rfl (kS (by omega) w)))
  refine ez_go (n := 1) (pc' := 12) (L' := [(0, .inr (.inr (some (192)))), (1, .inl (t)), (2, .inl (kind)), (3, .inl (i))]) (st' := [.inr (.inr (some (192)))]) rfl ?_
  refine ez_gC (p := 733) (tg := 65) hB t192 rfl rfl tq_44 rfl rfl (fun (t733 : _ = 65) => ?_)
  refine ez_go (n := 1) (pc' := 16) (L' := [(0, .inr (.inr (some (192)))), (1, .inl (t)), (2, .inl (kind)), (3, .inl (i))]) (st' := [.inr (.inr (some (192))), .inr (.inr (some (733)))]) rfl ?_
  refine ez_gC (p := 195) (tg := 47) hB t192 rfl rfl tq_44 rfl rfl (fun (t195 : _ = 47) => ?_)
  refine ez_go (n := 1) (pc' := 20) (L' := [(0, .inr (.inr (some (192)))), (1, .inl (t)), (2, .inl (kind)), (3, .inl (i))]) (st' := [.inl (t), .inr (.inr (some (195))), .inr (.inr (some (733)))]) rfl ?_
  have n2 : 8 ≤ qz_N h 195 ∧ qz_N h 195 ≤ 8 := ez_len hB t195 tq_47 rfl
  have y3 : 1 ≤ qz_I h 195 (t).toNat ∧ qz_I h 195 (t).toNat ≤ 1000000 := ez_aB hB t195 tq_47 rfl rfl (by decide) (by omega) (by omega)
  have y3' : ((qz_P h 195 (t).toNat : Nat) : Int) + 1 = qz_I h 195 (t).toNat := by unfold qz_P; omega
  refine ez_aR hB t195 rfl tq_47 rfl rfl (by omega) (by omega) (by omega) (fun (t1 : _ = 88) => ?_)
  rw [show qz_P h 195 (t).toNat = 754 + 2 * (t).toNat by unfold qz_P; have := (sl (t).toNat (by omega)).1; omega]
  refine ez_go (n := 1) (pc' := 22) (L' := [(0, .inr (.inr (some (192)))), (1, .inl (t)), (2, .inl (kind)), (3, .inl (i))]) (st' := [.inl (kind), .inr (.inr (some (754 + 2 * (t).toNat))), .inr (.inr (some (733)))]) rfl ?_
  have tu := txh (t).toNat (by omega)
  have tul := tu.2.2
  refine ez_cv hB t733 rfl rfl rfl tq_65 rfl rfl rfl (rd_kload hC hx (mx_tag hX (show (t).toNat < 8 by omega)).2.1 tu.1 tu.2.1 (by omega) (by omega) (fun g2 hB2 f2 c => ez_K0 ?_))
  have t192b := t192
  refine ez_go (n := 1) (pc' := 26) (L' := [(0, .inr (.inr (some (192)))), (1, .inl (t)), (2, .inl (kind)), (3, .inl (i))]) (st' := [.inr (.inr (some (192)))]) rfl ?_
  refine ez_gC (p := 733) (tg := 65) hB2 t192 rfl rfl tq_44 rfl rfl (fun (t733 : _ = 65) => ?_)
  refine ez_go (n := 1) (pc' := 30) (L' := [(0, .inr (.inr (some (192)))), (1, .inl (t)), (2, .inl (kind)), (3, .inl (i))]) (st' := [.inl (i), .inr (.inr (some (733)))]) rfl ?_
  refine ez_cv hB2 t733 rfl rfl rfl tq_65 rfl rfl rfl (rd_isBd c ir (fun w => ez_K1 ?_) (fun w => ez_K1 ?_))
  · skip
    exact ez_retZ rfl rfl (Or.inr rfl) (k1 ok hsd 1 (Or.inl ⟨w, rfl⟩) (by omega) g2 hB2 f2)
  · skip
    exact ez_retZ rfl rfl (Or.inl rfl) (k1 ok hsd 0 (Or.inr ⟨w, rfl⟩) (by omega) g2 hB2 f2)

theorem rd_cnext1 {t kind i : Int} (hC : pz_C τ h T F E) (hx : sz_X τ h O D) (sl : slt h) (txh : txs h X) (tr : ez_rg t) (kindr : ez_rg kind) (ir : ez_rg i) (hr1 : h.1 + 1 ≤ 600192) (hr2 : h.2.1 + 6 ≤ 7302232) (kA : (t < 0 ∨ 7 < t ∨ kind < 0 ∨ 1 < kind ∨ i < 0 ∨ ((X (t).toNat).length : Int) < i) → Q (.inr h.1, xc h 1)) (kS : ((0 ≤ t ∧ t ≤ 7) ∧ (0 ≤ kind ∧ kind ≤ 1) ∧ 0 ≤ i ∧ i ≤ ((X (t).toNat).length : Int)) → qz_I h 202 6 = 0 → Q (.inr h.1, xc h 2)) (k1 : ((0 ≤ t ∧ t ≤ 7) ∧ (0 ≤ kind ∧ kind ≤ 1) ∧ 0 ≤ i ∧ i ≤ ((X (t).toNat).length : Int)) → qz_I h 202 6 ≠ 0 → ∀ v, nxb (edP D (X t.toNat) kind) i v → (-1 ≤ v ∧ v ≤ 2000) → ∀ g, ez_B τ g → ez_fr cg_P h g → Q (.inl (some (ez_v (.inl v))), g)) : ez_W (d + 9) cm_23 0 [(0, .inr (.inr (some (192)))), (1, .inl (t)), (2, .inl (kind)), (3, .inl (i)), (4, .inl (1))] [] h Q := by
  have hB := hC.1
  have hX := hC.2.1
  have t192 : τ 192 = 44 := hX 192 (by decide)
  obtain ⟨tr1, tr2⟩ := id tr
  obtain ⟨kindr1, kindr2⟩ := id kindr
  obtain ⟨ir1, ir2⟩ := id ir
  refine ez_go (n := 4) (pc' := 4) (L' := [(0, .inr (.inr (some (192)))), (1, .inl (t)), (2, .inl (kind)), (3, .inl (i)), (4, .inl (1))]) (st' := [.inl (i), .inl (kind), .inl (t), .inr (.inr (some (192)))]) rfl ?_
  refine ez_cv hB t192 rfl rfl rfl tq_44 rfl rfl rfl (rd_reqPlace hB hX sl txh tr kindr ir (by omega) (by omega) (fun w => ez_Kp (xc_exc hB rfl) rfl (kA w)) (fun ok => ez_K0 ?_))
  refine ez_go (n := 1) (pc' := 8) (L' := [(0, .inr (.inr (some (192)))), (1, .inl (t)), (2, .inl (kind)), (3, .inl (i)), (4, .inl (1))]) (st' := [.inr (.inr (some (192)))]) rfl ?_
  refine ez_cv hB t192 rfl rfl rfl tq_44 rfl rfl rfl (rd_reqSealed hB t192 (by omega) (by omega) (fun hsd => ez_K0 ?_) (fun w => ez_Kp (xc_exc hB rfl) rfl (kS (by omega) w)))
  refine ez_go (n := 1) (pc' := 12) (L' := [(0, .inr (.inr (some (192)))), (1, .inl (t)), (2, .inl (kind)), (3, .inl (i)), (4, .inl (1))]) (st' := [.inr (.inr (some (192)))]) rfl ?_
  refine ez_gC (p := 733) (tg := 65) hB t192 rfl rfl tq_44 rfl rfl (fun (t733 : _ = 65) => ?_)
  refine ez_go (n := 1) (pc' := 16) (L' := [(0, .inr (.inr (some (192)))), (1, .inl (t)), (2, .inl (kind)), (3, .inl (i)), (4, .inl (1))]) (st' := [.inr (.inr (some (192))), .inr (.inr (some (733)))]) rfl ?_
  refine ez_gC (p := 195) (tg := 47) hB t192 rfl rfl tq_44 rfl rfl (fun (t195 : _ = 47) => ?_)
  refine ez_go (n := 1) (pc' := 20) (L' := [(0, .inr (.inr (some (192)))), (1, .inl (t)), (2, .inl (kind)), (3, .inl (i)), (4, .inl (1))]) (st' := [.inl (t), .inr (.inr (some (195))), .inr (.inr (some (733)))]) rfl ?_
  have n2 : 8 ≤ qz_N h 195 ∧ qz_N h 195 ≤ 8 := ez_len hB t195 tq_47 rfl
  have y3 : 1 ≤ qz_I h 195 (t).toNat ∧ qz_I h 195 (t).toNat ≤ 1000000 := ez_aB hB t195 tq_47 rfl rfl (by decide) (by omega) (by omega)
  have y3' : ((qz_P h 195 (t).toNat : Nat) : Int) + 1 = qz_I h 195 (t).toNat := by unfold qz_P; omega
  refine ez_aR hB t195 rfl tq_47 rfl rfl (by omega) (by omega) (by omega) (fun (t1 : _ = 88) => ?_)
  rw [show qz_P h 195 (t).toNat = 754 + 2 * (t).toNat by unfold qz_P; have := (sl (t).toNat (by omega)).1; omega]
  refine ez_go (n := 1) (pc' := 22) (L' := [(0, .inr (.inr (some (192)))), (1, .inl (t)), (2, .inl (kind)), (3, .inl (i)), (4, .inl (1))]) (st' := [.inl (kind), .inr (.inr (some (754 + 2 * (t).toNat))), .inr (.inr (some (733)))]) rfl ?_
  have tu := txh (t).toNat (by omega)
  have tul := tu.2.2
  refine ez_cv hB t733 rfl rfl rfl tq_65 rfl rfl rfl (rd_kload hC hx (mx_tag hX (show (t).toNat < 8 by omega)).2.1 tu.1 tu.2.1 (by omega) (by omega) (fun g2 hB2 f2 c => ez_K0 ?_))
  have t192b := t192
  refine ez_go (n := 1) (pc' := 27) (L' := [(0, .inr (.inr (some (192)))), (1, .inl (t)), (2, .inl (kind)), (3, .inl (i)), (4, .inl (1))]) (st' := [.inl (1)]) rfl ?_
  refine ez_if rfl rfl ⟨by decide, by decide⟩ (fun (c4 : (1 : Int) = (0)) => absurd c4 (by decide)) (fun _ => ?_)
  refine ez_go (n := 1) (pc' := 31) (L' := [(0, .inr (.inr (some (192)))), (1, .inl (t)), (2, .inl (kind)), (3, .inl (i)), (4, .inl (1))]) (st' := [.inr (.inr (some (192)))]) rfl ?_
  refine ez_gC (p := 733) (tg := 65) hB2 t192 rfl rfl tq_44 rfl rfl (fun (t733 : _ = 65) => ?_)
  refine ez_go (n := 1) (pc' := 35) (L' := [(0, .inr (.inr (some (192)))), (1, .inl (t)), (2, .inl (kind)), (3, .inl (i)), (4, .inl (1))]) (st' := [.inl (i), .inr (.inr (some (733)))]) rfl ?_
  refine ez_cv hB2 t733 rfl rfl rfl tq_65 rfl rfl rfl (rd_lastBefore c (by omega) (by omega) (fun v nv vr => ez_K1 ?_))
  refine ez_go (n := 1) (pc' := 49) (L' := [(0, .inr (.inr (some (192)))), (1, .inl (t)), (2, .inl (kind)), (3, .inl (i)), (4, .inl (1))]) (st' := [.inl (v)]) rfl ?_
  exact ez_retI rfl rfl (k1 ok hsd v nv vr g2 hB2 f2)

theorem rd_cnext0 {t kind i : Int} (hC : pz_C τ h T F E) (hx : sz_X τ h O D) (sl : slt h) (txh : txs h X) (tr : ez_rg t) (kindr : ez_rg kind) (ir : ez_rg i) (hr1 : h.1 + 1 ≤ 600192) (hr2 : h.2.1 + 6 ≤ 7302232) (kA : (t < 0 ∨ 7 < t ∨ kind < 0 ∨ 1 < kind ∨ i < 0 ∨ ((X (t).toNat).length : Int) < i) → Q (.inr h.1, xc h 1)) (kS : ((0 ≤ t ∧ t ≤ 7) ∧ (0 ≤ kind ∧ kind ≤ 1) ∧ 0 ≤ i ∧ i ≤ ((X (t).toNat).length : Int)) → qz_I h 202 6 = 0 → Q (.inr h.1, xc h 2)) (k1 : ((0 ≤ t ∧ t ≤ 7) ∧ (0 ≤ kind ∧ kind ≤ 1) ∧ 0 ≤ i ∧ i ≤ ((X (t).toNat).length : Int)) → qz_I h 202 6 ≠ 0 → ∀ v, nxf (edP D (X t.toNat) kind) (X t.toNat).length i v → (-1 ≤ v ∧ v ≤ 2000) → ∀ g, ez_B τ g → ez_fr cg_P h g → Q (.inl (some (ez_v (.inl v))), g)) : ez_W (d + 9) cm_23 0 [(0, .inr (.inr (some (192)))), (1, .inl (t)), (2, .inl (kind)), (3, .inl (i)), (4, .inl (0))] [] h Q := by
  have hB := hC.1
  have hX := hC.2.1
  have t192 : τ 192 = 44 := hX 192 (by decide)
  obtain ⟨tr1, tr2⟩ := id tr
  obtain ⟨kindr1, kindr2⟩ := id kindr
  obtain ⟨ir1, ir2⟩ := id ir
  refine ez_go (n := 4) (pc' := 4) (L' := [(0, .inr (.inr (some (192)))), (1, .inl (t)), (2, .inl (kind)), (3, .inl (i)), (4, .inl (0))]) (st' := [.inl (i), .inl (kind), .inl (t), .inr (.inr (some (192)))]) rfl ?_
  refine ez_cv hB t192 rfl rfl rfl tq_44 rfl rfl rfl (rd_reqPlace hB hX sl txh tr kindr ir (by omega) (by omega) (fun w => ez_Kp (xc_exc hB rfl) rfl (kA w)) (fun ok => ez_K0 ?_))
  refine ez_go (n := 1) (pc' := 8) (L' := [(0, .inr (.inr (some (192)))), (1, .inl (t)), (2, .inl (kind)), (3, .inl (i)), (4, .inl (0))]) (st' := [.inr (.inr (some (192)))]) rfl ?_
  refine ez_cv hB t192 rfl rfl rfl tq_44 rfl rfl rfl (rd_reqSealed hB t192 (by omega) (by omega) (fun hsd => ez_K0 ?_) (fun w => ez_Kp (xc_exc hB rfl) rfl (kS (by omega) w)))
  refine ez_go (n := 1) (pc' := 12) (L' := [(0, .inr (.inr (some (192)))), (1, .inl (t)), (2, .inl (kind)), (3, .inl (i)), (4, .inl (0))]) (st' := [.inr (.inr (some (192)))]) rfl ?_
  refine ez_gC (p := 733) (tg := 65) hB t192 rfl rfl tq_44 rfl rfl (fun (t733 : _ = 65) => ?_)
  refine ez_go (n := 1) (pc' := 16) (L' := [(0, .inr (.inr (some (192)))), (1, .inl (t)), (2, .inl (kind)), (3, .inl (i)), (4, .inl (0))]) (st' := [.inr (.inr (some (192))), .inr (.inr (some (733)))]) rfl ?_
  refine ez_gC (p := 195) (tg := 47) hB t192 rfl rfl tq_44 rfl rfl (fun (t195 : _ = 47) => ?_)
  refine ez_go (n := 1) (pc' := 20) (L' := [(0, .inr (.inr (some (192)))), (1, .inl (t)), (2, .inl (kind)), (3, .inl (i)), (4, .inl (0))]) (st' := [.inl (t), .inr (.inr (some (195))), .inr (.inr (some (733)))]) rfl ?_
  have n2 : 8 ≤ qz_N h 195 ∧ qz_N h 195 ≤ 8 := ez_len hB t195 tq_47 rfl
  have y3 : 1 ≤ qz_I h 195 (t).toNat ∧ qz_I h 195 (t).toNat ≤ 1000000 := ez_aB hB t195 tq_47 rfl rfl (by decide) (by omega) (by omega)
  have y3' : ((qz_P h 195 (t).toNat : Nat) : Int) + 1 = qz_I h 195 (t).toNat := by unfold qz_P; omega
  refine ez_aR hB t195 rfl tq_47 rfl rfl (by omega) (by omega) (by omega) (fun (t1 : _ = 88) => ?_)
  rw [show qz_P h 195 (t).toNat = 754 + 2 * (t).toNat by unfold qz_P; have := (sl (t).toNat (by omega)).1; omega]
  refine ez_go (n := 1) (pc' := 22) (L' := [(0, .inr (.inr (some (192)))), (1, .inl (t)), (2, .inl (kind)), (3, .inl (i)), (4, .inl (0))]) (st' := [.inl (kind), .inr (.inr (some (754 + 2 * (t).toNat))), .inr (.inr (some (733)))]) rfl ?_
  have tu := txh (t).toNat (by omega)
  have tul := tu.2.2
  refine ez_cv hB t733 rfl rfl rfl tq_65 rfl rfl rfl (rd_kload hC hx (mx_tag hX (show (t).toNat < 8 by omega)).2.1 tu.1 tu.2.1 (by omega) (by omega) (fun g2 hB2 f2 c => ez_K0 ?_))
  have t192b := t192
  refine ez_go (n := 1) (pc' := 27) (L' := [(0, .inr (.inr (some (192)))), (1, .inl (t)), (2, .inl (kind)), (3, .inl (i)), (4, .inl (0))]) (st' := [.inl (0)]) rfl ?_
  refine ez_if rfl rfl ⟨by decide, by decide⟩ (fun _ => ?_) (fun (c4 : ¬((0 : Int) = (0))) => absurd c4 (by decide))
  refine ez_go (n := 1) (pc' := 42) (L' := [(0, .inr (.inr (some (192)))), (1, .inl (t)), (2, .inl (kind)), (3, .inl (i)), (4, .inl (0))]) (st' := [.inr (.inr (some (192)))]) rfl ?_
  refine ez_gC (p := 733) (tg := 65) hB2 t192 rfl rfl tq_44 rfl rfl (fun (t733 : _ = 65) => ?_)
  refine ez_go (n := 1) (pc' := 46) (L' := [(0, .inr (.inr (some (192)))), (1, .inl (t)), (2, .inl (kind)), (3, .inl (i)), (4, .inl (0))]) (st' := [.inl (i), .inr (.inr (some (733)))]) rfl ?_
  refine ez_cv hB2 t733 rfl rfl rfl tq_65 rfl rfl rfl (rd_firstBehind c (by omega) (by omega) (fun v nv vr => ez_K1 ?_))
  exact ez_retI rfl rfl (k1 ok hsd v nv vr g2 hB2 f2)

end EzGr
/-! GRAPHEMES, edge, next: the model. (Written by wip/p2/py/pvz2.py.) -/
section EzMgr
variable {d : Nat} {h : cz_H} {τ : Nat → Nat} {P Q : cz_F → Prop} {Ls : List vz} {b : Int} {u l : List Int} {q : Nat} {X : Nat → List Int}
theorem rd_mk6_l {p : Int} (hI : mI τ h Ls b) (pr : ez_rg p) (kx : ez_rg (yD Ls p).2.1.2.1 → Q (.inl (some (ez_v (.inl (yD Ls p).2.1.2.1))), h)) : ∀ (n : Nat) (k : Int), n = (k + 1).toNat → -1 ≤ k → k < lc h → (∀ (j : Nat) y, k < (j : Int) → Ls[j]? = some y → ¬ yc6 (ey y) p) → ez_W d cm_274 7 [(3, .inl (k)), (0, .inr (.inr (some (770)))), (1, .inl (p)), (2, .inl (6))] [] h Q := by
  have hB := hI.1
  have t770 : τ 770 = 75 := hI.2.1 770 (by decide)
  have b12 : 0 ≤ qz_I h 770 12 ∧ qz_I h 770 12 ≤ 512 := ez_fB (cl := 11) (k := 12) hB t770 tq_75 rfl rfl (by decide)
  have lce : lc h = qz_I h 770 12 := rfl
  have nls : lc h ≤ qz_N h (ls h) := hI.2.2.1.1.1
  obtain ⟨pr0, pr1⟩ := id pr
  intro n
  induction n with
  | zero =>
    intro k hn0 k0' k1' hno
    refine ez_go (n := 1) (pc' := 8) (L' := [(3, .inl (k)), (0, .inr (.inr (some (770)))), (1, .inl (p)), (2, .inl (6))]) (st' := [.inl (k)]) rfl ?_
    refine ez_if rfl rfl ⟨by first | omega | exact (sz_i32 _).1, by first | omega | exact (sz_i32 _).2⟩ (fun (c1 : (k) < (0)) => ?_) (fun (c1 : ¬((k) < (0))) => ?_)
    · skip
      refine ez_go (n := 1) (pc' := 68) (L' := [(3, .inl (k)), (0, .inr (.inr (some (770)))), (1, .inl (p)), (2, .inl (6))]) (st' := [.inl (0)]) rfl ?_
      exact ez_retI rfl rfl (by have e := yd6_n (p := p) (fun v hv e => (hI.gr v hv e).1) (fun j v hv => by obtain ⟨y, hy, rfl⟩ := map_at hv; exact hno j y (by omega) hy); rw [show (yD Ls p).2.1.2.1 = 0 from e] at kx; exact kx ⟨by decide, by decide⟩)
    · skip
      refine ez_go (n := 1) (pc' := 12) (L' := [(3, .inl (k)), (0, .inr (.inr (some (770)))), (1, .inl (p)), (2, .inl (6))]) (st' := [.inr (.inr (some (770)))]) rfl ?_
      refine ez_gR hB t770 rfl rfl tq_75 rfl rfl (fun (t2 : _ = 18) (t2' : 1 ≤ qz_I h 770 11) => ?_)
      rw [show qz_P h 770 11 = ls h from rfl] at *
      refine ez_go (n := 1) (pc' := 16) (L' := [(3, .inl (k)), (0, .inr (.inr (some (770)))), (1, .inl (p)), (2, .inl (6))]) (st' := [.inl (k), .inr (.inr (some ((ls h))))]) rfl ?_
      have n4 : 64 ≤ qz_N h ((ls h)) ∧ qz_N h ((ls h)) ≤ 4096 := ez_len hB t2 tq_18 rfl
      have y5 : 1 ≤ qz_I h ((ls h)) (k).toNat := (hI.at2 (k := k) (by omega) (by omega)).choose_spec.2.2.2
      have y6 : 0 ≤ qz_I h ((ls h)) (k).toNat ∧ qz_I h ((ls h)) (k).toNat ≤ 1000000 := ez_aB hB t2 tq_18 rfl rfl (by decide) (by omega) (by omega)
      have y6' : ((qz_P h ((ls h)) (k).toNat : Nat) : Int) + 1 = qz_I h ((ls h)) (k).toNat := by unfold qz_P; omega
      refine ez_aR hB t2 rfl tq_18 rfl rfl (by omega) (by omega) (by omega) (fun (t3 : _ = 13) => ?_)
      obtain ⟨x, hx, ax, -, -⟩ := hI.at2 (k := k) (by omega) (by omega)
      have cq := vx_c6 (p := p) ax
      refine ez_go (n := 2) (pc' := 21) (L' := [(4, .inr (.inr (some (qz_P h ((ls h)) (k).toNat)))), (3, .inl (k)), (0, .inr (.inr (some (770)))), (1, .inl (p)), (2, .inl (6))]) (st' := [.inr (.inr (some (qz_P h ((ls h)) (k).toNat)))]) rfl ?_
      refine ez_gI hB t3 rfl rfl tq_13 rfl rfl (fun (b7 : 0 ≤ qz_I h (qz_P h ((ls h)) (k).toNat) 0) (b7' : qz_I h (qz_P h ((ls h)) (k).toNat) 0 ≤ 4) => ?_)
      refine ez_go (n := 1) (pc' := 25) (L' := [(4, .inr (.inr (some (qz_P h ((ls h)) (k).toNat)))), (3, .inl (k)), (0, .inr (.inr (some (770)))), (1, .inl (p)), (2, .inl (6))]) (st' := [.inl (3), .inl (qz_I h (qz_P h ((ls h)) (k).toNat) 0)]) rfl ?_
      refine ez_icmp rfl rfl ⟨by first | omega | exact (sz_i32 _).1, by first | omega | exact (sz_i32 _).2⟩ ⟨by first | omega | exact (sz_i32 _).1, by first | omega | exact (sz_i32 _).2⟩ (fun (c8 : (qz_I h (qz_P h ((ls h)) (k).toNat) 0) ≠ (3)) => ?_) (fun (c8 : ¬((qz_I h (qz_P h ((ls h)) (k).toNat) 0) ≠ (3))) => ?_)
      · skip
        refine ez_go (n := 2) (pc' := 7) (L' := [(3, .inl (k + (-1))), (4, .inr (.inr (some (qz_P h ((ls h)) (k).toNat)))), (0, .inr (.inr (some (770)))), (1, .inl (p)), (2, .inl (6))]) (st' := []) rfl ?_
        exfalso; omega
      · skip
        refine ez_go (n := 1) (pc' := 30) (L' := [(4, .inr (.inr (some (qz_P h ((ls h)) (k).toNat)))), (3, .inl (k)), (0, .inr (.inr (some (770)))), (1, .inl (p)), (2, .inl (6))]) (st' := [.inr (.inr (some (qz_P h ((ls h)) (k).toNat)))]) rfl ?_
        refine ez_gI hB t3 rfl rfl tq_13 rfl rfl (fun (b9 : -2147483648 ≤ qz_I h (qz_P h ((ls h)) (k).toNat) 5) (b9' : qz_I h (qz_P h ((ls h)) (k).toNat) 5 ≤ 2147483647) => ?_)
        refine ez_go (n := 1) (pc' := 34) (L' := [(4, .inr (.inr (some (qz_P h ((ls h)) (k).toNat)))), (3, .inl (k)), (0, .inr (.inr (some (770)))), (1, .inl (p)), (2, .inl (6))]) (st' := [.inl (6), .inl (qz_I h (qz_P h ((ls h)) (k).toNat) 5)]) rfl ?_
        refine ez_icmp rfl rfl ⟨by first | omega | exact (sz_i32 _).1, by first | omega | exact (sz_i32 _).2⟩ ⟨by first | omega | exact (sz_i32 _).1, by first | omega | exact (sz_i32 _).2⟩ (fun (c10 : (qz_I h (qz_P h ((ls h)) (k).toNat) 5) ≠ (6)) => ?_) (fun (c10 : ¬((qz_I h (qz_P h ((ls h)) (k).toNat) 5) ≠ (6))) => ?_)
        · skip
          refine ez_go (n := 2) (pc' := 7) (L' := [(3, .inl (k + (-1))), (4, .inr (.inr (some (qz_P h ((ls h)) (k).toNat)))), (0, .inr (.inr (some (770)))), (1, .inl (p)), (2, .inl (6))]) (st' := []) rfl ?_
          exfalso; omega
        · skip
          refine ez_go (n := 1) (pc' := 39) (L' := [(4, .inr (.inr (some (qz_P h ((ls h)) (k).toNat)))), (3, .inl (k)), (0, .inr (.inr (some (770)))), (1, .inl (p)), (2, .inl (6))]) (st' := [.inr (.inr (some (qz_P h ((ls h)) (k).toNat)))]) rfl ?_
          refine ez_gI hB t3 rfl rfl tq_13 rfl rfl (fun (b11 : -2147483648 ≤ qz_I h (qz_P h ((ls h)) (k).toNat) 1) (b11' : qz_I h (qz_P h ((ls h)) (k).toNat) 1 ≤ 2147483647) => ?_)
          refine ez_go (n := 1) (pc' := 43) (L' := [(4, .inr (.inr (some (qz_P h ((ls h)) (k).toNat)))), (3, .inl (k)), (0, .inr (.inr (some (770)))), (1, .inl (p)), (2, .inl (6))]) (st' := [.inl (p), .inl (qz_I h (qz_P h ((ls h)) (k).toNat) 1)]) rfl ?_
          refine ez_icmp rfl rfl ⟨by first | omega | exact (sz_i32 _).1, by first | omega | exact (sz_i32 _).2⟩ ⟨by first | omega | exact (sz_i32 _).1, by first | omega | exact (sz_i32 _).2⟩ (fun (c12 : (p) < (qz_I h (qz_P h ((ls h)) (k).toNat) 1)) => ?_) (fun (c12 : ¬((p) < (qz_I h (qz_P h ((ls h)) (k).toNat) 1))) => ?_)
          · skip
            refine ez_go (n := 2) (pc' := 7) (L' := [(3, .inl (k + (-1))), (4, .inr (.inr (some (qz_P h ((ls h)) (k).toNat)))), (0, .inr (.inr (some (770)))), (1, .inl (p)), (2, .inl (6))]) (st' := []) rfl ?_
            exfalso; omega
          · skip
            refine ez_go (n := 2) (pc' := 49) (L' := [(4, .inr (.inr (some (qz_P h ((ls h)) (k).toNat)))), (3, .inl (k)), (0, .inr (.inr (some (770)))), (1, .inl (p)), (2, .inl (6))]) (st' := [.inr (.inr (some (qz_P h ((ls h)) (k).toNat))), .inl (p)]) rfl ?_
            refine ez_gI hB t3 rfl rfl tq_13 rfl rfl (fun (b13 : -2147483648 ≤ qz_I h (qz_P h ((ls h)) (k).toNat) 2) (b13' : qz_I h (qz_P h ((ls h)) (k).toNat) 2 ≤ 2147483647) => ?_)
            refine ez_icmp rfl rfl ⟨by first | omega | exact (sz_i32 _).1, by first | omega | exact (sz_i32 _).2⟩ ⟨by first | omega | exact (sz_i32 _).1, by first | omega | exact (sz_i32 _).2⟩ (fun (c14 : (qz_I h (qz_P h ((ls h)) (k).toNat) 2) < (p)) => ?_) (fun (c14 : ¬((qz_I h (qz_P h ((ls h)) (k).toNat) 2) < (p))) => ?_)
            · skip
              refine ez_go (n := 2) (pc' := 7) (L' := [(3, .inl (k + (-1))), (4, .inr (.inr (some (qz_P h ((ls h)) (k).toNat)))), (0, .inr (.inr (some (770)))), (1, .inl (p)), (2, .inl (6))]) (st' := []) rfl ?_
              exfalso; omega
            · skip
              refine ez_go (n := 1) (pc' := 57) (L' := [(4, .inr (.inr (some (qz_P h ((ls h)) (k).toNat)))), (3, .inl (k)), (0, .inr (.inr (some (770)))), (1, .inl (p)), (2, .inl (6))]) (st' := [.inr (.inr (some (qz_P h ((ls h)) (k).toNat)))]) rfl ?_
              refine ez_gI hB t3 rfl rfl tq_13 rfl rfl (fun (b15 : -2147483648 ≤ qz_I h (qz_P h ((ls h)) (k).toNat) 6) (b15' : qz_I h (qz_P h ((ls h)) (k).toNat) 6 ≤ 2147483647) => ?_)
              have c7 := cq.mp ⟨by omega, by omega, by omega, by omega⟩
              have e6 := (ax.2.2.2.2 c7.1.1).2.2.1 (by have := c7.1.2; omega)
              exact ez_retI rfl rfl (by have e := yd6_a (p := p) (fun v hv e => (hI.gr v hv e).1) (at_map hx) c7 (fun j v hj hv => by obtain ⟨y, hy, rfl⟩ := map_at hv; exact hno j y (by omega) hy); rw [show (yD Ls p).2.1.2.1 = (ey x).2.2.1.2 from e, ← e6] at kx; exact kx ⟨by omega, by omega⟩)
  | succ n ih =>
    intro k hn0 k0' k1' hno
    refine ez_go (n := 1) (pc' := 8) (L' := [(3, .inl (k)), (0, .inr (.inr (some (770)))), (1, .inl (p)), (2, .inl (6))]) (st' := [.inl (k)]) rfl ?_
    refine ez_if rfl rfl ⟨by first | omega | exact (sz_i32 _).1, by first | omega | exact (sz_i32 _).2⟩ (fun (c1 : (k) < (0)) => ?_) (fun (c1 : ¬((k) < (0))) => ?_)
    · skip
      refine ez_go (n := 1) (pc' := 68) (L' := [(3, .inl (k)), (0, .inr (.inr (some (770)))), (1, .inl (p)), (2, .inl (6))]) (st' := [.inl (0)]) rfl ?_
      exact ez_retI rfl rfl (by have e := yd6_n (p := p) (fun v hv e => (hI.gr v hv e).1) (fun j v hv => by obtain ⟨y, hy, rfl⟩ := map_at hv; exact hno j y (by omega) hy); rw [show (yD Ls p).2.1.2.1 = 0 from e] at kx; exact kx ⟨by decide, by decide⟩)
    · skip
      refine ez_go (n := 1) (pc' := 12) (L' := [(3, .inl (k)), (0, .inr (.inr (some (770)))), (1, .inl (p)), (2, .inl (6))]) (st' := [.inr (.inr (some (770)))]) rfl ?_
      refine ez_gR hB t770 rfl rfl tq_75 rfl rfl (fun (t2 : _ = 18) (t2' : 1 ≤ qz_I h 770 11) => ?_)
      rw [show qz_P h 770 11 = ls h from rfl] at *
      refine ez_go (n := 1) (pc' := 16) (L' := [(3, .inl (k)), (0, .inr (.inr (some (770)))), (1, .inl (p)), (2, .inl (6))]) (st' := [.inl (k), .inr (.inr (some ((ls h))))]) rfl ?_
      have n4 : 64 ≤ qz_N h ((ls h)) ∧ qz_N h ((ls h)) ≤ 4096 := ez_len hB t2 tq_18 rfl
      have y5 : 1 ≤ qz_I h ((ls h)) (k).toNat := (hI.at2 (k := k) (by omega) (by omega)).choose_spec.2.2.2
      have y6 : 0 ≤ qz_I h ((ls h)) (k).toNat ∧ qz_I h ((ls h)) (k).toNat ≤ 1000000 := ez_aB hB t2 tq_18 rfl rfl (by decide) (by omega) (by omega)
      have y6' : ((qz_P h ((ls h)) (k).toNat : Nat) : Int) + 1 = qz_I h ((ls h)) (k).toNat := by unfold qz_P; omega
      refine ez_aR hB t2 rfl tq_18 rfl rfl (by omega) (by omega) (by omega) (fun (t3 : _ = 13) => ?_)
      obtain ⟨x, hx, ax, -, -⟩ := hI.at2 (k := k) (by omega) (by omega)
      have cq := vx_c6 (p := p) ax
      refine ez_go (n := 2) (pc' := 21) (L' := [(4, .inr (.inr (some (qz_P h ((ls h)) (k).toNat)))), (3, .inl (k)), (0, .inr (.inr (some (770)))), (1, .inl (p)), (2, .inl (6))]) (st' := [.inr (.inr (some (qz_P h ((ls h)) (k).toNat)))]) rfl ?_
      refine ez_gI hB t3 rfl rfl tq_13 rfl rfl (fun (b7 : 0 ≤ qz_I h (qz_P h ((ls h)) (k).toNat) 0) (b7' : qz_I h (qz_P h ((ls h)) (k).toNat) 0 ≤ 4) => ?_)
      refine ez_go (n := 1) (pc' := 25) (L' := [(4, .inr (.inr (some (qz_P h ((ls h)) (k).toNat)))), (3, .inl (k)), (0, .inr (.inr (some (770)))), (1, .inl (p)), (2, .inl (6))]) (st' := [.inl (3), .inl (qz_I h (qz_P h ((ls h)) (k).toNat) 0)]) rfl ?_
      refine ez_icmp rfl rfl ⟨by first | omega | exact (sz_i32 _).1, by first | omega | exact (sz_i32 _).2⟩ ⟨by first | omega | exact (sz_i32 _).1, by first | omega | exact (sz_i32 _).2⟩ (fun (c8 : (qz_I h (qz_P h ((ls h)) (k).toNat) 0) ≠ (3)) => ?_) (fun (c8 : ¬((qz_I h (qz_P h ((ls h)) (k).toNat) 0) ≠ (3))) => ?_)
      · skip
        refine ez_go (n := 2) (pc' := 7) (L' := [(3, .inl (k + (-1))), (4, .inr (.inr (some (qz_P h ((ls h)) (k).toNat)))), (0, .inr (.inr (some (770)))), (1, .inl (p)), (2, .inl (6))]) (st' := []) rfl ?_
        refine ez_less [(3, .inl (k + (-1))), (0, .inr (.inr (some (770)))), (1, .inl (p)), (2, .inl (6))] rfl ⟨rfl, rfl, rfl, rfl, trivial⟩ ?_
        refine ih (k + (-1)) (by omega) (by omega) (by omega) (fun j y hj hy => ?_)
        by_cases e : j = k.toNat
        · subst e; rw [hx] at hy; cases hy; intro w; have w := cq.mpr w; omega
        · exact hno j y (by omega) hy
      · skip
        refine ez_go (n := 1) (pc' := 30) (L' := [(4, .inr (.inr (some (qz_P h ((ls h)) (k).toNat)))), (3, .inl (k)), (0, .inr (.inr (some (770)))), (1, .inl (p)), (2, .inl (6))]) (st' := [.inr (.inr (some (qz_P h ((ls h)) (k).toNat)))]) rfl ?_
        refine ez_gI hB t3 rfl rfl tq_13 rfl rfl (fun (b9 : -2147483648 ≤ qz_I h (qz_P h ((ls h)) (k).toNat) 5) (b9' : qz_I h (qz_P h ((ls h)) (k).toNat) 5 ≤ 2147483647) => ?_)
        refine ez_go (n := 1) (pc' := 34) (L' := [(4, .inr (.inr (some (qz_P h ((ls h)) (k).toNat)))), (3, .inl (k)), (0, .inr (.inr (some (770)))), (1, .inl (p)), (2, .inl (6))]) (st' := [.inl (6), .inl (qz_I h (qz_P h ((ls h)) (k).toNat) 5)]) rfl ?_
        refine ez_icmp rfl rfl ⟨by first | omega | exact (sz_i32 _).1, by first | omega | exact (sz_i32 _).2⟩ ⟨by first | omega | exact (sz_i32 _).1, by first | omega | exact (sz_i32 _).2⟩ (fun (c10 : (qz_I h (qz_P h ((ls h)) (k).toNat) 5) ≠ (6)) => ?_) (fun (c10 : ¬((qz_I h (qz_P h ((ls h)) (k).toNat) 5) ≠ (6))) => ?_)
        · skip
          refine ez_go (n := 2) (pc' := 7) (L' := [(3, .inl (k + (-1))), (4, .inr (.inr (some (qz_P h ((ls h)) (k).toNat)))), (0, .inr (.inr (some (770)))), (1, .inl (p)), (2, .inl (6))]) (st' := []) rfl ?_
          refine ez_less [(3, .inl (k + (-1))), (0, .inr (.inr (some (770)))), (1, .inl (p)), (2, .inl (6))] rfl ⟨rfl, rfl, rfl, rfl, trivial⟩ ?_
          refine ih (k + (-1)) (by omega) (by omega) (by omega) (fun j y hj hy => ?_)
          by_cases e : j = k.toNat
          · subst e; rw [hx] at hy; cases hy; intro w; have w := cq.mpr w; omega
          · exact hno j y (by omega) hy
        · skip
          refine ez_go (n := 1) (pc' := 39) (L' := [(4, .inr (.inr (some (qz_P h ((ls h)) (k).toNat)))), (3, .inl (k)), (0, .inr (.inr (some (770)))), (1, .inl (p)), (2, .inl (6))]) (st' := [.inr (.inr (some (qz_P h ((ls h)) (k).toNat)))]) rfl ?_
          refine ez_gI hB t3 rfl rfl tq_13 rfl rfl (fun (b11 : -2147483648 ≤ qz_I h (qz_P h ((ls h)) (k).toNat) 1) (b11' : qz_I h (qz_P h ((ls h)) (k).toNat) 1 ≤ 2147483647) => ?_)
          refine ez_go (n := 1) (pc' := 43) (L' := [(4, .inr (.inr (some (qz_P h ((ls h)) (k).toNat)))), (3, .inl (k)), (0, .inr (.inr (some (770)))), (1, .inl (p)), (2, .inl (6))]) (st' := [.inl (p), .inl (qz_I h (qz_P h ((ls h)) (k).toNat) 1)]) rfl ?_
          refine ez_icmp rfl rfl ⟨by first | omega | exact (sz_i32 _).1, by first | omega | exact (sz_i32 _).2⟩ ⟨by first | omega | exact (sz_i32 _).1, by first | omega | exact (sz_i32 _).2⟩ (fun (c12 : (p) < (qz_I h (qz_P h ((ls h)) (k).toNat) 1)) => ?_) (fun (c12 : ¬((p) < (qz_I h (qz_P h ((ls h)) (k).toNat) 1))) => ?_)
          · skip
            refine ez_go (n := 2) (pc' := 7) (L' := [(3, .inl (k + (-1))), (4, .inr (.inr (some (qz_P h ((ls h)) (k).toNat)))), (0, .inr (.inr (some (770)))), (1, .inl (p)), (2, .inl (6))]) (st' := []) rfl ?_
            refine ez_less [(3, .inl (k + (-1))), (0, .inr (.inr (some (770)))), (1, .inl (p)), (2, .inl (6))] rfl ⟨rfl, rfl, rfl, rfl, trivial⟩ ?_
            refine ih (k + (-1)) (by omega) (by omega) (by omega) (fun j y hj hy => ?_)
            by_cases e : j = k.toNat
            · subst e; rw [hx] at hy; cases hy; intro w; have w := cq.mpr w; omega
            · exact hno j y (by omega) hy
          · skip
            refine ez_go (n := 2) (pc' := 49) (L' := [(4, .inr (.inr (some (qz_P h ((ls h)) (k).toNat)))), (3, .inl (k)), (0, .inr (.inr (some (770)))), (1, .inl (p)), (2, .inl (6))]) (st' := [.inr (.inr (some (qz_P h ((ls h)) (k).toNat))), .inl (p)]) rfl ?_
            refine ez_gI hB t3 rfl rfl tq_13 rfl rfl (fun (b13 : -2147483648 ≤ qz_I h (qz_P h ((ls h)) (k).toNat) 2) (b13' : qz_I h (qz_P h ((ls h)) (k).toNat) 2 ≤ 2147483647) => ?_)
            refine ez_icmp rfl rfl ⟨by first | omega | exact (sz_i32 _).1, by first | omega | exact (sz_i32 _).2⟩ ⟨by first | omega | exact (sz_i32 _).1, by first | omega | exact (sz_i32 _).2⟩ (fun (c14 : (qz_I h (qz_P h ((ls h)) (k).toNat) 2) < (p)) => ?_) (fun (c14 : ¬((qz_I h (qz_P h ((ls h)) (k).toNat) 2) < (p))) => ?_)
            · skip
              refine ez_go (n := 2) (pc' := 7) (L' := [(3, .inl (k + (-1))), (4, .inr (.inr (some (qz_P h ((ls h)) (k).toNat)))), (0, .inr (.inr (some (770)))), (1, .inl (p)), (2, .inl (6))]) (st' := []) rfl ?_
              refine ez_less [(3, .inl (k + (-1))), (0, .inr (.inr (some (770)))), (1, .inl (p)), (2, .inl (6))] rfl ⟨rfl, rfl, rfl, rfl, trivial⟩ ?_
              refine ih (k + (-1)) (by omega) (by omega) (by omega) (fun j y hj hy => ?_)
              by_cases e : j = k.toNat
              · subst e; rw [hx] at hy; cases hy; intro w; have w := cq.mpr w; omega
              · exact hno j y (by omega) hy
            · skip
              refine ez_go (n := 1) (pc' := 57) (L' := [(4, .inr (.inr (some (qz_P h ((ls h)) (k).toNat)))), (3, .inl (k)), (0, .inr (.inr (some (770)))), (1, .inl (p)), (2, .inl (6))]) (st' := [.inr (.inr (some (qz_P h ((ls h)) (k).toNat)))]) rfl ?_
              refine ez_gI hB t3 rfl rfl tq_13 rfl rfl (fun (b15 : -2147483648 ≤ qz_I h (qz_P h ((ls h)) (k).toNat) 6) (b15' : qz_I h (qz_P h ((ls h)) (k).toNat) 6 ≤ 2147483647) => ?_)
              have c7 := cq.mp ⟨by omega, by omega, by omega, by omega⟩
              have e6 := (ax.2.2.2.2 c7.1.1).2.2.1 (by have := c7.1.2; omega)
              exact ez_retI rfl rfl (by have e := yd6_a (p := p) (fun v hv e => (hI.gr v hv e).1) (at_map hx) c7 (fun j v hj hv => by obtain ⟨y, hy, rfl⟩ := map_at hv; exact hno j y (by omega) hy); rw [show (yD Ls p).2.1.2.1 = (ey x).2.2.1.2 from e, ← e6] at kx; exact kx ⟨by omega, by omega⟩)

theorem rd_mk6 {p : Int} (hI : mI τ h Ls b) (pr : ez_rg p) (kx : ez_rg (yD Ls p).2.1.2.1 → Q (.inl (some (ez_v (.inl (yD Ls p).2.1.2.1))), h)) : ez_W d cm_274 0 [(0, .inr (.inr (some (770)))), (1, .inl (p)), (2, .inl (6))] [] h Q := by
  have hB := hI.1
  have t770 : τ 770 = 75 := hI.2.1 770 (by decide)
  have b12 : 0 ≤ qz_I h 770 12 ∧ qz_I h 770 12 ≤ 512 := ez_fB (cl := 11) (k := 12) hB t770 tq_75 rfl rfl (by decide)
  have lce : lc h = qz_I h 770 12 := rfl
  have nls : lc h ≤ qz_N h (ls h) := hI.2.2.1.1.1
  refine ez_go (n := 1) (pc' := 1) (L' := [(0, .inr (.inr (some (770)))), (1, .inl (p)), (2, .inl (6))]) (st' := [.inr (.inr (some (770)))]) rfl ?_
  refine ez_gI hB t770 rfl rfl tq_75 rfl rfl (fun (b1 : 0 ≤ qz_I h 770 12) (b1' : qz_I h 770 12 ≤ 512) => ?_)
  refine ez_go (n := 3) (pc' := 7) (L' := [(3, .inl ((qz_I h 770 12) - (1))), (0, .inr (.inr (some (770)))), (1, .inl (p)), (2, .inl (6))]) (st' := []) rfl ?_
  refine ez_less [(3, .inl ((qz_I h 770 12) - (1))), (0, .inr (.inr (some (770)))), (1, .inl (p)), (2, .inl (6))] rfl ⟨rfl, rfl, rfl, rfl, trivial⟩ ?_
  refine rd_mk6_l hI pr kx _ (lc h - 1) rfl (by omega) (by omega) (fun j y hj hy => ?_)
  have := (List.getElem?_eq_some_iff.mp hy).1; have := hI.2.2.2.2.2.2.1; omega

theorem rd_mcc_l {i : Int} (hI : mI τ h Ls b) (mt : mtx τ h q u) (i0 : 0 < i) (i1 : i < (u.length : Int)) (k1 : gbd (gV (yD Ls) u) (wpi (yD Ls) u) u.length i → Q (.inl (some (ez_v (.inl 1))), h)) (k0 : ¬ gbd (gV (yD Ls) u) (wpi (yD Ls) u) u.length i → Q (.inl (some (ez_v (.inl 0))), h)) (ra : ez_rg (gV (yD Ls) u (i - 1))) (rb : ez_rg (gV (yD Ls) u (i))) (hq12 : ¬ (gV (yD Ls) u (i - 1) = 1 ∧ gV (yD Ls) u (i) = 2)) (wa : ¬ ctl (gV (yD Ls) u (i - 1))) (wb : ¬ ctl (gV (yD Ls) u (i))) (nA : ¬ gA (gV (yD Ls) u (i - 1)) (gV (yD Ls) u (i))) (nz : ¬ (gV (yD Ls) u (i - 1) = 5 ∧ wpi (yD Ls) u i ∧ pbf (gV (yD Ls) u) (wpi (yD Ls) u) (i - 1).toNat)) (b6 : gV (yD Ls) u (i) = 6) : ∀ (n : Nat) (k c : Int), n = (k + 1).toNat → -1 ≤ k → k < i → (0 ≤ c ∧ c + k < i) → c + cgn (gV (yD Ls) u) (k + 1).toNat = cgn (gV (yD Ls) u) i.toNat → ez_W (d + 1) cm_233 270 [(6, .inl (k)), (5, .inl (c)), (3, .inl (gV (yD Ls) u (i - 1))), (4, .inl (gV (yD Ls) u (i))), (0, .inr (.inr (some (770)))), (1, .inr (.inr (some (q)))), (2, .inl (i))] [] h Q := by
  have hB := hI.1
  have t770 : τ 770 = 75 := hI.2.1 770 (by decide)
  have b12 : 0 ≤ qz_I h 770 12 ∧ qz_I h 770 12 ≤ 512 := ez_fB (cl := 11) (k := 12) hB t770 tq_75 rfl rfl (by decide)
  have lce : lc h = qz_I h 770 12 := rfl
  have nls : lc h ≤ qz_N h (ls h) := hI.2.2.1.1.1
  have tq := mt.1
  have n2 := mt.2.1.1
  obtain ⟨ra1, ra2⟩ := id ra
  obtain ⟨rb1, rb2⟩ := id rb
  intro n
  induction n with
  | zero =>
    intro k c hn0 ka kb cb he
    refine ez_go (n := 1) (pc' := 272) (L' := [(6, .inl (k)), (5, .inl (c)), (3, .inl (gV (yD Ls) u (i - 1))), (4, .inl (gV (yD Ls) u (i))), (0, .inr (.inr (some (770)))), (1, .inr (.inr (some (q)))), (2, .inl (i))]) (st' := [.inl (k)]) rfl ?_
    refine ez_if rfl rfl ⟨by first | omega | exact (sz_i32 _).1, by first | omega | exact (sz_i32 _).2⟩ (fun (c1 : (k) < (0)) => ?_) (fun (c1 : ¬((k) < (0))) => ?_)
    · skip
      refine ez_go (n := 2) (pc' := 302) (L' := [(6, .inl (k)), (5, .inl (c)), (3, .inl (gV (yD Ls) u (i - 1))), (4, .inl (gV (yD Ls) u (i))), (0, .inr (.inr (some (770)))), (1, .inr (.inr (some (q)))), (2, .inl (i))]) (st' := [.inl (2), .inl (c)]) rfl ?_
      refine ez_rem rfl (by omega) (by omega) (by omega) (by omega) ?_
      refine ez_go (n := 1) (pc' := 304) (L' := [(6, .inl (k)), (5, .inl (c)), (3, .inl (gV (yD Ls) u (i - 1))), (4, .inl (gV (yD Ls) u (i))), (0, .inr (.inr (some (770)))), (1, .inr (.inr (some (q)))), (2, .inl (i))]) (st' := [.inl (1), .inl ((c) % (2))]) rfl ?_
      refine ez_icmp rfl rfl ⟨by first | omega | exact (sz_i32 _).1, by first | omega | exact (sz_i32 _).2⟩ ⟨by first | omega | exact (sz_i32 _).1, by first | omega | exact (sz_i32 _).2⟩ (fun (c2 : ((c) % (2)) ≠ (1)) => ?_) (fun (c2 : ¬(((c) % (2)) ≠ (1))) => ?_)
      · skip
        refine ez_go (n := 1) (pc' := 310) (L' := [(6, .inl (k)), (5, .inl (c)), (3, .inl (gV (yD Ls) u (i - 1))), (4, .inl (gV (yD Ls) u (i))), (0, .inr (.inr (some (770)))), (1, .inr (.inr (some (q)))), (2, .inl (i))]) (st' := [.inl (1)]) rfl ?_
        have e0 : cgn (gV (yD Ls) u) (k + 1).toNat = 0 := by first | (rw [show (k + 1).toNat = 0 by omega]; rfl) | (rw [cgn_s _ (by omega), if_neg (by omega)])
        have eo := odg_c (gV (yD Ls) u) (i - 1).toNat
        rw [show (i - 1).toNat + 1 = i.toNat by omega] at eo
        have ec : c = cgn (gV (yD Ls) u) i.toNat := by omega
        rw [← ec] at eo
        exact ez_retZ rfl rfl (Or.inr rfl) (k1 (gbd_4 hq12 nA nz (fun w => absurd (eo.mp w.2) (by omega))))
      · skip
        refine ez_go (n := 1) (pc' := 308) (L' := [(6, .inl (k)), (5, .inl (c)), (3, .inl (gV (yD Ls) u (i - 1))), (4, .inl (gV (yD Ls) u (i))), (0, .inr (.inr (some (770)))), (1, .inr (.inr (some (q)))), (2, .inl (i))]) (st' := [.inl (0)]) rfl ?_
        have e0 : cgn (gV (yD Ls) u) (k + 1).toNat = 0 := by first | (rw [show (k + 1).toNat = 0 by omega]; rfl) | (rw [cgn_s _ (by omega), if_neg (by omega)])
        have eo := odg_c (gV (yD Ls) u) (i - 1).toNat
        rw [show (i - 1).toNat + 1 = i.toNat by omega] at eo
        have ec : c = cgn (gV (yD Ls) u) i.toNat := by omega
        rw [← ec] at eo
        exact ez_retZ rfl rfl (Or.inl rfl) (k0 (gbd_n i0 i1 (Or.inr ⟨⟨wa, wb⟩, Or.inr (Or.inr ⟨b6, eo.mpr (by omega)⟩)⟩)))
    · skip
      refine ez_go (n := 3) (pc' := 279) (L' := [(6, .inl (k)), (5, .inl (c)), (3, .inl (gV (yD Ls) u (i - 1))), (4, .inl (gV (yD Ls) u (i))), (0, .inr (.inr (some (770)))), (1, .inr (.inr (some (q)))), (2, .inl (i))]) (st' := [.inl (k), .inr (.inr (some (q))), .inr (.inr (some (770)))]) rfl ?_
      have n4 : 2000 ≤ qz_N h q ∧ qz_N h q ≤ 2000 := ez_len hB tq tq_37 rfl
      refine ez_aI hB tq rfl tq_37 rfl rfl (by omega) (by omega) (fun (b3 : -2147483648 ≤ qz_I h q (k).toNat) (b3' : qz_I h q (k).toNat ≤ 2147483647) => ?_)
      have pb := uX_ptl mt.2.1.2 (show (k).toNat < u.length by omega)
      have prg : ez_rg (uX u (k)) := ⟨by omega, by omega⟩
      rw [show qz_I h q (k).toNat = uX u (k) from mt.2.2 (k) (by omega) (by omega)]
      refine ez_go (n := 1) (pc' := 282) (L' := [(6, .inl (k)), (5, .inl (c)), (3, .inl (gV (yD Ls) u (i - 1))), (4, .inl (gV (yD Ls) u (i))), (0, .inr (.inr (some (770)))), (1, .inr (.inr (some (q)))), (2, .inl (i))]) (st' := [.inl (6), .inl (uX u (k)), .inr (.inr (some (770)))]) rfl ?_
      refine ez_cv hB t770 rfl rfl rfl tq_75 rfl rfl rfl (rd_mk6 hI prg (fun kr1 => ez_K1 ?_))
      have kr1 : ez_rg (gV (yD Ls) u (k)) := kr1
      obtain ⟨kr1a, kr1b⟩ := id kr1
      rw [show (yD Ls (uX u (k))).2.1.2.1 = gV (yD Ls) u (k) from rfl]
      refine ez_go (n := 1) (pc' := 287) (L' := [(6, .inl (k)), (5, .inl (c)), (3, .inl (gV (yD Ls) u (i - 1))), (4, .inl (gV (yD Ls) u (i))), (0, .inr (.inr (some (770)))), (1, .inr (.inr (some (q)))), (2, .inl (i))]) (st' := [.inl (6), .inl (gV (yD Ls) u (k))]) rfl ?_
      refine ez_icmp rfl rfl ⟨by first | omega | exact (sz_i32 _).1, by first | omega | exact (sz_i32 _).2⟩ ⟨by first | omega | exact (sz_i32 _).1, by first | omega | exact (sz_i32 _).2⟩ (fun (c5 : (gV (yD Ls) u (k)) ≠ (6)) => ?_) (fun (c5 : ¬((gV (yD Ls) u (k)) ≠ (6))) => ?_)
      · skip
        refine ez_go (n := 2) (pc' := 302) (L' := [(6, .inl (k)), (5, .inl (c)), (3, .inl (gV (yD Ls) u (i - 1))), (4, .inl (gV (yD Ls) u (i))), (0, .inr (.inr (some (770)))), (1, .inr (.inr (some (q)))), (2, .inl (i))]) (st' := [.inl (2), .inl (c)]) rfl ?_
        refine ez_rem rfl (by omega) (by omega) (by omega) (by omega) ?_
        refine ez_go (n := 1) (pc' := 304) (L' := [(6, .inl (k)), (5, .inl (c)), (3, .inl (gV (yD Ls) u (i - 1))), (4, .inl (gV (yD Ls) u (i))), (0, .inr (.inr (some (770)))), (1, .inr (.inr (some (q)))), (2, .inl (i))]) (st' := [.inl (1), .inl ((c) % (2))]) rfl ?_
        refine ez_icmp rfl rfl ⟨by first | omega | exact (sz_i32 _).1, by first | omega | exact (sz_i32 _).2⟩ ⟨by first | omega | exact (sz_i32 _).1, by first | omega | exact (sz_i32 _).2⟩ (fun (c6 : ((c) % (2)) ≠ (1)) => ?_) (fun (c6 : ¬(((c) % (2)) ≠ (1))) => ?_)
        · skip
          refine ez_go (n := 1) (pc' := 310) (L' := [(6, .inl (k)), (5, .inl (c)), (3, .inl (gV (yD Ls) u (i - 1))), (4, .inl (gV (yD Ls) u (i))), (0, .inr (.inr (some (770)))), (1, .inr (.inr (some (q)))), (2, .inl (i))]) (st' := [.inl (1)]) rfl ?_
          have e0 : cgn (gV (yD Ls) u) (k + 1).toNat = 0 := by first | (rw [show (k + 1).toNat = 0 by omega]; rfl) | (rw [cgn_s _ (by omega), if_neg (by omega)])
          have eo := odg_c (gV (yD Ls) u) (i - 1).toNat
          rw [show (i - 1).toNat + 1 = i.toNat by omega] at eo
          have ec : c = cgn (gV (yD Ls) u) i.toNat := by omega
          rw [← ec] at eo
          exact ez_retZ rfl rfl (Or.inr rfl) (k1 (gbd_4 hq12 nA nz (fun w => absurd (eo.mp w.2) (by omega))))
        · skip
          refine ez_go (n := 1) (pc' := 308) (L' := [(6, .inl (k)), (5, .inl (c)), (3, .inl (gV (yD Ls) u (i - 1))), (4, .inl (gV (yD Ls) u (i))), (0, .inr (.inr (some (770)))), (1, .inr (.inr (some (q)))), (2, .inl (i))]) (st' := [.inl (0)]) rfl ?_
          have e0 : cgn (gV (yD Ls) u) (k + 1).toNat = 0 := by first | (rw [show (k + 1).toNat = 0 by omega]; rfl) | (rw [cgn_s _ (by omega), if_neg (by omega)])
          have eo := odg_c (gV (yD Ls) u) (i - 1).toNat
          rw [show (i - 1).toNat + 1 = i.toNat by omega] at eo
          have ec : c = cgn (gV (yD Ls) u) i.toNat := by omega
          rw [← ec] at eo
          exact ez_retZ rfl rfl (Or.inl rfl) (k0 (gbd_n i0 i1 (Or.inr ⟨⟨wa, wb⟩, Or.inr (Or.inr ⟨b6, eo.mpr (by omega)⟩)⟩)))
      · skip
        refine ez_go (n := 3) (pc' := 270) (L' := [(6, .inl (k + (-1))), (5, .inl (c + 1)), (3, .inl (gV (yD Ls) u (i - 1))), (4, .inl (gV (yD Ls) u (i))), (0, .inr (.inr (some (770)))), (1, .inr (.inr (some (q)))), (2, .inl (i))]) (st' := []) rfl ?_
        exfalso; omega
  | succ n ih =>
    intro k c hn0 ka kb cb he
    refine ez_go (n := 1) (pc' := 272) (L' := [(6, .inl (k)), (5, .inl (c)), (3, .inl (gV (yD Ls) u (i - 1))), (4, .inl (gV (yD Ls) u (i))), (0, .inr (.inr (some (770)))), (1, .inr (.inr (some (q)))), (2, .inl (i))]) (st' := [.inl (k)]) rfl ?_
    refine ez_if rfl rfl ⟨by first | omega | exact (sz_i32 _).1, by first | omega | exact (sz_i32 _).2⟩ (fun (c1 : (k) < (0)) => ?_) (fun (c1 : ¬((k) < (0))) => ?_)
    · skip
      refine ez_go (n := 2) (pc' := 302) (L' := [(6, .inl (k)), (5, .inl (c)), (3, .inl (gV (yD Ls) u (i - 1))), (4, .inl (gV (yD Ls) u (i))), (0, .inr (.inr (some (770)))), (1, .inr (.inr (some (q)))), (2, .inl (i))]) (st' := [.inl (2), .inl (c)]) rfl ?_
      refine ez_rem rfl (by omega) (by omega) (by omega) (by omega) ?_
      refine ez_go (n := 1) (pc' := 304) (L' := [(6, .inl (k)), (5, .inl (c)), (3, .inl (gV (yD Ls) u (i - 1))), (4, .inl (gV (yD Ls) u (i))), (0, .inr (.inr (some (770)))), (1, .inr (.inr (some (q)))), (2, .inl (i))]) (st' := [.inl (1), .inl ((c) % (2))]) rfl ?_
      refine ez_icmp rfl rfl ⟨by first | omega | exact (sz_i32 _).1, by first | omega | exact (sz_i32 _).2⟩ ⟨by first | omega | exact (sz_i32 _).1, by first | omega | exact (sz_i32 _).2⟩ (fun (c2 : ((c) % (2)) ≠ (1)) => ?_) (fun (c2 : ¬(((c) % (2)) ≠ (1))) => ?_)
      · skip
        refine ez_go (n := 1) (pc' := 310) (L' := [(6, .inl (k)), (5, .inl (c)), (3, .inl (gV (yD Ls) u (i - 1))), (4, .inl (gV (yD Ls) u (i))), (0, .inr (.inr (some (770)))), (1, .inr (.inr (some (q)))), (2, .inl (i))]) (st' := [.inl (1)]) rfl ?_
        have e0 : cgn (gV (yD Ls) u) (k + 1).toNat = 0 := by first | (rw [show (k + 1).toNat = 0 by omega]; rfl) | (rw [cgn_s _ (by omega), if_neg (by omega)])
        have eo := odg_c (gV (yD Ls) u) (i - 1).toNat
        rw [show (i - 1).toNat + 1 = i.toNat by omega] at eo
        have ec : c = cgn (gV (yD Ls) u) i.toNat := by omega
        rw [← ec] at eo
        exact ez_retZ rfl rfl (Or.inr rfl) (k1 (gbd_4 hq12 nA nz (fun w => absurd (eo.mp w.2) (by omega))))
      · skip
        refine ez_go (n := 1) (pc' := 308) (L' := [(6, .inl (k)), (5, .inl (c)), (3, .inl (gV (yD Ls) u (i - 1))), (4, .inl (gV (yD Ls) u (i))), (0, .inr (.inr (some (770)))), (1, .inr (.inr (some (q)))), (2, .inl (i))]) (st' := [.inl (0)]) rfl ?_
        have e0 : cgn (gV (yD Ls) u) (k + 1).toNat = 0 := by first | (rw [show (k + 1).toNat = 0 by omega]; rfl) | (rw [cgn_s _ (by omega), if_neg (by omega)])
        have eo := odg_c (gV (yD Ls) u) (i - 1).toNat
        rw [show (i - 1).toNat + 1 = i.toNat by omega] at eo
        have ec : c = cgn (gV (yD Ls) u) i.toNat := by omega
        rw [← ec] at eo
        exact ez_retZ rfl rfl (Or.inl rfl) (k0 (gbd_n i0 i1 (Or.inr ⟨⟨wa, wb⟩, Or.inr (Or.inr ⟨b6, eo.mpr (by omega)⟩)⟩)))
    · skip
      refine ez_go (n := 3) (pc' := 279) (L' := [(6, .inl (k)), (5, .inl (c)), (3, .inl (gV (yD Ls) u (i - 1))), (4, .inl (gV (yD Ls) u (i))), (0, .inr (.inr (some (770)))), (1, .inr (.inr (some (q)))), (2, .inl (i))]) (st' := [.inl (k), .inr (.inr (some (q))), .inr (.inr (some (770)))]) rfl ?_
      have n4 : 2000 ≤ qz_N h q ∧ qz_N h q ≤ 2000 := ez_len hB tq tq_37 rfl
      refine ez_aI hB tq rfl tq_37 rfl rfl (by omega) (by omega) (fun (b3 : -2147483648 ≤ qz_I h q (k).toNat) (b3' : qz_I h q (k).toNat ≤ 2147483647) => ?_)
      have pb := uX_ptl mt.2.1.2 (show (k).toNat < u.length by omega)
      have prg : ez_rg (uX u (k)) := ⟨by omega, by omega⟩
      rw [show qz_I h q (k).toNat = uX u (k) from mt.2.2 (k) (by omega) (by omega)]
      refine ez_go (n := 1) (pc' := 282) (L' := [(6, .inl (k)), (5, .inl (c)), (3, .inl (gV (yD Ls) u (i - 1))), (4, .inl (gV (yD Ls) u (i))), (0, .inr (.inr (some (770)))), (1, .inr (.inr (some (q)))), (2, .inl (i))]) (st' := [.inl (6), .inl (uX u (k)), .inr (.inr (some (770)))]) rfl ?_
      refine ez_cv hB t770 rfl rfl rfl tq_75 rfl rfl rfl (rd_mk6 hI prg (fun kr1 => ez_K1 ?_))
      have kr1 : ez_rg (gV (yD Ls) u (k)) := kr1
      obtain ⟨kr1a, kr1b⟩ := id kr1
      rw [show (yD Ls (uX u (k))).2.1.2.1 = gV (yD Ls) u (k) from rfl]
      refine ez_go (n := 1) (pc' := 287) (L' := [(6, .inl (k)), (5, .inl (c)), (3, .inl (gV (yD Ls) u (i - 1))), (4, .inl (gV (yD Ls) u (i))), (0, .inr (.inr (some (770)))), (1, .inr (.inr (some (q)))), (2, .inl (i))]) (st' := [.inl (6), .inl (gV (yD Ls) u (k))]) rfl ?_
      refine ez_icmp rfl rfl ⟨by first | omega | exact (sz_i32 _).1, by first | omega | exact (sz_i32 _).2⟩ ⟨by first | omega | exact (sz_i32 _).1, by first | omega | exact (sz_i32 _).2⟩ (fun (c5 : (gV (yD Ls) u (k)) ≠ (6)) => ?_) (fun (c5 : ¬((gV (yD Ls) u (k)) ≠ (6))) => ?_)
      · skip
        refine ez_go (n := 2) (pc' := 302) (L' := [(6, .inl (k)), (5, .inl (c)), (3, .inl (gV (yD Ls) u (i - 1))), (4, .inl (gV (yD Ls) u (i))), (0, .inr (.inr (some (770)))), (1, .inr (.inr (some (q)))), (2, .inl (i))]) (st' := [.inl (2), .inl (c)]) rfl ?_
        refine ez_rem rfl (by omega) (by omega) (by omega) (by omega) ?_
        refine ez_go (n := 1) (pc' := 304) (L' := [(6, .inl (k)), (5, .inl (c)), (3, .inl (gV (yD Ls) u (i - 1))), (4, .inl (gV (yD Ls) u (i))), (0, .inr (.inr (some (770)))), (1, .inr (.inr (some (q)))), (2, .inl (i))]) (st' := [.inl (1), .inl ((c) % (2))]) rfl ?_
        refine ez_icmp rfl rfl ⟨by first | omega | exact (sz_i32 _).1, by first | omega | exact (sz_i32 _).2⟩ ⟨by first | omega | exact (sz_i32 _).1, by first | omega | exact (sz_i32 _).2⟩ (fun (c6 : ((c) % (2)) ≠ (1)) => ?_) (fun (c6 : ¬(((c) % (2)) ≠ (1))) => ?_)
        · skip
          refine ez_go (n := 1) (pc' := 310) (L' := [(6, .inl (k)), (5, .inl (c)), (3, .inl (gV (yD Ls) u (i - 1))), (4, .inl (gV (yD Ls) u (i))), (0, .inr (.inr (some (770)))), (1, .inr (.inr (some (q)))), (2, .inl (i))]) (st' := [.inl (1)]) rfl ?_
          have e0 : cgn (gV (yD Ls) u) (k + 1).toNat = 0 := by first | (rw [show (k + 1).toNat = 0 by omega]; rfl) | (rw [cgn_s _ (by omega), if_neg (by omega)])
          have eo := odg_c (gV (yD Ls) u) (i - 1).toNat
          rw [show (i - 1).toNat + 1 = i.toNat by omega] at eo
          have ec : c = cgn (gV (yD Ls) u) i.toNat := by omega
          rw [← ec] at eo
          exact ez_retZ rfl rfl (Or.inr rfl) (k1 (gbd_4 hq12 nA nz (fun w => absurd (eo.mp w.2) (by omega))))
        · skip
          refine ez_go (n := 1) (pc' := 308) (L' := [(6, .inl (k)), (5, .inl (c)), (3, .inl (gV (yD Ls) u (i - 1))), (4, .inl (gV (yD Ls) u (i))), (0, .inr (.inr (some (770)))), (1, .inr (.inr (some (q)))), (2, .inl (i))]) (st' := [.inl (0)]) rfl ?_
          have e0 : cgn (gV (yD Ls) u) (k + 1).toNat = 0 := by first | (rw [show (k + 1).toNat = 0 by omega]; rfl) | (rw [cgn_s _ (by omega), if_neg (by omega)])
          have eo := odg_c (gV (yD Ls) u) (i - 1).toNat
          rw [show (i - 1).toNat + 1 = i.toNat by omega] at eo
          have ec : c = cgn (gV (yD Ls) u) i.toNat := by omega
          rw [← ec] at eo
          exact ez_retZ rfl rfl (Or.inl rfl) (k0 (gbd_n i0 i1 (Or.inr ⟨⟨wa, wb⟩, Or.inr (Or.inr ⟨b6, eo.mpr (by omega)⟩)⟩)))
      · skip
        refine ez_go (n := 3) (pc' := 270) (L' := [(6, .inl (k + (-1))), (5, .inl (c + 1)), (3, .inl (gV (yD Ls) u (i - 1))), (4, .inl (gV (yD Ls) u (i))), (0, .inr (.inr (some (770)))), (1, .inr (.inr (some (q)))), (2, .inl (i))]) (st' := []) rfl ?_
        refine ez_less [(6, .inl (k + (-1))), (5, .inl (c + 1)), (3, .inl (gV (yD Ls) u (i - 1))), (4, .inl (gV (yD Ls) u (i))), (0, .inr (.inr (some (770)))), (1, .inr (.inr (some (q)))), (2, .inl (i))] rfl ⟨rfl, rfl, rfl, rfl, rfl, rfl, rfl, trivial⟩ ?_
        refine ih (k + (-1)) (c + 1) (by omega) (by omega) (by omega) (by omega) ?_
        have e9 := cgn_s (gV (yD Ls) u) (k := k) (by omega)
        rw [if_pos (by omega)] at e9
        rw [show (k + (-1) + 1).toNat = k.toNat by omega]; omega

theorem rd_mcc {i : Int} (hI : mI τ h Ls b) (mt : mtx τ h q u) (i0 : 0 < i) (i1 : i < (u.length : Int)) (k1 : gbd (gV (yD Ls) u) (wpi (yD Ls) u) u.length i → Q (.inl (some (ez_v (.inl 1))), h)) (k0 : ¬ gbd (gV (yD Ls) u) (wpi (yD Ls) u) u.length i → Q (.inl (some (ez_v (.inl 0))), h)) (ra : ez_rg (gV (yD Ls) u (i - 1))) (rb : ez_rg (gV (yD Ls) u (i))) (hq12 : ¬ (gV (yD Ls) u (i - 1) = 1 ∧ gV (yD Ls) u (i) = 2)) (wa : ¬ ctl (gV (yD Ls) u (i - 1))) (wb : ¬ ctl (gV (yD Ls) u (i))) (nA : ¬ gA (gV (yD Ls) u (i - 1)) (gV (yD Ls) u (i))) (nz : ¬ (gV (yD Ls) u (i - 1) = 5 ∧ wpi (yD Ls) u i ∧ pbf (gV (yD Ls) u) (wpi (yD Ls) u) (i - 1).toNat)) : ez_W (d + 1) cm_233 249 [(3, .inl (gV (yD Ls) u (i - 1))), (4, .inl (gV (yD Ls) u (i))), (0, .inr (.inr (some (770)))), (1, .inr (.inr (some (q)))), (2, .inl (i))] [] h Q := by
  have hB := hI.1
  have t770 : τ 770 = 75 := hI.2.1 770 (by decide)
  have b12 : 0 ≤ qz_I h 770 12 ∧ qz_I h 770 12 ≤ 512 := ez_fB (cl := 11) (k := 12) hB t770 tq_75 rfl rfl (by decide)
  have lce : lc h = qz_I h 770 12 := rfl
  have nls : lc h ≤ qz_N h (ls h) := hI.2.2.1.1.1
  have tq := mt.1
  have n2 := mt.2.1.1
  obtain ⟨ra1, ra2⟩ := id ra
  obtain ⟨rb1, rb2⟩ := id rb
  refine ez_go (n := 2) (pc' := 252) (L' := [(3, .inl (gV (yD Ls) u (i - 1))), (4, .inl (gV (yD Ls) u (i))), (0, .inr (.inr (some (770)))), (1, .inr (.inr (some (q)))), (2, .inl (i))]) (st' := [.inl (6), .inl (gV (yD Ls) u (i - 1))]) rfl ?_
  refine ez_icmp rfl rfl ⟨by first | omega | exact (sz_i32 _).1, by first | omega | exact (sz_i32 _).2⟩ ⟨by first | omega | exact (sz_i32 _).1, by first | omega | exact (sz_i32 _).2⟩ (fun (c1 : (gV (yD Ls) u (i - 1)) ≠ (6)) => ?_) (fun (c1 : ¬((gV (yD Ls) u (i - 1)) ≠ (6))) => ?_)
  · skip
    refine ez_go (n := 1) (pc' := 310) (L' := [(3, .inl (gV (yD Ls) u (i - 1))), (4, .inl (gV (yD Ls) u (i))), (0, .inr (.inr (some (770)))), (1, .inr (.inr (some (q)))), (2, .inl (i))]) (st' := [.inl (1)]) rfl ?_
    exact ez_retZ rfl rfl (Or.inr rfl) (k1 (gbd_4 hq12 nA nz (fun w => by have w2 := (odg_s (gV (yD Ls) u) (i := i - 1) (by omega)).mp w.2; have := w.1; have := w2.1; omega)))
  · skip
    refine ez_go (n := 2) (pc' := 259) (L' := [(3, .inl (gV (yD Ls) u (i - 1))), (4, .inl (gV (yD Ls) u (i))), (0, .inr (.inr (some (770)))), (1, .inr (.inr (some (q)))), (2, .inl (i))]) (st' := [.inl (6), .inl (gV (yD Ls) u (i))]) rfl ?_
    refine ez_icmp rfl rfl ⟨by first | omega | exact (sz_i32 _).1, by first | omega | exact (sz_i32 _).2⟩ ⟨by first | omega | exact (sz_i32 _).1, by first | omega | exact (sz_i32 _).2⟩ (fun (c2 : (gV (yD Ls) u (i)) ≠ (6)) => ?_) (fun (c2 : ¬((gV (yD Ls) u (i)) ≠ (6))) => ?_)
    · skip
      refine ez_go (n := 1) (pc' := 310) (L' := [(3, .inl (gV (yD Ls) u (i - 1))), (4, .inl (gV (yD Ls) u (i))), (0, .inr (.inr (some (770)))), (1, .inr (.inr (some (q)))), (2, .inl (i))]) (st' := [.inl (1)]) rfl ?_
      exact ez_retZ rfl rfl (Or.inr rfl) (k1 (gbd_4 hq12 nA nz (fun w => by have w2 := (odg_s (gV (yD Ls) u) (i := i - 1) (by omega)).mp w.2; have := w.1; have := w2.1; omega)))
    · skip
      refine ez_go (n := 6) (pc' := 270) (L' := [(6, .inl ((i) - (1))), (5, .inl (0)), (3, .inl (gV (yD Ls) u (i - 1))), (4, .inl (gV (yD Ls) u (i))), (0, .inr (.inr (some (770)))), (1, .inr (.inr (some (q)))), (2, .inl (i))]) (st' := []) rfl ?_
      refine ez_less [(6, .inl ((i) - (1))), (5, .inl (0)), (3, .inl (gV (yD Ls) u (i - 1))), (4, .inl (gV (yD Ls) u (i))), (0, .inr (.inr (some (770)))), (1, .inr (.inr (some (q)))), (2, .inl (i))] rfl ⟨rfl, rfl, rfl, rfl, rfl, rfl, rfl, trivial⟩ ?_
      exact rd_mcc_l hI mt i0 i1 k1 k0 ra rb hq12 wa wb nA nz (by omega) _ _ _ rfl (by omega) (by omega) (by omega) (by rw [show ((i) - (1) + 1).toNat = i.toNat by omega]; omega)

theorem rd_mcp_l {i : Int} (hI : mI τ h Ls b) (mt : mtx τ h q u) (i0 : 0 < i) (i1 : i < (u.length : Int)) (k1 : gbd (gV (yD Ls) u) (wpi (yD Ls) u) u.length i → Q (.inl (some (ez_v (.inl 1))), h)) (k0 : ¬ gbd (gV (yD Ls) u) (wpi (yD Ls) u) u.length i → Q (.inl (some (ez_v (.inl 0))), h)) (ra : ez_rg (gV (yD Ls) u (i - 1))) (rb : ez_rg (gV (yD Ls) u (i))) (hq12 : ¬ (gV (yD Ls) u (i - 1) = 1 ∧ gV (yD Ls) u (i) = 2)) (wa : ¬ ctl (gV (yD Ls) u (i - 1))) (wb : ¬ ctl (gV (yD Ls) u (i))) (nA : ¬ gA (gV (yD Ls) u (i - 1)) (gV (yD Ls) u (i))) (a5 : gV (yD Ls) u (i - 1) = 5) (pi : wpi (yD Ls) u i) : ∀ (n : Nat) (k : Int), n = (k + 1).toNat → -1 ≤ k → k < i - 1 → (pbf (gV (yD Ls) u) (wpi (yD Ls) u) (i - 1).toNat ↔ pbf (gV (yD Ls) u) (wpi (yD Ls) u) (k + 1).toNat) → ez_W (d + 1) cm_233 193 [(5, .inl (k)), (3, .inl (gV (yD Ls) u (i - 1))), (4, .inl (gV (yD Ls) u (i))), (0, .inr (.inr (some (770)))), (1, .inr (.inr (some (q)))), (2, .inl (i))] [] h Q := by
  have hB := hI.1
  have t770 : τ 770 = 75 := hI.2.1 770 (by decide)
  have b12 : 0 ≤ qz_I h 770 12 ∧ qz_I h 770 12 ≤ 512 := ez_fB (cl := 11) (k := 12) hB t770 tq_75 rfl rfl (by decide)
  have lce : lc h = qz_I h 770 12 := rfl
  have nls : lc h ≤ qz_N h (ls h) := hI.2.2.1.1.1
  have tq := mt.1
  have n2 := mt.2.1.1
  obtain ⟨ra1, ra2⟩ := id ra
  obtain ⟨rb1, rb2⟩ := id rb
  intro n
  induction n with
  | zero =>
    intro k hn0 ka kb he
    refine ez_go (n := 1) (pc' := 195) (L' := [(5, .inl (k)), (3, .inl (gV (yD Ls) u (i - 1))), (4, .inl (gV (yD Ls) u (i))), (0, .inr (.inr (some (770)))), (1, .inr (.inr (some (q)))), (2, .inl (i))]) (st' := [.inl (k)]) rfl ?_
    refine ez_if rfl rfl ⟨by first | omega | exact (sz_i32 _).1, by first | omega | exact (sz_i32 _).2⟩ (fun (c1 : (k) < (0)) => ?_) (fun (c1 : ¬((k) < (0))) => ?_)
    · skip
      refine ez_go (n := 1) (pc' := 232) (L' := [(5, .inl (k)), (3, .inl (gV (yD Ls) u (i - 1))), (4, .inl (gV (yD Ls) u (i))), (0, .inr (.inr (some (770)))), (1, .inr (.inr (some (q)))), (2, .inl (i))]) (st' := [.inl (k)]) rfl ?_
      refine ez_if rfl rfl ⟨by first | omega | exact (sz_i32 _).1, by first | omega | exact (sz_i32 _).2⟩ (fun (c2 : (k) < (0)) => ?_) (fun (c2 : ¬((k) < (0))) => ?_)
      · skip
        refine ez_less [(3, .inl (gV (yD Ls) u (i - 1))), (4, .inl (gV (yD Ls) u (i))), (0, .inr (.inr (some (770)))), (1, .inr (.inr (some (q)))), (2, .inl (i))] rfl ⟨rfl, rfl, rfl, rfl, rfl, trivial⟩ ?_
        first | (exfalso; omega) | contradiction | exact rd_mcc hI mt i0 i1 k1 k0 ra rb hq12 wa wb nA (fun w => by have w := he.mp w.2.2; first | exact absurd w (pbf_0 _ _ (by omega)) | (rw [pbf_s _ _ (by omega)] at w; rcases w with w | w; (· exact absurd w (by assumption)); (· have := w.1; omega)))
      · skip
        refine ez_go (n := 3) (pc' := 239) (L' := [(5, .inl (k)), (3, .inl (gV (yD Ls) u (i - 1))), (4, .inl (gV (yD Ls) u (i))), (0, .inr (.inr (some (770)))), (1, .inr (.inr (some (q)))), (2, .inl (i))]) (st' := [.inl (k), .inr (.inr (some (q))), .inr (.inr (some (770)))]) rfl ?_
        have n4 : 2000 ≤ qz_N h q ∧ qz_N h q ≤ 2000 := ez_len hB tq tq_37 rfl
        refine ez_aI hB tq rfl tq_37 rfl rfl (by omega) (by omega) (fun (b3 : -2147483648 ≤ qz_I h q (k).toNat) (b3' : qz_I h q (k).toNat ≤ 2147483647) => ?_)
        have pb := uX_ptl mt.2.1.2 (show (k).toNat < u.length by omega)
        have prg : ez_rg (uX u (k)) := ⟨by omega, by omega⟩
        rw [show qz_I h q (k).toNat = uX u (k) from mt.2.2 (k) (by omega) (by omega)]
        refine ez_go (n := 1) (pc' := 241) (L' := [(5, .inl (k)), (3, .inl (gV (yD Ls) u (i - 1))), (4, .inl (gV (yD Ls) u (i))), (0, .inr (.inr (some (770)))), (1, .inr (.inr (some (q)))), (2, .inl (i))]) (st' := [.inl (4), .inl (uX u (k)), .inr (.inr (some (770)))]) rfl ?_
        refine ez_cv hB t770 rfl rfl rfl tq_75 rfl rfl rfl (rd_mhas (m := 16) hI prg (by unfold qm; omega) (fun (wh1 : wpi (yD Ls) u (k)) => ez_K1 ?_) (fun (wh1 : ¬ wpi (yD Ls) u (k)) => ez_K1 ?_))
        · skip
          refine ez_if rfl rfl ⟨by decide, by decide⟩ (fun (c5 : (1 : Int) = (0)) => absurd c5 (by decide)) (fun _ => ?_)
          refine ez_go (n := 1) (pc' := 248) (L' := [(5, .inl (k)), (3, .inl (gV (yD Ls) u (i - 1))), (4, .inl (gV (yD Ls) u (i))), (0, .inr (.inr (some (770)))), (1, .inr (.inr (some (q)))), (2, .inl (i))]) (st' := [.inl (0)]) rfl ?_
          first | (exfalso; omega) | exact ez_retZ rfl rfl (Or.inl rfl) (k0 (gbd_n i0 i1 (Or.inr ⟨⟨wa, wb⟩, Or.inr (Or.inl ⟨a5, pi, he.mpr ((pbf_s _ _ (by omega)).mpr (Or.inl (by assumption)))⟩)⟩)))
        · skip
          refine ez_if rfl rfl ⟨by decide, by decide⟩ (fun _ => ?_) (fun (c6 : ¬((0 : Int) = (0))) => absurd c6 (by decide))
          refine ez_less [(3, .inl (gV (yD Ls) u (i - 1))), (4, .inl (gV (yD Ls) u (i))), (0, .inr (.inr (some (770)))), (1, .inr (.inr (some (q)))), (2, .inl (i))] rfl ⟨rfl, rfl, rfl, rfl, rfl, trivial⟩ ?_
          first | (exfalso; omega) | contradiction | exact rd_mcc hI mt i0 i1 k1 k0 ra rb hq12 wa wb nA (fun w => by have w := he.mp w.2.2; first | exact absurd w (pbf_0 _ _ (by omega)) | (rw [pbf_s _ _ (by omega)] at w; rcases w with w | w; (· exact absurd w (by assumption)); (· have := w.1; omega)))
    · skip
      refine ez_go (n := 3) (pc' := 202) (L' := [(5, .inl (k)), (3, .inl (gV (yD Ls) u (i - 1))), (4, .inl (gV (yD Ls) u (i))), (0, .inr (.inr (some (770)))), (1, .inr (.inr (some (q)))), (2, .inl (i))]) (st' := [.inl (k), .inr (.inr (some (q))), .inr (.inr (some (770)))]) rfl ?_
      have n8 : 2000 ≤ qz_N h q ∧ qz_N h q ≤ 2000 := ez_len hB tq tq_37 rfl
      refine ez_aI hB tq rfl tq_37 rfl rfl (by omega) (by omega) (fun (b7 : -2147483648 ≤ qz_I h q (k).toNat) (b7' : qz_I h q (k).toNat ≤ 2147483647) => ?_)
      have pb := uX_ptl mt.2.1.2 (show (k).toNat < u.length by omega)
      have prg : ez_rg (uX u (k)) := ⟨by omega, by omega⟩
      rw [show qz_I h q (k).toNat = uX u (k) from mt.2.2 (k) (by omega) (by omega)]
      refine ez_go (n := 1) (pc' := 204) (L' := [(5, .inl (k)), (3, .inl (gV (yD Ls) u (i - 1))), (4, .inl (gV (yD Ls) u (i))), (0, .inr (.inr (some (770)))), (1, .inr (.inr (some (q)))), (2, .inl (i))]) (st' := [.inl (4), .inl (uX u (k)), .inr (.inr (some (770)))]) rfl ?_
      refine ez_cv hB t770 rfl rfl rfl tq_75 rfl rfl rfl (rd_mhas (m := 16) hI prg (by unfold qm; omega) (fun (wh2 : wpi (yD Ls) u (k)) => ez_K1 ?_) (fun (wh2 : ¬ wpi (yD Ls) u (k)) => ez_K1 ?_))
      · skip
        refine ez_if rfl rfl ⟨by decide, by decide⟩ (fun _ => ?_) (fun (c9 : ¬((1 : Int) ≠ (0))) => absurd c9 (by decide))
        refine ez_go (n := 1) (pc' := 232) (L' := [(5, .inl (k)), (3, .inl (gV (yD Ls) u (i - 1))), (4, .inl (gV (yD Ls) u (i))), (0, .inr (.inr (some (770)))), (1, .inr (.inr (some (q)))), (2, .inl (i))]) (st' := [.inl (k)]) rfl ?_
        refine ez_if rfl rfl ⟨by first | omega | exact (sz_i32 _).1, by first | omega | exact (sz_i32 _).2⟩ (fun (c10 : (k) < (0)) => ?_) (fun (c10 : ¬((k) < (0))) => ?_)
        · skip
          refine ez_less [(3, .inl (gV (yD Ls) u (i - 1))), (4, .inl (gV (yD Ls) u (i))), (0, .inr (.inr (some (770)))), (1, .inr (.inr (some (q)))), (2, .inl (i))] rfl ⟨rfl, rfl, rfl, rfl, rfl, trivial⟩ ?_
          first | (exfalso; omega) | contradiction | exact rd_mcc hI mt i0 i1 k1 k0 ra rb hq12 wa wb nA (fun w => by have w := he.mp w.2.2; first | exact absurd w (pbf_0 _ _ (by omega)) | (rw [pbf_s _ _ (by omega)] at w; rcases w with w | w; (· exact absurd w (by assumption)); (· have := w.1; omega)))
        · skip
          refine ez_go (n := 3) (pc' := 239) (L' := [(5, .inl (k)), (3, .inl (gV (yD Ls) u (i - 1))), (4, .inl (gV (yD Ls) u (i))), (0, .inr (.inr (some (770)))), (1, .inr (.inr (some (q)))), (2, .inl (i))]) (st' := [.inl (k), .inr (.inr (some (q))), .inr (.inr (some (770)))]) rfl ?_
          have n12 : 2000 ≤ qz_N h q ∧ qz_N h q ≤ 2000 := ez_len hB tq tq_37 rfl
          refine ez_aI hB tq rfl tq_37 rfl rfl (by omega) (by omega) (fun (b11 : -2147483648 ≤ qz_I h q (k).toNat) (b11' : qz_I h q (k).toNat ≤ 2147483647) => ?_)
          have pb := uX_ptl mt.2.1.2 (show (k).toNat < u.length by omega)
          have prg : ez_rg (uX u (k)) := ⟨by omega, by omega⟩
          rw [show qz_I h q (k).toNat = uX u (k) from mt.2.2 (k) (by omega) (by omega)]
          refine ez_go (n := 1) (pc' := 241) (L' := [(5, .inl (k)), (3, .inl (gV (yD Ls) u (i - 1))), (4, .inl (gV (yD Ls) u (i))), (0, .inr (.inr (some (770)))), (1, .inr (.inr (some (q)))), (2, .inl (i))]) (st' := [.inl (4), .inl (uX u (k)), .inr (.inr (some (770)))]) rfl ?_
          refine ez_cv hB t770 rfl rfl rfl tq_75 rfl rfl rfl (rd_mhas (m := 16) hI prg (by unfold qm; omega) (fun (wh3 : wpi (yD Ls) u (k)) => ez_K1 ?_) (fun (wh3 : ¬ wpi (yD Ls) u (k)) => ez_K1 ?_))
          · skip
            refine ez_if rfl rfl ⟨by decide, by decide⟩ (fun (c13 : (1 : Int) = (0)) => absurd c13 (by decide)) (fun _ => ?_)
            refine ez_go (n := 1) (pc' := 248) (L' := [(5, .inl (k)), (3, .inl (gV (yD Ls) u (i - 1))), (4, .inl (gV (yD Ls) u (i))), (0, .inr (.inr (some (770)))), (1, .inr (.inr (some (q)))), (2, .inl (i))]) (st' := [.inl (0)]) rfl ?_
            first | (exfalso; omega) | exact ez_retZ rfl rfl (Or.inl rfl) (k0 (gbd_n i0 i1 (Or.inr ⟨⟨wa, wb⟩, Or.inr (Or.inl ⟨a5, pi, he.mpr ((pbf_s _ _ (by omega)).mpr (Or.inl (by assumption)))⟩)⟩)))
          · skip
            refine ez_if rfl rfl ⟨by decide, by decide⟩ (fun _ => ?_) (fun (c14 : ¬((0 : Int) = (0))) => absurd c14 (by decide))
            refine ez_less [(3, .inl (gV (yD Ls) u (i - 1))), (4, .inl (gV (yD Ls) u (i))), (0, .inr (.inr (some (770)))), (1, .inr (.inr (some (q)))), (2, .inl (i))] rfl ⟨rfl, rfl, rfl, rfl, rfl, trivial⟩ ?_
            first | (exfalso; omega) | contradiction | exact rd_mcc hI mt i0 i1 k1 k0 ra rb hq12 wa wb nA (fun w => by have w := he.mp w.2.2; first | exact absurd w (pbf_0 _ _ (by omega)) | (rw [pbf_s _ _ (by omega)] at w; rcases w with w | w; (· exact absurd w (by assumption)); (· have := w.1; omega)))
      · skip
        refine ez_if rfl rfl ⟨by decide, by decide⟩ (fun (c15 : (0 : Int) ≠ (0)) => absurd c15 (by decide)) (fun _ => ?_)
        refine ez_go (n := 3) (pc' := 214) (L' := [(5, .inl (k)), (3, .inl (gV (yD Ls) u (i - 1))), (4, .inl (gV (yD Ls) u (i))), (0, .inr (.inr (some (770)))), (1, .inr (.inr (some (q)))), (2, .inl (i))]) (st' := [.inl (k), .inr (.inr (some (q))), .inr (.inr (some (770)))]) rfl ?_
        have n17 : 2000 ≤ qz_N h q ∧ qz_N h q ≤ 2000 := ez_len hB tq tq_37 rfl
        refine ez_aI hB tq rfl tq_37 rfl rfl (by omega) (by omega) (fun (b16 : -2147483648 ≤ qz_I h q (k).toNat) (b16' : qz_I h q (k).toNat ≤ 2147483647) => ?_)
        have pb := uX_ptl mt.2.1.2 (show (k).toNat < u.length by omega)
        have prg : ez_rg (uX u (k)) := ⟨by omega, by omega⟩
        rw [show qz_I h q (k).toNat = uX u (k) from mt.2.2 (k) (by omega) (by omega)]
        refine ez_go (n := 1) (pc' := 217) (L' := [(5, .inl (k)), (3, .inl (gV (yD Ls) u (i - 1))), (4, .inl (gV (yD Ls) u (i))), (0, .inr (.inr (some (770)))), (1, .inr (.inr (some (q)))), (2, .inl (i))]) (st' := [.inl (6), .inl (uX u (k)), .inr (.inr (some (770)))]) rfl ?_
        refine ez_cv hB t770 rfl rfl rfl tq_75 rfl rfl rfl (rd_mk6 hI prg (fun kr4 => ez_K1 ?_))
        have kr4 : ez_rg (gV (yD Ls) u (k)) := kr4
        obtain ⟨kr4a, kr4b⟩ := id kr4
        rw [show (yD Ls (uX u (k))).2.1.2.1 = gV (yD Ls) u (k) from rfl]
        refine ez_go (n := 1) (pc' := 221) (L' := [(5, .inl (k)), (3, .inl (gV (yD Ls) u (i - 1))), (4, .inl (gV (yD Ls) u (i))), (0, .inr (.inr (some (770)))), (1, .inr (.inr (some (q)))), (2, .inl (i))]) (st' := [.inl (4), .inl (gV (yD Ls) u (k))]) rfl ?_
        refine ez_icmp rfl rfl ⟨by first | omega | exact (sz_i32 _).1, by first | omega | exact (sz_i32 _).2⟩ ⟨by first | omega | exact (sz_i32 _).1, by first | omega | exact (sz_i32 _).2⟩ (fun (c18 : (gV (yD Ls) u (k)) ≠ (4)) => ?_) (fun (c18 : ¬((gV (yD Ls) u (k)) ≠ (4))) => ?_)
        · skip
          refine ez_go (n := 1) (pc' := 232) (L' := [(5, .inl (k)), (3, .inl (gV (yD Ls) u (i - 1))), (4, .inl (gV (yD Ls) u (i))), (0, .inr (.inr (some (770)))), (1, .inr (.inr (some (q)))), (2, .inl (i))]) (st' := [.inl (k)]) rfl ?_
          refine ez_if rfl rfl ⟨by first | omega | exact (sz_i32 _).1, by first | omega | exact (sz_i32 _).2⟩ (fun (c19 : (k) < (0)) => ?_) (fun (c19 : ¬((k) < (0))) => ?_)
          · skip
            refine ez_less [(3, .inl (gV (yD Ls) u (i - 1))), (4, .inl (gV (yD Ls) u (i))), (0, .inr (.inr (some (770)))), (1, .inr (.inr (some (q)))), (2, .inl (i))] rfl ⟨rfl, rfl, rfl, rfl, rfl, trivial⟩ ?_
            first | (exfalso; omega) | contradiction | exact rd_mcc hI mt i0 i1 k1 k0 ra rb hq12 wa wb nA (fun w => by have w := he.mp w.2.2; first | exact absurd w (pbf_0 _ _ (by omega)) | (rw [pbf_s _ _ (by omega)] at w; rcases w with w | w; (· exact absurd w (by assumption)); (· have := w.1; omega)))
          · skip
            refine ez_go (n := 3) (pc' := 239) (L' := [(5, .inl (k)), (3, .inl (gV (yD Ls) u (i - 1))), (4, .inl (gV (yD Ls) u (i))), (0, .inr (.inr (some (770)))), (1, .inr (.inr (some (q)))), (2, .inl (i))]) (st' := [.inl (k), .inr (.inr (some (q))), .inr (.inr (some (770)))]) rfl ?_
            have n21 : 2000 ≤ qz_N h q ∧ qz_N h q ≤ 2000 := ez_len hB tq tq_37 rfl
            refine ez_aI hB tq rfl tq_37 rfl rfl (by omega) (by omega) (fun (b20 : -2147483648 ≤ qz_I h q (k).toNat) (b20' : qz_I h q (k).toNat ≤ 2147483647) => ?_)
            have pb := uX_ptl mt.2.1.2 (show (k).toNat < u.length by omega)
            have prg : ez_rg (uX u (k)) := ⟨by omega, by omega⟩
            rw [show qz_I h q (k).toNat = uX u (k) from mt.2.2 (k) (by omega) (by omega)]
            refine ez_go (n := 1) (pc' := 241) (L' := [(5, .inl (k)), (3, .inl (gV (yD Ls) u (i - 1))), (4, .inl (gV (yD Ls) u (i))), (0, .inr (.inr (some (770)))), (1, .inr (.inr (some (q)))), (2, .inl (i))]) (st' := [.inl (4), .inl (uX u (k)), .inr (.inr (some (770)))]) rfl ?_
            refine ez_cv hB t770 rfl rfl rfl tq_75 rfl rfl rfl (rd_mhas (m := 16) hI prg (by unfold qm; omega) (fun (wh5 : wpi (yD Ls) u (k)) => ez_K1 ?_) (fun (wh5 : ¬ wpi (yD Ls) u (k)) => ez_K1 ?_))
            · skip
              refine ez_if rfl rfl ⟨by decide, by decide⟩ (fun (c22 : (1 : Int) = (0)) => absurd c22 (by decide)) (fun _ => ?_)
              refine ez_go (n := 1) (pc' := 248) (L' := [(5, .inl (k)), (3, .inl (gV (yD Ls) u (i - 1))), (4, .inl (gV (yD Ls) u (i))), (0, .inr (.inr (some (770)))), (1, .inr (.inr (some (q)))), (2, .inl (i))]) (st' := [.inl (0)]) rfl ?_
              first | (exfalso; omega) | exact ez_retZ rfl rfl (Or.inl rfl) (k0 (gbd_n i0 i1 (Or.inr ⟨⟨wa, wb⟩, Or.inr (Or.inl ⟨a5, pi, he.mpr ((pbf_s _ _ (by omega)).mpr (Or.inl (by assumption)))⟩)⟩)))
            · skip
              refine ez_if rfl rfl ⟨by decide, by decide⟩ (fun _ => ?_) (fun (c23 : ¬((0 : Int) = (0))) => absurd c23 (by decide))
              refine ez_less [(3, .inl (gV (yD Ls) u (i - 1))), (4, .inl (gV (yD Ls) u (i))), (0, .inr (.inr (some (770)))), (1, .inr (.inr (some (q)))), (2, .inl (i))] rfl ⟨rfl, rfl, rfl, rfl, rfl, trivial⟩ ?_
              first | (exfalso; omega) | contradiction | exact rd_mcc hI mt i0 i1 k1 k0 ra rb hq12 wa wb nA (fun w => by have w := he.mp w.2.2; first | exact absurd w (pbf_0 _ _ (by omega)) | (rw [pbf_s _ _ (by omega)] at w; rcases w with w | w; (· exact absurd w (by assumption)); (· have := w.1; omega)))
        · skip
          refine ez_go (n := 2) (pc' := 193) (L' := [(5, .inl (k + (-1))), (3, .inl (gV (yD Ls) u (i - 1))), (4, .inl (gV (yD Ls) u (i))), (0, .inr (.inr (some (770)))), (1, .inr (.inr (some (q)))), (2, .inl (i))]) (st' := []) rfl ?_
          exfalso; omega
  | succ n ih =>
    intro k hn0 ka kb he
    refine ez_go (n := 1) (pc' := 195) (L' := [(5, .inl (k)), (3, .inl (gV (yD Ls) u (i - 1))), (4, .inl (gV (yD Ls) u (i))), (0, .inr (.inr (some (770)))), (1, .inr (.inr (some (q)))), (2, .inl (i))]) (st' := [.inl (k)]) rfl ?_
    refine ez_if rfl rfl ⟨by first | omega | exact (sz_i32 _).1, by first | omega | exact (sz_i32 _).2⟩ (fun (c1 : (k) < (0)) => ?_) (fun (c1 : ¬((k) < (0))) => ?_)
    · skip
      refine ez_go (n := 1) (pc' := 232) (L' := [(5, .inl (k)), (3, .inl (gV (yD Ls) u (i - 1))), (4, .inl (gV (yD Ls) u (i))), (0, .inr (.inr (some (770)))), (1, .inr (.inr (some (q)))), (2, .inl (i))]) (st' := [.inl (k)]) rfl ?_
      refine ez_if rfl rfl ⟨by first | omega | exact (sz_i32 _).1, by first | omega | exact (sz_i32 _).2⟩ (fun (c2 : (k) < (0)) => ?_) (fun (c2 : ¬((k) < (0))) => ?_)
      · skip
        refine ez_less [(3, .inl (gV (yD Ls) u (i - 1))), (4, .inl (gV (yD Ls) u (i))), (0, .inr (.inr (some (770)))), (1, .inr (.inr (some (q)))), (2, .inl (i))] rfl ⟨rfl, rfl, rfl, rfl, rfl, trivial⟩ ?_
        first | (exfalso; omega) | contradiction | exact rd_mcc hI mt i0 i1 k1 k0 ra rb hq12 wa wb nA (fun w => by have w := he.mp w.2.2; first | exact absurd w (pbf_0 _ _ (by omega)) | (rw [pbf_s _ _ (by omega)] at w; rcases w with w | w; (· exact absurd w (by assumption)); (· have := w.1; omega)))
      · skip
        refine ez_go (n := 3) (pc' := 239) (L' := [(5, .inl (k)), (3, .inl (gV (yD Ls) u (i - 1))), (4, .inl (gV (yD Ls) u (i))), (0, .inr (.inr (some (770)))), (1, .inr (.inr (some (q)))), (2, .inl (i))]) (st' := [.inl (k), .inr (.inr (some (q))), .inr (.inr (some (770)))]) rfl ?_
        have n4 : 2000 ≤ qz_N h q ∧ qz_N h q ≤ 2000 := ez_len hB tq tq_37 rfl
        refine ez_aI hB tq rfl tq_37 rfl rfl (by omega) (by omega) (fun (b3 : -2147483648 ≤ qz_I h q (k).toNat) (b3' : qz_I h q (k).toNat ≤ 2147483647) => ?_)
        have pb := uX_ptl mt.2.1.2 (show (k).toNat < u.length by omega)
        have prg : ez_rg (uX u (k)) := ⟨by omega, by omega⟩
        rw [show qz_I h q (k).toNat = uX u (k) from mt.2.2 (k) (by omega) (by omega)]
        refine ez_go (n := 1) (pc' := 241) (L' := [(5, .inl (k)), (3, .inl (gV (yD Ls) u (i - 1))), (4, .inl (gV (yD Ls) u (i))), (0, .inr (.inr (some (770)))), (1, .inr (.inr (some (q)))), (2, .inl (i))]) (st' := [.inl (4), .inl (uX u (k)), .inr (.inr (some (770)))]) rfl ?_
        refine ez_cv hB t770 rfl rfl rfl tq_75 rfl rfl rfl (rd_mhas (m := 16) hI prg (by unfold qm; omega) (fun (wh1 : wpi (yD Ls) u (k)) => ez_K1 ?_) (fun (wh1 : ¬ wpi (yD Ls) u (k)) => ez_K1 ?_))
        · skip
          refine ez_if rfl rfl ⟨by decide, by decide⟩ (fun (c5 : (1 : Int) = (0)) => absurd c5 (by decide)) (fun _ => ?_)
          refine ez_go (n := 1) (pc' := 248) (L' := [(5, .inl (k)), (3, .inl (gV (yD Ls) u (i - 1))), (4, .inl (gV (yD Ls) u (i))), (0, .inr (.inr (some (770)))), (1, .inr (.inr (some (q)))), (2, .inl (i))]) (st' := [.inl (0)]) rfl ?_
          first | (exfalso; omega) | exact ez_retZ rfl rfl (Or.inl rfl) (k0 (gbd_n i0 i1 (Or.inr ⟨⟨wa, wb⟩, Or.inr (Or.inl ⟨a5, pi, he.mpr ((pbf_s _ _ (by omega)).mpr (Or.inl (by assumption)))⟩)⟩)))
        · skip
          refine ez_if rfl rfl ⟨by decide, by decide⟩ (fun _ => ?_) (fun (c6 : ¬((0 : Int) = (0))) => absurd c6 (by decide))
          refine ez_less [(3, .inl (gV (yD Ls) u (i - 1))), (4, .inl (gV (yD Ls) u (i))), (0, .inr (.inr (some (770)))), (1, .inr (.inr (some (q)))), (2, .inl (i))] rfl ⟨rfl, rfl, rfl, rfl, rfl, trivial⟩ ?_
          first | (exfalso; omega) | contradiction | exact rd_mcc hI mt i0 i1 k1 k0 ra rb hq12 wa wb nA (fun w => by have w := he.mp w.2.2; first | exact absurd w (pbf_0 _ _ (by omega)) | (rw [pbf_s _ _ (by omega)] at w; rcases w with w | w; (· exact absurd w (by assumption)); (· have := w.1; omega)))
    · skip
      refine ez_go (n := 3) (pc' := 202) (L' := [(5, .inl (k)), (3, .inl (gV (yD Ls) u (i - 1))), (4, .inl (gV (yD Ls) u (i))), (0, .inr (.inr (some (770)))), (1, .inr (.inr (some (q)))), (2, .inl (i))]) (st' := [.inl (k), .inr (.inr (some (q))), .inr (.inr (some (770)))]) rfl ?_
      have n8 : 2000 ≤ qz_N h q ∧ qz_N h q ≤ 2000 := ez_len hB tq tq_37 rfl
      refine ez_aI hB tq rfl tq_37 rfl rfl (by omega) (by omega) (fun (b7 : -2147483648 ≤ qz_I h q (k).toNat) (b7' : qz_I h q (k).toNat ≤ 2147483647) => ?_)
      have pb := uX_ptl mt.2.1.2 (show (k).toNat < u.length by omega)
      have prg : ez_rg (uX u (k)) := ⟨by omega, by omega⟩
      rw [show qz_I h q (k).toNat = uX u (k) from mt.2.2 (k) (by omega) (by omega)]
      refine ez_go (n := 1) (pc' := 204) (L' := [(5, .inl (k)), (3, .inl (gV (yD Ls) u (i - 1))), (4, .inl (gV (yD Ls) u (i))), (0, .inr (.inr (some (770)))), (1, .inr (.inr (some (q)))), (2, .inl (i))]) (st' := [.inl (4), .inl (uX u (k)), .inr (.inr (some (770)))]) rfl ?_
      refine ez_cv hB t770 rfl rfl rfl tq_75 rfl rfl rfl (rd_mhas (m := 16) hI prg (by unfold qm; omega) (fun (wh2 : wpi (yD Ls) u (k)) => ez_K1 ?_) (fun (wh2 : ¬ wpi (yD Ls) u (k)) => ez_K1 ?_))
      · skip
        refine ez_if rfl rfl ⟨by decide, by decide⟩ (fun _ => ?_) (fun (c9 : ¬((1 : Int) ≠ (0))) => absurd c9 (by decide))
        refine ez_go (n := 1) (pc' := 232) (L' := [(5, .inl (k)), (3, .inl (gV (yD Ls) u (i - 1))), (4, .inl (gV (yD Ls) u (i))), (0, .inr (.inr (some (770)))), (1, .inr (.inr (some (q)))), (2, .inl (i))]) (st' := [.inl (k)]) rfl ?_
        refine ez_if rfl rfl ⟨by first | omega | exact (sz_i32 _).1, by first | omega | exact (sz_i32 _).2⟩ (fun (c10 : (k) < (0)) => ?_) (fun (c10 : ¬((k) < (0))) => ?_)
        · skip
          refine ez_less [(3, .inl (gV (yD Ls) u (i - 1))), (4, .inl (gV (yD Ls) u (i))), (0, .inr (.inr (some (770)))), (1, .inr (.inr (some (q)))), (2, .inl (i))] rfl ⟨rfl, rfl, rfl, rfl, rfl, trivial⟩ ?_
          first | (exfalso; omega) | contradiction | exact rd_mcc hI mt i0 i1 k1 k0 ra rb hq12 wa wb nA (fun w => by have w := he.mp w.2.2; first | exact absurd w (pbf_0 _ _ (by omega)) | (rw [pbf_s _ _ (by omega)] at w; rcases w with w | w; (· exact absurd w (by assumption)); (· have := w.1; omega)))
        · skip
          refine ez_go (n := 3) (pc' := 239) (L' := [(5, .inl (k)), (3, .inl (gV (yD Ls) u (i - 1))), (4, .inl (gV (yD Ls) u (i))), (0, .inr (.inr (some (770)))), (1, .inr (.inr (some (q)))), (2, .inl (i))]) (st' := [.inl (k), .inr (.inr (some (q))), .inr (.inr (some (770)))]) rfl ?_
          have n12 : 2000 ≤ qz_N h q ∧ qz_N h q ≤ 2000 := ez_len hB tq tq_37 rfl
          refine ez_aI hB tq rfl tq_37 rfl rfl (by omega) (by omega) (fun (b11 : -2147483648 ≤ qz_I h q (k).toNat) (b11' : qz_I h q (k).toNat ≤ 2147483647) => ?_)
          have pb := uX_ptl mt.2.1.2 (show (k).toNat < u.length by omega)
          have prg : ez_rg (uX u (k)) := ⟨by omega, by omega⟩
          rw [show qz_I h q (k).toNat = uX u (k) from mt.2.2 (k) (by omega) (by omega)]
          refine ez_go (n := 1) (pc' := 241) (L' := [(5, .inl (k)), (3, .inl (gV (yD Ls) u (i - 1))), (4, .inl (gV (yD Ls) u (i))), (0, .inr (.inr (some (770)))), (1, .inr (.inr (some (q)))), (2, .inl (i))]) (st' := [.inl (4), .inl (uX u (k)), .inr (.inr (some (770)))]) rfl ?_
          refine ez_cv hB t770 rfl rfl rfl tq_75 rfl rfl rfl (rd_mhas (m := 16) hI prg (by unfold qm; omega) (fun (wh3 : wpi (yD Ls) u (k)) => ez_K1 ?_) (fun (wh3 : ¬ wpi (yD Ls) u (k)) => ez_K1 ?_))
          · skip
            refine ez_if rfl rfl ⟨by decide, by decide⟩ (fun (c13 : (1 : Int) = (0)) => absurd c13 (by decide)) (fun _ => ?_)
            refine ez_go (n := 1) (pc' := 248) (L' := [(5, .inl (k)), (3, .inl (gV (yD Ls) u (i - 1))), (4, .inl (gV (yD Ls) u (i))), (0, .inr (.inr (some (770)))), (1, .inr (.inr (some (q)))), (2, .inl (i))]) (st' := [.inl (0)]) rfl ?_
            first | (exfalso; omega) | exact ez_retZ rfl rfl (Or.inl rfl) (k0 (gbd_n i0 i1 (Or.inr ⟨⟨wa, wb⟩, Or.inr (Or.inl ⟨a5, pi, he.mpr ((pbf_s _ _ (by omega)).mpr (Or.inl (by assumption)))⟩)⟩)))
          · skip
            refine ez_if rfl rfl ⟨by decide, by decide⟩ (fun _ => ?_) (fun (c14 : ¬((0 : Int) = (0))) => absurd c14 (by decide))
            refine ez_less [(3, .inl (gV (yD Ls) u (i - 1))), (4, .inl (gV (yD Ls) u (i))), (0, .inr (.inr (some (770)))), (1, .inr (.inr (some (q)))), (2, .inl (i))] rfl ⟨rfl, rfl, rfl, rfl, rfl, trivial⟩ ?_
            first | (exfalso; omega) | contradiction | exact rd_mcc hI mt i0 i1 k1 k0 ra rb hq12 wa wb nA (fun w => by have w := he.mp w.2.2; first | exact absurd w (pbf_0 _ _ (by omega)) | (rw [pbf_s _ _ (by omega)] at w; rcases w with w | w; (· exact absurd w (by assumption)); (· have := w.1; omega)))
      · skip
        refine ez_if rfl rfl ⟨by decide, by decide⟩ (fun (c15 : (0 : Int) ≠ (0)) => absurd c15 (by decide)) (fun _ => ?_)
        refine ez_go (n := 3) (pc' := 214) (L' := [(5, .inl (k)), (3, .inl (gV (yD Ls) u (i - 1))), (4, .inl (gV (yD Ls) u (i))), (0, .inr (.inr (some (770)))), (1, .inr (.inr (some (q)))), (2, .inl (i))]) (st' := [.inl (k), .inr (.inr (some (q))), .inr (.inr (some (770)))]) rfl ?_
        have n17 : 2000 ≤ qz_N h q ∧ qz_N h q ≤ 2000 := ez_len hB tq tq_37 rfl
        refine ez_aI hB tq rfl tq_37 rfl rfl (by omega) (by omega) (fun (b16 : -2147483648 ≤ qz_I h q (k).toNat) (b16' : qz_I h q (k).toNat ≤ 2147483647) => ?_)
        have pb := uX_ptl mt.2.1.2 (show (k).toNat < u.length by omega)
        have prg : ez_rg (uX u (k)) := ⟨by omega, by omega⟩
        rw [show qz_I h q (k).toNat = uX u (k) from mt.2.2 (k) (by omega) (by omega)]
        refine ez_go (n := 1) (pc' := 217) (L' := [(5, .inl (k)), (3, .inl (gV (yD Ls) u (i - 1))), (4, .inl (gV (yD Ls) u (i))), (0, .inr (.inr (some (770)))), (1, .inr (.inr (some (q)))), (2, .inl (i))]) (st' := [.inl (6), .inl (uX u (k)), .inr (.inr (some (770)))]) rfl ?_
        refine ez_cv hB t770 rfl rfl rfl tq_75 rfl rfl rfl (rd_mk6 hI prg (fun kr4 => ez_K1 ?_))
        have kr4 : ez_rg (gV (yD Ls) u (k)) := kr4
        obtain ⟨kr4a, kr4b⟩ := id kr4
        rw [show (yD Ls (uX u (k))).2.1.2.1 = gV (yD Ls) u (k) from rfl]
        refine ez_go (n := 1) (pc' := 221) (L' := [(5, .inl (k)), (3, .inl (gV (yD Ls) u (i - 1))), (4, .inl (gV (yD Ls) u (i))), (0, .inr (.inr (some (770)))), (1, .inr (.inr (some (q)))), (2, .inl (i))]) (st' := [.inl (4), .inl (gV (yD Ls) u (k))]) rfl ?_
        refine ez_icmp rfl rfl ⟨by first | omega | exact (sz_i32 _).1, by first | omega | exact (sz_i32 _).2⟩ ⟨by first | omega | exact (sz_i32 _).1, by first | omega | exact (sz_i32 _).2⟩ (fun (c18 : (gV (yD Ls) u (k)) ≠ (4)) => ?_) (fun (c18 : ¬((gV (yD Ls) u (k)) ≠ (4))) => ?_)
        · skip
          refine ez_go (n := 1) (pc' := 232) (L' := [(5, .inl (k)), (3, .inl (gV (yD Ls) u (i - 1))), (4, .inl (gV (yD Ls) u (i))), (0, .inr (.inr (some (770)))), (1, .inr (.inr (some (q)))), (2, .inl (i))]) (st' := [.inl (k)]) rfl ?_
          refine ez_if rfl rfl ⟨by first | omega | exact (sz_i32 _).1, by first | omega | exact (sz_i32 _).2⟩ (fun (c19 : (k) < (0)) => ?_) (fun (c19 : ¬((k) < (0))) => ?_)
          · skip
            refine ez_less [(3, .inl (gV (yD Ls) u (i - 1))), (4, .inl (gV (yD Ls) u (i))), (0, .inr (.inr (some (770)))), (1, .inr (.inr (some (q)))), (2, .inl (i))] rfl ⟨rfl, rfl, rfl, rfl, rfl, trivial⟩ ?_
            first | (exfalso; omega) | contradiction | exact rd_mcc hI mt i0 i1 k1 k0 ra rb hq12 wa wb nA (fun w => by have w := he.mp w.2.2; first | exact absurd w (pbf_0 _ _ (by omega)) | (rw [pbf_s _ _ (by omega)] at w; rcases w with w | w; (· exact absurd w (by assumption)); (· have := w.1; omega)))
          · skip
            refine ez_go (n := 3) (pc' := 239) (L' := [(5, .inl (k)), (3, .inl (gV (yD Ls) u (i - 1))), (4, .inl (gV (yD Ls) u (i))), (0, .inr (.inr (some (770)))), (1, .inr (.inr (some (q)))), (2, .inl (i))]) (st' := [.inl (k), .inr (.inr (some (q))), .inr (.inr (some (770)))]) rfl ?_
            have n21 : 2000 ≤ qz_N h q ∧ qz_N h q ≤ 2000 := ez_len hB tq tq_37 rfl
            refine ez_aI hB tq rfl tq_37 rfl rfl (by omega) (by omega) (fun (b20 : -2147483648 ≤ qz_I h q (k).toNat) (b20' : qz_I h q (k).toNat ≤ 2147483647) => ?_)
            have pb := uX_ptl mt.2.1.2 (show (k).toNat < u.length by omega)
            have prg : ez_rg (uX u (k)) := ⟨by omega, by omega⟩
            rw [show qz_I h q (k).toNat = uX u (k) from mt.2.2 (k) (by omega) (by omega)]
            refine ez_go (n := 1) (pc' := 241) (L' := [(5, .inl (k)), (3, .inl (gV (yD Ls) u (i - 1))), (4, .inl (gV (yD Ls) u (i))), (0, .inr (.inr (some (770)))), (1, .inr (.inr (some (q)))), (2, .inl (i))]) (st' := [.inl (4), .inl (uX u (k)), .inr (.inr (some (770)))]) rfl ?_
            refine ez_cv hB t770 rfl rfl rfl tq_75 rfl rfl rfl (rd_mhas (m := 16) hI prg (by unfold qm; omega) (fun (wh5 : wpi (yD Ls) u (k)) => ez_K1 ?_) (fun (wh5 : ¬ wpi (yD Ls) u (k)) => ez_K1 ?_))
            · skip
              refine ez_if rfl rfl ⟨by decide, by decide⟩ (fun (c22 : (1 : Int) = (0)) => absurd c22 (by decide)) (fun _ => ?_)
              refine ez_go (n := 1) (pc' := 248) (L' := [(5, .inl (k)), (3, .inl (gV (yD Ls) u (i - 1))), (4, .inl (gV (yD Ls) u (i))), (0, .inr (.inr (some (770)))), (1, .inr (.inr (some (q)))), (2, .inl (i))]) (st' := [.inl (0)]) rfl ?_
              first | (exfalso; omega) | exact ez_retZ rfl rfl (Or.inl rfl) (k0 (gbd_n i0 i1 (Or.inr ⟨⟨wa, wb⟩, Or.inr (Or.inl ⟨a5, pi, he.mpr ((pbf_s _ _ (by omega)).mpr (Or.inl (by assumption)))⟩)⟩)))
            · skip
              refine ez_if rfl rfl ⟨by decide, by decide⟩ (fun _ => ?_) (fun (c23 : ¬((0 : Int) = (0))) => absurd c23 (by decide))
              refine ez_less [(3, .inl (gV (yD Ls) u (i - 1))), (4, .inl (gV (yD Ls) u (i))), (0, .inr (.inr (some (770)))), (1, .inr (.inr (some (q)))), (2, .inl (i))] rfl ⟨rfl, rfl, rfl, rfl, rfl, trivial⟩ ?_
              first | (exfalso; omega) | contradiction | exact rd_mcc hI mt i0 i1 k1 k0 ra rb hq12 wa wb nA (fun w => by have w := he.mp w.2.2; first | exact absurd w (pbf_0 _ _ (by omega)) | (rw [pbf_s _ _ (by omega)] at w; rcases w with w | w; (· exact absurd w (by assumption)); (· have := w.1; omega)))
        · skip
          refine ez_go (n := 2) (pc' := 193) (L' := [(5, .inl (k + (-1))), (3, .inl (gV (yD Ls) u (i - 1))), (4, .inl (gV (yD Ls) u (i))), (0, .inr (.inr (some (770)))), (1, .inr (.inr (some (q)))), (2, .inl (i))]) (st' := []) rfl ?_
          refine ez_less [(5, .inl (k + (-1))), (3, .inl (gV (yD Ls) u (i - 1))), (4, .inl (gV (yD Ls) u (i))), (0, .inr (.inr (some (770)))), (1, .inr (.inr (some (q)))), (2, .inl (i))] rfl ⟨rfl, rfl, rfl, rfl, rfl, rfl, trivial⟩ ?_
          refine ih (k + (-1)) (by omega) (by omega) (by omega) ?_
          rw [he, pbf_s _ _ (by omega), show (k + (-1) + 1).toNat = k.toNat by omega]
          exact ⟨fun w => by rcases w with w | w; (· exact absurd w (by assumption)); (· exact w.2), fun w => Or.inr ⟨by omega, w⟩⟩

theorem rd_mcp {i : Int} (hI : mI τ h Ls b) (mt : mtx τ h q u) (i0 : 0 < i) (i1 : i < (u.length : Int)) (k1 : gbd (gV (yD Ls) u) (wpi (yD Ls) u) u.length i → Q (.inl (some (ez_v (.inl 1))), h)) (k0 : ¬ gbd (gV (yD Ls) u) (wpi (yD Ls) u) u.length i → Q (.inl (some (ez_v (.inl 0))), h)) (ra : ez_rg (gV (yD Ls) u (i - 1))) (rb : ez_rg (gV (yD Ls) u (i))) (hq12 : ¬ (gV (yD Ls) u (i - 1) = 1 ∧ gV (yD Ls) u (i) = 2)) (wa : ¬ ctl (gV (yD Ls) u (i - 1))) (wb : ¬ ctl (gV (yD Ls) u (i))) (nA : ¬ gA (gV (yD Ls) u (i - 1)) (gV (yD Ls) u (i))) : ez_W (d + 1) cm_233 172 [(3, .inl (gV (yD Ls) u (i - 1))), (4, .inl (gV (yD Ls) u (i))), (0, .inr (.inr (some (770)))), (1, .inr (.inr (some (q)))), (2, .inl (i))] [] h Q := by
  have hB := hI.1
  have t770 : τ 770 = 75 := hI.2.1 770 (by decide)
  have b12 : 0 ≤ qz_I h 770 12 ∧ qz_I h 770 12 ≤ 512 := ez_fB (cl := 11) (k := 12) hB t770 tq_75 rfl rfl (by decide)
  have lce : lc h = qz_I h 770 12 := rfl
  have nls : lc h ≤ qz_N h (ls h) := hI.2.2.1.1.1
  have tq := mt.1
  have n2 := mt.2.1.1
  obtain ⟨ra1, ra2⟩ := id ra
  obtain ⟨rb1, rb2⟩ := id rb
  refine ez_go (n := 2) (pc' := 174) (L' := [(3, .inl (gV (yD Ls) u (i - 1))), (4, .inl (gV (yD Ls) u (i))), (0, .inr (.inr (some (770)))), (1, .inr (.inr (some (q)))), (2, .inl (i))]) (st' := [.inl (5), .inl (gV (yD Ls) u (i - 1))]) rfl ?_
  refine ez_icmp rfl rfl ⟨by first | omega | exact (sz_i32 _).1, by first | omega | exact (sz_i32 _).2⟩ ⟨by first | omega | exact (sz_i32 _).1, by first | omega | exact (sz_i32 _).2⟩ (fun (c1 : (gV (yD Ls) u (i - 1)) ≠ (5)) => ?_) (fun (c1 : ¬((gV (yD Ls) u (i - 1)) ≠ (5))) => ?_)
  · skip
    refine ez_less [(3, .inl (gV (yD Ls) u (i - 1))), (4, .inl (gV (yD Ls) u (i))), (0, .inr (.inr (some (770)))), (1, .inr (.inr (some (q)))), (2, .inl (i))] rfl ⟨rfl, rfl, rfl, rfl, rfl, trivial⟩ ?_
    exact rd_mcc hI mt i0 i1 k1 k0 ra rb hq12 wa wb nA (fun w => by first | (exfalso; have := w.1; omega) | exact absurd w.2.1 (by assumption))
  · skip
    refine ez_go (n := 3) (pc' := 180) (L' := [(3, .inl (gV (yD Ls) u (i - 1))), (4, .inl (gV (yD Ls) u (i))), (0, .inr (.inr (some (770)))), (1, .inr (.inr (some (q)))), (2, .inl (i))]) (st' := [.inl (i), .inr (.inr (some (q))), .inr (.inr (some (770)))]) rfl ?_
    have n3 : 2000 ≤ qz_N h q ∧ qz_N h q ≤ 2000 := ez_len hB tq tq_37 rfl
    refine ez_aI hB tq rfl tq_37 rfl rfl (by omega) (by omega) (fun (b2 : -2147483648 ≤ qz_I h q (i).toNat) (b2' : qz_I h q (i).toNat ≤ 2147483647) => ?_)
    have pb := uX_ptl mt.2.1.2 (show (i).toNat < u.length by omega)
    have prg : ez_rg (uX u (i)) := ⟨by omega, by omega⟩
    rw [show qz_I h q (i).toNat = uX u (i) from mt.2.2 (i) (by omega) (by omega)]
    refine ez_go (n := 1) (pc' := 182) (L' := [(3, .inl (gV (yD Ls) u (i - 1))), (4, .inl (gV (yD Ls) u (i))), (0, .inr (.inr (some (770)))), (1, .inr (.inr (some (q)))), (2, .inl (i))]) (st' := [.inl (4), .inl (uX u (i)), .inr (.inr (some (770)))]) rfl ?_
    refine ez_cv hB t770 rfl rfl rfl tq_75 rfl rfl rfl (rd_mhas (m := 16) hI prg (by unfold qm; omega) (fun (wh1 : wpi (yD Ls) u (i)) => ez_K1 ?_) (fun (wh1 : ¬ wpi (yD Ls) u (i)) => ez_K1 ?_))
    · skip
      refine ez_if rfl rfl ⟨by decide, by decide⟩ (fun (c4 : (1 : Int) = (0)) => absurd c4 (by decide)) (fun _ => ?_)
      refine ez_go (n := 4) (pc' := 193) (L' := [(5, .inl ((i) - (2))), (3, .inl (gV (yD Ls) u (i - 1))), (4, .inl (gV (yD Ls) u (i))), (0, .inr (.inr (some (770)))), (1, .inr (.inr (some (q)))), (2, .inl (i))]) (st' := []) rfl ?_
      refine ez_less [(5, .inl ((i) - (2))), (3, .inl (gV (yD Ls) u (i - 1))), (4, .inl (gV (yD Ls) u (i))), (0, .inr (.inr (some (770)))), (1, .inr (.inr (some (q)))), (2, .inl (i))] rfl ⟨rfl, rfl, rfl, rfl, rfl, rfl, trivial⟩ ?_
      exact rd_mcp_l hI mt i0 i1 k1 k0 ra rb hq12 wa wb nA (by omega) (by assumption) _ _ rfl (by omega) (by omega) (by rw [show ((i) - (2) + 1).toNat = (i - 1).toNat by omega])
    · skip
      refine ez_if rfl rfl ⟨by decide, by decide⟩ (fun _ => ?_) (fun (c5 : ¬((0 : Int) = (0))) => absurd c5 (by decide))
      refine ez_less [(3, .inl (gV (yD Ls) u (i - 1))), (4, .inl (gV (yD Ls) u (i))), (0, .inr (.inr (some (770)))), (1, .inr (.inr (some (q)))), (2, .inl (i))] rfl ⟨rfl, rfl, rfl, rfl, rfl, trivial⟩ ?_
      exact rd_mcc hI mt i0 i1 k1 k0 ra rb hq12 wa wb nA (fun w => by first | (exfalso; have := w.1; omega) | exact absurd w.2.1 (by assumption))

theorem rd_mc60 {i : Int} (hI : mI τ h Ls b) (mt : mtx τ h q u) (i0 : 0 < i) (i1 : i < (u.length : Int)) (k1 : gbd (gV (yD Ls) u) (wpi (yD Ls) u) u.length i → Q (.inl (some (ez_v (.inl 1))), h)) (k0 : ¬ gbd (gV (yD Ls) u) (wpi (yD Ls) u) u.length i → Q (.inl (some (ez_v (.inl 0))), h)) (ra : ez_rg (gV (yD Ls) u (i - 1))) (rb : ez_rg (gV (yD Ls) u (i))) (hq12 : ¬ (gV (yD Ls) u (i - 1) = 1 ∧ gV (yD Ls) u (i) = 2)) (wa : ¬ ctl (gV (yD Ls) u (i - 1))) (wb : ¬ ctl (gV (yD Ls) u (i))) : ez_W (d + 1) cm_233 60 [(3, .inl (gV (yD Ls) u (i - 1))), (4, .inl (gV (yD Ls) u (i))), (0, .inr (.inr (some (770)))), (1, .inr (.inr (some (q)))), (2, .inl (i))] [] h Q := by
  have hB := hI.1
  have t770 : τ 770 = 75 := hI.2.1 770 (by decide)
  have b12 : 0 ≤ qz_I h 770 12 ∧ qz_I h 770 12 ≤ 512 := ez_fB (cl := 11) (k := 12) hB t770 tq_75 rfl rfl (by decide)
  have lce : lc h = qz_I h 770 12 := rfl
  have nls : lc h ≤ qz_N h (ls h) := hI.2.2.1.1.1
  have tq := mt.1
  have n2 := mt.2.1.1
  obtain ⟨ra1, ra2⟩ := id ra
  obtain ⟨rb1, rb2⟩ := id rb
  refine ez_go (n := 2) (pc' := 63) (L' := [(3, .inl (gV (yD Ls) u (i - 1))), (4, .inl (gV (yD Ls) u (i))), (0, .inr (.inr (some (770)))), (1, .inr (.inr (some (q)))), (2, .inl (i))]) (st' := [.inl (9), .inl (gV (yD Ls) u (i - 1))]) rfl ?_
  refine ez_icmp rfl rfl ⟨by first | omega | exact (sz_i32 _).1, by first | omega | exact (sz_i32 _).2⟩ ⟨by first | omega | exact (sz_i32 _).1, by first | omega | exact (sz_i32 _).2⟩ (fun (c1 : (gV (yD Ls) u (i - 1)) ≠ (9)) => ?_) (fun (c1 : ¬((gV (yD Ls) u (i - 1)) ≠ (9))) => ?_)
  · skip
    refine ez_go (n := 2) (pc' := 99) (L' := [(3, .inl (gV (yD Ls) u (i - 1))), (4, .inl (gV (yD Ls) u (i))), (0, .inr (.inr (some (770)))), (1, .inr (.inr (some (q)))), (2, .inl (i))]) (st' := [.inl (12), .inl (gV (yD Ls) u (i - 1))]) rfl ?_
    refine ez_icmp rfl rfl ⟨by first | omega | exact (sz_i32 _).1, by first | omega | exact (sz_i32 _).2⟩ ⟨by first | omega | exact (sz_i32 _).1, by first | omega | exact (sz_i32 _).2⟩ (fun (c2 : (gV (yD Ls) u (i - 1)) = (12)) => ?_) (fun (c2 : ¬((gV (yD Ls) u (i - 1)) = (12))) => ?_)
    · skip
      refine ez_go (n := 2) (pc' := 112) (L' := [(3, .inl (gV (yD Ls) u (i - 1))), (4, .inl (gV (yD Ls) u (i))), (0, .inr (.inr (some (770)))), (1, .inr (.inr (some (q)))), (2, .inl (i))]) (st' := [.inl (10), .inl (gV (yD Ls) u (i))]) rfl ?_
      refine ez_icmp rfl rfl ⟨by first | omega | exact (sz_i32 _).1, by first | omega | exact (sz_i32 _).2⟩ ⟨by first | omega | exact (sz_i32 _).1, by first | omega | exact (sz_i32 _).2⟩ (fun (c3 : (gV (yD Ls) u (i)) = (10)) => ?_) (fun (c3 : ¬((gV (yD Ls) u (i)) = (10))) => ?_)
      · skip
        refine ez_go (n := 1) (pc' := 123) (L' := [(3, .inl (gV (yD Ls) u (i - 1))), (4, .inl (gV (yD Ls) u (i))), (0, .inr (.inr (some (770)))), (1, .inr (.inr (some (q)))), (2, .inl (i))]) (st' := [.inl (0)]) rfl ?_
        exact ez_retZ rfl rfl (Or.inl rfl) (k0 (gbd_n i0 i1 (by first | exact Or.inl ⟨by omega, by omega⟩ | exact Or.inr ⟨⟨by omega, by omega⟩, Or.inl (by omega)⟩)))
      · skip
        refine ez_go (n := 2) (pc' := 119) (L' := [(3, .inl (gV (yD Ls) u (i - 1))), (4, .inl (gV (yD Ls) u (i))), (0, .inr (.inr (some (770)))), (1, .inr (.inr (some (q)))), (2, .inl (i))]) (st' := [.inl (11), .inl (gV (yD Ls) u (i))]) rfl ?_
        refine ez_icmp rfl rfl ⟨by first | omega | exact (sz_i32 _).1, by first | omega | exact (sz_i32 _).2⟩ ⟨by first | omega | exact (sz_i32 _).1, by first | omega | exact (sz_i32 _).2⟩ (fun (c4 : (gV (yD Ls) u (i)) ≠ (11)) => ?_) (fun (c4 : ¬((gV (yD Ls) u (i)) ≠ (11))) => ?_)
        · skip
          refine ez_go (n := 2) (pc' := 127) (L' := [(3, .inl (gV (yD Ls) u (i - 1))), (4, .inl (gV (yD Ls) u (i))), (0, .inr (.inr (some (770)))), (1, .inr (.inr (some (q)))), (2, .inl (i))]) (st' := [.inl (13), .inl (gV (yD Ls) u (i - 1))]) rfl ?_
          refine ez_icmp rfl rfl ⟨by first | omega | exact (sz_i32 _).1, by first | omega | exact (sz_i32 _).2⟩ ⟨by first | omega | exact (sz_i32 _).1, by first | omega | exact (sz_i32 _).2⟩ (fun (c5 : (gV (yD Ls) u (i - 1)) = (13)) => ?_) (fun (c5 : ¬((gV (yD Ls) u (i - 1)) = (13))) => ?_)
          · skip
            refine ez_go (n := 2) (pc' := 140) (L' := [(3, .inl (gV (yD Ls) u (i - 1))), (4, .inl (gV (yD Ls) u (i))), (0, .inr (.inr (some (770)))), (1, .inr (.inr (some (q)))), (2, .inl (i))]) (st' := [.inl (11), .inl (gV (yD Ls) u (i))]) rfl ?_
            refine ez_icmp rfl rfl ⟨by first | omega | exact (sz_i32 _).1, by first | omega | exact (sz_i32 _).2⟩ ⟨by first | omega | exact (sz_i32 _).1, by first | omega | exact (sz_i32 _).2⟩ (fun (c6 : (gV (yD Ls) u (i)) ≠ (11)) => ?_) (fun (c6 : ¬((gV (yD Ls) u (i)) ≠ (11))) => ?_)
            · skip
              refine ez_go (n := 2) (pc' := 148) (L' := [(3, .inl (gV (yD Ls) u (i - 1))), (4, .inl (gV (yD Ls) u (i))), (0, .inr (.inr (some (770)))), (1, .inr (.inr (some (q)))), (2, .inl (i))]) (st' := [.inl (4), .inl (gV (yD Ls) u (i))]) rfl ?_
              refine ez_icmp rfl rfl ⟨by first | omega | exact (sz_i32 _).1, by first | omega | exact (sz_i32 _).2⟩ ⟨by first | omega | exact (sz_i32 _).1, by first | omega | exact (sz_i32 _).2⟩ (fun (c7 : (gV (yD Ls) u (i)) = (4)) => ?_) (fun (c7 : ¬((gV (yD Ls) u (i)) = (4))) => ?_)
              · skip
                refine ez_go (n := 1) (pc' := 171) (L' := [(3, .inl (gV (yD Ls) u (i - 1))), (4, .inl (gV (yD Ls) u (i))), (0, .inr (.inr (some (770)))), (1, .inr (.inr (some (q)))), (2, .inl (i))]) (st' := [.inl (0)]) rfl ?_
                exact ez_retZ rfl rfl (Or.inl rfl) (k0 (gbd_n i0 i1 (by first | exact Or.inl ⟨by omega, by omega⟩ | exact Or.inr ⟨⟨by omega, by omega⟩, Or.inl (by omega)⟩)))
              · skip
                refine ez_go (n := 2) (pc' := 154) (L' := [(3, .inl (gV (yD Ls) u (i - 1))), (4, .inl (gV (yD Ls) u (i))), (0, .inr (.inr (some (770)))), (1, .inr (.inr (some (q)))), (2, .inl (i))]) (st' := [.inl (5), .inl (gV (yD Ls) u (i))]) rfl ?_
                refine ez_icmp rfl rfl ⟨by first | omega | exact (sz_i32 _).1, by first | omega | exact (sz_i32 _).2⟩ ⟨by first | omega | exact (sz_i32 _).1, by first | omega | exact (sz_i32 _).2⟩ (fun (c8 : (gV (yD Ls) u (i)) = (5)) => ?_) (fun (c8 : ¬((gV (yD Ls) u (i)) = (5))) => ?_)
                · skip
                  refine ez_go (n := 1) (pc' := 171) (L' := [(3, .inl (gV (yD Ls) u (i - 1))), (4, .inl (gV (yD Ls) u (i))), (0, .inr (.inr (some (770)))), (1, .inr (.inr (some (q)))), (2, .inl (i))]) (st' := [.inl (0)]) rfl ?_
                  exact ez_retZ rfl rfl (Or.inl rfl) (k0 (gbd_n i0 i1 (by first | exact Or.inl ⟨by omega, by omega⟩ | exact Or.inr ⟨⟨by omega, by omega⟩, Or.inl (by omega)⟩)))
                · skip
                  refine ez_go (n := 2) (pc' := 161) (L' := [(3, .inl (gV (yD Ls) u (i - 1))), (4, .inl (gV (yD Ls) u (i))), (0, .inr (.inr (some (770)))), (1, .inr (.inr (some (q)))), (2, .inl (i))]) (st' := [.inl (8), .inl (gV (yD Ls) u (i))]) rfl ?_
                  refine ez_icmp rfl rfl ⟨by first | omega | exact (sz_i32 _).1, by first | omega | exact (sz_i32 _).2⟩ ⟨by first | omega | exact (sz_i32 _).1, by first | omega | exact (sz_i32 _).2⟩ (fun (c9 : (gV (yD Ls) u (i)) = (8)) => ?_) (fun (c9 : ¬((gV (yD Ls) u (i)) = (8))) => ?_)
                  · skip
                    refine ez_go (n := 1) (pc' := 171) (L' := [(3, .inl (gV (yD Ls) u (i - 1))), (4, .inl (gV (yD Ls) u (i))), (0, .inr (.inr (some (770)))), (1, .inr (.inr (some (q)))), (2, .inl (i))]) (st' := [.inl (0)]) rfl ?_
                    exact ez_retZ rfl rfl (Or.inl rfl) (k0 (gbd_n i0 i1 (by first | exact Or.inl ⟨by omega, by omega⟩ | exact Or.inr ⟨⟨by omega, by omega⟩, Or.inl (by omega)⟩)))
                  · skip
                    refine ez_go (n := 2) (pc' := 167) (L' := [(3, .inl (gV (yD Ls) u (i - 1))), (4, .inl (gV (yD Ls) u (i))), (0, .inr (.inr (some (770)))), (1, .inr (.inr (some (q)))), (2, .inl (i))]) (st' := [.inl (7), .inl (gV (yD Ls) u (i - 1))]) rfl ?_
                    refine ez_icmp rfl rfl ⟨by first | omega | exact (sz_i32 _).1, by first | omega | exact (sz_i32 _).2⟩ ⟨by first | omega | exact (sz_i32 _).1, by first | omega | exact (sz_i32 _).2⟩ (fun (c10 : (gV (yD Ls) u (i - 1)) ≠ (7)) => ?_) (fun (c10 : ¬((gV (yD Ls) u (i - 1)) ≠ (7))) => ?_)
                    · skip
                      refine ez_less [(3, .inl (gV (yD Ls) u (i - 1))), (4, .inl (gV (yD Ls) u (i))), (0, .inr (.inr (some (770)))), (1, .inr (.inr (some (q)))), (2, .inl (i))] rfl ⟨rfl, rfl, rfl, rfl, rfl, trivial⟩ ?_
                      exact rd_mcp hI mt i0 i1 k1 k0 ra rb (by omega) (by omega) (by omega) (by omega)
                    · skip
                      refine ez_go (n := 1) (pc' := 171) (L' := [(3, .inl (gV (yD Ls) u (i - 1))), (4, .inl (gV (yD Ls) u (i))), (0, .inr (.inr (some (770)))), (1, .inr (.inr (some (q)))), (2, .inl (i))]) (st' := [.inl (0)]) rfl ?_
                      exact ez_retZ rfl rfl (Or.inl rfl) (k0 (gbd_n i0 i1 (by first | exact Or.inl ⟨by omega, by omega⟩ | exact Or.inr ⟨⟨by omega, by omega⟩, Or.inl (by omega)⟩)))
            · skip
              refine ez_go (n := 1) (pc' := 144) (L' := [(3, .inl (gV (yD Ls) u (i - 1))), (4, .inl (gV (yD Ls) u (i))), (0, .inr (.inr (some (770)))), (1, .inr (.inr (some (q)))), (2, .inl (i))]) (st' := [.inl (0)]) rfl ?_
              exact ez_retZ rfl rfl (Or.inl rfl) (k0 (gbd_n i0 i1 (by first | exact Or.inl ⟨by omega, by omega⟩ | exact Or.inr ⟨⟨by omega, by omega⟩, Or.inl (by omega)⟩)))
          · skip
            refine ez_go (n := 2) (pc' := 133) (L' := [(3, .inl (gV (yD Ls) u (i - 1))), (4, .inl (gV (yD Ls) u (i))), (0, .inr (.inr (some (770)))), (1, .inr (.inr (some (q)))), (2, .inl (i))]) (st' := [.inl (11), .inl (gV (yD Ls) u (i - 1))]) rfl ?_
            refine ez_icmp rfl rfl ⟨by first | omega | exact (sz_i32 _).1, by first | omega | exact (sz_i32 _).2⟩ ⟨by first | omega | exact (sz_i32 _).1, by first | omega | exact (sz_i32 _).2⟩ (fun (c11 : (gV (yD Ls) u (i - 1)) ≠ (11)) => ?_) (fun (c11 : ¬((gV (yD Ls) u (i - 1)) ≠ (11))) => ?_)
            · skip
              refine ez_go (n := 2) (pc' := 148) (L' := [(3, .inl (gV (yD Ls) u (i - 1))), (4, .inl (gV (yD Ls) u (i))), (0, .inr (.inr (some (770)))), (1, .inr (.inr (some (q)))), (2, .inl (i))]) (st' := [.inl (4), .inl (gV (yD Ls) u (i))]) rfl ?_
              refine ez_icmp rfl rfl ⟨by first | omega | exact (sz_i32 _).1, by first | omega | exact (sz_i32 _).2⟩ ⟨by first | omega | exact (sz_i32 _).1, by first | omega | exact (sz_i32 _).2⟩ (fun (c12 : (gV (yD Ls) u (i)) = (4)) => ?_) (fun (c12 : ¬((gV (yD Ls) u (i)) = (4))) => ?_)
              · skip
                refine ez_go (n := 1) (pc' := 171) (L' := [(3, .inl (gV (yD Ls) u (i - 1))), (4, .inl (gV (yD Ls) u (i))), (0, .inr (.inr (some (770)))), (1, .inr (.inr (some (q)))), (2, .inl (i))]) (st' := [.inl (0)]) rfl ?_
                exact ez_retZ rfl rfl (Or.inl rfl) (k0 (gbd_n i0 i1 (by first | exact Or.inl ⟨by omega, by omega⟩ | exact Or.inr ⟨⟨by omega, by omega⟩, Or.inl (by omega)⟩)))
              · skip
                refine ez_go (n := 2) (pc' := 154) (L' := [(3, .inl (gV (yD Ls) u (i - 1))), (4, .inl (gV (yD Ls) u (i))), (0, .inr (.inr (some (770)))), (1, .inr (.inr (some (q)))), (2, .inl (i))]) (st' := [.inl (5), .inl (gV (yD Ls) u (i))]) rfl ?_
                refine ez_icmp rfl rfl ⟨by first | omega | exact (sz_i32 _).1, by first | omega | exact (sz_i32 _).2⟩ ⟨by first | omega | exact (sz_i32 _).1, by first | omega | exact (sz_i32 _).2⟩ (fun (c13 : (gV (yD Ls) u (i)) = (5)) => ?_) (fun (c13 : ¬((gV (yD Ls) u (i)) = (5))) => ?_)
                · skip
                  refine ez_go (n := 1) (pc' := 171) (L' := [(3, .inl (gV (yD Ls) u (i - 1))), (4, .inl (gV (yD Ls) u (i))), (0, .inr (.inr (some (770)))), (1, .inr (.inr (some (q)))), (2, .inl (i))]) (st' := [.inl (0)]) rfl ?_
                  exact ez_retZ rfl rfl (Or.inl rfl) (k0 (gbd_n i0 i1 (by first | exact Or.inl ⟨by omega, by omega⟩ | exact Or.inr ⟨⟨by omega, by omega⟩, Or.inl (by omega)⟩)))
                · skip
                  refine ez_go (n := 2) (pc' := 161) (L' := [(3, .inl (gV (yD Ls) u (i - 1))), (4, .inl (gV (yD Ls) u (i))), (0, .inr (.inr (some (770)))), (1, .inr (.inr (some (q)))), (2, .inl (i))]) (st' := [.inl (8), .inl (gV (yD Ls) u (i))]) rfl ?_
                  refine ez_icmp rfl rfl ⟨by first | omega | exact (sz_i32 _).1, by first | omega | exact (sz_i32 _).2⟩ ⟨by first | omega | exact (sz_i32 _).1, by first | omega | exact (sz_i32 _).2⟩ (fun (c14 : (gV (yD Ls) u (i)) = (8)) => ?_) (fun (c14 : ¬((gV (yD Ls) u (i)) = (8))) => ?_)
                  · skip
                    refine ez_go (n := 1) (pc' := 171) (L' := [(3, .inl (gV (yD Ls) u (i - 1))), (4, .inl (gV (yD Ls) u (i))), (0, .inr (.inr (some (770)))), (1, .inr (.inr (some (q)))), (2, .inl (i))]) (st' := [.inl (0)]) rfl ?_
                    exact ez_retZ rfl rfl (Or.inl rfl) (k0 (gbd_n i0 i1 (by first | exact Or.inl ⟨by omega, by omega⟩ | exact Or.inr ⟨⟨by omega, by omega⟩, Or.inl (by omega)⟩)))
                  · skip
                    refine ez_go (n := 2) (pc' := 167) (L' := [(3, .inl (gV (yD Ls) u (i - 1))), (4, .inl (gV (yD Ls) u (i))), (0, .inr (.inr (some (770)))), (1, .inr (.inr (some (q)))), (2, .inl (i))]) (st' := [.inl (7), .inl (gV (yD Ls) u (i - 1))]) rfl ?_
                    refine ez_icmp rfl rfl ⟨by first | omega | exact (sz_i32 _).1, by first | omega | exact (sz_i32 _).2⟩ ⟨by first | omega | exact (sz_i32 _).1, by first | omega | exact (sz_i32 _).2⟩ (fun (c15 : (gV (yD Ls) u (i - 1)) ≠ (7)) => ?_) (fun (c15 : ¬((gV (yD Ls) u (i - 1)) ≠ (7))) => ?_)
                    · skip
                      refine ez_less [(3, .inl (gV (yD Ls) u (i - 1))), (4, .inl (gV (yD Ls) u (i))), (0, .inr (.inr (some (770)))), (1, .inr (.inr (some (q)))), (2, .inl (i))] rfl ⟨rfl, rfl, rfl, rfl, rfl, trivial⟩ ?_
                      exact rd_mcp hI mt i0 i1 k1 k0 ra rb (by omega) (by omega) (by omega) (by omega)
                    · skip
                      refine ez_go (n := 1) (pc' := 171) (L' := [(3, .inl (gV (yD Ls) u (i - 1))), (4, .inl (gV (yD Ls) u (i))), (0, .inr (.inr (some (770)))), (1, .inr (.inr (some (q)))), (2, .inl (i))]) (st' := [.inl (0)]) rfl ?_
                      exact ez_retZ rfl rfl (Or.inl rfl) (k0 (gbd_n i0 i1 (by first | exact Or.inl ⟨by omega, by omega⟩ | exact Or.inr ⟨⟨by omega, by omega⟩, Or.inl (by omega)⟩)))
            · skip
              refine ez_go (n := 2) (pc' := 140) (L' := [(3, .inl (gV (yD Ls) u (i - 1))), (4, .inl (gV (yD Ls) u (i))), (0, .inr (.inr (some (770)))), (1, .inr (.inr (some (q)))), (2, .inl (i))]) (st' := [.inl (11), .inl (gV (yD Ls) u (i))]) rfl ?_
              refine ez_icmp rfl rfl ⟨by first | omega | exact (sz_i32 _).1, by first | omega | exact (sz_i32 _).2⟩ ⟨by first | omega | exact (sz_i32 _).1, by first | omega | exact (sz_i32 _).2⟩ (fun (c16 : (gV (yD Ls) u (i)) ≠ (11)) => ?_) (fun (c16 : ¬((gV (yD Ls) u (i)) ≠ (11))) => ?_)
              · skip
                refine ez_go (n := 2) (pc' := 148) (L' := [(3, .inl (gV (yD Ls) u (i - 1))), (4, .inl (gV (yD Ls) u (i))), (0, .inr (.inr (some (770)))), (1, .inr (.inr (some (q)))), (2, .inl (i))]) (st' := [.inl (4), .inl (gV (yD Ls) u (i))]) rfl ?_
                refine ez_icmp rfl rfl ⟨by first | omega | exact (sz_i32 _).1, by first | omega | exact (sz_i32 _).2⟩ ⟨by first | omega | exact (sz_i32 _).1, by first | omega | exact (sz_i32 _).2⟩ (fun (c17 : (gV (yD Ls) u (i)) = (4)) => ?_) (fun (c17 : ¬((gV (yD Ls) u (i)) = (4))) => ?_)
                · skip
                  refine ez_go (n := 1) (pc' := 171) (L' := [(3, .inl (gV (yD Ls) u (i - 1))), (4, .inl (gV (yD Ls) u (i))), (0, .inr (.inr (some (770)))), (1, .inr (.inr (some (q)))), (2, .inl (i))]) (st' := [.inl (0)]) rfl ?_
                  exact ez_retZ rfl rfl (Or.inl rfl) (k0 (gbd_n i0 i1 (by first | exact Or.inl ⟨by omega, by omega⟩ | exact Or.inr ⟨⟨by omega, by omega⟩, Or.inl (by omega)⟩)))
                · skip
                  refine ez_go (n := 2) (pc' := 154) (L' := [(3, .inl (gV (yD Ls) u (i - 1))), (4, .inl (gV (yD Ls) u (i))), (0, .inr (.inr (some (770)))), (1, .inr (.inr (some (q)))), (2, .inl (i))]) (st' := [.inl (5), .inl (gV (yD Ls) u (i))]) rfl ?_
                  refine ez_icmp rfl rfl ⟨by first | omega | exact (sz_i32 _).1, by first | omega | exact (sz_i32 _).2⟩ ⟨by first | omega | exact (sz_i32 _).1, by first | omega | exact (sz_i32 _).2⟩ (fun (c18 : (gV (yD Ls) u (i)) = (5)) => ?_) (fun (c18 : ¬((gV (yD Ls) u (i)) = (5))) => ?_)
                  · skip
                    refine ez_go (n := 1) (pc' := 171) (L' := [(3, .inl (gV (yD Ls) u (i - 1))), (4, .inl (gV (yD Ls) u (i))), (0, .inr (.inr (some (770)))), (1, .inr (.inr (some (q)))), (2, .inl (i))]) (st' := [.inl (0)]) rfl ?_
                    exact ez_retZ rfl rfl (Or.inl rfl) (k0 (gbd_n i0 i1 (by first | exact Or.inl ⟨by omega, by omega⟩ | exact Or.inr ⟨⟨by omega, by omega⟩, Or.inl (by omega)⟩)))
                  · skip
                    refine ez_go (n := 2) (pc' := 161) (L' := [(3, .inl (gV (yD Ls) u (i - 1))), (4, .inl (gV (yD Ls) u (i))), (0, .inr (.inr (some (770)))), (1, .inr (.inr (some (q)))), (2, .inl (i))]) (st' := [.inl (8), .inl (gV (yD Ls) u (i))]) rfl ?_
                    refine ez_icmp rfl rfl ⟨by first | omega | exact (sz_i32 _).1, by first | omega | exact (sz_i32 _).2⟩ ⟨by first | omega | exact (sz_i32 _).1, by first | omega | exact (sz_i32 _).2⟩ (fun (c19 : (gV (yD Ls) u (i)) = (8)) => ?_) (fun (c19 : ¬((gV (yD Ls) u (i)) = (8))) => ?_)
                    · skip
                      refine ez_go (n := 1) (pc' := 171) (L' := [(3, .inl (gV (yD Ls) u (i - 1))), (4, .inl (gV (yD Ls) u (i))), (0, .inr (.inr (some (770)))), (1, .inr (.inr (some (q)))), (2, .inl (i))]) (st' := [.inl (0)]) rfl ?_
                      exact ez_retZ rfl rfl (Or.inl rfl) (k0 (gbd_n i0 i1 (by first | exact Or.inl ⟨by omega, by omega⟩ | exact Or.inr ⟨⟨by omega, by omega⟩, Or.inl (by omega)⟩)))
                    · skip
                      refine ez_go (n := 2) (pc' := 167) (L' := [(3, .inl (gV (yD Ls) u (i - 1))), (4, .inl (gV (yD Ls) u (i))), (0, .inr (.inr (some (770)))), (1, .inr (.inr (some (q)))), (2, .inl (i))]) (st' := [.inl (7), .inl (gV (yD Ls) u (i - 1))]) rfl ?_
                      refine ez_icmp rfl rfl ⟨by first | omega | exact (sz_i32 _).1, by first | omega | exact (sz_i32 _).2⟩ ⟨by first | omega | exact (sz_i32 _).1, by first | omega | exact (sz_i32 _).2⟩ (fun (c20 : (gV (yD Ls) u (i - 1)) ≠ (7)) => ?_) (fun (c20 : ¬((gV (yD Ls) u (i - 1)) ≠ (7))) => ?_)
                      · skip
                        refine ez_less [(3, .inl (gV (yD Ls) u (i - 1))), (4, .inl (gV (yD Ls) u (i))), (0, .inr (.inr (some (770)))), (1, .inr (.inr (some (q)))), (2, .inl (i))] rfl ⟨rfl, rfl, rfl, rfl, rfl, trivial⟩ ?_
                        exact rd_mcp hI mt i0 i1 k1 k0 ra rb (by omega) (by omega) (by omega) (by omega)
                      · skip
                        refine ez_go (n := 1) (pc' := 171) (L' := [(3, .inl (gV (yD Ls) u (i - 1))), (4, .inl (gV (yD Ls) u (i))), (0, .inr (.inr (some (770)))), (1, .inr (.inr (some (q)))), (2, .inl (i))]) (st' := [.inl (0)]) rfl ?_
                        exact ez_retZ rfl rfl (Or.inl rfl) (k0 (gbd_n i0 i1 (by first | exact Or.inl ⟨by omega, by omega⟩ | exact Or.inr ⟨⟨by omega, by omega⟩, Or.inl (by omega)⟩)))
              · skip
                refine ez_go (n := 1) (pc' := 144) (L' := [(3, .inl (gV (yD Ls) u (i - 1))), (4, .inl (gV (yD Ls) u (i))), (0, .inr (.inr (some (770)))), (1, .inr (.inr (some (q)))), (2, .inl (i))]) (st' := [.inl (0)]) rfl ?_
                exact ez_retZ rfl rfl (Or.inl rfl) (k0 (gbd_n i0 i1 (by first | exact Or.inl ⟨by omega, by omega⟩ | exact Or.inr ⟨⟨by omega, by omega⟩, Or.inl (by omega)⟩)))
        · skip
          refine ez_go (n := 1) (pc' := 123) (L' := [(3, .inl (gV (yD Ls) u (i - 1))), (4, .inl (gV (yD Ls) u (i))), (0, .inr (.inr (some (770)))), (1, .inr (.inr (some (q)))), (2, .inl (i))]) (st' := [.inl (0)]) rfl ?_
          exact ez_retZ rfl rfl (Or.inl rfl) (k0 (gbd_n i0 i1 (by first | exact Or.inl ⟨by omega, by omega⟩ | exact Or.inr ⟨⟨by omega, by omega⟩, Or.inl (by omega)⟩)))
    · skip
      refine ez_go (n := 2) (pc' := 105) (L' := [(3, .inl (gV (yD Ls) u (i - 1))), (4, .inl (gV (yD Ls) u (i))), (0, .inr (.inr (some (770)))), (1, .inr (.inr (some (q)))), (2, .inl (i))]) (st' := [.inl (10), .inl (gV (yD Ls) u (i - 1))]) rfl ?_
      refine ez_icmp rfl rfl ⟨by first | omega | exact (sz_i32 _).1, by first | omega | exact (sz_i32 _).2⟩ ⟨by first | omega | exact (sz_i32 _).1, by first | omega | exact (sz_i32 _).2⟩ (fun (c21 : (gV (yD Ls) u (i - 1)) ≠ (10)) => ?_) (fun (c21 : ¬((gV (yD Ls) u (i - 1)) ≠ (10))) => ?_)
      · skip
        refine ez_go (n := 2) (pc' := 127) (L' := [(3, .inl (gV (yD Ls) u (i - 1))), (4, .inl (gV (yD Ls) u (i))), (0, .inr (.inr (some (770)))), (1, .inr (.inr (some (q)))), (2, .inl (i))]) (st' := [.inl (13), .inl (gV (yD Ls) u (i - 1))]) rfl ?_
        refine ez_icmp rfl rfl ⟨by first | omega | exact (sz_i32 _).1, by first | omega | exact (sz_i32 _).2⟩ ⟨by first | omega | exact (sz_i32 _).1, by first | omega | exact (sz_i32 _).2⟩ (fun (c22 : (gV (yD Ls) u (i - 1)) = (13)) => ?_) (fun (c22 : ¬((gV (yD Ls) u (i - 1)) = (13))) => ?_)
        · skip
          refine ez_go (n := 2) (pc' := 140) (L' := [(3, .inl (gV (yD Ls) u (i - 1))), (4, .inl (gV (yD Ls) u (i))), (0, .inr (.inr (some (770)))), (1, .inr (.inr (some (q)))), (2, .inl (i))]) (st' := [.inl (11), .inl (gV (yD Ls) u (i))]) rfl ?_
          refine ez_icmp rfl rfl ⟨by first | omega | exact (sz_i32 _).1, by first | omega | exact (sz_i32 _).2⟩ ⟨by first | omega | exact (sz_i32 _).1, by first | omega | exact (sz_i32 _).2⟩ (fun (c23 : (gV (yD Ls) u (i)) ≠ (11)) => ?_) (fun (c23 : ¬((gV (yD Ls) u (i)) ≠ (11))) => ?_)
          · skip
            refine ez_go (n := 2) (pc' := 148) (L' := [(3, .inl (gV (yD Ls) u (i - 1))), (4, .inl (gV (yD Ls) u (i))), (0, .inr (.inr (some (770)))), (1, .inr (.inr (some (q)))), (2, .inl (i))]) (st' := [.inl (4), .inl (gV (yD Ls) u (i))]) rfl ?_
            refine ez_icmp rfl rfl ⟨by first | omega | exact (sz_i32 _).1, by first | omega | exact (sz_i32 _).2⟩ ⟨by first | omega | exact (sz_i32 _).1, by first | omega | exact (sz_i32 _).2⟩ (fun (c24 : (gV (yD Ls) u (i)) = (4)) => ?_) (fun (c24 : ¬((gV (yD Ls) u (i)) = (4))) => ?_)
            · skip
              refine ez_go (n := 1) (pc' := 171) (L' := [(3, .inl (gV (yD Ls) u (i - 1))), (4, .inl (gV (yD Ls) u (i))), (0, .inr (.inr (some (770)))), (1, .inr (.inr (some (q)))), (2, .inl (i))]) (st' := [.inl (0)]) rfl ?_
              exact ez_retZ rfl rfl (Or.inl rfl) (k0 (gbd_n i0 i1 (by first | exact Or.inl ⟨by omega, by omega⟩ | exact Or.inr ⟨⟨by omega, by omega⟩, Or.inl (by omega)⟩)))
            · skip
              refine ez_go (n := 2) (pc' := 154) (L' := [(3, .inl (gV (yD Ls) u (i - 1))), (4, .inl (gV (yD Ls) u (i))), (0, .inr (.inr (some (770)))), (1, .inr (.inr (some (q)))), (2, .inl (i))]) (st' := [.inl (5), .inl (gV (yD Ls) u (i))]) rfl ?_
              refine ez_icmp rfl rfl ⟨by first | omega | exact (sz_i32 _).1, by first | omega | exact (sz_i32 _).2⟩ ⟨by first | omega | exact (sz_i32 _).1, by first | omega | exact (sz_i32 _).2⟩ (fun (c25 : (gV (yD Ls) u (i)) = (5)) => ?_) (fun (c25 : ¬((gV (yD Ls) u (i)) = (5))) => ?_)
              · skip
                refine ez_go (n := 1) (pc' := 171) (L' := [(3, .inl (gV (yD Ls) u (i - 1))), (4, .inl (gV (yD Ls) u (i))), (0, .inr (.inr (some (770)))), (1, .inr (.inr (some (q)))), (2, .inl (i))]) (st' := [.inl (0)]) rfl ?_
                exact ez_retZ rfl rfl (Or.inl rfl) (k0 (gbd_n i0 i1 (by first | exact Or.inl ⟨by omega, by omega⟩ | exact Or.inr ⟨⟨by omega, by omega⟩, Or.inl (by omega)⟩)))
              · skip
                refine ez_go (n := 2) (pc' := 161) (L' := [(3, .inl (gV (yD Ls) u (i - 1))), (4, .inl (gV (yD Ls) u (i))), (0, .inr (.inr (some (770)))), (1, .inr (.inr (some (q)))), (2, .inl (i))]) (st' := [.inl (8), .inl (gV (yD Ls) u (i))]) rfl ?_
                refine ez_icmp rfl rfl ⟨by first | omega | exact (sz_i32 _).1, by first | omega | exact (sz_i32 _).2⟩ ⟨by first | omega | exact (sz_i32 _).1, by first | omega | exact (sz_i32 _).2⟩ (fun (c26 : (gV (yD Ls) u (i)) = (8)) => ?_) (fun (c26 : ¬((gV (yD Ls) u (i)) = (8))) => ?_)
                · skip
                  refine ez_go (n := 1) (pc' := 171) (L' := [(3, .inl (gV (yD Ls) u (i - 1))), (4, .inl (gV (yD Ls) u (i))), (0, .inr (.inr (some (770)))), (1, .inr (.inr (some (q)))), (2, .inl (i))]) (st' := [.inl (0)]) rfl ?_
                  exact ez_retZ rfl rfl (Or.inl rfl) (k0 (gbd_n i0 i1 (by first | exact Or.inl ⟨by omega, by omega⟩ | exact Or.inr ⟨⟨by omega, by omega⟩, Or.inl (by omega)⟩)))
                · skip
                  refine ez_go (n := 2) (pc' := 167) (L' := [(3, .inl (gV (yD Ls) u (i - 1))), (4, .inl (gV (yD Ls) u (i))), (0, .inr (.inr (some (770)))), (1, .inr (.inr (some (q)))), (2, .inl (i))]) (st' := [.inl (7), .inl (gV (yD Ls) u (i - 1))]) rfl ?_
                  refine ez_icmp rfl rfl ⟨by first | omega | exact (sz_i32 _).1, by first | omega | exact (sz_i32 _).2⟩ ⟨by first | omega | exact (sz_i32 _).1, by first | omega | exact (sz_i32 _).2⟩ (fun (c27 : (gV (yD Ls) u (i - 1)) ≠ (7)) => ?_) (fun (c27 : ¬((gV (yD Ls) u (i - 1)) ≠ (7))) => ?_)
                  · skip
                    refine ez_less [(3, .inl (gV (yD Ls) u (i - 1))), (4, .inl (gV (yD Ls) u (i))), (0, .inr (.inr (some (770)))), (1, .inr (.inr (some (q)))), (2, .inl (i))] rfl ⟨rfl, rfl, rfl, rfl, rfl, trivial⟩ ?_
                    exact rd_mcp hI mt i0 i1 k1 k0 ra rb (by omega) (by omega) (by omega) (by omega)
                  · skip
                    refine ez_go (n := 1) (pc' := 171) (L' := [(3, .inl (gV (yD Ls) u (i - 1))), (4, .inl (gV (yD Ls) u (i))), (0, .inr (.inr (some (770)))), (1, .inr (.inr (some (q)))), (2, .inl (i))]) (st' := [.inl (0)]) rfl ?_
                    exact ez_retZ rfl rfl (Or.inl rfl) (k0 (gbd_n i0 i1 (by first | exact Or.inl ⟨by omega, by omega⟩ | exact Or.inr ⟨⟨by omega, by omega⟩, Or.inl (by omega)⟩)))
          · skip
            refine ez_go (n := 1) (pc' := 144) (L' := [(3, .inl (gV (yD Ls) u (i - 1))), (4, .inl (gV (yD Ls) u (i))), (0, .inr (.inr (some (770)))), (1, .inr (.inr (some (q)))), (2, .inl (i))]) (st' := [.inl (0)]) rfl ?_
            exact ez_retZ rfl rfl (Or.inl rfl) (k0 (gbd_n i0 i1 (by first | exact Or.inl ⟨by omega, by omega⟩ | exact Or.inr ⟨⟨by omega, by omega⟩, Or.inl (by omega)⟩)))
        · skip
          refine ez_go (n := 2) (pc' := 133) (L' := [(3, .inl (gV (yD Ls) u (i - 1))), (4, .inl (gV (yD Ls) u (i))), (0, .inr (.inr (some (770)))), (1, .inr (.inr (some (q)))), (2, .inl (i))]) (st' := [.inl (11), .inl (gV (yD Ls) u (i - 1))]) rfl ?_
          refine ez_icmp rfl rfl ⟨by first | omega | exact (sz_i32 _).1, by first | omega | exact (sz_i32 _).2⟩ ⟨by first | omega | exact (sz_i32 _).1, by first | omega | exact (sz_i32 _).2⟩ (fun (c28 : (gV (yD Ls) u (i - 1)) ≠ (11)) => ?_) (fun (c28 : ¬((gV (yD Ls) u (i - 1)) ≠ (11))) => ?_)
          · skip
            refine ez_go (n := 2) (pc' := 148) (L' := [(3, .inl (gV (yD Ls) u (i - 1))), (4, .inl (gV (yD Ls) u (i))), (0, .inr (.inr (some (770)))), (1, .inr (.inr (some (q)))), (2, .inl (i))]) (st' := [.inl (4), .inl (gV (yD Ls) u (i))]) rfl ?_
            refine ez_icmp rfl rfl ⟨by first | omega | exact (sz_i32 _).1, by first | omega | exact (sz_i32 _).2⟩ ⟨by first | omega | exact (sz_i32 _).1, by first | omega | exact (sz_i32 _).2⟩ (fun (c29 : (gV (yD Ls) u (i)) = (4)) => ?_) (fun (c29 : ¬((gV (yD Ls) u (i)) = (4))) => ?_)
            · skip
              refine ez_go (n := 1) (pc' := 171) (L' := [(3, .inl (gV (yD Ls) u (i - 1))), (4, .inl (gV (yD Ls) u (i))), (0, .inr (.inr (some (770)))), (1, .inr (.inr (some (q)))), (2, .inl (i))]) (st' := [.inl (0)]) rfl ?_
              exact ez_retZ rfl rfl (Or.inl rfl) (k0 (gbd_n i0 i1 (by first | exact Or.inl ⟨by omega, by omega⟩ | exact Or.inr ⟨⟨by omega, by omega⟩, Or.inl (by omega)⟩)))
            · skip
              refine ez_go (n := 2) (pc' := 154) (L' := [(3, .inl (gV (yD Ls) u (i - 1))), (4, .inl (gV (yD Ls) u (i))), (0, .inr (.inr (some (770)))), (1, .inr (.inr (some (q)))), (2, .inl (i))]) (st' := [.inl (5), .inl (gV (yD Ls) u (i))]) rfl ?_
              refine ez_icmp rfl rfl ⟨by first | omega | exact (sz_i32 _).1, by first | omega | exact (sz_i32 _).2⟩ ⟨by first | omega | exact (sz_i32 _).1, by first | omega | exact (sz_i32 _).2⟩ (fun (c30 : (gV (yD Ls) u (i)) = (5)) => ?_) (fun (c30 : ¬((gV (yD Ls) u (i)) = (5))) => ?_)
              · skip
                refine ez_go (n := 1) (pc' := 171) (L' := [(3, .inl (gV (yD Ls) u (i - 1))), (4, .inl (gV (yD Ls) u (i))), (0, .inr (.inr (some (770)))), (1, .inr (.inr (some (q)))), (2, .inl (i))]) (st' := [.inl (0)]) rfl ?_
                exact ez_retZ rfl rfl (Or.inl rfl) (k0 (gbd_n i0 i1 (by first | exact Or.inl ⟨by omega, by omega⟩ | exact Or.inr ⟨⟨by omega, by omega⟩, Or.inl (by omega)⟩)))
              · skip
                refine ez_go (n := 2) (pc' := 161) (L' := [(3, .inl (gV (yD Ls) u (i - 1))), (4, .inl (gV (yD Ls) u (i))), (0, .inr (.inr (some (770)))), (1, .inr (.inr (some (q)))), (2, .inl (i))]) (st' := [.inl (8), .inl (gV (yD Ls) u (i))]) rfl ?_
                refine ez_icmp rfl rfl ⟨by first | omega | exact (sz_i32 _).1, by first | omega | exact (sz_i32 _).2⟩ ⟨by first | omega | exact (sz_i32 _).1, by first | omega | exact (sz_i32 _).2⟩ (fun (c31 : (gV (yD Ls) u (i)) = (8)) => ?_) (fun (c31 : ¬((gV (yD Ls) u (i)) = (8))) => ?_)
                · skip
                  refine ez_go (n := 1) (pc' := 171) (L' := [(3, .inl (gV (yD Ls) u (i - 1))), (4, .inl (gV (yD Ls) u (i))), (0, .inr (.inr (some (770)))), (1, .inr (.inr (some (q)))), (2, .inl (i))]) (st' := [.inl (0)]) rfl ?_
                  exact ez_retZ rfl rfl (Or.inl rfl) (k0 (gbd_n i0 i1 (by first | exact Or.inl ⟨by omega, by omega⟩ | exact Or.inr ⟨⟨by omega, by omega⟩, Or.inl (by omega)⟩)))
                · skip
                  refine ez_go (n := 2) (pc' := 167) (L' := [(3, .inl (gV (yD Ls) u (i - 1))), (4, .inl (gV (yD Ls) u (i))), (0, .inr (.inr (some (770)))), (1, .inr (.inr (some (q)))), (2, .inl (i))]) (st' := [.inl (7), .inl (gV (yD Ls) u (i - 1))]) rfl ?_
                  refine ez_icmp rfl rfl ⟨by first | omega | exact (sz_i32 _).1, by first | omega | exact (sz_i32 _).2⟩ ⟨by first | omega | exact (sz_i32 _).1, by first | omega | exact (sz_i32 _).2⟩ (fun (c32 : (gV (yD Ls) u (i - 1)) ≠ (7)) => ?_) (fun (c32 : ¬((gV (yD Ls) u (i - 1)) ≠ (7))) => ?_)
                  · skip
                    refine ez_less [(3, .inl (gV (yD Ls) u (i - 1))), (4, .inl (gV (yD Ls) u (i))), (0, .inr (.inr (some (770)))), (1, .inr (.inr (some (q)))), (2, .inl (i))] rfl ⟨rfl, rfl, rfl, rfl, rfl, trivial⟩ ?_
                    exact rd_mcp hI mt i0 i1 k1 k0 ra rb (by omega) (by omega) (by omega) (by omega)
                  · skip
                    refine ez_go (n := 1) (pc' := 171) (L' := [(3, .inl (gV (yD Ls) u (i - 1))), (4, .inl (gV (yD Ls) u (i))), (0, .inr (.inr (some (770)))), (1, .inr (.inr (some (q)))), (2, .inl (i))]) (st' := [.inl (0)]) rfl ?_
                    exact ez_retZ rfl rfl (Or.inl rfl) (k0 (gbd_n i0 i1 (by first | exact Or.inl ⟨by omega, by omega⟩ | exact Or.inr ⟨⟨by omega, by omega⟩, Or.inl (by omega)⟩)))
          · skip
            refine ez_go (n := 2) (pc' := 140) (L' := [(3, .inl (gV (yD Ls) u (i - 1))), (4, .inl (gV (yD Ls) u (i))), (0, .inr (.inr (some (770)))), (1, .inr (.inr (some (q)))), (2, .inl (i))]) (st' := [.inl (11), .inl (gV (yD Ls) u (i))]) rfl ?_
            refine ez_icmp rfl rfl ⟨by first | omega | exact (sz_i32 _).1, by first | omega | exact (sz_i32 _).2⟩ ⟨by first | omega | exact (sz_i32 _).1, by first | omega | exact (sz_i32 _).2⟩ (fun (c33 : (gV (yD Ls) u (i)) ≠ (11)) => ?_) (fun (c33 : ¬((gV (yD Ls) u (i)) ≠ (11))) => ?_)
            · skip
              refine ez_go (n := 2) (pc' := 148) (L' := [(3, .inl (gV (yD Ls) u (i - 1))), (4, .inl (gV (yD Ls) u (i))), (0, .inr (.inr (some (770)))), (1, .inr (.inr (some (q)))), (2, .inl (i))]) (st' := [.inl (4), .inl (gV (yD Ls) u (i))]) rfl ?_
              refine ez_icmp rfl rfl ⟨by first | omega | exact (sz_i32 _).1, by first | omega | exact (sz_i32 _).2⟩ ⟨by first | omega | exact (sz_i32 _).1, by first | omega | exact (sz_i32 _).2⟩ (fun (c34 : (gV (yD Ls) u (i)) = (4)) => ?_) (fun (c34 : ¬((gV (yD Ls) u (i)) = (4))) => ?_)
              · skip
                refine ez_go (n := 1) (pc' := 171) (L' := [(3, .inl (gV (yD Ls) u (i - 1))), (4, .inl (gV (yD Ls) u (i))), (0, .inr (.inr (some (770)))), (1, .inr (.inr (some (q)))), (2, .inl (i))]) (st' := [.inl (0)]) rfl ?_
                exact ez_retZ rfl rfl (Or.inl rfl) (k0 (gbd_n i0 i1 (by first | exact Or.inl ⟨by omega, by omega⟩ | exact Or.inr ⟨⟨by omega, by omega⟩, Or.inl (by omega)⟩)))
              · skip
                refine ez_go (n := 2) (pc' := 154) (L' := [(3, .inl (gV (yD Ls) u (i - 1))), (4, .inl (gV (yD Ls) u (i))), (0, .inr (.inr (some (770)))), (1, .inr (.inr (some (q)))), (2, .inl (i))]) (st' := [.inl (5), .inl (gV (yD Ls) u (i))]) rfl ?_
                refine ez_icmp rfl rfl ⟨by first | omega | exact (sz_i32 _).1, by first | omega | exact (sz_i32 _).2⟩ ⟨by first | omega | exact (sz_i32 _).1, by first | omega | exact (sz_i32 _).2⟩ (fun (c35 : (gV (yD Ls) u (i)) = (5)) => ?_) (fun (c35 : ¬((gV (yD Ls) u (i)) = (5))) => ?_)
                · skip
                  refine ez_go (n := 1) (pc' := 171) (L' := [(3, .inl (gV (yD Ls) u (i - 1))), (4, .inl (gV (yD Ls) u (i))), (0, .inr (.inr (some (770)))), (1, .inr (.inr (some (q)))), (2, .inl (i))]) (st' := [.inl (0)]) rfl ?_
                  exact ez_retZ rfl rfl (Or.inl rfl) (k0 (gbd_n i0 i1 (by first | exact Or.inl ⟨by omega, by omega⟩ | exact Or.inr ⟨⟨by omega, by omega⟩, Or.inl (by omega)⟩)))
                · skip
                  refine ez_go (n := 2) (pc' := 161) (L' := [(3, .inl (gV (yD Ls) u (i - 1))), (4, .inl (gV (yD Ls) u (i))), (0, .inr (.inr (some (770)))), (1, .inr (.inr (some (q)))), (2, .inl (i))]) (st' := [.inl (8), .inl (gV (yD Ls) u (i))]) rfl ?_
                  refine ez_icmp rfl rfl ⟨by first | omega | exact (sz_i32 _).1, by first | omega | exact (sz_i32 _).2⟩ ⟨by first | omega | exact (sz_i32 _).1, by first | omega | exact (sz_i32 _).2⟩ (fun (c36 : (gV (yD Ls) u (i)) = (8)) => ?_) (fun (c36 : ¬((gV (yD Ls) u (i)) = (8))) => ?_)
                  · skip
                    refine ez_go (n := 1) (pc' := 171) (L' := [(3, .inl (gV (yD Ls) u (i - 1))), (4, .inl (gV (yD Ls) u (i))), (0, .inr (.inr (some (770)))), (1, .inr (.inr (some (q)))), (2, .inl (i))]) (st' := [.inl (0)]) rfl ?_
                    exact ez_retZ rfl rfl (Or.inl rfl) (k0 (gbd_n i0 i1 (by first | exact Or.inl ⟨by omega, by omega⟩ | exact Or.inr ⟨⟨by omega, by omega⟩, Or.inl (by omega)⟩)))
                  · skip
                    refine ez_go (n := 2) (pc' := 167) (L' := [(3, .inl (gV (yD Ls) u (i - 1))), (4, .inl (gV (yD Ls) u (i))), (0, .inr (.inr (some (770)))), (1, .inr (.inr (some (q)))), (2, .inl (i))]) (st' := [.inl (7), .inl (gV (yD Ls) u (i - 1))]) rfl ?_
                    refine ez_icmp rfl rfl ⟨by first | omega | exact (sz_i32 _).1, by first | omega | exact (sz_i32 _).2⟩ ⟨by first | omega | exact (sz_i32 _).1, by first | omega | exact (sz_i32 _).2⟩ (fun (c37 : (gV (yD Ls) u (i - 1)) ≠ (7)) => ?_) (fun (c37 : ¬((gV (yD Ls) u (i - 1)) ≠ (7))) => ?_)
                    · skip
                      refine ez_less [(3, .inl (gV (yD Ls) u (i - 1))), (4, .inl (gV (yD Ls) u (i))), (0, .inr (.inr (some (770)))), (1, .inr (.inr (some (q)))), (2, .inl (i))] rfl ⟨rfl, rfl, rfl, rfl, rfl, trivial⟩ ?_
                      exact rd_mcp hI mt i0 i1 k1 k0 ra rb (by omega) (by omega) (by omega) (by omega)
                    · skip
                      refine ez_go (n := 1) (pc' := 171) (L' := [(3, .inl (gV (yD Ls) u (i - 1))), (4, .inl (gV (yD Ls) u (i))), (0, .inr (.inr (some (770)))), (1, .inr (.inr (some (q)))), (2, .inl (i))]) (st' := [.inl (0)]) rfl ?_
                      exact ez_retZ rfl rfl (Or.inl rfl) (k0 (gbd_n i0 i1 (by first | exact Or.inl ⟨by omega, by omega⟩ | exact Or.inr ⟨⟨by omega, by omega⟩, Or.inl (by omega)⟩)))
            · skip
              refine ez_go (n := 1) (pc' := 144) (L' := [(3, .inl (gV (yD Ls) u (i - 1))), (4, .inl (gV (yD Ls) u (i))), (0, .inr (.inr (some (770)))), (1, .inr (.inr (some (q)))), (2, .inl (i))]) (st' := [.inl (0)]) rfl ?_
              exact ez_retZ rfl rfl (Or.inl rfl) (k0 (gbd_n i0 i1 (by first | exact Or.inl ⟨by omega, by omega⟩ | exact Or.inr ⟨⟨by omega, by omega⟩, Or.inl (by omega)⟩)))
      · skip
        refine ez_go (n := 2) (pc' := 112) (L' := [(3, .inl (gV (yD Ls) u (i - 1))), (4, .inl (gV (yD Ls) u (i))), (0, .inr (.inr (some (770)))), (1, .inr (.inr (some (q)))), (2, .inl (i))]) (st' := [.inl (10), .inl (gV (yD Ls) u (i))]) rfl ?_
        refine ez_icmp rfl rfl ⟨by first | omega | exact (sz_i32 _).1, by first | omega | exact (sz_i32 _).2⟩ ⟨by first | omega | exact (sz_i32 _).1, by first | omega | exact (sz_i32 _).2⟩ (fun (c38 : (gV (yD Ls) u (i)) = (10)) => ?_) (fun (c38 : ¬((gV (yD Ls) u (i)) = (10))) => ?_)
        · skip
          refine ez_go (n := 1) (pc' := 123) (L' := [(3, .inl (gV (yD Ls) u (i - 1))), (4, .inl (gV (yD Ls) u (i))), (0, .inr (.inr (some (770)))), (1, .inr (.inr (some (q)))), (2, .inl (i))]) (st' := [.inl (0)]) rfl ?_
          exact ez_retZ rfl rfl (Or.inl rfl) (k0 (gbd_n i0 i1 (by first | exact Or.inl ⟨by omega, by omega⟩ | exact Or.inr ⟨⟨by omega, by omega⟩, Or.inl (by omega)⟩)))
        · skip
          refine ez_go (n := 2) (pc' := 119) (L' := [(3, .inl (gV (yD Ls) u (i - 1))), (4, .inl (gV (yD Ls) u (i))), (0, .inr (.inr (some (770)))), (1, .inr (.inr (some (q)))), (2, .inl (i))]) (st' := [.inl (11), .inl (gV (yD Ls) u (i))]) rfl ?_
          refine ez_icmp rfl rfl ⟨by first | omega | exact (sz_i32 _).1, by first | omega | exact (sz_i32 _).2⟩ ⟨by first | omega | exact (sz_i32 _).1, by first | omega | exact (sz_i32 _).2⟩ (fun (c39 : (gV (yD Ls) u (i)) ≠ (11)) => ?_) (fun (c39 : ¬((gV (yD Ls) u (i)) ≠ (11))) => ?_)
          · skip
            refine ez_go (n := 2) (pc' := 127) (L' := [(3, .inl (gV (yD Ls) u (i - 1))), (4, .inl (gV (yD Ls) u (i))), (0, .inr (.inr (some (770)))), (1, .inr (.inr (some (q)))), (2, .inl (i))]) (st' := [.inl (13), .inl (gV (yD Ls) u (i - 1))]) rfl ?_
            refine ez_icmp rfl rfl ⟨by first | omega | exact (sz_i32 _).1, by first | omega | exact (sz_i32 _).2⟩ ⟨by first | omega | exact (sz_i32 _).1, by first | omega | exact (sz_i32 _).2⟩ (fun (c40 : (gV (yD Ls) u (i - 1)) = (13)) => ?_) (fun (c40 : ¬((gV (yD Ls) u (i - 1)) = (13))) => ?_)
            · skip
              refine ez_go (n := 2) (pc' := 140) (L' := [(3, .inl (gV (yD Ls) u (i - 1))), (4, .inl (gV (yD Ls) u (i))), (0, .inr (.inr (some (770)))), (1, .inr (.inr (some (q)))), (2, .inl (i))]) (st' := [.inl (11), .inl (gV (yD Ls) u (i))]) rfl ?_
              refine ez_icmp rfl rfl ⟨by first | omega | exact (sz_i32 _).1, by first | omega | exact (sz_i32 _).2⟩ ⟨by first | omega | exact (sz_i32 _).1, by first | omega | exact (sz_i32 _).2⟩ (fun (c41 : (gV (yD Ls) u (i)) ≠ (11)) => ?_) (fun (c41 : ¬((gV (yD Ls) u (i)) ≠ (11))) => ?_)
              · skip
                refine ez_go (n := 2) (pc' := 148) (L' := [(3, .inl (gV (yD Ls) u (i - 1))), (4, .inl (gV (yD Ls) u (i))), (0, .inr (.inr (some (770)))), (1, .inr (.inr (some (q)))), (2, .inl (i))]) (st' := [.inl (4), .inl (gV (yD Ls) u (i))]) rfl ?_
                refine ez_icmp rfl rfl ⟨by first | omega | exact (sz_i32 _).1, by first | omega | exact (sz_i32 _).2⟩ ⟨by first | omega | exact (sz_i32 _).1, by first | omega | exact (sz_i32 _).2⟩ (fun (c42 : (gV (yD Ls) u (i)) = (4)) => ?_) (fun (c42 : ¬((gV (yD Ls) u (i)) = (4))) => ?_)
                · skip
                  refine ez_go (n := 1) (pc' := 171) (L' := [(3, .inl (gV (yD Ls) u (i - 1))), (4, .inl (gV (yD Ls) u (i))), (0, .inr (.inr (some (770)))), (1, .inr (.inr (some (q)))), (2, .inl (i))]) (st' := [.inl (0)]) rfl ?_
                  exact ez_retZ rfl rfl (Or.inl rfl) (k0 (gbd_n i0 i1 (by first | exact Or.inl ⟨by omega, by omega⟩ | exact Or.inr ⟨⟨by omega, by omega⟩, Or.inl (by omega)⟩)))
                · skip
                  refine ez_go (n := 2) (pc' := 154) (L' := [(3, .inl (gV (yD Ls) u (i - 1))), (4, .inl (gV (yD Ls) u (i))), (0, .inr (.inr (some (770)))), (1, .inr (.inr (some (q)))), (2, .inl (i))]) (st' := [.inl (5), .inl (gV (yD Ls) u (i))]) rfl ?_
                  refine ez_icmp rfl rfl ⟨by first | omega | exact (sz_i32 _).1, by first | omega | exact (sz_i32 _).2⟩ ⟨by first | omega | exact (sz_i32 _).1, by first | omega | exact (sz_i32 _).2⟩ (fun (c43 : (gV (yD Ls) u (i)) = (5)) => ?_) (fun (c43 : ¬((gV (yD Ls) u (i)) = (5))) => ?_)
                  · skip
                    refine ez_go (n := 1) (pc' := 171) (L' := [(3, .inl (gV (yD Ls) u (i - 1))), (4, .inl (gV (yD Ls) u (i))), (0, .inr (.inr (some (770)))), (1, .inr (.inr (some (q)))), (2, .inl (i))]) (st' := [.inl (0)]) rfl ?_
                    exact ez_retZ rfl rfl (Or.inl rfl) (k0 (gbd_n i0 i1 (by first | exact Or.inl ⟨by omega, by omega⟩ | exact Or.inr ⟨⟨by omega, by omega⟩, Or.inl (by omega)⟩)))
                  · skip
                    refine ez_go (n := 2) (pc' := 161) (L' := [(3, .inl (gV (yD Ls) u (i - 1))), (4, .inl (gV (yD Ls) u (i))), (0, .inr (.inr (some (770)))), (1, .inr (.inr (some (q)))), (2, .inl (i))]) (st' := [.inl (8), .inl (gV (yD Ls) u (i))]) rfl ?_
                    refine ez_icmp rfl rfl ⟨by first | omega | exact (sz_i32 _).1, by first | omega | exact (sz_i32 _).2⟩ ⟨by first | omega | exact (sz_i32 _).1, by first | omega | exact (sz_i32 _).2⟩ (fun (c44 : (gV (yD Ls) u (i)) = (8)) => ?_) (fun (c44 : ¬((gV (yD Ls) u (i)) = (8))) => ?_)
                    · skip
                      refine ez_go (n := 1) (pc' := 171) (L' := [(3, .inl (gV (yD Ls) u (i - 1))), (4, .inl (gV (yD Ls) u (i))), (0, .inr (.inr (some (770)))), (1, .inr (.inr (some (q)))), (2, .inl (i))]) (st' := [.inl (0)]) rfl ?_
                      exact ez_retZ rfl rfl (Or.inl rfl) (k0 (gbd_n i0 i1 (by first | exact Or.inl ⟨by omega, by omega⟩ | exact Or.inr ⟨⟨by omega, by omega⟩, Or.inl (by omega)⟩)))
                    · skip
                      refine ez_go (n := 2) (pc' := 167) (L' := [(3, .inl (gV (yD Ls) u (i - 1))), (4, .inl (gV (yD Ls) u (i))), (0, .inr (.inr (some (770)))), (1, .inr (.inr (some (q)))), (2, .inl (i))]) (st' := [.inl (7), .inl (gV (yD Ls) u (i - 1))]) rfl ?_
                      refine ez_icmp rfl rfl ⟨by first | omega | exact (sz_i32 _).1, by first | omega | exact (sz_i32 _).2⟩ ⟨by first | omega | exact (sz_i32 _).1, by first | omega | exact (sz_i32 _).2⟩ (fun (c45 : (gV (yD Ls) u (i - 1)) ≠ (7)) => ?_) (fun (c45 : ¬((gV (yD Ls) u (i - 1)) ≠ (7))) => ?_)
                      · skip
                        refine ez_less [(3, .inl (gV (yD Ls) u (i - 1))), (4, .inl (gV (yD Ls) u (i))), (0, .inr (.inr (some (770)))), (1, .inr (.inr (some (q)))), (2, .inl (i))] rfl ⟨rfl, rfl, rfl, rfl, rfl, trivial⟩ ?_
                        exact rd_mcp hI mt i0 i1 k1 k0 ra rb (by omega) (by omega) (by omega) (by omega)
                      · skip
                        refine ez_go (n := 1) (pc' := 171) (L' := [(3, .inl (gV (yD Ls) u (i - 1))), (4, .inl (gV (yD Ls) u (i))), (0, .inr (.inr (some (770)))), (1, .inr (.inr (some (q)))), (2, .inl (i))]) (st' := [.inl (0)]) rfl ?_
                        exact ez_retZ rfl rfl (Or.inl rfl) (k0 (gbd_n i0 i1 (by first | exact Or.inl ⟨by omega, by omega⟩ | exact Or.inr ⟨⟨by omega, by omega⟩, Or.inl (by omega)⟩)))
              · skip
                refine ez_go (n := 1) (pc' := 144) (L' := [(3, .inl (gV (yD Ls) u (i - 1))), (4, .inl (gV (yD Ls) u (i))), (0, .inr (.inr (some (770)))), (1, .inr (.inr (some (q)))), (2, .inl (i))]) (st' := [.inl (0)]) rfl ?_
                exact ez_retZ rfl rfl (Or.inl rfl) (k0 (gbd_n i0 i1 (by first | exact Or.inl ⟨by omega, by omega⟩ | exact Or.inr ⟨⟨by omega, by omega⟩, Or.inl (by omega)⟩)))
            · skip
              refine ez_go (n := 2) (pc' := 133) (L' := [(3, .inl (gV (yD Ls) u (i - 1))), (4, .inl (gV (yD Ls) u (i))), (0, .inr (.inr (some (770)))), (1, .inr (.inr (some (q)))), (2, .inl (i))]) (st' := [.inl (11), .inl (gV (yD Ls) u (i - 1))]) rfl ?_
              refine ez_icmp rfl rfl ⟨by first | omega | exact (sz_i32 _).1, by first | omega | exact (sz_i32 _).2⟩ ⟨by first | omega | exact (sz_i32 _).1, by first | omega | exact (sz_i32 _).2⟩ (fun (c46 : (gV (yD Ls) u (i - 1)) ≠ (11)) => ?_) (fun (c46 : ¬((gV (yD Ls) u (i - 1)) ≠ (11))) => ?_)
              · skip
                refine ez_go (n := 2) (pc' := 148) (L' := [(3, .inl (gV (yD Ls) u (i - 1))), (4, .inl (gV (yD Ls) u (i))), (0, .inr (.inr (some (770)))), (1, .inr (.inr (some (q)))), (2, .inl (i))]) (st' := [.inl (4), .inl (gV (yD Ls) u (i))]) rfl ?_
                refine ez_icmp rfl rfl ⟨by first | omega | exact (sz_i32 _).1, by first | omega | exact (sz_i32 _).2⟩ ⟨by first | omega | exact (sz_i32 _).1, by first | omega | exact (sz_i32 _).2⟩ (fun (c47 : (gV (yD Ls) u (i)) = (4)) => ?_) (fun (c47 : ¬((gV (yD Ls) u (i)) = (4))) => ?_)
                · skip
                  refine ez_go (n := 1) (pc' := 171) (L' := [(3, .inl (gV (yD Ls) u (i - 1))), (4, .inl (gV (yD Ls) u (i))), (0, .inr (.inr (some (770)))), (1, .inr (.inr (some (q)))), (2, .inl (i))]) (st' := [.inl (0)]) rfl ?_
                  exact ez_retZ rfl rfl (Or.inl rfl) (k0 (gbd_n i0 i1 (by first | exact Or.inl ⟨by omega, by omega⟩ | exact Or.inr ⟨⟨by omega, by omega⟩, Or.inl (by omega)⟩)))
                · skip
                  refine ez_go (n := 2) (pc' := 154) (L' := [(3, .inl (gV (yD Ls) u (i - 1))), (4, .inl (gV (yD Ls) u (i))), (0, .inr (.inr (some (770)))), (1, .inr (.inr (some (q)))), (2, .inl (i))]) (st' := [.inl (5), .inl (gV (yD Ls) u (i))]) rfl ?_
                  refine ez_icmp rfl rfl ⟨by first | omega | exact (sz_i32 _).1, by first | omega | exact (sz_i32 _).2⟩ ⟨by first | omega | exact (sz_i32 _).1, by first | omega | exact (sz_i32 _).2⟩ (fun (c48 : (gV (yD Ls) u (i)) = (5)) => ?_) (fun (c48 : ¬((gV (yD Ls) u (i)) = (5))) => ?_)
                  · skip
                    refine ez_go (n := 1) (pc' := 171) (L' := [(3, .inl (gV (yD Ls) u (i - 1))), (4, .inl (gV (yD Ls) u (i))), (0, .inr (.inr (some (770)))), (1, .inr (.inr (some (q)))), (2, .inl (i))]) (st' := [.inl (0)]) rfl ?_
                    exact ez_retZ rfl rfl (Or.inl rfl) (k0 (gbd_n i0 i1 (by first | exact Or.inl ⟨by omega, by omega⟩ | exact Or.inr ⟨⟨by omega, by omega⟩, Or.inl (by omega)⟩)))
                  · skip
                    refine ez_go (n := 2) (pc' := 161) (L' := [(3, .inl (gV (yD Ls) u (i - 1))), (4, .inl (gV (yD Ls) u (i))), (0, .inr (.inr (some (770)))), (1, .inr (.inr (some (q)))), (2, .inl (i))]) (st' := [.inl (8), .inl (gV (yD Ls) u (i))]) rfl ?_
                    refine ez_icmp rfl rfl ⟨by first | omega | exact (sz_i32 _).1, by first | omega | exact (sz_i32 _).2⟩ ⟨by first | omega | exact (sz_i32 _).1, by first | omega | exact (sz_i32 _).2⟩ (fun (c49 : (gV (yD Ls) u (i)) = (8)) => ?_) (fun (c49 : ¬((gV (yD Ls) u (i)) = (8))) => ?_)
                    · skip
                      refine ez_go (n := 1) (pc' := 171) (L' := [(3, .inl (gV (yD Ls) u (i - 1))), (4, .inl (gV (yD Ls) u (i))), (0, .inr (.inr (some (770)))), (1, .inr (.inr (some (q)))), (2, .inl (i))]) (st' := [.inl (0)]) rfl ?_
                      exact ez_retZ rfl rfl (Or.inl rfl) (k0 (gbd_n i0 i1 (by first | exact Or.inl ⟨by omega, by omega⟩ | exact Or.inr ⟨⟨by omega, by omega⟩, Or.inl (by omega)⟩)))
                    · skip
                      refine ez_go (n := 2) (pc' := 167) (L' := [(3, .inl (gV (yD Ls) u (i - 1))), (4, .inl (gV (yD Ls) u (i))), (0, .inr (.inr (some (770)))), (1, .inr (.inr (some (q)))), (2, .inl (i))]) (st' := [.inl (7), .inl (gV (yD Ls) u (i - 1))]) rfl ?_
                      refine ez_icmp rfl rfl ⟨by first | omega | exact (sz_i32 _).1, by first | omega | exact (sz_i32 _).2⟩ ⟨by first | omega | exact (sz_i32 _).1, by first | omega | exact (sz_i32 _).2⟩ (fun (c50 : (gV (yD Ls) u (i - 1)) ≠ (7)) => ?_) (fun (c50 : ¬((gV (yD Ls) u (i - 1)) ≠ (7))) => ?_)
                      · skip
                        refine ez_less [(3, .inl (gV (yD Ls) u (i - 1))), (4, .inl (gV (yD Ls) u (i))), (0, .inr (.inr (some (770)))), (1, .inr (.inr (some (q)))), (2, .inl (i))] rfl ⟨rfl, rfl, rfl, rfl, rfl, trivial⟩ ?_
                        exact rd_mcp hI mt i0 i1 k1 k0 ra rb (by omega) (by omega) (by omega) (by omega)
                      · skip
                        refine ez_go (n := 1) (pc' := 171) (L' := [(3, .inl (gV (yD Ls) u (i - 1))), (4, .inl (gV (yD Ls) u (i))), (0, .inr (.inr (some (770)))), (1, .inr (.inr (some (q)))), (2, .inl (i))]) (st' := [.inl (0)]) rfl ?_
                        exact ez_retZ rfl rfl (Or.inl rfl) (k0 (gbd_n i0 i1 (by first | exact Or.inl ⟨by omega, by omega⟩ | exact Or.inr ⟨⟨by omega, by omega⟩, Or.inl (by omega)⟩)))
              · skip
                refine ez_go (n := 2) (pc' := 140) (L' := [(3, .inl (gV (yD Ls) u (i - 1))), (4, .inl (gV (yD Ls) u (i))), (0, .inr (.inr (some (770)))), (1, .inr (.inr (some (q)))), (2, .inl (i))]) (st' := [.inl (11), .inl (gV (yD Ls) u (i))]) rfl ?_
                refine ez_icmp rfl rfl ⟨by first | omega | exact (sz_i32 _).1, by first | omega | exact (sz_i32 _).2⟩ ⟨by first | omega | exact (sz_i32 _).1, by first | omega | exact (sz_i32 _).2⟩ (fun (c51 : (gV (yD Ls) u (i)) ≠ (11)) => ?_) (fun (c51 : ¬((gV (yD Ls) u (i)) ≠ (11))) => ?_)
                · skip
                  refine ez_go (n := 2) (pc' := 148) (L' := [(3, .inl (gV (yD Ls) u (i - 1))), (4, .inl (gV (yD Ls) u (i))), (0, .inr (.inr (some (770)))), (1, .inr (.inr (some (q)))), (2, .inl (i))]) (st' := [.inl (4), .inl (gV (yD Ls) u (i))]) rfl ?_
                  refine ez_icmp rfl rfl ⟨by first | omega | exact (sz_i32 _).1, by first | omega | exact (sz_i32 _).2⟩ ⟨by first | omega | exact (sz_i32 _).1, by first | omega | exact (sz_i32 _).2⟩ (fun (c52 : (gV (yD Ls) u (i)) = (4)) => ?_) (fun (c52 : ¬((gV (yD Ls) u (i)) = (4))) => ?_)
                  · skip
                    refine ez_go (n := 1) (pc' := 171) (L' := [(3, .inl (gV (yD Ls) u (i - 1))), (4, .inl (gV (yD Ls) u (i))), (0, .inr (.inr (some (770)))), (1, .inr (.inr (some (q)))), (2, .inl (i))]) (st' := [.inl (0)]) rfl ?_
                    exact ez_retZ rfl rfl (Or.inl rfl) (k0 (gbd_n i0 i1 (by first | exact Or.inl ⟨by omega, by omega⟩ | exact Or.inr ⟨⟨by omega, by omega⟩, Or.inl (by omega)⟩)))
                  · skip
                    refine ez_go (n := 2) (pc' := 154) (L' := [(3, .inl (gV (yD Ls) u (i - 1))), (4, .inl (gV (yD Ls) u (i))), (0, .inr (.inr (some (770)))), (1, .inr (.inr (some (q)))), (2, .inl (i))]) (st' := [.inl (5), .inl (gV (yD Ls) u (i))]) rfl ?_
                    refine ez_icmp rfl rfl ⟨by first | omega | exact (sz_i32 _).1, by first | omega | exact (sz_i32 _).2⟩ ⟨by first | omega | exact (sz_i32 _).1, by first | omega | exact (sz_i32 _).2⟩ (fun (c53 : (gV (yD Ls) u (i)) = (5)) => ?_) (fun (c53 : ¬((gV (yD Ls) u (i)) = (5))) => ?_)
                    · skip
                      refine ez_go (n := 1) (pc' := 171) (L' := [(3, .inl (gV (yD Ls) u (i - 1))), (4, .inl (gV (yD Ls) u (i))), (0, .inr (.inr (some (770)))), (1, .inr (.inr (some (q)))), (2, .inl (i))]) (st' := [.inl (0)]) rfl ?_
                      exact ez_retZ rfl rfl (Or.inl rfl) (k0 (gbd_n i0 i1 (by first | exact Or.inl ⟨by omega, by omega⟩ | exact Or.inr ⟨⟨by omega, by omega⟩, Or.inl (by omega)⟩)))
                    · skip
                      refine ez_go (n := 2) (pc' := 161) (L' := [(3, .inl (gV (yD Ls) u (i - 1))), (4, .inl (gV (yD Ls) u (i))), (0, .inr (.inr (some (770)))), (1, .inr (.inr (some (q)))), (2, .inl (i))]) (st' := [.inl (8), .inl (gV (yD Ls) u (i))]) rfl ?_
                      refine ez_icmp rfl rfl ⟨by first | omega | exact (sz_i32 _).1, by first | omega | exact (sz_i32 _).2⟩ ⟨by first | omega | exact (sz_i32 _).1, by first | omega | exact (sz_i32 _).2⟩ (fun (c54 : (gV (yD Ls) u (i)) = (8)) => ?_) (fun (c54 : ¬((gV (yD Ls) u (i)) = (8))) => ?_)
                      · skip
                        refine ez_go (n := 1) (pc' := 171) (L' := [(3, .inl (gV (yD Ls) u (i - 1))), (4, .inl (gV (yD Ls) u (i))), (0, .inr (.inr (some (770)))), (1, .inr (.inr (some (q)))), (2, .inl (i))]) (st' := [.inl (0)]) rfl ?_
                        exact ez_retZ rfl rfl (Or.inl rfl) (k0 (gbd_n i0 i1 (by first | exact Or.inl ⟨by omega, by omega⟩ | exact Or.inr ⟨⟨by omega, by omega⟩, Or.inl (by omega)⟩)))
                      · skip
                        refine ez_go (n := 2) (pc' := 167) (L' := [(3, .inl (gV (yD Ls) u (i - 1))), (4, .inl (gV (yD Ls) u (i))), (0, .inr (.inr (some (770)))), (1, .inr (.inr (some (q)))), (2, .inl (i))]) (st' := [.inl (7), .inl (gV (yD Ls) u (i - 1))]) rfl ?_
                        refine ez_icmp rfl rfl ⟨by first | omega | exact (sz_i32 _).1, by first | omega | exact (sz_i32 _).2⟩ ⟨by first | omega | exact (sz_i32 _).1, by first | omega | exact (sz_i32 _).2⟩ (fun (c55 : (gV (yD Ls) u (i - 1)) ≠ (7)) => ?_) (fun (c55 : ¬((gV (yD Ls) u (i - 1)) ≠ (7))) => ?_)
                        · skip
                          refine ez_less [(3, .inl (gV (yD Ls) u (i - 1))), (4, .inl (gV (yD Ls) u (i))), (0, .inr (.inr (some (770)))), (1, .inr (.inr (some (q)))), (2, .inl (i))] rfl ⟨rfl, rfl, rfl, rfl, rfl, trivial⟩ ?_
                          exact rd_mcp hI mt i0 i1 k1 k0 ra rb (by omega) (by omega) (by omega) (by omega)
                        · skip
                          refine ez_go (n := 1) (pc' := 171) (L' := [(3, .inl (gV (yD Ls) u (i - 1))), (4, .inl (gV (yD Ls) u (i))), (0, .inr (.inr (some (770)))), (1, .inr (.inr (some (q)))), (2, .inl (i))]) (st' := [.inl (0)]) rfl ?_
                          exact ez_retZ rfl rfl (Or.inl rfl) (k0 (gbd_n i0 i1 (by first | exact Or.inl ⟨by omega, by omega⟩ | exact Or.inr ⟨⟨by omega, by omega⟩, Or.inl (by omega)⟩)))
                · skip
                  refine ez_go (n := 1) (pc' := 144) (L' := [(3, .inl (gV (yD Ls) u (i - 1))), (4, .inl (gV (yD Ls) u (i))), (0, .inr (.inr (some (770)))), (1, .inr (.inr (some (q)))), (2, .inl (i))]) (st' := [.inl (0)]) rfl ?_
                  exact ez_retZ rfl rfl (Or.inl rfl) (k0 (gbd_n i0 i1 (by first | exact Or.inl ⟨by omega, by omega⟩ | exact Or.inr ⟨⟨by omega, by omega⟩, Or.inl (by omega)⟩)))
          · skip
            refine ez_go (n := 1) (pc' := 123) (L' := [(3, .inl (gV (yD Ls) u (i - 1))), (4, .inl (gV (yD Ls) u (i))), (0, .inr (.inr (some (770)))), (1, .inr (.inr (some (q)))), (2, .inl (i))]) (st' := [.inl (0)]) rfl ?_
            exact ez_retZ rfl rfl (Or.inl rfl) (k0 (gbd_n i0 i1 (by first | exact Or.inl ⟨by omega, by omega⟩ | exact Or.inr ⟨⟨by omega, by omega⟩, Or.inl (by omega)⟩)))
  · skip
    refine ez_go (n := 2) (pc' := 70) (L' := [(3, .inl (gV (yD Ls) u (i - 1))), (4, .inl (gV (yD Ls) u (i))), (0, .inr (.inr (some (770)))), (1, .inr (.inr (some (q)))), (2, .inl (i))]) (st' := [.inl (9), .inl (gV (yD Ls) u (i))]) rfl ?_
    refine ez_icmp rfl rfl ⟨by first | omega | exact (sz_i32 _).1, by first | omega | exact (sz_i32 _).2⟩ ⟨by first | omega | exact (sz_i32 _).1, by first | omega | exact (sz_i32 _).2⟩ (fun (c56 : (gV (yD Ls) u (i)) = (9)) => ?_) (fun (c56 : ¬((gV (yD Ls) u (i)) = (9))) => ?_)
    · skip
      refine ez_go (n := 1) (pc' := 95) (L' := [(3, .inl (gV (yD Ls) u (i - 1))), (4, .inl (gV (yD Ls) u (i))), (0, .inr (.inr (some (770)))), (1, .inr (.inr (some (q)))), (2, .inl (i))]) (st' := [.inl (0)]) rfl ?_
      exact ez_retZ rfl rfl (Or.inl rfl) (k0 (gbd_n i0 i1 (by first | exact Or.inl ⟨by omega, by omega⟩ | exact Or.inr ⟨⟨by omega, by omega⟩, Or.inl (by omega)⟩)))
    · skip
      refine ez_go (n := 2) (pc' := 77) (L' := [(3, .inl (gV (yD Ls) u (i - 1))), (4, .inl (gV (yD Ls) u (i))), (0, .inr (.inr (some (770)))), (1, .inr (.inr (some (q)))), (2, .inl (i))]) (st' := [.inl (10), .inl (gV (yD Ls) u (i))]) rfl ?_
      refine ez_icmp rfl rfl ⟨by first | omega | exact (sz_i32 _).1, by first | omega | exact (sz_i32 _).2⟩ ⟨by first | omega | exact (sz_i32 _).1, by first | omega | exact (sz_i32 _).2⟩ (fun (c57 : (gV (yD Ls) u (i)) = (10)) => ?_) (fun (c57 : ¬((gV (yD Ls) u (i)) = (10))) => ?_)
      · skip
        refine ez_go (n := 1) (pc' := 95) (L' := [(3, .inl (gV (yD Ls) u (i - 1))), (4, .inl (gV (yD Ls) u (i))), (0, .inr (.inr (some (770)))), (1, .inr (.inr (some (q)))), (2, .inl (i))]) (st' := [.inl (0)]) rfl ?_
        exact ez_retZ rfl rfl (Or.inl rfl) (k0 (gbd_n i0 i1 (by first | exact Or.inl ⟨by omega, by omega⟩ | exact Or.inr ⟨⟨by omega, by omega⟩, Or.inl (by omega)⟩)))
      · skip
        refine ez_go (n := 2) (pc' := 84) (L' := [(3, .inl (gV (yD Ls) u (i - 1))), (4, .inl (gV (yD Ls) u (i))), (0, .inr (.inr (some (770)))), (1, .inr (.inr (some (q)))), (2, .inl (i))]) (st' := [.inl (12), .inl (gV (yD Ls) u (i))]) rfl ?_
        refine ez_icmp rfl rfl ⟨by first | omega | exact (sz_i32 _).1, by first | omega | exact (sz_i32 _).2⟩ ⟨by first | omega | exact (sz_i32 _).1, by first | omega | exact (sz_i32 _).2⟩ (fun (c58 : (gV (yD Ls) u (i)) = (12)) => ?_) (fun (c58 : ¬((gV (yD Ls) u (i)) = (12))) => ?_)
        · skip
          refine ez_go (n := 1) (pc' := 95) (L' := [(3, .inl (gV (yD Ls) u (i - 1))), (4, .inl (gV (yD Ls) u (i))), (0, .inr (.inr (some (770)))), (1, .inr (.inr (some (q)))), (2, .inl (i))]) (st' := [.inl (0)]) rfl ?_
          exact ez_retZ rfl rfl (Or.inl rfl) (k0 (gbd_n i0 i1 (by first | exact Or.inl ⟨by omega, by omega⟩ | exact Or.inr ⟨⟨by omega, by omega⟩, Or.inl (by omega)⟩)))
        · skip
          refine ez_go (n := 2) (pc' := 91) (L' := [(3, .inl (gV (yD Ls) u (i - 1))), (4, .inl (gV (yD Ls) u (i))), (0, .inr (.inr (some (770)))), (1, .inr (.inr (some (q)))), (2, .inl (i))]) (st' := [.inl (13), .inl (gV (yD Ls) u (i))]) rfl ?_
          refine ez_icmp rfl rfl ⟨by first | omega | exact (sz_i32 _).1, by first | omega | exact (sz_i32 _).2⟩ ⟨by first | omega | exact (sz_i32 _).1, by first | omega | exact (sz_i32 _).2⟩ (fun (c59 : (gV (yD Ls) u (i)) ≠ (13)) => ?_) (fun (c59 : ¬((gV (yD Ls) u (i)) ≠ (13))) => ?_)
          · skip
            refine ez_go (n := 2) (pc' := 99) (L' := [(3, .inl (gV (yD Ls) u (i - 1))), (4, .inl (gV (yD Ls) u (i))), (0, .inr (.inr (some (770)))), (1, .inr (.inr (some (q)))), (2, .inl (i))]) (st' := [.inl (12), .inl (gV (yD Ls) u (i - 1))]) rfl ?_
            refine ez_icmp rfl rfl ⟨by first | omega | exact (sz_i32 _).1, by first | omega | exact (sz_i32 _).2⟩ ⟨by first | omega | exact (sz_i32 _).1, by first | omega | exact (sz_i32 _).2⟩ (fun (c60 : (gV (yD Ls) u (i - 1)) = (12)) => ?_) (fun (c60 : ¬((gV (yD Ls) u (i - 1)) = (12))) => ?_)
            · skip
              refine ez_go (n := 2) (pc' := 112) (L' := [(3, .inl (gV (yD Ls) u (i - 1))), (4, .inl (gV (yD Ls) u (i))), (0, .inr (.inr (some (770)))), (1, .inr (.inr (some (q)))), (2, .inl (i))]) (st' := [.inl (10), .inl (gV (yD Ls) u (i))]) rfl ?_
              refine ez_icmp rfl rfl ⟨by first | omega | exact (sz_i32 _).1, by first | omega | exact (sz_i32 _).2⟩ ⟨by first | omega | exact (sz_i32 _).1, by first | omega | exact (sz_i32 _).2⟩ (fun (c61 : (gV (yD Ls) u (i)) = (10)) => ?_) (fun (c61 : ¬((gV (yD Ls) u (i)) = (10))) => ?_)
              · skip
                refine ez_go (n := 1) (pc' := 123) (L' := [(3, .inl (gV (yD Ls) u (i - 1))), (4, .inl (gV (yD Ls) u (i))), (0, .inr (.inr (some (770)))), (1, .inr (.inr (some (q)))), (2, .inl (i))]) (st' := [.inl (0)]) rfl ?_
                exact ez_retZ rfl rfl (Or.inl rfl) (k0 (gbd_n i0 i1 (by first | exact Or.inl ⟨by omega, by omega⟩ | exact Or.inr ⟨⟨by omega, by omega⟩, Or.inl (by omega)⟩)))
              · skip
                refine ez_go (n := 2) (pc' := 119) (L' := [(3, .inl (gV (yD Ls) u (i - 1))), (4, .inl (gV (yD Ls) u (i))), (0, .inr (.inr (some (770)))), (1, .inr (.inr (some (q)))), (2, .inl (i))]) (st' := [.inl (11), .inl (gV (yD Ls) u (i))]) rfl ?_
                refine ez_icmp rfl rfl ⟨by first | omega | exact (sz_i32 _).1, by first | omega | exact (sz_i32 _).2⟩ ⟨by first | omega | exact (sz_i32 _).1, by first | omega | exact (sz_i32 _).2⟩ (fun (c62 : (gV (yD Ls) u (i)) ≠ (11)) => ?_) (fun (c62 : ¬((gV (yD Ls) u (i)) ≠ (11))) => ?_)
                · skip
                  refine ez_go (n := 2) (pc' := 127) (L' := [(3, .inl (gV (yD Ls) u (i - 1))), (4, .inl (gV (yD Ls) u (i))), (0, .inr (.inr (some (770)))), (1, .inr (.inr (some (q)))), (2, .inl (i))]) (st' := [.inl (13), .inl (gV (yD Ls) u (i - 1))]) rfl ?_
                  refine ez_icmp rfl rfl ⟨by first | omega | exact (sz_i32 _).1, by first | omega | exact (sz_i32 _).2⟩ ⟨by first | omega | exact (sz_i32 _).1, by first | omega | exact (sz_i32 _).2⟩ (fun (c63 : (gV (yD Ls) u (i - 1)) = (13)) => ?_) (fun (c63 : ¬((gV (yD Ls) u (i - 1)) = (13))) => ?_)
                  · skip
                    refine ez_go (n := 2) (pc' := 140) (L' := [(3, .inl (gV (yD Ls) u (i - 1))), (4, .inl (gV (yD Ls) u (i))), (0, .inr (.inr (some (770)))), (1, .inr (.inr (some (q)))), (2, .inl (i))]) (st' := [.inl (11), .inl (gV (yD Ls) u (i))]) rfl ?_
                    refine ez_icmp rfl rfl ⟨by first | omega | exact (sz_i32 _).1, by first | omega | exact (sz_i32 _).2⟩ ⟨by first | omega | exact (sz_i32 _).1, by first | omega | exact (sz_i32 _).2⟩ (fun (c64 : (gV (yD Ls) u (i)) ≠ (11)) => ?_) (fun (c64 : ¬((gV (yD Ls) u (i)) ≠ (11))) => ?_)
                    · skip
                      refine ez_go (n := 2) (pc' := 148) (L' := [(3, .inl (gV (yD Ls) u (i - 1))), (4, .inl (gV (yD Ls) u (i))), (0, .inr (.inr (some (770)))), (1, .inr (.inr (some (q)))), (2, .inl (i))]) (st' := [.inl (4), .inl (gV (yD Ls) u (i))]) rfl ?_
                      refine ez_icmp rfl rfl ⟨by first | omega | exact (sz_i32 _).1, by first | omega | exact (sz_i32 _).2⟩ ⟨by first | omega | exact (sz_i32 _).1, by first | omega | exact (sz_i32 _).2⟩ (fun (c65 : (gV (yD Ls) u (i)) = (4)) => ?_) (fun (c65 : ¬((gV (yD Ls) u (i)) = (4))) => ?_)
                      · skip
                        refine ez_go (n := 1) (pc' := 171) (L' := [(3, .inl (gV (yD Ls) u (i - 1))), (4, .inl (gV (yD Ls) u (i))), (0, .inr (.inr (some (770)))), (1, .inr (.inr (some (q)))), (2, .inl (i))]) (st' := [.inl (0)]) rfl ?_
                        exact ez_retZ rfl rfl (Or.inl rfl) (k0 (gbd_n i0 i1 (by first | exact Or.inl ⟨by omega, by omega⟩ | exact Or.inr ⟨⟨by omega, by omega⟩, Or.inl (by omega)⟩)))
                      · skip
                        refine ez_go (n := 2) (pc' := 154) (L' := [(3, .inl (gV (yD Ls) u (i - 1))), (4, .inl (gV (yD Ls) u (i))), (0, .inr (.inr (some (770)))), (1, .inr (.inr (some (q)))), (2, .inl (i))]) (st' := [.inl (5), .inl (gV (yD Ls) u (i))]) rfl ?_
                        refine ez_icmp rfl rfl ⟨by first | omega | exact (sz_i32 _).1, by first | omega | exact (sz_i32 _).2⟩ ⟨by first | omega | exact (sz_i32 _).1, by first | omega | exact (sz_i32 _).2⟩ (fun (c66 : (gV (yD Ls) u (i)) = (5)) => ?_) (fun (c66 : ¬((gV (yD Ls) u (i)) = (5))) => ?_)
                        · skip
                          refine ez_go (n := 1) (pc' := 171) (L' := [(3, .inl (gV (yD Ls) u (i - 1))), (4, .inl (gV (yD Ls) u (i))), (0, .inr (.inr (some (770)))), (1, .inr (.inr (some (q)))), (2, .inl (i))]) (st' := [.inl (0)]) rfl ?_
                          exact ez_retZ rfl rfl (Or.inl rfl) (k0 (gbd_n i0 i1 (by first | exact Or.inl ⟨by omega, by omega⟩ | exact Or.inr ⟨⟨by omega, by omega⟩, Or.inl (by omega)⟩)))
                        · skip
                          refine ez_go (n := 2) (pc' := 161) (L' := [(3, .inl (gV (yD Ls) u (i - 1))), (4, .inl (gV (yD Ls) u (i))), (0, .inr (.inr (some (770)))), (1, .inr (.inr (some (q)))), (2, .inl (i))]) (st' := [.inl (8), .inl (gV (yD Ls) u (i))]) rfl ?_
                          refine ez_icmp rfl rfl ⟨by first | omega | exact (sz_i32 _).1, by first | omega | exact (sz_i32 _).2⟩ ⟨by first | omega | exact (sz_i32 _).1, by first | omega | exact (sz_i32 _).2⟩ (fun (c67 : (gV (yD Ls) u (i)) = (8)) => ?_) (fun (c67 : ¬((gV (yD Ls) u (i)) = (8))) => ?_)
                          · skip
                            refine ez_go (n := 1) (pc' := 171) (L' := [(3, .inl (gV (yD Ls) u (i - 1))), (4, .inl (gV (yD Ls) u (i))), (0, .inr (.inr (some (770)))), (1, .inr (.inr (some (q)))), (2, .inl (i))]) (st' := [.inl (0)]) rfl ?_
                            exact ez_retZ rfl rfl (Or.inl rfl) (k0 (gbd_n i0 i1 (by first | exact Or.inl ⟨by omega, by omega⟩ | exact Or.inr ⟨⟨by omega, by omega⟩, Or.inl (by omega)⟩)))
                          · skip
                            refine ez_go (n := 2) (pc' := 167) (L' := [(3, .inl (gV (yD Ls) u (i - 1))), (4, .inl (gV (yD Ls) u (i))), (0, .inr (.inr (some (770)))), (1, .inr (.inr (some (q)))), (2, .inl (i))]) (st' := [.inl (7), .inl (gV (yD Ls) u (i - 1))]) rfl ?_
                            refine ez_icmp rfl rfl ⟨by first | omega | exact (sz_i32 _).1, by first | omega | exact (sz_i32 _).2⟩ ⟨by first | omega | exact (sz_i32 _).1, by first | omega | exact (sz_i32 _).2⟩ (fun (c68 : (gV (yD Ls) u (i - 1)) ≠ (7)) => ?_) (fun (c68 : ¬((gV (yD Ls) u (i - 1)) ≠ (7))) => ?_)
                            · skip
                              refine ez_less [(3, .inl (gV (yD Ls) u (i - 1))), (4, .inl (gV (yD Ls) u (i))), (0, .inr (.inr (some (770)))), (1, .inr (.inr (some (q)))), (2, .inl (i))] rfl ⟨rfl, rfl, rfl, rfl, rfl, trivial⟩ ?_
                              exact rd_mcp hI mt i0 i1 k1 k0 ra rb (by omega) (by omega) (by omega) (by omega)
                            · skip
                              refine ez_go (n := 1) (pc' := 171) (L' := [(3, .inl (gV (yD Ls) u (i - 1))), (4, .inl (gV (yD Ls) u (i))), (0, .inr (.inr (some (770)))), (1, .inr (.inr (some (q)))), (2, .inl (i))]) (st' := [.inl (0)]) rfl ?_
                              exact ez_retZ rfl rfl (Or.inl rfl) (k0 (gbd_n i0 i1 (by first | exact Or.inl ⟨by omega, by omega⟩ | exact Or.inr ⟨⟨by omega, by omega⟩, Or.inl (by omega)⟩)))
                    · skip
                      refine ez_go (n := 1) (pc' := 144) (L' := [(3, .inl (gV (yD Ls) u (i - 1))), (4, .inl (gV (yD Ls) u (i))), (0, .inr (.inr (some (770)))), (1, .inr (.inr (some (q)))), (2, .inl (i))]) (st' := [.inl (0)]) rfl ?_
                      exact ez_retZ rfl rfl (Or.inl rfl) (k0 (gbd_n i0 i1 (by first | exact Or.inl ⟨by omega, by omega⟩ | exact Or.inr ⟨⟨by omega, by omega⟩, Or.inl (by omega)⟩)))
                  · skip
                    refine ez_go (n := 2) (pc' := 133) (L' := [(3, .inl (gV (yD Ls) u (i - 1))), (4, .inl (gV (yD Ls) u (i))), (0, .inr (.inr (some (770)))), (1, .inr (.inr (some (q)))), (2, .inl (i))]) (st' := [.inl (11), .inl (gV (yD Ls) u (i - 1))]) rfl ?_
                    refine ez_icmp rfl rfl ⟨by first | omega | exact (sz_i32 _).1, by first | omega | exact (sz_i32 _).2⟩ ⟨by first | omega | exact (sz_i32 _).1, by first | omega | exact (sz_i32 _).2⟩ (fun (c69 : (gV (yD Ls) u (i - 1)) ≠ (11)) => ?_) (fun (c69 : ¬((gV (yD Ls) u (i - 1)) ≠ (11))) => ?_)
                    · skip
                      refine ez_go (n := 2) (pc' := 148) (L' := [(3, .inl (gV (yD Ls) u (i - 1))), (4, .inl (gV (yD Ls) u (i))), (0, .inr (.inr (some (770)))), (1, .inr (.inr (some (q)))), (2, .inl (i))]) (st' := [.inl (4), .inl (gV (yD Ls) u (i))]) rfl ?_
                      refine ez_icmp rfl rfl ⟨by first | omega | exact (sz_i32 _).1, by first | omega | exact (sz_i32 _).2⟩ ⟨by first | omega | exact (sz_i32 _).1, by first | omega | exact (sz_i32 _).2⟩ (fun (c70 : (gV (yD Ls) u (i)) = (4)) => ?_) (fun (c70 : ¬((gV (yD Ls) u (i)) = (4))) => ?_)
                      · skip
                        refine ez_go (n := 1) (pc' := 171) (L' := [(3, .inl (gV (yD Ls) u (i - 1))), (4, .inl (gV (yD Ls) u (i))), (0, .inr (.inr (some (770)))), (1, .inr (.inr (some (q)))), (2, .inl (i))]) (st' := [.inl (0)]) rfl ?_
                        exact ez_retZ rfl rfl (Or.inl rfl) (k0 (gbd_n i0 i1 (by first | exact Or.inl ⟨by omega, by omega⟩ | exact Or.inr ⟨⟨by omega, by omega⟩, Or.inl (by omega)⟩)))
                      · skip
                        refine ez_go (n := 2) (pc' := 154) (L' := [(3, .inl (gV (yD Ls) u (i - 1))), (4, .inl (gV (yD Ls) u (i))), (0, .inr (.inr (some (770)))), (1, .inr (.inr (some (q)))), (2, .inl (i))]) (st' := [.inl (5), .inl (gV (yD Ls) u (i))]) rfl ?_
                        refine ez_icmp rfl rfl ⟨by first | omega | exact (sz_i32 _).1, by first | omega | exact (sz_i32 _).2⟩ ⟨by first | omega | exact (sz_i32 _).1, by first | omega | exact (sz_i32 _).2⟩ (fun (c71 : (gV (yD Ls) u (i)) = (5)) => ?_) (fun (c71 : ¬((gV (yD Ls) u (i)) = (5))) => ?_)
                        · skip
                          refine ez_go (n := 1) (pc' := 171) (L' := [(3, .inl (gV (yD Ls) u (i - 1))), (4, .inl (gV (yD Ls) u (i))), (0, .inr (.inr (some (770)))), (1, .inr (.inr (some (q)))), (2, .inl (i))]) (st' := [.inl (0)]) rfl ?_
                          exact ez_retZ rfl rfl (Or.inl rfl) (k0 (gbd_n i0 i1 (by first | exact Or.inl ⟨by omega, by omega⟩ | exact Or.inr ⟨⟨by omega, by omega⟩, Or.inl (by omega)⟩)))
                        · skip
                          refine ez_go (n := 2) (pc' := 161) (L' := [(3, .inl (gV (yD Ls) u (i - 1))), (4, .inl (gV (yD Ls) u (i))), (0, .inr (.inr (some (770)))), (1, .inr (.inr (some (q)))), (2, .inl (i))]) (st' := [.inl (8), .inl (gV (yD Ls) u (i))]) rfl ?_
                          refine ez_icmp rfl rfl ⟨by first | omega | exact (sz_i32 _).1, by first | omega | exact (sz_i32 _).2⟩ ⟨by first | omega | exact (sz_i32 _).1, by first | omega | exact (sz_i32 _).2⟩ (fun (c72 : (gV (yD Ls) u (i)) = (8)) => ?_) (fun (c72 : ¬((gV (yD Ls) u (i)) = (8))) => ?_)
                          · skip
                            refine ez_go (n := 1) (pc' := 171) (L' := [(3, .inl (gV (yD Ls) u (i - 1))), (4, .inl (gV (yD Ls) u (i))), (0, .inr (.inr (some (770)))), (1, .inr (.inr (some (q)))), (2, .inl (i))]) (st' := [.inl (0)]) rfl ?_
                            exact ez_retZ rfl rfl (Or.inl rfl) (k0 (gbd_n i0 i1 (by first | exact Or.inl ⟨by omega, by omega⟩ | exact Or.inr ⟨⟨by omega, by omega⟩, Or.inl (by omega)⟩)))
                          · skip
                            refine ez_go (n := 2) (pc' := 167) (L' := [(3, .inl (gV (yD Ls) u (i - 1))), (4, .inl (gV (yD Ls) u (i))), (0, .inr (.inr (some (770)))), (1, .inr (.inr (some (q)))), (2, .inl (i))]) (st' := [.inl (7), .inl (gV (yD Ls) u (i - 1))]) rfl ?_
                            refine ez_icmp rfl rfl ⟨by first | omega | exact (sz_i32 _).1, by first | omega | exact (sz_i32 _).2⟩ ⟨by first | omega | exact (sz_i32 _).1, by first | omega | exact (sz_i32 _).2⟩ (fun (c73 : (gV (yD Ls) u (i - 1)) ≠ (7)) => ?_) (fun (c73 : ¬((gV (yD Ls) u (i - 1)) ≠ (7))) => ?_)
                            · skip
                              refine ez_less [(3, .inl (gV (yD Ls) u (i - 1))), (4, .inl (gV (yD Ls) u (i))), (0, .inr (.inr (some (770)))), (1, .inr (.inr (some (q)))), (2, .inl (i))] rfl ⟨rfl, rfl, rfl, rfl, rfl, trivial⟩ ?_
                              exact rd_mcp hI mt i0 i1 k1 k0 ra rb (by omega) (by omega) (by omega) (by omega)
                            · skip
                              refine ez_go (n := 1) (pc' := 171) (L' := [(3, .inl (gV (yD Ls) u (i - 1))), (4, .inl (gV (yD Ls) u (i))), (0, .inr (.inr (some (770)))), (1, .inr (.inr (some (q)))), (2, .inl (i))]) (st' := [.inl (0)]) rfl ?_
                              exact ez_retZ rfl rfl (Or.inl rfl) (k0 (gbd_n i0 i1 (by first | exact Or.inl ⟨by omega, by omega⟩ | exact Or.inr ⟨⟨by omega, by omega⟩, Or.inl (by omega)⟩)))
                    · skip
                      refine ez_go (n := 2) (pc' := 140) (L' := [(3, .inl (gV (yD Ls) u (i - 1))), (4, .inl (gV (yD Ls) u (i))), (0, .inr (.inr (some (770)))), (1, .inr (.inr (some (q)))), (2, .inl (i))]) (st' := [.inl (11), .inl (gV (yD Ls) u (i))]) rfl ?_
                      refine ez_icmp rfl rfl ⟨by first | omega | exact (sz_i32 _).1, by first | omega | exact (sz_i32 _).2⟩ ⟨by first | omega | exact (sz_i32 _).1, by first | omega | exact (sz_i32 _).2⟩ (fun (c74 : (gV (yD Ls) u (i)) ≠ (11)) => ?_) (fun (c74 : ¬((gV (yD Ls) u (i)) ≠ (11))) => ?_)
                      · skip
                        refine ez_go (n := 2) (pc' := 148) (L' := [(3, .inl (gV (yD Ls) u (i - 1))), (4, .inl (gV (yD Ls) u (i))), (0, .inr (.inr (some (770)))), (1, .inr (.inr (some (q)))), (2, .inl (i))]) (st' := [.inl (4), .inl (gV (yD Ls) u (i))]) rfl ?_
                        refine ez_icmp rfl rfl ⟨by first | omega | exact (sz_i32 _).1, by first | omega | exact (sz_i32 _).2⟩ ⟨by first | omega | exact (sz_i32 _).1, by first | omega | exact (sz_i32 _).2⟩ (fun (c75 : (gV (yD Ls) u (i)) = (4)) => ?_) (fun (c75 : ¬((gV (yD Ls) u (i)) = (4))) => ?_)
                        · skip
                          refine ez_go (n := 1) (pc' := 171) (L' := [(3, .inl (gV (yD Ls) u (i - 1))), (4, .inl (gV (yD Ls) u (i))), (0, .inr (.inr (some (770)))), (1, .inr (.inr (some (q)))), (2, .inl (i))]) (st' := [.inl (0)]) rfl ?_
                          exact ez_retZ rfl rfl (Or.inl rfl) (k0 (gbd_n i0 i1 (by first | exact Or.inl ⟨by omega, by omega⟩ | exact Or.inr ⟨⟨by omega, by omega⟩, Or.inl (by omega)⟩)))
                        · skip
                          refine ez_go (n := 2) (pc' := 154) (L' := [(3, .inl (gV (yD Ls) u (i - 1))), (4, .inl (gV (yD Ls) u (i))), (0, .inr (.inr (some (770)))), (1, .inr (.inr (some (q)))), (2, .inl (i))]) (st' := [.inl (5), .inl (gV (yD Ls) u (i))]) rfl ?_
                          refine ez_icmp rfl rfl ⟨by first | omega | exact (sz_i32 _).1, by first | omega | exact (sz_i32 _).2⟩ ⟨by first | omega | exact (sz_i32 _).1, by first | omega | exact (sz_i32 _).2⟩ (fun (c76 : (gV (yD Ls) u (i)) = (5)) => ?_) (fun (c76 : ¬((gV (yD Ls) u (i)) = (5))) => ?_)
                          · skip
                            refine ez_go (n := 1) (pc' := 171) (L' := [(3, .inl (gV (yD Ls) u (i - 1))), (4, .inl (gV (yD Ls) u (i))), (0, .inr (.inr (some (770)))), (1, .inr (.inr (some (q)))), (2, .inl (i))]) (st' := [.inl (0)]) rfl ?_
                            exact ez_retZ rfl rfl (Or.inl rfl) (k0 (gbd_n i0 i1 (by first | exact Or.inl ⟨by omega, by omega⟩ | exact Or.inr ⟨⟨by omega, by omega⟩, Or.inl (by omega)⟩)))
                          · skip
                            refine ez_go (n := 2) (pc' := 161) (L' := [(3, .inl (gV (yD Ls) u (i - 1))), (4, .inl (gV (yD Ls) u (i))), (0, .inr (.inr (some (770)))), (1, .inr (.inr (some (q)))), (2, .inl (i))]) (st' := [.inl (8), .inl (gV (yD Ls) u (i))]) rfl ?_
                            refine ez_icmp rfl rfl ⟨by first | omega | exact (sz_i32 _).1, by first | omega | exact (sz_i32 _).2⟩ ⟨by first | omega | exact (sz_i32 _).1, by first | omega | exact (sz_i32 _).2⟩ (fun (c77 : (gV (yD Ls) u (i)) = (8)) => ?_) (fun (c77 : ¬((gV (yD Ls) u (i)) = (8))) => ?_)
                            · skip
                              refine ez_go (n := 1) (pc' := 171) (L' := [(3, .inl (gV (yD Ls) u (i - 1))), (4, .inl (gV (yD Ls) u (i))), (0, .inr (.inr (some (770)))), (1, .inr (.inr (some (q)))), (2, .inl (i))]) (st' := [.inl (0)]) rfl ?_
                              exact ez_retZ rfl rfl (Or.inl rfl) (k0 (gbd_n i0 i1 (by first | exact Or.inl ⟨by omega, by omega⟩ | exact Or.inr ⟨⟨by omega, by omega⟩, Or.inl (by omega)⟩)))
                            · skip
                              refine ez_go (n := 2) (pc' := 167) (L' := [(3, .inl (gV (yD Ls) u (i - 1))), (4, .inl (gV (yD Ls) u (i))), (0, .inr (.inr (some (770)))), (1, .inr (.inr (some (q)))), (2, .inl (i))]) (st' := [.inl (7), .inl (gV (yD Ls) u (i - 1))]) rfl ?_
                              refine ez_icmp rfl rfl ⟨by first | omega | exact (sz_i32 _).1, by first | omega | exact (sz_i32 _).2⟩ ⟨by first | omega | exact (sz_i32 _).1, by first | omega | exact (sz_i32 _).2⟩ (fun (c78 : (gV (yD Ls) u (i - 1)) ≠ (7)) => ?_) (fun (c78 : ¬((gV (yD Ls) u (i - 1)) ≠ (7))) => ?_)
                              · skip
                                refine ez_less [(3, .inl (gV (yD Ls) u (i - 1))), (4, .inl (gV (yD Ls) u (i))), (0, .inr (.inr (some (770)))), (1, .inr (.inr (some (q)))), (2, .inl (i))] rfl ⟨rfl, rfl, rfl, rfl, rfl, trivial⟩ ?_
                                exact rd_mcp hI mt i0 i1 k1 k0 ra rb (by omega) (by omega) (by omega) (by omega)
                              · skip
                                refine ez_go (n := 1) (pc' := 171) (L' := [(3, .inl (gV (yD Ls) u (i - 1))), (4, .inl (gV (yD Ls) u (i))), (0, .inr (.inr (some (770)))), (1, .inr (.inr (some (q)))), (2, .inl (i))]) (st' := [.inl (0)]) rfl ?_
                                exact ez_retZ rfl rfl (Or.inl rfl) (k0 (gbd_n i0 i1 (by first | exact Or.inl ⟨by omega, by omega⟩ | exact Or.inr ⟨⟨by omega, by omega⟩, Or.inl (by omega)⟩)))
                      · skip
                        refine ez_go (n := 1) (pc' := 144) (L' := [(3, .inl (gV (yD Ls) u (i - 1))), (4, .inl (gV (yD Ls) u (i))), (0, .inr (.inr (some (770)))), (1, .inr (.inr (some (q)))), (2, .inl (i))]) (st' := [.inl (0)]) rfl ?_
                        exact ez_retZ rfl rfl (Or.inl rfl) (k0 (gbd_n i0 i1 (by first | exact Or.inl ⟨by omega, by omega⟩ | exact Or.inr ⟨⟨by omega, by omega⟩, Or.inl (by omega)⟩)))
                · skip
                  refine ez_go (n := 1) (pc' := 123) (L' := [(3, .inl (gV (yD Ls) u (i - 1))), (4, .inl (gV (yD Ls) u (i))), (0, .inr (.inr (some (770)))), (1, .inr (.inr (some (q)))), (2, .inl (i))]) (st' := [.inl (0)]) rfl ?_
                  exact ez_retZ rfl rfl (Or.inl rfl) (k0 (gbd_n i0 i1 (by first | exact Or.inl ⟨by omega, by omega⟩ | exact Or.inr ⟨⟨by omega, by omega⟩, Or.inl (by omega)⟩)))
            · skip
              refine ez_go (n := 2) (pc' := 105) (L' := [(3, .inl (gV (yD Ls) u (i - 1))), (4, .inl (gV (yD Ls) u (i))), (0, .inr (.inr (some (770)))), (1, .inr (.inr (some (q)))), (2, .inl (i))]) (st' := [.inl (10), .inl (gV (yD Ls) u (i - 1))]) rfl ?_
              refine ez_icmp rfl rfl ⟨by first | omega | exact (sz_i32 _).1, by first | omega | exact (sz_i32 _).2⟩ ⟨by first | omega | exact (sz_i32 _).1, by first | omega | exact (sz_i32 _).2⟩ (fun (c79 : (gV (yD Ls) u (i - 1)) ≠ (10)) => ?_) (fun (c79 : ¬((gV (yD Ls) u (i - 1)) ≠ (10))) => ?_)
              · skip
                refine ez_go (n := 2) (pc' := 127) (L' := [(3, .inl (gV (yD Ls) u (i - 1))), (4, .inl (gV (yD Ls) u (i))), (0, .inr (.inr (some (770)))), (1, .inr (.inr (some (q)))), (2, .inl (i))]) (st' := [.inl (13), .inl (gV (yD Ls) u (i - 1))]) rfl ?_
                refine ez_icmp rfl rfl ⟨by first | omega | exact (sz_i32 _).1, by first | omega | exact (sz_i32 _).2⟩ ⟨by first | omega | exact (sz_i32 _).1, by first | omega | exact (sz_i32 _).2⟩ (fun (c80 : (gV (yD Ls) u (i - 1)) = (13)) => ?_) (fun (c80 : ¬((gV (yD Ls) u (i - 1)) = (13))) => ?_)
                · skip
                  refine ez_go (n := 2) (pc' := 140) (L' := [(3, .inl (gV (yD Ls) u (i - 1))), (4, .inl (gV (yD Ls) u (i))), (0, .inr (.inr (some (770)))), (1, .inr (.inr (some (q)))), (2, .inl (i))]) (st' := [.inl (11), .inl (gV (yD Ls) u (i))]) rfl ?_
                  refine ez_icmp rfl rfl ⟨by first | omega | exact (sz_i32 _).1, by first | omega | exact (sz_i32 _).2⟩ ⟨by first | omega | exact (sz_i32 _).1, by first | omega | exact (sz_i32 _).2⟩ (fun (c81 : (gV (yD Ls) u (i)) ≠ (11)) => ?_) (fun (c81 : ¬((gV (yD Ls) u (i)) ≠ (11))) => ?_)
                  · skip
                    refine ez_go (n := 2) (pc' := 148) (L' := [(3, .inl (gV (yD Ls) u (i - 1))), (4, .inl (gV (yD Ls) u (i))), (0, .inr (.inr (some (770)))), (1, .inr (.inr (some (q)))), (2, .inl (i))]) (st' := [.inl (4), .inl (gV (yD Ls) u (i))]) rfl ?_
                    refine ez_icmp rfl rfl ⟨by first | omega | exact (sz_i32 _).1, by first | omega | exact (sz_i32 _).2⟩ ⟨by first | omega | exact (sz_i32 _).1, by first | omega | exact (sz_i32 _).2⟩ (fun (c82 : (gV (yD Ls) u (i)) = (4)) => ?_) (fun (c82 : ¬((gV (yD Ls) u (i)) = (4))) => ?_)
                    · skip
                      refine ez_go (n := 1) (pc' := 171) (L' := [(3, .inl (gV (yD Ls) u (i - 1))), (4, .inl (gV (yD Ls) u (i))), (0, .inr (.inr (some (770)))), (1, .inr (.inr (some (q)))), (2, .inl (i))]) (st' := [.inl (0)]) rfl ?_
                      exact ez_retZ rfl rfl (Or.inl rfl) (k0 (gbd_n i0 i1 (by first | exact Or.inl ⟨by omega, by omega⟩ | exact Or.inr ⟨⟨by omega, by omega⟩, Or.inl (by omega)⟩)))
                    · skip
                      refine ez_go (n := 2) (pc' := 154) (L' := [(3, .inl (gV (yD Ls) u (i - 1))), (4, .inl (gV (yD Ls) u (i))), (0, .inr (.inr (some (770)))), (1, .inr (.inr (some (q)))), (2, .inl (i))]) (st' := [.inl (5), .inl (gV (yD Ls) u (i))]) rfl ?_
                      refine ez_icmp rfl rfl ⟨by first | omega | exact (sz_i32 _).1, by first | omega | exact (sz_i32 _).2⟩ ⟨by first | omega | exact (sz_i32 _).1, by first | omega | exact (sz_i32 _).2⟩ (fun (c83 : (gV (yD Ls) u (i)) = (5)) => ?_) (fun (c83 : ¬((gV (yD Ls) u (i)) = (5))) => ?_)
                      · skip
                        refine ez_go (n := 1) (pc' := 171) (L' := [(3, .inl (gV (yD Ls) u (i - 1))), (4, .inl (gV (yD Ls) u (i))), (0, .inr (.inr (some (770)))), (1, .inr (.inr (some (q)))), (2, .inl (i))]) (st' := [.inl (0)]) rfl ?_
                        exact ez_retZ rfl rfl (Or.inl rfl) (k0 (gbd_n i0 i1 (by first | exact Or.inl ⟨by omega, by omega⟩ | exact Or.inr ⟨⟨by omega, by omega⟩, Or.inl (by omega)⟩)))
                      · skip
                        refine ez_go (n := 2) (pc' := 161) (L' := [(3, .inl (gV (yD Ls) u (i - 1))), (4, .inl (gV (yD Ls) u (i))), (0, .inr (.inr (some (770)))), (1, .inr (.inr (some (q)))), (2, .inl (i))]) (st' := [.inl (8), .inl (gV (yD Ls) u (i))]) rfl ?_
                        refine ez_icmp rfl rfl ⟨by first | omega | exact (sz_i32 _).1, by first | omega | exact (sz_i32 _).2⟩ ⟨by first | omega | exact (sz_i32 _).1, by first | omega | exact (sz_i32 _).2⟩ (fun (c84 : (gV (yD Ls) u (i)) = (8)) => ?_) (fun (c84 : ¬((gV (yD Ls) u (i)) = (8))) => ?_)
                        · skip
                          refine ez_go (n := 1) (pc' := 171) (L' := [(3, .inl (gV (yD Ls) u (i - 1))), (4, .inl (gV (yD Ls) u (i))), (0, .inr (.inr (some (770)))), (1, .inr (.inr (some (q)))), (2, .inl (i))]) (st' := [.inl (0)]) rfl ?_
                          exact ez_retZ rfl rfl (Or.inl rfl) (k0 (gbd_n i0 i1 (by first | exact Or.inl ⟨by omega, by omega⟩ | exact Or.inr ⟨⟨by omega, by omega⟩, Or.inl (by omega)⟩)))
                        · skip
                          refine ez_go (n := 2) (pc' := 167) (L' := [(3, .inl (gV (yD Ls) u (i - 1))), (4, .inl (gV (yD Ls) u (i))), (0, .inr (.inr (some (770)))), (1, .inr (.inr (some (q)))), (2, .inl (i))]) (st' := [.inl (7), .inl (gV (yD Ls) u (i - 1))]) rfl ?_
                          refine ez_icmp rfl rfl ⟨by first | omega | exact (sz_i32 _).1, by first | omega | exact (sz_i32 _).2⟩ ⟨by first | omega | exact (sz_i32 _).1, by first | omega | exact (sz_i32 _).2⟩ (fun (c85 : (gV (yD Ls) u (i - 1)) ≠ (7)) => ?_) (fun (c85 : ¬((gV (yD Ls) u (i - 1)) ≠ (7))) => ?_)
                          · skip
                            refine ez_less [(3, .inl (gV (yD Ls) u (i - 1))), (4, .inl (gV (yD Ls) u (i))), (0, .inr (.inr (some (770)))), (1, .inr (.inr (some (q)))), (2, .inl (i))] rfl ⟨rfl, rfl, rfl, rfl, rfl, trivial⟩ ?_
                            exact rd_mcp hI mt i0 i1 k1 k0 ra rb (by omega) (by omega) (by omega) (by omega)
                          · skip
                            refine ez_go (n := 1) (pc' := 171) (L' := [(3, .inl (gV (yD Ls) u (i - 1))), (4, .inl (gV (yD Ls) u (i))), (0, .inr (.inr (some (770)))), (1, .inr (.inr (some (q)))), (2, .inl (i))]) (st' := [.inl (0)]) rfl ?_
                            exact ez_retZ rfl rfl (Or.inl rfl) (k0 (gbd_n i0 i1 (by first | exact Or.inl ⟨by omega, by omega⟩ | exact Or.inr ⟨⟨by omega, by omega⟩, Or.inl (by omega)⟩)))
                  · skip
                    refine ez_go (n := 1) (pc' := 144) (L' := [(3, .inl (gV (yD Ls) u (i - 1))), (4, .inl (gV (yD Ls) u (i))), (0, .inr (.inr (some (770)))), (1, .inr (.inr (some (q)))), (2, .inl (i))]) (st' := [.inl (0)]) rfl ?_
                    exact ez_retZ rfl rfl (Or.inl rfl) (k0 (gbd_n i0 i1 (by first | exact Or.inl ⟨by omega, by omega⟩ | exact Or.inr ⟨⟨by omega, by omega⟩, Or.inl (by omega)⟩)))
                · skip
                  refine ez_go (n := 2) (pc' := 133) (L' := [(3, .inl (gV (yD Ls) u (i - 1))), (4, .inl (gV (yD Ls) u (i))), (0, .inr (.inr (some (770)))), (1, .inr (.inr (some (q)))), (2, .inl (i))]) (st' := [.inl (11), .inl (gV (yD Ls) u (i - 1))]) rfl ?_
                  refine ez_icmp rfl rfl ⟨by first | omega | exact (sz_i32 _).1, by first | omega | exact (sz_i32 _).2⟩ ⟨by first | omega | exact (sz_i32 _).1, by first | omega | exact (sz_i32 _).2⟩ (fun (c86 : (gV (yD Ls) u (i - 1)) ≠ (11)) => ?_) (fun (c86 : ¬((gV (yD Ls) u (i - 1)) ≠ (11))) => ?_)
                  · skip
                    refine ez_go (n := 2) (pc' := 148) (L' := [(3, .inl (gV (yD Ls) u (i - 1))), (4, .inl (gV (yD Ls) u (i))), (0, .inr (.inr (some (770)))), (1, .inr (.inr (some (q)))), (2, .inl (i))]) (st' := [.inl (4), .inl (gV (yD Ls) u (i))]) rfl ?_
                    refine ez_icmp rfl rfl ⟨by first | omega | exact (sz_i32 _).1, by first | omega | exact (sz_i32 _).2⟩ ⟨by first | omega | exact (sz_i32 _).1, by first | omega | exact (sz_i32 _).2⟩ (fun (c87 : (gV (yD Ls) u (i)) = (4)) => ?_) (fun (c87 : ¬((gV (yD Ls) u (i)) = (4))) => ?_)
                    · skip
                      refine ez_go (n := 1) (pc' := 171) (L' := [(3, .inl (gV (yD Ls) u (i - 1))), (4, .inl (gV (yD Ls) u (i))), (0, .inr (.inr (some (770)))), (1, .inr (.inr (some (q)))), (2, .inl (i))]) (st' := [.inl (0)]) rfl ?_
                      exact ez_retZ rfl rfl (Or.inl rfl) (k0 (gbd_n i0 i1 (by first | exact Or.inl ⟨by omega, by omega⟩ | exact Or.inr ⟨⟨by omega, by omega⟩, Or.inl (by omega)⟩)))
                    · skip
                      refine ez_go (n := 2) (pc' := 154) (L' := [(3, .inl (gV (yD Ls) u (i - 1))), (4, .inl (gV (yD Ls) u (i))), (0, .inr (.inr (some (770)))), (1, .inr (.inr (some (q)))), (2, .inl (i))]) (st' := [.inl (5), .inl (gV (yD Ls) u (i))]) rfl ?_
                      refine ez_icmp rfl rfl ⟨by first | omega | exact (sz_i32 _).1, by first | omega | exact (sz_i32 _).2⟩ ⟨by first | omega | exact (sz_i32 _).1, by first | omega | exact (sz_i32 _).2⟩ (fun (c88 : (gV (yD Ls) u (i)) = (5)) => ?_) (fun (c88 : ¬((gV (yD Ls) u (i)) = (5))) => ?_)
                      · skip
                        refine ez_go (n := 1) (pc' := 171) (L' := [(3, .inl (gV (yD Ls) u (i - 1))), (4, .inl (gV (yD Ls) u (i))), (0, .inr (.inr (some (770)))), (1, .inr (.inr (some (q)))), (2, .inl (i))]) (st' := [.inl (0)]) rfl ?_
                        exact ez_retZ rfl rfl (Or.inl rfl) (k0 (gbd_n i0 i1 (by first | exact Or.inl ⟨by omega, by omega⟩ | exact Or.inr ⟨⟨by omega, by omega⟩, Or.inl (by omega)⟩)))
                      · skip
                        refine ez_go (n := 2) (pc' := 161) (L' := [(3, .inl (gV (yD Ls) u (i - 1))), (4, .inl (gV (yD Ls) u (i))), (0, .inr (.inr (some (770)))), (1, .inr (.inr (some (q)))), (2, .inl (i))]) (st' := [.inl (8), .inl (gV (yD Ls) u (i))]) rfl ?_
                        refine ez_icmp rfl rfl ⟨by first | omega | exact (sz_i32 _).1, by first | omega | exact (sz_i32 _).2⟩ ⟨by first | omega | exact (sz_i32 _).1, by first | omega | exact (sz_i32 _).2⟩ (fun (c89 : (gV (yD Ls) u (i)) = (8)) => ?_) (fun (c89 : ¬((gV (yD Ls) u (i)) = (8))) => ?_)
                        · skip
                          refine ez_go (n := 1) (pc' := 171) (L' := [(3, .inl (gV (yD Ls) u (i - 1))), (4, .inl (gV (yD Ls) u (i))), (0, .inr (.inr (some (770)))), (1, .inr (.inr (some (q)))), (2, .inl (i))]) (st' := [.inl (0)]) rfl ?_
                          exact ez_retZ rfl rfl (Or.inl rfl) (k0 (gbd_n i0 i1 (by first | exact Or.inl ⟨by omega, by omega⟩ | exact Or.inr ⟨⟨by omega, by omega⟩, Or.inl (by omega)⟩)))
                        · skip
                          refine ez_go (n := 2) (pc' := 167) (L' := [(3, .inl (gV (yD Ls) u (i - 1))), (4, .inl (gV (yD Ls) u (i))), (0, .inr (.inr (some (770)))), (1, .inr (.inr (some (q)))), (2, .inl (i))]) (st' := [.inl (7), .inl (gV (yD Ls) u (i - 1))]) rfl ?_
                          refine ez_icmp rfl rfl ⟨by first | omega | exact (sz_i32 _).1, by first | omega | exact (sz_i32 _).2⟩ ⟨by first | omega | exact (sz_i32 _).1, by first | omega | exact (sz_i32 _).2⟩ (fun (c90 : (gV (yD Ls) u (i - 1)) ≠ (7)) => ?_) (fun (c90 : ¬((gV (yD Ls) u (i - 1)) ≠ (7))) => ?_)
                          · skip
                            refine ez_less [(3, .inl (gV (yD Ls) u (i - 1))), (4, .inl (gV (yD Ls) u (i))), (0, .inr (.inr (some (770)))), (1, .inr (.inr (some (q)))), (2, .inl (i))] rfl ⟨rfl, rfl, rfl, rfl, rfl, trivial⟩ ?_
                            exact rd_mcp hI mt i0 i1 k1 k0 ra rb (by omega) (by omega) (by omega) (by omega)
                          · skip
                            refine ez_go (n := 1) (pc' := 171) (L' := [(3, .inl (gV (yD Ls) u (i - 1))), (4, .inl (gV (yD Ls) u (i))), (0, .inr (.inr (some (770)))), (1, .inr (.inr (some (q)))), (2, .inl (i))]) (st' := [.inl (0)]) rfl ?_
                            exact ez_retZ rfl rfl (Or.inl rfl) (k0 (gbd_n i0 i1 (by first | exact Or.inl ⟨by omega, by omega⟩ | exact Or.inr ⟨⟨by omega, by omega⟩, Or.inl (by omega)⟩)))
                  · skip
                    refine ez_go (n := 2) (pc' := 140) (L' := [(3, .inl (gV (yD Ls) u (i - 1))), (4, .inl (gV (yD Ls) u (i))), (0, .inr (.inr (some (770)))), (1, .inr (.inr (some (q)))), (2, .inl (i))]) (st' := [.inl (11), .inl (gV (yD Ls) u (i))]) rfl ?_
                    refine ez_icmp rfl rfl ⟨by first | omega | exact (sz_i32 _).1, by first | omega | exact (sz_i32 _).2⟩ ⟨by first | omega | exact (sz_i32 _).1, by first | omega | exact (sz_i32 _).2⟩ (fun (c91 : (gV (yD Ls) u (i)) ≠ (11)) => ?_) (fun (c91 : ¬((gV (yD Ls) u (i)) ≠ (11))) => ?_)
                    · skip
                      refine ez_go (n := 2) (pc' := 148) (L' := [(3, .inl (gV (yD Ls) u (i - 1))), (4, .inl (gV (yD Ls) u (i))), (0, .inr (.inr (some (770)))), (1, .inr (.inr (some (q)))), (2, .inl (i))]) (st' := [.inl (4), .inl (gV (yD Ls) u (i))]) rfl ?_
                      refine ez_icmp rfl rfl ⟨by first | omega | exact (sz_i32 _).1, by first | omega | exact (sz_i32 _).2⟩ ⟨by first | omega | exact (sz_i32 _).1, by first | omega | exact (sz_i32 _).2⟩ (fun (c92 : (gV (yD Ls) u (i)) = (4)) => ?_) (fun (c92 : ¬((gV (yD Ls) u (i)) = (4))) => ?_)
                      · skip
                        refine ez_go (n := 1) (pc' := 171) (L' := [(3, .inl (gV (yD Ls) u (i - 1))), (4, .inl (gV (yD Ls) u (i))), (0, .inr (.inr (some (770)))), (1, .inr (.inr (some (q)))), (2, .inl (i))]) (st' := [.inl (0)]) rfl ?_
                        exact ez_retZ rfl rfl (Or.inl rfl) (k0 (gbd_n i0 i1 (by first | exact Or.inl ⟨by omega, by omega⟩ | exact Or.inr ⟨⟨by omega, by omega⟩, Or.inl (by omega)⟩)))
                      · skip
                        refine ez_go (n := 2) (pc' := 154) (L' := [(3, .inl (gV (yD Ls) u (i - 1))), (4, .inl (gV (yD Ls) u (i))), (0, .inr (.inr (some (770)))), (1, .inr (.inr (some (q)))), (2, .inl (i))]) (st' := [.inl (5), .inl (gV (yD Ls) u (i))]) rfl ?_
                        refine ez_icmp rfl rfl ⟨by first | omega | exact (sz_i32 _).1, by first | omega | exact (sz_i32 _).2⟩ ⟨by first | omega | exact (sz_i32 _).1, by first | omega | exact (sz_i32 _).2⟩ (fun (c93 : (gV (yD Ls) u (i)) = (5)) => ?_) (fun (c93 : ¬((gV (yD Ls) u (i)) = (5))) => ?_)
                        · skip
                          refine ez_go (n := 1) (pc' := 171) (L' := [(3, .inl (gV (yD Ls) u (i - 1))), (4, .inl (gV (yD Ls) u (i))), (0, .inr (.inr (some (770)))), (1, .inr (.inr (some (q)))), (2, .inl (i))]) (st' := [.inl (0)]) rfl ?_
                          exact ez_retZ rfl rfl (Or.inl rfl) (k0 (gbd_n i0 i1 (by first | exact Or.inl ⟨by omega, by omega⟩ | exact Or.inr ⟨⟨by omega, by omega⟩, Or.inl (by omega)⟩)))
                        · skip
                          refine ez_go (n := 2) (pc' := 161) (L' := [(3, .inl (gV (yD Ls) u (i - 1))), (4, .inl (gV (yD Ls) u (i))), (0, .inr (.inr (some (770)))), (1, .inr (.inr (some (q)))), (2, .inl (i))]) (st' := [.inl (8), .inl (gV (yD Ls) u (i))]) rfl ?_
                          refine ez_icmp rfl rfl ⟨by first | omega | exact (sz_i32 _).1, by first | omega | exact (sz_i32 _).2⟩ ⟨by first | omega | exact (sz_i32 _).1, by first | omega | exact (sz_i32 _).2⟩ (fun (c94 : (gV (yD Ls) u (i)) = (8)) => ?_) (fun (c94 : ¬((gV (yD Ls) u (i)) = (8))) => ?_)
                          · skip
                            refine ez_go (n := 1) (pc' := 171) (L' := [(3, .inl (gV (yD Ls) u (i - 1))), (4, .inl (gV (yD Ls) u (i))), (0, .inr (.inr (some (770)))), (1, .inr (.inr (some (q)))), (2, .inl (i))]) (st' := [.inl (0)]) rfl ?_
                            exact ez_retZ rfl rfl (Or.inl rfl) (k0 (gbd_n i0 i1 (by first | exact Or.inl ⟨by omega, by omega⟩ | exact Or.inr ⟨⟨by omega, by omega⟩, Or.inl (by omega)⟩)))
                          · skip
                            refine ez_go (n := 2) (pc' := 167) (L' := [(3, .inl (gV (yD Ls) u (i - 1))), (4, .inl (gV (yD Ls) u (i))), (0, .inr (.inr (some (770)))), (1, .inr (.inr (some (q)))), (2, .inl (i))]) (st' := [.inl (7), .inl (gV (yD Ls) u (i - 1))]) rfl ?_
                            refine ez_icmp rfl rfl ⟨by first | omega | exact (sz_i32 _).1, by first | omega | exact (sz_i32 _).2⟩ ⟨by first | omega | exact (sz_i32 _).1, by first | omega | exact (sz_i32 _).2⟩ (fun (c95 : (gV (yD Ls) u (i - 1)) ≠ (7)) => ?_) (fun (c95 : ¬((gV (yD Ls) u (i - 1)) ≠ (7))) => ?_)
                            · skip
                              refine ez_less [(3, .inl (gV (yD Ls) u (i - 1))), (4, .inl (gV (yD Ls) u (i))), (0, .inr (.inr (some (770)))), (1, .inr (.inr (some (q)))), (2, .inl (i))] rfl ⟨rfl, rfl, rfl, rfl, rfl, trivial⟩ ?_
                              exact rd_mcp hI mt i0 i1 k1 k0 ra rb (by omega) (by omega) (by omega) (by omega)
                            · skip
                              refine ez_go (n := 1) (pc' := 171) (L' := [(3, .inl (gV (yD Ls) u (i - 1))), (4, .inl (gV (yD Ls) u (i))), (0, .inr (.inr (some (770)))), (1, .inr (.inr (some (q)))), (2, .inl (i))]) (st' := [.inl (0)]) rfl ?_
                              exact ez_retZ rfl rfl (Or.inl rfl) (k0 (gbd_n i0 i1 (by first | exact Or.inl ⟨by omega, by omega⟩ | exact Or.inr ⟨⟨by omega, by omega⟩, Or.inl (by omega)⟩)))
                    · skip
                      refine ez_go (n := 1) (pc' := 144) (L' := [(3, .inl (gV (yD Ls) u (i - 1))), (4, .inl (gV (yD Ls) u (i))), (0, .inr (.inr (some (770)))), (1, .inr (.inr (some (q)))), (2, .inl (i))]) (st' := [.inl (0)]) rfl ?_
                      exact ez_retZ rfl rfl (Or.inl rfl) (k0 (gbd_n i0 i1 (by first | exact Or.inl ⟨by omega, by omega⟩ | exact Or.inr ⟨⟨by omega, by omega⟩, Or.inl (by omega)⟩)))
              · skip
                refine ez_go (n := 2) (pc' := 112) (L' := [(3, .inl (gV (yD Ls) u (i - 1))), (4, .inl (gV (yD Ls) u (i))), (0, .inr (.inr (some (770)))), (1, .inr (.inr (some (q)))), (2, .inl (i))]) (st' := [.inl (10), .inl (gV (yD Ls) u (i))]) rfl ?_
                refine ez_icmp rfl rfl ⟨by first | omega | exact (sz_i32 _).1, by first | omega | exact (sz_i32 _).2⟩ ⟨by first | omega | exact (sz_i32 _).1, by first | omega | exact (sz_i32 _).2⟩ (fun (c96 : (gV (yD Ls) u (i)) = (10)) => ?_) (fun (c96 : ¬((gV (yD Ls) u (i)) = (10))) => ?_)
                · skip
                  refine ez_go (n := 1) (pc' := 123) (L' := [(3, .inl (gV (yD Ls) u (i - 1))), (4, .inl (gV (yD Ls) u (i))), (0, .inr (.inr (some (770)))), (1, .inr (.inr (some (q)))), (2, .inl (i))]) (st' := [.inl (0)]) rfl ?_
                  exact ez_retZ rfl rfl (Or.inl rfl) (k0 (gbd_n i0 i1 (by first | exact Or.inl ⟨by omega, by omega⟩ | exact Or.inr ⟨⟨by omega, by omega⟩, Or.inl (by omega)⟩)))
                · skip
                  refine ez_go (n := 2) (pc' := 119) (L' := [(3, .inl (gV (yD Ls) u (i - 1))), (4, .inl (gV (yD Ls) u (i))), (0, .inr (.inr (some (770)))), (1, .inr (.inr (some (q)))), (2, .inl (i))]) (st' := [.inl (11), .inl (gV (yD Ls) u (i))]) rfl ?_
                  refine ez_icmp rfl rfl ⟨by first | omega | exact (sz_i32 _).1, by first | omega | exact (sz_i32 _).2⟩ ⟨by first | omega | exact (sz_i32 _).1, by first | omega | exact (sz_i32 _).2⟩ (fun (c97 : (gV (yD Ls) u (i)) ≠ (11)) => ?_) (fun (c97 : ¬((gV (yD Ls) u (i)) ≠ (11))) => ?_)
                  · skip
                    refine ez_go (n := 2) (pc' := 127) (L' := [(3, .inl (gV (yD Ls) u (i - 1))), (4, .inl (gV (yD Ls) u (i))), (0, .inr (.inr (some (770)))), (1, .inr (.inr (some (q)))), (2, .inl (i))]) (st' := [.inl (13), .inl (gV (yD Ls) u (i - 1))]) rfl ?_
                    refine ez_icmp rfl rfl ⟨by first | omega | exact (sz_i32 _).1, by first | omega | exact (sz_i32 _).2⟩ ⟨by first | omega | exact (sz_i32 _).1, by first | omega | exact (sz_i32 _).2⟩ (fun (c98 : (gV (yD Ls) u (i - 1)) = (13)) => ?_) (fun (c98 : ¬((gV (yD Ls) u (i - 1)) = (13))) => ?_)
                    · skip
                      refine ez_go (n := 2) (pc' := 140) (L' := [(3, .inl (gV (yD Ls) u (i - 1))), (4, .inl (gV (yD Ls) u (i))), (0, .inr (.inr (some (770)))), (1, .inr (.inr (some (q)))), (2, .inl (i))]) (st' := [.inl (11), .inl (gV (yD Ls) u (i))]) rfl ?_
                      refine ez_icmp rfl rfl ⟨by first | omega | exact (sz_i32 _).1, by first | omega | exact (sz_i32 _).2⟩ ⟨by first | omega | exact (sz_i32 _).1, by first | omega | exact (sz_i32 _).2⟩ (fun (c99 : (gV (yD Ls) u (i)) ≠ (11)) => ?_) (fun (c99 : ¬((gV (yD Ls) u (i)) ≠ (11))) => ?_)
                      · skip
                        refine ez_go (n := 2) (pc' := 148) (L' := [(3, .inl (gV (yD Ls) u (i - 1))), (4, .inl (gV (yD Ls) u (i))), (0, .inr (.inr (some (770)))), (1, .inr (.inr (some (q)))), (2, .inl (i))]) (st' := [.inl (4), .inl (gV (yD Ls) u (i))]) rfl ?_
                        refine ez_icmp rfl rfl ⟨by first | omega | exact (sz_i32 _).1, by first | omega | exact (sz_i32 _).2⟩ ⟨by first | omega | exact (sz_i32 _).1, by first | omega | exact (sz_i32 _).2⟩ (fun (c100 : (gV (yD Ls) u (i)) = (4)) => ?_) (fun (c100 : ¬((gV (yD Ls) u (i)) = (4))) => ?_)
                        · skip
                          refine ez_go (n := 1) (pc' := 171) (L' := [(3, .inl (gV (yD Ls) u (i - 1))), (4, .inl (gV (yD Ls) u (i))), (0, .inr (.inr (some (770)))), (1, .inr (.inr (some (q)))), (2, .inl (i))]) (st' := [.inl (0)]) rfl ?_
                          exact ez_retZ rfl rfl (Or.inl rfl) (k0 (gbd_n i0 i1 (by first | exact Or.inl ⟨by omega, by omega⟩ | exact Or.inr ⟨⟨by omega, by omega⟩, Or.inl (by omega)⟩)))
                        · skip
                          refine ez_go (n := 2) (pc' := 154) (L' := [(3, .inl (gV (yD Ls) u (i - 1))), (4, .inl (gV (yD Ls) u (i))), (0, .inr (.inr (some (770)))), (1, .inr (.inr (some (q)))), (2, .inl (i))]) (st' := [.inl (5), .inl (gV (yD Ls) u (i))]) rfl ?_
                          refine ez_icmp rfl rfl ⟨by first | omega | exact (sz_i32 _).1, by first | omega | exact (sz_i32 _).2⟩ ⟨by first | omega | exact (sz_i32 _).1, by first | omega | exact (sz_i32 _).2⟩ (fun (c101 : (gV (yD Ls) u (i)) = (5)) => ?_) (fun (c101 : ¬((gV (yD Ls) u (i)) = (5))) => ?_)
                          · skip
                            refine ez_go (n := 1) (pc' := 171) (L' := [(3, .inl (gV (yD Ls) u (i - 1))), (4, .inl (gV (yD Ls) u (i))), (0, .inr (.inr (some (770)))), (1, .inr (.inr (some (q)))), (2, .inl (i))]) (st' := [.inl (0)]) rfl ?_
                            exact ez_retZ rfl rfl (Or.inl rfl) (k0 (gbd_n i0 i1 (by first | exact Or.inl ⟨by omega, by omega⟩ | exact Or.inr ⟨⟨by omega, by omega⟩, Or.inl (by omega)⟩)))
                          · skip
                            refine ez_go (n := 2) (pc' := 161) (L' := [(3, .inl (gV (yD Ls) u (i - 1))), (4, .inl (gV (yD Ls) u (i))), (0, .inr (.inr (some (770)))), (1, .inr (.inr (some (q)))), (2, .inl (i))]) (st' := [.inl (8), .inl (gV (yD Ls) u (i))]) rfl ?_
                            refine ez_icmp rfl rfl ⟨by first | omega | exact (sz_i32 _).1, by first | omega | exact (sz_i32 _).2⟩ ⟨by first | omega | exact (sz_i32 _).1, by first | omega | exact (sz_i32 _).2⟩ (fun (c102 : (gV (yD Ls) u (i)) = (8)) => ?_) (fun (c102 : ¬((gV (yD Ls) u (i)) = (8))) => ?_)
                            · skip
                              refine ez_go (n := 1) (pc' := 171) (L' := [(3, .inl (gV (yD Ls) u (i - 1))), (4, .inl (gV (yD Ls) u (i))), (0, .inr (.inr (some (770)))), (1, .inr (.inr (some (q)))), (2, .inl (i))]) (st' := [.inl (0)]) rfl ?_
                              exact ez_retZ rfl rfl (Or.inl rfl) (k0 (gbd_n i0 i1 (by first | exact Or.inl ⟨by omega, by omega⟩ | exact Or.inr ⟨⟨by omega, by omega⟩, Or.inl (by omega)⟩)))
                            · skip
                              refine ez_go (n := 2) (pc' := 167) (L' := [(3, .inl (gV (yD Ls) u (i - 1))), (4, .inl (gV (yD Ls) u (i))), (0, .inr (.inr (some (770)))), (1, .inr (.inr (some (q)))), (2, .inl (i))]) (st' := [.inl (7), .inl (gV (yD Ls) u (i - 1))]) rfl ?_
                              refine ez_icmp rfl rfl ⟨by first | omega | exact (sz_i32 _).1, by first | omega | exact (sz_i32 _).2⟩ ⟨by first | omega | exact (sz_i32 _).1, by first | omega | exact (sz_i32 _).2⟩ (fun (c103 : (gV (yD Ls) u (i - 1)) ≠ (7)) => ?_) (fun (c103 : ¬((gV (yD Ls) u (i - 1)) ≠ (7))) => ?_)
                              · skip
                                refine ez_less [(3, .inl (gV (yD Ls) u (i - 1))), (4, .inl (gV (yD Ls) u (i))), (0, .inr (.inr (some (770)))), (1, .inr (.inr (some (q)))), (2, .inl (i))] rfl ⟨rfl, rfl, rfl, rfl, rfl, trivial⟩ ?_
                                exact rd_mcp hI mt i0 i1 k1 k0 ra rb (by omega) (by omega) (by omega) (by omega)
                              · skip
                                refine ez_go (n := 1) (pc' := 171) (L' := [(3, .inl (gV (yD Ls) u (i - 1))), (4, .inl (gV (yD Ls) u (i))), (0, .inr (.inr (some (770)))), (1, .inr (.inr (some (q)))), (2, .inl (i))]) (st' := [.inl (0)]) rfl ?_
                                exact ez_retZ rfl rfl (Or.inl rfl) (k0 (gbd_n i0 i1 (by first | exact Or.inl ⟨by omega, by omega⟩ | exact Or.inr ⟨⟨by omega, by omega⟩, Or.inl (by omega)⟩)))
                      · skip
                        refine ez_go (n := 1) (pc' := 144) (L' := [(3, .inl (gV (yD Ls) u (i - 1))), (4, .inl (gV (yD Ls) u (i))), (0, .inr (.inr (some (770)))), (1, .inr (.inr (some (q)))), (2, .inl (i))]) (st' := [.inl (0)]) rfl ?_
                        exact ez_retZ rfl rfl (Or.inl rfl) (k0 (gbd_n i0 i1 (by first | exact Or.inl ⟨by omega, by omega⟩ | exact Or.inr ⟨⟨by omega, by omega⟩, Or.inl (by omega)⟩)))
                    · skip
                      refine ez_go (n := 2) (pc' := 133) (L' := [(3, .inl (gV (yD Ls) u (i - 1))), (4, .inl (gV (yD Ls) u (i))), (0, .inr (.inr (some (770)))), (1, .inr (.inr (some (q)))), (2, .inl (i))]) (st' := [.inl (11), .inl (gV (yD Ls) u (i - 1))]) rfl ?_
                      refine ez_icmp rfl rfl ⟨by first | omega | exact (sz_i32 _).1, by first | omega | exact (sz_i32 _).2⟩ ⟨by first | omega | exact (sz_i32 _).1, by first | omega | exact (sz_i32 _).2⟩ (fun (c104 : (gV (yD Ls) u (i - 1)) ≠ (11)) => ?_) (fun (c104 : ¬((gV (yD Ls) u (i - 1)) ≠ (11))) => ?_)
                      · skip
                        refine ez_go (n := 2) (pc' := 148) (L' := [(3, .inl (gV (yD Ls) u (i - 1))), (4, .inl (gV (yD Ls) u (i))), (0, .inr (.inr (some (770)))), (1, .inr (.inr (some (q)))), (2, .inl (i))]) (st' := [.inl (4), .inl (gV (yD Ls) u (i))]) rfl ?_
                        refine ez_icmp rfl rfl ⟨by first | omega | exact (sz_i32 _).1, by first | omega | exact (sz_i32 _).2⟩ ⟨by first | omega | exact (sz_i32 _).1, by first | omega | exact (sz_i32 _).2⟩ (fun (c105 : (gV (yD Ls) u (i)) = (4)) => ?_) (fun (c105 : ¬((gV (yD Ls) u (i)) = (4))) => ?_)
                        · skip
                          refine ez_go (n := 1) (pc' := 171) (L' := [(3, .inl (gV (yD Ls) u (i - 1))), (4, .inl (gV (yD Ls) u (i))), (0, .inr (.inr (some (770)))), (1, .inr (.inr (some (q)))), (2, .inl (i))]) (st' := [.inl (0)]) rfl ?_
                          exact ez_retZ rfl rfl (Or.inl rfl) (k0 (gbd_n i0 i1 (by first | exact Or.inl ⟨by omega, by omega⟩ | exact Or.inr ⟨⟨by omega, by omega⟩, Or.inl (by omega)⟩)))
                        · skip
                          refine ez_go (n := 2) (pc' := 154) (L' := [(3, .inl (gV (yD Ls) u (i - 1))), (4, .inl (gV (yD Ls) u (i))), (0, .inr (.inr (some (770)))), (1, .inr (.inr (some (q)))), (2, .inl (i))]) (st' := [.inl (5), .inl (gV (yD Ls) u (i))]) rfl ?_
                          refine ez_icmp rfl rfl ⟨by first | omega | exact (sz_i32 _).1, by first | omega | exact (sz_i32 _).2⟩ ⟨by first | omega | exact (sz_i32 _).1, by first | omega | exact (sz_i32 _).2⟩ (fun (c106 : (gV (yD Ls) u (i)) = (5)) => ?_) (fun (c106 : ¬((gV (yD Ls) u (i)) = (5))) => ?_)
                          · skip
                            refine ez_go (n := 1) (pc' := 171) (L' := [(3, .inl (gV (yD Ls) u (i - 1))), (4, .inl (gV (yD Ls) u (i))), (0, .inr (.inr (some (770)))), (1, .inr (.inr (some (q)))), (2, .inl (i))]) (st' := [.inl (0)]) rfl ?_
                            exact ez_retZ rfl rfl (Or.inl rfl) (k0 (gbd_n i0 i1 (by first | exact Or.inl ⟨by omega, by omega⟩ | exact Or.inr ⟨⟨by omega, by omega⟩, Or.inl (by omega)⟩)))
                          · skip
                            refine ez_go (n := 2) (pc' := 161) (L' := [(3, .inl (gV (yD Ls) u (i - 1))), (4, .inl (gV (yD Ls) u (i))), (0, .inr (.inr (some (770)))), (1, .inr (.inr (some (q)))), (2, .inl (i))]) (st' := [.inl (8), .inl (gV (yD Ls) u (i))]) rfl ?_
                            refine ez_icmp rfl rfl ⟨by first | omega | exact (sz_i32 _).1, by first | omega | exact (sz_i32 _).2⟩ ⟨by first | omega | exact (sz_i32 _).1, by first | omega | exact (sz_i32 _).2⟩ (fun (c107 : (gV (yD Ls) u (i)) = (8)) => ?_) (fun (c107 : ¬((gV (yD Ls) u (i)) = (8))) => ?_)
                            · skip
                              refine ez_go (n := 1) (pc' := 171) (L' := [(3, .inl (gV (yD Ls) u (i - 1))), (4, .inl (gV (yD Ls) u (i))), (0, .inr (.inr (some (770)))), (1, .inr (.inr (some (q)))), (2, .inl (i))]) (st' := [.inl (0)]) rfl ?_
                              exact ez_retZ rfl rfl (Or.inl rfl) (k0 (gbd_n i0 i1 (by first | exact Or.inl ⟨by omega, by omega⟩ | exact Or.inr ⟨⟨by omega, by omega⟩, Or.inl (by omega)⟩)))
                            · skip
                              refine ez_go (n := 2) (pc' := 167) (L' := [(3, .inl (gV (yD Ls) u (i - 1))), (4, .inl (gV (yD Ls) u (i))), (0, .inr (.inr (some (770)))), (1, .inr (.inr (some (q)))), (2, .inl (i))]) (st' := [.inl (7), .inl (gV (yD Ls) u (i - 1))]) rfl ?_
                              refine ez_icmp rfl rfl ⟨by first | omega | exact (sz_i32 _).1, by first | omega | exact (sz_i32 _).2⟩ ⟨by first | omega | exact (sz_i32 _).1, by first | omega | exact (sz_i32 _).2⟩ (fun (c108 : (gV (yD Ls) u (i - 1)) ≠ (7)) => ?_) (fun (c108 : ¬((gV (yD Ls) u (i - 1)) ≠ (7))) => ?_)
                              · skip
                                refine ez_less [(3, .inl (gV (yD Ls) u (i - 1))), (4, .inl (gV (yD Ls) u (i))), (0, .inr (.inr (some (770)))), (1, .inr (.inr (some (q)))), (2, .inl (i))] rfl ⟨rfl, rfl, rfl, rfl, rfl, trivial⟩ ?_
                                exact rd_mcp hI mt i0 i1 k1 k0 ra rb (by omega) (by omega) (by omega) (by omega)
                              · skip
                                refine ez_go (n := 1) (pc' := 171) (L' := [(3, .inl (gV (yD Ls) u (i - 1))), (4, .inl (gV (yD Ls) u (i))), (0, .inr (.inr (some (770)))), (1, .inr (.inr (some (q)))), (2, .inl (i))]) (st' := [.inl (0)]) rfl ?_
                                exact ez_retZ rfl rfl (Or.inl rfl) (k0 (gbd_n i0 i1 (by first | exact Or.inl ⟨by omega, by omega⟩ | exact Or.inr ⟨⟨by omega, by omega⟩, Or.inl (by omega)⟩)))
                      · skip
                        refine ez_go (n := 2) (pc' := 140) (L' := [(3, .inl (gV (yD Ls) u (i - 1))), (4, .inl (gV (yD Ls) u (i))), (0, .inr (.inr (some (770)))), (1, .inr (.inr (some (q)))), (2, .inl (i))]) (st' := [.inl (11), .inl (gV (yD Ls) u (i))]) rfl ?_
                        refine ez_icmp rfl rfl ⟨by first | omega | exact (sz_i32 _).1, by first | omega | exact (sz_i32 _).2⟩ ⟨by first | omega | exact (sz_i32 _).1, by first | omega | exact (sz_i32 _).2⟩ (fun (c109 : (gV (yD Ls) u (i)) ≠ (11)) => ?_) (fun (c109 : ¬((gV (yD Ls) u (i)) ≠ (11))) => ?_)
                        · skip
                          refine ez_go (n := 2) (pc' := 148) (L' := [(3, .inl (gV (yD Ls) u (i - 1))), (4, .inl (gV (yD Ls) u (i))), (0, .inr (.inr (some (770)))), (1, .inr (.inr (some (q)))), (2, .inl (i))]) (st' := [.inl (4), .inl (gV (yD Ls) u (i))]) rfl ?_
                          refine ez_icmp rfl rfl ⟨by first | omega | exact (sz_i32 _).1, by first | omega | exact (sz_i32 _).2⟩ ⟨by first | omega | exact (sz_i32 _).1, by first | omega | exact (sz_i32 _).2⟩ (fun (c110 : (gV (yD Ls) u (i)) = (4)) => ?_) (fun (c110 : ¬((gV (yD Ls) u (i)) = (4))) => ?_)
                          · skip
                            refine ez_go (n := 1) (pc' := 171) (L' := [(3, .inl (gV (yD Ls) u (i - 1))), (4, .inl (gV (yD Ls) u (i))), (0, .inr (.inr (some (770)))), (1, .inr (.inr (some (q)))), (2, .inl (i))]) (st' := [.inl (0)]) rfl ?_
                            exact ez_retZ rfl rfl (Or.inl rfl) (k0 (gbd_n i0 i1 (by first | exact Or.inl ⟨by omega, by omega⟩ | exact Or.inr ⟨⟨by omega, by omega⟩, Or.inl (by omega)⟩)))
                          · skip
                            refine ez_go (n := 2) (pc' := 154) (L' := [(3, .inl (gV (yD Ls) u (i - 1))), (4, .inl (gV (yD Ls) u (i))), (0, .inr (.inr (some (770)))), (1, .inr (.inr (some (q)))), (2, .inl (i))]) (st' := [.inl (5), .inl (gV (yD Ls) u (i))]) rfl ?_
                            refine ez_icmp rfl rfl ⟨by first | omega | exact (sz_i32 _).1, by first | omega | exact (sz_i32 _).2⟩ ⟨by first | omega | exact (sz_i32 _).1, by first | omega | exact (sz_i32 _).2⟩ (fun (c111 : (gV (yD Ls) u (i)) = (5)) => ?_) (fun (c111 : ¬((gV (yD Ls) u (i)) = (5))) => ?_)
                            · skip
                              refine ez_go (n := 1) (pc' := 171) (L' := [(3, .inl (gV (yD Ls) u (i - 1))), (4, .inl (gV (yD Ls) u (i))), (0, .inr (.inr (some (770)))), (1, .inr (.inr (some (q)))), (2, .inl (i))]) (st' := [.inl (0)]) rfl ?_
                              exact ez_retZ rfl rfl (Or.inl rfl) (k0 (gbd_n i0 i1 (by first | exact Or.inl ⟨by omega, by omega⟩ | exact Or.inr ⟨⟨by omega, by omega⟩, Or.inl (by omega)⟩)))
                            · skip
                              refine ez_go (n := 2) (pc' := 161) (L' := [(3, .inl (gV (yD Ls) u (i - 1))), (4, .inl (gV (yD Ls) u (i))), (0, .inr (.inr (some (770)))), (1, .inr (.inr (some (q)))), (2, .inl (i))]) (st' := [.inl (8), .inl (gV (yD Ls) u (i))]) rfl ?_
                              refine ez_icmp rfl rfl ⟨by first | omega | exact (sz_i32 _).1, by first | omega | exact (sz_i32 _).2⟩ ⟨by first | omega | exact (sz_i32 _).1, by first | omega | exact (sz_i32 _).2⟩ (fun (c112 : (gV (yD Ls) u (i)) = (8)) => ?_) (fun (c112 : ¬((gV (yD Ls) u (i)) = (8))) => ?_)
                              · skip
                                refine ez_go (n := 1) (pc' := 171) (L' := [(3, .inl (gV (yD Ls) u (i - 1))), (4, .inl (gV (yD Ls) u (i))), (0, .inr (.inr (some (770)))), (1, .inr (.inr (some (q)))), (2, .inl (i))]) (st' := [.inl (0)]) rfl ?_
                                exact ez_retZ rfl rfl (Or.inl rfl) (k0 (gbd_n i0 i1 (by first | exact Or.inl ⟨by omega, by omega⟩ | exact Or.inr ⟨⟨by omega, by omega⟩, Or.inl (by omega)⟩)))
                              · skip
                                refine ez_go (n := 2) (pc' := 167) (L' := [(3, .inl (gV (yD Ls) u (i - 1))), (4, .inl (gV (yD Ls) u (i))), (0, .inr (.inr (some (770)))), (1, .inr (.inr (some (q)))), (2, .inl (i))]) (st' := [.inl (7), .inl (gV (yD Ls) u (i - 1))]) rfl ?_
                                refine ez_icmp rfl rfl ⟨by first | omega | exact (sz_i32 _).1, by first | omega | exact (sz_i32 _).2⟩ ⟨by first | omega | exact (sz_i32 _).1, by first | omega | exact (sz_i32 _).2⟩ (fun (c113 : (gV (yD Ls) u (i - 1)) ≠ (7)) => ?_) (fun (c113 : ¬((gV (yD Ls) u (i - 1)) ≠ (7))) => ?_)
                                · skip
                                  refine ez_less [(3, .inl (gV (yD Ls) u (i - 1))), (4, .inl (gV (yD Ls) u (i))), (0, .inr (.inr (some (770)))), (1, .inr (.inr (some (q)))), (2, .inl (i))] rfl ⟨rfl, rfl, rfl, rfl, rfl, trivial⟩ ?_
                                  exact rd_mcp hI mt i0 i1 k1 k0 ra rb (by omega) (by omega) (by omega) (by omega)
                                · skip
                                  refine ez_go (n := 1) (pc' := 171) (L' := [(3, .inl (gV (yD Ls) u (i - 1))), (4, .inl (gV (yD Ls) u (i))), (0, .inr (.inr (some (770)))), (1, .inr (.inr (some (q)))), (2, .inl (i))]) (st' := [.inl (0)]) rfl ?_
                                  exact ez_retZ rfl rfl (Or.inl rfl) (k0 (gbd_n i0 i1 (by first | exact Or.inl ⟨by omega, by omega⟩ | exact Or.inr ⟨⟨by omega, by omega⟩, Or.inl (by omega)⟩)))
                        · skip
                          refine ez_go (n := 1) (pc' := 144) (L' := [(3, .inl (gV (yD Ls) u (i - 1))), (4, .inl (gV (yD Ls) u (i))), (0, .inr (.inr (some (770)))), (1, .inr (.inr (some (q)))), (2, .inl (i))]) (st' := [.inl (0)]) rfl ?_
                          exact ez_retZ rfl rfl (Or.inl rfl) (k0 (gbd_n i0 i1 (by first | exact Or.inl ⟨by omega, by omega⟩ | exact Or.inr ⟨⟨by omega, by omega⟩, Or.inl (by omega)⟩)))
                  · skip
                    refine ez_go (n := 1) (pc' := 123) (L' := [(3, .inl (gV (yD Ls) u (i - 1))), (4, .inl (gV (yD Ls) u (i))), (0, .inr (.inr (some (770)))), (1, .inr (.inr (some (q)))), (2, .inl (i))]) (st' := [.inl (0)]) rfl ?_
                    exact ez_retZ rfl rfl (Or.inl rfl) (k0 (gbd_n i0 i1 (by first | exact Or.inl ⟨by omega, by omega⟩ | exact Or.inr ⟨⟨by omega, by omega⟩, Or.inl (by omega)⟩)))
          · skip
            refine ez_go (n := 1) (pc' := 95) (L' := [(3, .inl (gV (yD Ls) u (i - 1))), (4, .inl (gV (yD Ls) u (i))), (0, .inr (.inr (some (770)))), (1, .inr (.inr (some (q)))), (2, .inl (i))]) (st' := [.inl (0)]) rfl ?_
            exact ez_retZ rfl rfl (Or.inl rfl) (k0 (gbd_n i0 i1 (by first | exact Or.inl ⟨by omega, by omega⟩ | exact Or.inr ⟨⟨by omega, by omega⟩, Or.inl (by omega)⟩)))

theorem rd_mclu {i : Int} (hI : mI τ h Ls b) (mt : mtx τ h q u) (i0 : 0 < i) (i1 : i < (u.length : Int)) (k1 : gbd (gV (yD Ls) u) (wpi (yD Ls) u) u.length i → Q (.inl (some (ez_v (.inl 1))), h)) (k0 : ¬ gbd (gV (yD Ls) u) (wpi (yD Ls) u) u.length i → Q (.inl (some (ez_v (.inl 0))), h)) : ez_W (d + 1) cm_233 0 [(0, .inr (.inr (some (770)))), (1, .inr (.inr (some (q)))), (2, .inl (i))] [] h Q := by
  have hB := hI.1
  have t770 : τ 770 = 75 := hI.2.1 770 (by decide)
  have b12 : 0 ≤ qz_I h 770 12 ∧ qz_I h 770 12 ≤ 512 := ez_fB (cl := 11) (k := 12) hB t770 tq_75 rfl rfl (by decide)
  have lce : lc h = qz_I h 770 12 := rfl
  have nls : lc h ≤ qz_N h (ls h) := hI.2.2.1.1.1
  have tq := mt.1
  have n2 := mt.2.1.1
  refine ez_go (n := 5) (pc' := 5) (L' := [(0, .inr (.inr (some (770)))), (1, .inr (.inr (some (q)))), (2, .inl (i))]) (st' := [.inl ((i) - (1)), .inr (.inr (some (q))), .inr (.inr (some (770)))]) rfl ?_
  have n2 : 2000 ≤ qz_N h q ∧ qz_N h q ≤ 2000 := ez_len hB tq tq_37 rfl
  refine ez_aI hB tq rfl tq_37 rfl rfl (by omega) (by omega) (fun (b1 : -2147483648 ≤ qz_I h q ((i) - (1)).toNat) (b1' : qz_I h q ((i) - (1)).toNat ≤ 2147483647) => ?_)
  have pb := uX_ptl mt.2.1.2 (show (i - 1).toNat < u.length by omega)
  have prg : ez_rg (uX u (i - 1)) := ⟨by omega, by omega⟩
  rw [show qz_I h q ((i) - (1)).toNat = uX u (i - 1) from mt.2.2 (i - 1) (by omega) (by omega)]
  refine ez_go (n := 1) (pc' := 8) (L' := [(0, .inr (.inr (some (770)))), (1, .inr (.inr (some (q)))), (2, .inl (i))]) (st' := [.inl (6), .inl (uX u (i - 1)), .inr (.inr (some (770)))]) rfl ?_
  refine ez_cv hB t770 rfl rfl rfl tq_75 rfl rfl rfl (rd_mk6 hI prg (fun ra => ez_K1 ?_))
  have ra : ez_rg (gV (yD Ls) u (i - 1)) := ra
  obtain ⟨raa, rab⟩ := id ra
  rw [show (yD Ls (uX u (i - 1))).2.1.2.1 = gV (yD Ls) u (i - 1) from rfl]
  refine ez_go (n := 4) (pc' := 15) (L' := [(3, .inl (gV (yD Ls) u (i - 1))), (0, .inr (.inr (some (770)))), (1, .inr (.inr (some (q)))), (2, .inl (i))]) (st' := [.inl (i), .inr (.inr (some (q))), .inr (.inr (some (770)))]) rfl ?_
  have n4 : 2000 ≤ qz_N h q ∧ qz_N h q ≤ 2000 := ez_len hB tq tq_37 rfl
  refine ez_aI hB tq rfl tq_37 rfl rfl (by omega) (by omega) (fun (b3 : -2147483648 ≤ qz_I h q (i).toNat) (b3' : qz_I h q (i).toNat ≤ 2147483647) => ?_)
  have pb := uX_ptl mt.2.1.2 (show (i).toNat < u.length by omega)
  have prg : ez_rg (uX u (i)) := ⟨by omega, by omega⟩
  rw [show qz_I h q (i).toNat = uX u (i) from mt.2.2 (i) (by omega) (by omega)]
  refine ez_go (n := 1) (pc' := 18) (L' := [(3, .inl (gV (yD Ls) u (i - 1))), (0, .inr (.inr (some (770)))), (1, .inr (.inr (some (q)))), (2, .inl (i))]) (st' := [.inl (6), .inl (uX u (i)), .inr (.inr (some (770)))]) rfl ?_
  refine ez_cv hB t770 rfl rfl rfl tq_75 rfl rfl rfl (rd_mk6 hI prg (fun rb => ez_K1 ?_))
  have rb : ez_rg (gV (yD Ls) u (i)) := rb
  obtain ⟨rba, rbb⟩ := id rb
  rw [show (yD Ls (uX u (i))).2.1.2.1 = gV (yD Ls) u (i) from rfl]
  refine ez_go (n := 3) (pc' := 25) (L' := [(4, .inl (gV (yD Ls) u (i))), (3, .inl (gV (yD Ls) u (i - 1))), (0, .inr (.inr (some (770)))), (1, .inr (.inr (some (q)))), (2, .inl (i))]) (st' := [.inl (1), .inl (gV (yD Ls) u (i - 1))]) rfl ?_
  refine ez_icmp rfl rfl ⟨by first | omega | exact (sz_i32 _).1, by first | omega | exact (sz_i32 _).2⟩ ⟨by first | omega | exact (sz_i32 _).1, by first | omega | exact (sz_i32 _).2⟩ (fun (c5 : (gV (yD Ls) u (i - 1)) ≠ (1)) => ?_) (fun (c5 : ¬((gV (yD Ls) u (i - 1)) ≠ (1))) => ?_)
  · skip
    refine ez_go (n := 2) (pc' := 38) (L' := [(4, .inl (gV (yD Ls) u (i))), (3, .inl (gV (yD Ls) u (i - 1))), (0, .inr (.inr (some (770)))), (1, .inr (.inr (some (q)))), (2, .inl (i))]) (st' := [.inl (1), .inl (gV (yD Ls) u (i - 1))]) rfl ?_
    refine ez_icmp rfl rfl ⟨by first | omega | exact (sz_i32 _).1, by first | omega | exact (sz_i32 _).2⟩ ⟨by first | omega | exact (sz_i32 _).1, by first | omega | exact (sz_i32 _).2⟩ (fun (c6 : (gV (yD Ls) u (i - 1)) < (1)) => ?_) (fun (c6 : ¬((gV (yD Ls) u (i - 1)) < (1))) => ?_)
    · skip
      refine ez_go (n := 2) (pc' := 49) (L' := [(4, .inl (gV (yD Ls) u (i))), (3, .inl (gV (yD Ls) u (i - 1))), (0, .inr (.inr (some (770)))), (1, .inr (.inr (some (q)))), (2, .inl (i))]) (st' := [.inl (1), .inl (gV (yD Ls) u (i))]) rfl ?_
      refine ez_icmp rfl rfl ⟨by first | omega | exact (sz_i32 _).1, by first | omega | exact (sz_i32 _).2⟩ ⟨by first | omega | exact (sz_i32 _).1, by first | omega | exact (sz_i32 _).2⟩ (fun (c7 : (gV (yD Ls) u (i)) < (1)) => ?_) (fun (c7 : ¬((gV (yD Ls) u (i)) < (1))) => ?_)
      · skip
        refine ez_less [(3, .inl (gV (yD Ls) u (i - 1))), (4, .inl (gV (yD Ls) u (i))), (0, .inr (.inr (some (770)))), (1, .inr (.inr (some (q)))), (2, .inl (i))] rfl ⟨rfl, rfl, rfl, rfl, rfl, trivial⟩ ?_
        exact rd_mc60 hI mt i0 i1 k1 k0 ra rb (by omega) (by omega) (by omega)
      · skip
        refine ez_go (n := 2) (pc' := 55) (L' := [(4, .inl (gV (yD Ls) u (i))), (3, .inl (gV (yD Ls) u (i - 1))), (0, .inr (.inr (some (770)))), (1, .inr (.inr (some (q)))), (2, .inl (i))]) (st' := [.inl (3), .inl (gV (yD Ls) u (i))]) rfl ?_
        refine ez_icmp rfl rfl ⟨by first | omega | exact (sz_i32 _).1, by first | omega | exact (sz_i32 _).2⟩ ⟨by first | omega | exact (sz_i32 _).1, by first | omega | exact (sz_i32 _).2⟩ (fun (c8 : (3) < (gV (yD Ls) u (i))) => ?_) (fun (c8 : ¬((3) < (gV (yD Ls) u (i)))) => ?_)
        · skip
          refine ez_less [(3, .inl (gV (yD Ls) u (i - 1))), (4, .inl (gV (yD Ls) u (i))), (0, .inr (.inr (some (770)))), (1, .inr (.inr (some (q)))), (2, .inl (i))] rfl ⟨rfl, rfl, rfl, rfl, rfl, trivial⟩ ?_
          exact rd_mc60 hI mt i0 i1 k1 k0 ra rb (by omega) (by omega) (by omega)
        · skip
          refine ez_go (n := 1) (pc' := 59) (L' := [(4, .inl (gV (yD Ls) u (i))), (3, .inl (gV (yD Ls) u (i - 1))), (0, .inr (.inr (some (770)))), (1, .inr (.inr (some (q)))), (2, .inl (i))]) (st' := [.inl (1)]) rfl ?_
          exact ez_retZ rfl rfl (Or.inr rfl) (k1 (gbd_2 (by omega) (by omega)))
    · skip
      refine ez_go (n := 2) (pc' := 43) (L' := [(4, .inl (gV (yD Ls) u (i))), (3, .inl (gV (yD Ls) u (i - 1))), (0, .inr (.inr (some (770)))), (1, .inr (.inr (some (q)))), (2, .inl (i))]) (st' := [.inl (3), .inl (gV (yD Ls) u (i - 1))]) rfl ?_
      refine ez_icmp rfl rfl ⟨by first | omega | exact (sz_i32 _).1, by first | omega | exact (sz_i32 _).2⟩ ⟨by first | omega | exact (sz_i32 _).1, by first | omega | exact (sz_i32 _).2⟩ (fun (c9 : (gV (yD Ls) u (i - 1)) ≤ (3)) => ?_) (fun (c9 : ¬((gV (yD Ls) u (i - 1)) ≤ (3))) => ?_)
      · skip
        refine ez_go (n := 1) (pc' := 59) (L' := [(4, .inl (gV (yD Ls) u (i))), (3, .inl (gV (yD Ls) u (i - 1))), (0, .inr (.inr (some (770)))), (1, .inr (.inr (some (q)))), (2, .inl (i))]) (st' := [.inl (1)]) rfl ?_
        exact ez_retZ rfl rfl (Or.inr rfl) (k1 (gbd_2 (by omega) (by omega)))
      · skip
        refine ez_go (n := 2) (pc' := 49) (L' := [(4, .inl (gV (yD Ls) u (i))), (3, .inl (gV (yD Ls) u (i - 1))), (0, .inr (.inr (some (770)))), (1, .inr (.inr (some (q)))), (2, .inl (i))]) (st' := [.inl (1), .inl (gV (yD Ls) u (i))]) rfl ?_
        refine ez_icmp rfl rfl ⟨by first | omega | exact (sz_i32 _).1, by first | omega | exact (sz_i32 _).2⟩ ⟨by first | omega | exact (sz_i32 _).1, by first | omega | exact (sz_i32 _).2⟩ (fun (c10 : (gV (yD Ls) u (i)) < (1)) => ?_) (fun (c10 : ¬((gV (yD Ls) u (i)) < (1))) => ?_)
        · skip
          refine ez_less [(3, .inl (gV (yD Ls) u (i - 1))), (4, .inl (gV (yD Ls) u (i))), (0, .inr (.inr (some (770)))), (1, .inr (.inr (some (q)))), (2, .inl (i))] rfl ⟨rfl, rfl, rfl, rfl, rfl, trivial⟩ ?_
          exact rd_mc60 hI mt i0 i1 k1 k0 ra rb (by omega) (by omega) (by omega)
        · skip
          refine ez_go (n := 2) (pc' := 55) (L' := [(4, .inl (gV (yD Ls) u (i))), (3, .inl (gV (yD Ls) u (i - 1))), (0, .inr (.inr (some (770)))), (1, .inr (.inr (some (q)))), (2, .inl (i))]) (st' := [.inl (3), .inl (gV (yD Ls) u (i))]) rfl ?_
          refine ez_icmp rfl rfl ⟨by first | omega | exact (sz_i32 _).1, by first | omega | exact (sz_i32 _).2⟩ ⟨by first | omega | exact (sz_i32 _).1, by first | omega | exact (sz_i32 _).2⟩ (fun (c11 : (3) < (gV (yD Ls) u (i))) => ?_) (fun (c11 : ¬((3) < (gV (yD Ls) u (i)))) => ?_)
          · skip
            refine ez_less [(3, .inl (gV (yD Ls) u (i - 1))), (4, .inl (gV (yD Ls) u (i))), (0, .inr (.inr (some (770)))), (1, .inr (.inr (some (q)))), (2, .inl (i))] rfl ⟨rfl, rfl, rfl, rfl, rfl, trivial⟩ ?_
            exact rd_mc60 hI mt i0 i1 k1 k0 ra rb (by omega) (by omega) (by omega)
          · skip
            refine ez_go (n := 1) (pc' := 59) (L' := [(4, .inl (gV (yD Ls) u (i))), (3, .inl (gV (yD Ls) u (i - 1))), (0, .inr (.inr (some (770)))), (1, .inr (.inr (some (q)))), (2, .inl (i))]) (st' := [.inl (1)]) rfl ?_
            exact ez_retZ rfl rfl (Or.inr rfl) (k1 (gbd_2 (by omega) (by omega)))
  · skip
    refine ez_go (n := 2) (pc' := 31) (L' := [(4, .inl (gV (yD Ls) u (i))), (3, .inl (gV (yD Ls) u (i - 1))), (0, .inr (.inr (some (770)))), (1, .inr (.inr (some (q)))), (2, .inl (i))]) (st' := [.inl (2), .inl (gV (yD Ls) u (i))]) rfl ?_
    refine ez_icmp rfl rfl ⟨by first | omega | exact (sz_i32 _).1, by first | omega | exact (sz_i32 _).2⟩ ⟨by first | omega | exact (sz_i32 _).1, by first | omega | exact (sz_i32 _).2⟩ (fun (c12 : (gV (yD Ls) u (i)) ≠ (2)) => ?_) (fun (c12 : ¬((gV (yD Ls) u (i)) ≠ (2))) => ?_)
    · skip
      refine ez_go (n := 2) (pc' := 38) (L' := [(4, .inl (gV (yD Ls) u (i))), (3, .inl (gV (yD Ls) u (i - 1))), (0, .inr (.inr (some (770)))), (1, .inr (.inr (some (q)))), (2, .inl (i))]) (st' := [.inl (1), .inl (gV (yD Ls) u (i - 1))]) rfl ?_
      refine ez_icmp rfl rfl ⟨by first | omega | exact (sz_i32 _).1, by first | omega | exact (sz_i32 _).2⟩ ⟨by first | omega | exact (sz_i32 _).1, by first | omega | exact (sz_i32 _).2⟩ (fun (c13 : (gV (yD Ls) u (i - 1)) < (1)) => ?_) (fun (c13 : ¬((gV (yD Ls) u (i - 1)) < (1))) => ?_)
      · skip
        refine ez_go (n := 2) (pc' := 49) (L' := [(4, .inl (gV (yD Ls) u (i))), (3, .inl (gV (yD Ls) u (i - 1))), (0, .inr (.inr (some (770)))), (1, .inr (.inr (some (q)))), (2, .inl (i))]) (st' := [.inl (1), .inl (gV (yD Ls) u (i))]) rfl ?_
        refine ez_icmp rfl rfl ⟨by first | omega | exact (sz_i32 _).1, by first | omega | exact (sz_i32 _).2⟩ ⟨by first | omega | exact (sz_i32 _).1, by first | omega | exact (sz_i32 _).2⟩ (fun (c14 : (gV (yD Ls) u (i)) < (1)) => ?_) (fun (c14 : ¬((gV (yD Ls) u (i)) < (1))) => ?_)
        · skip
          refine ez_less [(3, .inl (gV (yD Ls) u (i - 1))), (4, .inl (gV (yD Ls) u (i))), (0, .inr (.inr (some (770)))), (1, .inr (.inr (some (q)))), (2, .inl (i))] rfl ⟨rfl, rfl, rfl, rfl, rfl, trivial⟩ ?_
          exact rd_mc60 hI mt i0 i1 k1 k0 ra rb (by omega) (by omega) (by omega)
        · skip
          refine ez_go (n := 2) (pc' := 55) (L' := [(4, .inl (gV (yD Ls) u (i))), (3, .inl (gV (yD Ls) u (i - 1))), (0, .inr (.inr (some (770)))), (1, .inr (.inr (some (q)))), (2, .inl (i))]) (st' := [.inl (3), .inl (gV (yD Ls) u (i))]) rfl ?_
          refine ez_icmp rfl rfl ⟨by first | omega | exact (sz_i32 _).1, by first | omega | exact (sz_i32 _).2⟩ ⟨by first | omega | exact (sz_i32 _).1, by first | omega | exact (sz_i32 _).2⟩ (fun (c15 : (3) < (gV (yD Ls) u (i))) => ?_) (fun (c15 : ¬((3) < (gV (yD Ls) u (i)))) => ?_)
          · skip
            refine ez_less [(3, .inl (gV (yD Ls) u (i - 1))), (4, .inl (gV (yD Ls) u (i))), (0, .inr (.inr (some (770)))), (1, .inr (.inr (some (q)))), (2, .inl (i))] rfl ⟨rfl, rfl, rfl, rfl, rfl, trivial⟩ ?_
            exact rd_mc60 hI mt i0 i1 k1 k0 ra rb (by omega) (by omega) (by omega)
          · skip
            refine ez_go (n := 1) (pc' := 59) (L' := [(4, .inl (gV (yD Ls) u (i))), (3, .inl (gV (yD Ls) u (i - 1))), (0, .inr (.inr (some (770)))), (1, .inr (.inr (some (q)))), (2, .inl (i))]) (st' := [.inl (1)]) rfl ?_
            exact ez_retZ rfl rfl (Or.inr rfl) (k1 (gbd_2 (by omega) (by omega)))
      · skip
        refine ez_go (n := 2) (pc' := 43) (L' := [(4, .inl (gV (yD Ls) u (i))), (3, .inl (gV (yD Ls) u (i - 1))), (0, .inr (.inr (some (770)))), (1, .inr (.inr (some (q)))), (2, .inl (i))]) (st' := [.inl (3), .inl (gV (yD Ls) u (i - 1))]) rfl ?_
        refine ez_icmp rfl rfl ⟨by first | omega | exact (sz_i32 _).1, by first | omega | exact (sz_i32 _).2⟩ ⟨by first | omega | exact (sz_i32 _).1, by first | omega | exact (sz_i32 _).2⟩ (fun (c16 : (gV (yD Ls) u (i - 1)) ≤ (3)) => ?_) (fun (c16 : ¬((gV (yD Ls) u (i - 1)) ≤ (3))) => ?_)
        · skip
          refine ez_go (n := 1) (pc' := 59) (L' := [(4, .inl (gV (yD Ls) u (i))), (3, .inl (gV (yD Ls) u (i - 1))), (0, .inr (.inr (some (770)))), (1, .inr (.inr (some (q)))), (2, .inl (i))]) (st' := [.inl (1)]) rfl ?_
          exact ez_retZ rfl rfl (Or.inr rfl) (k1 (gbd_2 (by omega) (by omega)))
        · skip
          refine ez_go (n := 2) (pc' := 49) (L' := [(4, .inl (gV (yD Ls) u (i))), (3, .inl (gV (yD Ls) u (i - 1))), (0, .inr (.inr (some (770)))), (1, .inr (.inr (some (q)))), (2, .inl (i))]) (st' := [.inl (1), .inl (gV (yD Ls) u (i))]) rfl ?_
          refine ez_icmp rfl rfl ⟨by first | omega | exact (sz_i32 _).1, by first | omega | exact (sz_i32 _).2⟩ ⟨by first | omega | exact (sz_i32 _).1, by first | omega | exact (sz_i32 _).2⟩ (fun (c17 : (gV (yD Ls) u (i)) < (1)) => ?_) (fun (c17 : ¬((gV (yD Ls) u (i)) < (1))) => ?_)
          · skip
            refine ez_less [(3, .inl (gV (yD Ls) u (i - 1))), (4, .inl (gV (yD Ls) u (i))), (0, .inr (.inr (some (770)))), (1, .inr (.inr (some (q)))), (2, .inl (i))] rfl ⟨rfl, rfl, rfl, rfl, rfl, trivial⟩ ?_
            exact rd_mc60 hI mt i0 i1 k1 k0 ra rb (by omega) (by omega) (by omega)
          · skip
            refine ez_go (n := 2) (pc' := 55) (L' := [(4, .inl (gV (yD Ls) u (i))), (3, .inl (gV (yD Ls) u (i - 1))), (0, .inr (.inr (some (770)))), (1, .inr (.inr (some (q)))), (2, .inl (i))]) (st' := [.inl (3), .inl (gV (yD Ls) u (i))]) rfl ?_
            refine ez_icmp rfl rfl ⟨by first | omega | exact (sz_i32 _).1, by first | omega | exact (sz_i32 _).2⟩ ⟨by first | omega | exact (sz_i32 _).1, by first | omega | exact (sz_i32 _).2⟩ (fun (c18 : (3) < (gV (yD Ls) u (i))) => ?_) (fun (c18 : ¬((3) < (gV (yD Ls) u (i)))) => ?_)
            · skip
              refine ez_less [(3, .inl (gV (yD Ls) u (i - 1))), (4, .inl (gV (yD Ls) u (i))), (0, .inr (.inr (some (770)))), (1, .inr (.inr (some (q)))), (2, .inl (i))] rfl ⟨rfl, rfl, rfl, rfl, rfl, trivial⟩ ?_
              exact rd_mc60 hI mt i0 i1 k1 k0 ra rb (by omega) (by omega) (by omega)
            · skip
              refine ez_go (n := 1) (pc' := 59) (L' := [(4, .inl (gV (yD Ls) u (i))), (3, .inl (gV (yD Ls) u (i - 1))), (0, .inr (.inr (some (770)))), (1, .inr (.inr (some (q)))), (2, .inl (i))]) (st' := [.inl (1)]) rfl ?_
              exact ez_retZ rfl rfl (Or.inr rfl) (k1 (gbd_2 (by omega) (by omega)))
    · skip
      refine ez_go (n := 1) (pc' := 35) (L' := [(4, .inl (gV (yD Ls) u (i))), (3, .inl (gV (yD Ls) u (i - 1))), (0, .inr (.inr (some (770)))), (1, .inr (.inr (some (q)))), (2, .inl (i))]) (st' := [.inl (0)]) rfl ?_
      exact ez_retZ rfl rfl (Or.inl rfl) (k0 (gbd_n i0 i1 (by first | exact Or.inl ⟨by omega, by omega⟩ | exact Or.inr ⟨⟨by omega, by omega⟩, Or.inl (by omega)⟩)))

theorem rd_med1 {i : Int} (hI : mI τ h Ls b) (mt : mtx τ h q u) (i0 : 0 ≤ i) (i1 : i ≤ (u.length : Int)) (k1 : edP (yD Ls) u 1 i → Q (.inl (some (ez_v (.inl 1))), h)) (k0 : ¬ edP (yD Ls) u 1 i → Q (.inl (some (ez_v (.inl 0))), h)) : ez_W (d + 5) cm_245 0 [(0, .inr (.inr (some (770)))), (1, .inr (.inr (some (q)))), (2, .inl ((u.length : Int))), (3, .inl (1)), (4, .inl (i))] [] h Q := by
  have hB := hI.1
  have t770 : τ 770 = 75 := hI.2.1 770 (by decide)
  have b12 : 0 ≤ qz_I h 770 12 ∧ qz_I h 770 12 ≤ 512 := ez_fB (cl := 11) (k := 12) hB t770 tq_75 rfl rfl (by decide)
  have lce : lc h = qz_I h 770 12 := rfl
  have nls : lc h ≤ qz_N h (ls h) := hI.2.2.1.1.1
  have tq := mt.1
  have n2 := mt.2.1.1
  refine ez_go (n := 1) (pc' := 1) (L' := [(0, .inr (.inr (some (770)))), (1, .inr (.inr (some (q)))), (2, .inl ((u.length : Int))), (3, .inl (1)), (4, .inl (i))]) (st' := [.inl ((u.length : Int))]) rfl ?_
  refine ez_if rfl rfl ⟨by first | omega | exact (sz_i32 _).1, by first | omega | exact (sz_i32 _).2⟩ (fun (c1 : ((u.length : Int)) ≠ (0)) => ?_) (fun (c1 : ¬(((u.length : Int)) ≠ (0))) => ?_)
  · skip
    refine ez_go (n := 1) (pc' := 8) (L' := [(0, .inr (.inr (some (770)))), (1, .inr (.inr (some (q)))), (2, .inl ((u.length : Int))), (3, .inl (1)), (4, .inl (i))]) (st' := [.inl (i)]) rfl ?_
    refine ez_if rfl rfl ⟨by first | omega | exact (sz_i32 _).1, by first | omega | exact (sz_i32 _).2⟩ (fun (c2 : (i) = (0)) => ?_) (fun (c2 : ¬((i) = (0))) => ?_)
    · skip
      refine ez_go (n := 1) (pc' := 18) (L' := [(0, .inr (.inr (some (770)))), (1, .inr (.inr (some (q)))), (2, .inl ((u.length : Int))), (3, .inl (1)), (4, .inl (i))]) (st' := [.inl (1)]) rfl ?_
      exact ez_retZ rfl rfl (Or.inr rfl) (k1 ⟨by omega, fun _ => (by first | exact w | exact wbd_o (by omega)), fun q => absurd q (by decide)⟩)
    · skip
      refine ez_go (n := 2) (pc' := 14) (L' := [(0, .inr (.inr (some (770)))), (1, .inr (.inr (some (q)))), (2, .inl ((u.length : Int))), (3, .inl (1)), (4, .inl (i))]) (st' := [.inl ((u.length : Int)), .inl (i)]) rfl ?_
      refine ez_icmp rfl rfl ⟨by first | omega | exact (sz_i32 _).1, by first | omega | exact (sz_i32 _).2⟩ ⟨by first | omega | exact (sz_i32 _).1, by first | omega | exact (sz_i32 _).2⟩ (fun (c3 : (i) ≠ ((u.length : Int))) => ?_) (fun (c3 : ¬((i) ≠ ((u.length : Int)))) => ?_)
      · skip
        refine ez_go (n := 1) (pc' := 20) (L' := [(0, .inr (.inr (some (770)))), (1, .inr (.inr (some (q)))), (2, .inl ((u.length : Int))), (3, .inl (1)), (4, .inl (i))]) (st' := [.inl (1)]) rfl ?_
        refine ez_if rfl rfl ⟨by decide, by decide⟩ (fun _ => ?_) (fun (c4 : ¬((1 : Int) ≠ (0))) => absurd c4 (by decide))
        refine ez_go (n := 4) (pc' := 38) (L' := [(0, .inr (.inr (some (770)))), (1, .inr (.inr (some (q)))), (2, .inl ((u.length : Int))), (3, .inl (1)), (4, .inl (i))]) (st' := [.inl (i), .inl ((u.length : Int)), .inr (.inr (some (q))), .inr (.inr (some (770)))]) rfl ?_
        refine ez_cv hB t770 rfl rfl rfl tq_75 rfl rfl rfl (rd_mword hI mt (by omega) (by omega) (fun w => ez_K1 ?_) (fun w => ez_K1 ?_))
        · skip
          exact ez_retZ rfl rfl (Or.inr rfl) (k1 ⟨by omega, fun _ => (by first | exact w | exact wbd_o (by omega)), fun q => absurd q (by decide)⟩)
        · skip
          exact ez_retZ rfl rfl (Or.inl rfl) (k0 (fun q => by first | exact absurd (q.2.1 rfl) w | exact absurd q.1 (by omega)))
      · skip
        refine ez_go (n := 1) (pc' := 18) (L' := [(0, .inr (.inr (some (770)))), (1, .inr (.inr (some (q)))), (2, .inl ((u.length : Int))), (3, .inl (1)), (4, .inl (i))]) (st' := [.inl (1)]) rfl ?_
        exact ez_retZ rfl rfl (Or.inr rfl) (k1 ⟨by omega, fun _ => (by first | exact w | exact wbd_o (by omega)), fun q => absurd q (by decide)⟩)
  · skip
    refine ez_go (n := 1) (pc' := 5) (L' := [(0, .inr (.inr (some (770)))), (1, .inr (.inr (some (q)))), (2, .inl ((u.length : Int))), (3, .inl (1)), (4, .inl (i))]) (st' := [.inl (0)]) rfl ?_
    exact ez_retZ rfl rfl (Or.inl rfl) (k0 (fun q => by first | exact absurd (q.2.1 rfl) w | exact absurd q.1 (by omega)))

theorem rd_med0 {i : Int} (hI : mI τ h Ls b) (mt : mtx τ h q u) (i0 : 0 ≤ i) (i1 : i ≤ (u.length : Int)) (k1 : edP (yD Ls) u 0 i → Q (.inl (some (ez_v (.inl 1))), h)) (k0 : ¬ edP (yD Ls) u 0 i → Q (.inl (some (ez_v (.inl 0))), h)) : ez_W (d + 5) cm_245 0 [(0, .inr (.inr (some (770)))), (1, .inr (.inr (some (q)))), (2, .inl ((u.length : Int))), (3, .inl (0)), (4, .inl (i))] [] h Q := by
  have hB := hI.1
  have t770 : τ 770 = 75 := hI.2.1 770 (by decide)
  have b12 : 0 ≤ qz_I h 770 12 ∧ qz_I h 770 12 ≤ 512 := ez_fB (cl := 11) (k := 12) hB t770 tq_75 rfl rfl (by decide)
  have lce : lc h = qz_I h 770 12 := rfl
  have nls : lc h ≤ qz_N h (ls h) := hI.2.2.1.1.1
  have tq := mt.1
  have n2 := mt.2.1.1
  refine ez_go (n := 1) (pc' := 1) (L' := [(0, .inr (.inr (some (770)))), (1, .inr (.inr (some (q)))), (2, .inl ((u.length : Int))), (3, .inl (0)), (4, .inl (i))]) (st' := [.inl ((u.length : Int))]) rfl ?_
  refine ez_if rfl rfl ⟨by first | omega | exact (sz_i32 _).1, by first | omega | exact (sz_i32 _).2⟩ (fun (c1 : ((u.length : Int)) ≠ (0)) => ?_) (fun (c1 : ¬(((u.length : Int)) ≠ (0))) => ?_)
  · skip
    refine ez_go (n := 1) (pc' := 8) (L' := [(0, .inr (.inr (some (770)))), (1, .inr (.inr (some (q)))), (2, .inl ((u.length : Int))), (3, .inl (0)), (4, .inl (i))]) (st' := [.inl (i)]) rfl ?_
    refine ez_if rfl rfl ⟨by first | omega | exact (sz_i32 _).1, by first | omega | exact (sz_i32 _).2⟩ (fun (c2 : (i) = (0)) => ?_) (fun (c2 : ¬((i) = (0))) => ?_)
    · skip
      refine ez_go (n := 1) (pc' := 18) (L' := [(0, .inr (.inr (some (770)))), (1, .inr (.inr (some (q)))), (2, .inl ((u.length : Int))), (3, .inl (0)), (4, .inl (i))]) (st' := [.inl (1)]) rfl ?_
      exact ez_retZ rfl rfl (Or.inr rfl) (k1 ⟨by omega, fun q => absurd q (by decide), fun _ => (by first | exact w | exact gbd_o (by omega))⟩)
    · skip
      refine ez_go (n := 2) (pc' := 14) (L' := [(0, .inr (.inr (some (770)))), (1, .inr (.inr (some (q)))), (2, .inl ((u.length : Int))), (3, .inl (0)), (4, .inl (i))]) (st' := [.inl ((u.length : Int)), .inl (i)]) rfl ?_
      refine ez_icmp rfl rfl ⟨by first | omega | exact (sz_i32 _).1, by first | omega | exact (sz_i32 _).2⟩ ⟨by first | omega | exact (sz_i32 _).1, by first | omega | exact (sz_i32 _).2⟩ (fun (c3 : (i) ≠ ((u.length : Int))) => ?_) (fun (c3 : ¬((i) ≠ ((u.length : Int)))) => ?_)
      · skip
        refine ez_go (n := 1) (pc' := 20) (L' := [(0, .inr (.inr (some (770)))), (1, .inr (.inr (some (q)))), (2, .inl ((u.length : Int))), (3, .inl (0)), (4, .inl (i))]) (st' := [.inl (0)]) rfl ?_
        refine ez_if rfl rfl ⟨by decide, by decide⟩ (fun (c4 : (0 : Int) ≠ (0)) => absurd c4 (by decide)) (fun _ => ?_)
        refine ez_go (n := 3) (pc' := 27) (L' := [(0, .inr (.inr (some (770)))), (1, .inr (.inr (some (q)))), (2, .inl ((u.length : Int))), (3, .inl (0)), (4, .inl (i))]) (st' := [.inl (i), .inr (.inr (some (q))), .inr (.inr (some (770)))]) rfl ?_
        refine ez_cv hB t770 rfl rfl rfl tq_75 rfl rfl rfl (rd_mclu hI mt (by omega) (by omega) (fun w => ez_K1 ?_) (fun w => ez_K1 ?_))
        · skip
          refine ez_go (n := 1) (pc' := 41) (L' := [(0, .inr (.inr (some (770)))), (1, .inr (.inr (some (q)))), (2, .inl ((u.length : Int))), (3, .inl (0)), (4, .inl (i))]) (st' := [.inl (1)]) rfl ?_
          exact ez_retZ rfl rfl (Or.inr rfl) (k1 ⟨by omega, fun q => absurd q (by decide), fun _ => (by first | exact w | exact gbd_o (by omega))⟩)
        · skip
          refine ez_go (n := 1) (pc' := 41) (L' := [(0, .inr (.inr (some (770)))), (1, .inr (.inr (some (q)))), (2, .inl ((u.length : Int))), (3, .inl (0)), (4, .inl (i))]) (st' := [.inl (0)]) rfl ?_
          exact ez_retZ rfl rfl (Or.inl rfl) (k0 (fun q => by first | exact absurd (q.2.2 rfl) w | exact absurd q.1 (by omega)))
      · skip
        refine ez_go (n := 1) (pc' := 18) (L' := [(0, .inr (.inr (some (770)))), (1, .inr (.inr (some (q)))), (2, .inl ((u.length : Int))), (3, .inl (0)), (4, .inl (i))]) (st' := [.inl (1)]) rfl ?_
        exact ez_retZ rfl rfl (Or.inr rfl) (k1 ⟨by omega, fun q => absurd q (by decide), fun _ => (by first | exact w | exact gbd_o (by omega))⟩)
  · skip
    refine ez_go (n := 1) (pc' := 5) (L' := [(0, .inr (.inr (some (770)))), (1, .inr (.inr (some (q)))), (2, .inl ((u.length : Int))), (3, .inl (0)), (4, .inl (i))]) (st' := [.inl (0)]) rfl ?_
    exact ez_retZ rfl rfl (Or.inl rfl) (k0 (fun q => by first | exact absurd (q.2.2 rfl) w | exact absurd q.1 (by omega)))

theorem rd_med {i kind : Int} (hI : mI τ h Ls b) (mt : mtx τ h q u) (kd : kind = 0 ∨ kind = 1) (i0 : 0 ≤ i) (i1 : i ≤ (u.length : Int)) (k1 : edP (yD Ls) u kind i → Q (.inl (some (ez_v (.inl 1))), h)) (k0 : ¬ edP (yD Ls) u kind i → Q (.inl (some (ez_v (.inl 0))), h)) : ez_W (d + 5) cm_245 0 [(0, .inr (.inr (some (770)))), (1, .inr (.inr (some (q)))), (2, .inl ((u.length : Int))), (3, .inl (kind)), (4, .inl (i))] [] h Q := by
  rcases kd with e | e
  · subst e; exact rd_med0 hI mt i0 i1 k1 k0
  · subst e; exact rd_med1 hI mt i0 i1 k1 k0
theorem rd_medge2 {t kind i : Int} (hI9 : mI τ h Ls 0) (sl : slt h) (mxh : mxs h X) (tr : ez_rg t) (kindr : ez_rg kind) (ir : ez_rg i) (kA : (t < 0 ∨ 7 < t ∨ kind < 0 ∨ 1 < kind ∨ i < 0 ∨ ((X (t).toNat).length : Int) < i) → ∀ g, ez_B τ g → mF h g 1 → Q (.inl (some (ez_v (.inl 0))), g)) (kS : ((0 ≤ t ∧ t ≤ 7) ∧ (0 ≤ kind ∧ kind ≤ 1) ∧ 0 ≤ i ∧ i ≤ ((X (t).toNat).length : Int)) → qz_I h 770 7 = 0 → ∀ g, ez_B τ g → mF h g 2 → Q (.inl (some (ez_v (.inl 0))), g)) (k1 : ((0 ≤ t ∧ t ≤ 7) ∧ (0 ≤ kind ∧ kind ≤ 1) ∧ 0 ≤ i ∧ i ≤ ((X (t).toNat).length : Int)) → qz_I h 770 7 ≠ 0 → ∀ v, bwP (edP (yD Ls) (X t.toNat) kind i) v → ∀ h1, ez_B τ h1 → mF h h1 0 → ∀ g2 τ2, ez_B τ2 g2 → nk τ h1 τ2 g2 → ∀ g3, ez_B τ2 g3 → (∀ q, τ2 q ≠ 0 → g3.2.2 q = g2.2.2 q) → (g3.1 ≤ g2.1 + 1 ∧ g3.2.1 ≤ g2.2.1 + 6) → Q (.inl (some (ez_v (.inl v))), g3)) : ez_W (d + 6) cm_244 0 [(0, .inr (.inr (some (770)))), (1, .inl (t)), (2, .inl (kind)), (3, .inl (i))] [] h Q := by
  have hB := hI9.1
  have hX := hI9.2.1
  have t770 : τ 770 = 75 := hX 770 (by decide)
  obtain ⟨tr1, tr2⟩ := id tr
  obtain ⟨kindr1, kindr2⟩ := id kindr
  obtain ⟨ir1, ir2⟩ := id ir
  refine ez_go (n := 2) (pc' := 2) (L' := [(0, .inr (.inr (some (770)))), (1, .inl (t)), (2, .inl (kind)), (3, .inl (i))]) (st' := [.inl (0), .inr (.inr (some (770)))]) rfl ?_
  refine ez_pf hB t770 rfl rfl tq_75 rfl rfl rfl rfl (ez_vdI rfl rfl (by omega) (by omega)) (fun hB1 w2 => ?_)
  have fP : ez_fr (ez_one 770) h (dz_put h 770 0 (ez_v (.inl (0)))) := (ez_fr.refl (ez_one 770) h).put rfl _ _
  have vP : qz_I (dz_put h 770 0 (ez_v (.inl (0)))) 770 0 = 0 := w2.trans (rz_rd ⟨by omega, by omega⟩)
  have iP : ∀ j, j ≠ 0 → qz_I (dz_put h 770 0 (ez_v (.inl (0)))) 770 j = qz_I h 770 j := fun j hj => ez_put_I (fun w => hj w.2)
  have hP := hB1
  generalize (dz_put h 770 0 (ez_v (.inl (0)))) = h1 at *
  have cP1 := fP.1; have cP2 := fP.2.1
  refine ez_go (n := 2) (pc' := 7) (L' := [(0, .inr (.inr (some (770)))), (1, .inl (t)), (2, .inl (kind)), (3, .inl (i))]) (st' := [.inl (t), .inr (.inr (some (770)))]) rfl ?_
  refine ez_cv hP t770 rfl rfl rfl tq_75 rfl rfl rfl (rd_mout (show ez_rg (t) by assumption) (fun o6 => ez_K1 ?_) (fun o6 => ez_K1 ?_))
  · skip
    refine ez_if rfl rfl ⟨by decide, by decide⟩ (fun _ => ?_) (fun (c3 : ¬((1 : Int) ≠ (0))) => absurd c3 (by decide))
    refine ez_go (n := 2) (pc' := 38) (L' := [(0, .inr (.inr (some (770)))), (1, .inl (t)), (2, .inl (kind)), (3, .inl (i))]) (st' := [.inl (1), .inr (.inr (some (770)))]) rfl ?_
    refine ez_cv hP t770 rfl rfl rfl tq_75 rfl rfl rfl (rd_mfail hP t770 (by omega) (by omega) (fun gf hBf ff jf vf0 => ez_K1 ?_))
    refine ez_if rfl rfl ⟨by decide, by decide⟩ (fun _ => ?_) (fun (c4 : ¬((0 : Int) ≤ (0))) => absurd c4 (by decide))
    refine ez_go (n := 1) (pc' := 49) (L' := [(0, .inr (.inr (some (770)))), (1, .inl (t)), (2, .inl (kind)), (3, .inl (i))]) (st' := [.inl (0)]) rfl ?_
    exact ez_retZ rfl rfl (by decide) (kA (by omega) gf hBf (mF.trans ⟨fP, iP, vP⟩ ⟨ff, jf, vf0⟩))
  · skip
    refine ez_if rfl rfl ⟨by decide, by decide⟩ (fun (c5 : (0 : Int) ≠ (0)) => absurd c5 (by decide)) (fun _ => ?_)
    refine ez_go (n := 1) (pc' := 14) (L' := [(0, .inr (.inr (some (770)))), (1, .inl (t)), (2, .inl (kind)), (3, .inl (i))]) (st' := [.inl (kind)]) rfl ?_
    refine ez_if rfl rfl ⟨by first | omega | exact (sz_i32 _).1, by first | omega | exact (sz_i32 _).2⟩ (fun (c6 : (kind) < (0)) => ?_) (fun (c6 : ¬((kind) < (0))) => ?_)
    · skip
      refine ez_go (n := 2) (pc' := 38) (L' := [(0, .inr (.inr (some (770)))), (1, .inl (t)), (2, .inl (kind)), (3, .inl (i))]) (st' := [.inl (1), .inr (.inr (some (770)))]) rfl ?_
      refine ez_cv hP t770 rfl rfl rfl tq_75 rfl rfl rfl (rd_mfail hP t770 (by omega) (by omega) (fun gf hBf ff jf vf0 => ez_K1 ?_))
      refine ez_if rfl rfl ⟨by decide, by decide⟩ (fun _ => ?_) (fun (c7 : ¬((0 : Int) ≤ (0))) => absurd c7 (by decide))
      refine ez_go (n := 1) (pc' := 49) (L' := [(0, .inr (.inr (some (770)))), (1, .inl (t)), (2, .inl (kind)), (3, .inl (i))]) (st' := [.inl (0)]) rfl ?_
      exact ez_retZ rfl rfl (by decide) (kA (by omega) gf hBf (mF.trans ⟨fP, iP, vP⟩ ⟨ff, jf, vf0⟩))
    · skip
      refine ez_go (n := 2) (pc' := 19) (L' := [(0, .inr (.inr (some (770)))), (1, .inl (t)), (2, .inl (kind)), (3, .inl (i))]) (st' := [.inl (1), .inl (kind)]) rfl ?_
      refine ez_icmp rfl rfl ⟨by first | omega | exact (sz_i32 _).1, by first | omega | exact (sz_i32 _).2⟩ ⟨by first | omega | exact (sz_i32 _).1, by first | omega | exact (sz_i32 _).2⟩ (fun (c8 : (1) < (kind)) => ?_) (fun (c8 : ¬((1) < (kind))) => ?_)
      · skip
        refine ez_go (n := 2) (pc' := 38) (L' := [(0, .inr (.inr (some (770)))), (1, .inl (t)), (2, .inl (kind)), (3, .inl (i))]) (st' := [.inl (1), .inr (.inr (some (770)))]) rfl ?_
        refine ez_cv hP t770 rfl rfl rfl tq_75 rfl rfl rfl (rd_mfail hP t770 (by omega) (by omega) (fun gf hBf ff jf vf0 => ez_K1 ?_))
        refine ez_if rfl rfl ⟨by decide, by decide⟩ (fun _ => ?_) (fun (c9 : ¬((0 : Int) ≤ (0))) => absurd c9 (by decide))
        refine ez_go (n := 1) (pc' := 49) (L' := [(0, .inr (.inr (some (770)))), (1, .inl (t)), (2, .inl (kind)), (3, .inl (i))]) (st' := [.inl (0)]) rfl ?_
        exact ez_retZ rfl rfl (by decide) (kA (by omega) gf hBf (mF.trans ⟨fP, iP, vP⟩ ⟨ff, jf, vf0⟩))
      · skip
        refine ez_go (n := 1) (pc' := 23) (L' := [(0, .inr (.inr (some (770)))), (1, .inl (t)), (2, .inl (kind)), (3, .inl (i))]) (st' := [.inl (i)]) rfl ?_
        refine ez_if rfl rfl ⟨by first | omega | exact (sz_i32 _).1, by first | omega | exact (sz_i32 _).2⟩ (fun (c10 : (i) < (0)) => ?_) (fun (c10 : ¬((i) < (0))) => ?_)
        · skip
          refine ez_go (n := 2) (pc' := 38) (L' := [(0, .inr (.inr (some (770)))), (1, .inl (t)), (2, .inl (kind)), (3, .inl (i))]) (st' := [.inl (1), .inr (.inr (some (770)))]) rfl ?_
          refine ez_cv hP t770 rfl rfl rfl tq_75 rfl rfl rfl (rd_mfail hP t770 (by omega) (by omega) (fun gf hBf ff jf vf0 => ez_K1 ?_))
          refine ez_if rfl rfl ⟨by decide, by decide⟩ (fun _ => ?_) (fun (c11 : ¬((0 : Int) ≤ (0))) => absurd c11 (by decide))
          refine ez_go (n := 1) (pc' := 49) (L' := [(0, .inr (.inr (some (770)))), (1, .inl (t)), (2, .inl (kind)), (3, .inl (i))]) (st' := [.inl (0)]) rfl ?_
          exact ez_retZ rfl rfl (by decide) (kA (by omega) gf hBf (mF.trans ⟨fP, iP, vP⟩ ⟨ff, jf, vf0⟩))
        · skip
          refine ez_go (n := 2) (pc' := 28) (L' := [(0, .inr (.inr (some (770)))), (1, .inl (t)), (2, .inl (kind)), (3, .inl (i))]) (st' := [.inr (.inr (some (770))), .inl (i)]) rfl ?_
          refine ez_gC (p := 782) (tg := 79) hP t770 rfl rfl tq_75 rfl rfl (fun (t782 : _ = 79) => ?_)
          refine ez_go (n := 1) (pc' := 32) (L' := [(0, .inr (.inr (some (770)))), (1, .inl (t)), (2, .inl (kind)), (3, .inl (i))]) (st' := [.inl (t), .inr (.inr (some (782))), .inl (i)]) rfl ?_
          have n13 : 8 ≤ qz_N h1 782 ∧ qz_N h1 782 ≤ 8 := ez_len hP t782 tq_79 rfl
          refine ez_aI hP t782 rfl tq_79 rfl rfl (by omega) (by omega) (fun (b12 : 0 ≤ qz_I h1 782 (t).toNat) (b12' : qz_I h1 782 (t).toNat ≤ 2000) => ?_)
          have k1P : ∀ q, q ≠ 770 → h1.2.2 q = h.2.2 q := fun q hq => fP.2.2 q (dz_beq_ne hq)
          have c73 : ∀ j, qz_I h1 773 j = qz_I h 773 j := fun j => fP.I rfl j
          have mt := (mxh.k (g := h1) (fun q hq => k1P q (by omega))) (t).toNat (by omega)
          have mt2 := mt.2.2
          rw [show qz_I h1 782 (t).toNat = ((X (t).toNat).length : Int) from mt.1.1]
          refine ez_icmp rfl rfl ⟨by first | omega | exact (sz_i32 _).1, by first | omega | exact (sz_i32 _).2⟩ ⟨by first | omega | exact (sz_i32 _).1, by first | omega | exact (sz_i32 _).2⟩ (fun (c14 : (i) ≤ (((X (t).toNat).length : Int))) => ?_) (fun (c14 : ¬((i) ≤ (((X (t).toNat).length : Int)))) => ?_)
          · skip
            refine ez_go (n := 1) (pc' := 51) (L' := [(0, .inr (.inr (some (770)))), (1, .inl (t)), (2, .inl (kind)), (3, .inl (i))]) (st' := [.inr (.inr (some (770)))]) rfl ?_
            refine ez_gI hP t770 rfl rfl tq_75 rfl rfl (fun (b15 : 0 ≤ qz_I h1 770 7) (b15' : qz_I h1 770 7 ≤ 1) => ?_)
            refine ez_if rfl rfl ⟨by first | omega | exact (sz_i32 _).1, by first | omega | exact (sz_i32 _).2⟩ (fun (c16 : (qz_I h1 770 7) ≠ (0)) => ?_) (fun (c16 : ¬((qz_I h1 770 7) ≠ (0))) => ?_)
            · skip
              have hI1 : mI τ h1 Ls 0 := hI9.gen hP (fun _ _ => rfl) (fun q q0 => by rw [q0]; decide) (fun q hq => fP.2.2 q (dz_beq_ne (fun e => by rw [e, t770] at hq; omega))) (fun j j1 j2 => iP j (by omega))
              have mtt : mtx τ h1 (774 + (t).toNat) (X (t).toNat) := ⟨(mx_tag hX (show (t).toNat < 8 by omega)).1, ⟨by omega, mt.2.1⟩, fun k ka kb => mt.1.2 _ _ (uX_e (by omega))⟩
              have ok : ((0 ≤ t ∧ t ≤ 7) ∧ (0 ≤ kind ∧ kind ≤ 1) ∧ 0 ≤ i ∧ i ≤ ((X (t).toNat).length : Int)) := by omega
              have s7 : qz_I h 770 7 ≠ 0 := by rw [← iP 7 (by decide)]; assumption
              refine ez_go (n := 2) (pc' := 73) (L' := [(0, .inr (.inr (some (770)))), (1, .inl (t)), (2, .inl (kind)), (3, .inl (i))]) (st' := [.inr (.inr (some (770))), .inr (.inr (some (770)))]) rfl ?_
              refine ez_gC (p := 773) (tg := 78) hP t770 rfl rfl tq_75 rfl rfl (fun (t773 : _ = 78) => ?_)
              refine ez_go (n := 1) (pc' := 77) (L' := [(0, .inr (.inr (some (770)))), (1, .inl (t)), (2, .inl (kind)), (3, .inl (i))]) (st' := [.inl (t), .inr (.inr (some (773))), .inr (.inr (some (770)))]) rfl ?_
              have n18 : 8 ≤ qz_N h1 773 ∧ qz_N h1 773 ≤ 8 := ez_len hP t773 tq_78 rfl
              have y19 : 1 ≤ qz_I h1 773 (t).toNat := (by have := (sl t.toNat (by omega)).2; rw [c73]; omega)
              have y20 : 1 ≤ qz_I h1 773 (t).toNat ∧ qz_I h1 773 (t).toNat ≤ 1000000 := ez_aB hP t773 tq_78 rfl rfl (by decide) (by omega) (by omega)
              have y20' : ((qz_P h1 773 (t).toNat : Nat) : Int) + 1 = qz_I h1 773 (t).toNat := by unfold qz_P; omega
              refine ez_aR hP t773 rfl tq_78 rfl rfl (by omega) (by omega) (by omega) (fun (t17 : _ = 37) => ?_)
              rw [show qz_P h1 773 (t).toNat = 774 + (t).toNat by unfold qz_P; have := (sl (t).toNat (by omega)).2; rw [show qz_I h1 773 (t).toNat = qz_I h 773 (t).toNat from c73 _]; omega]
              refine ez_go (n := 1) (pc' := 79) (L' := [(0, .inr (.inr (some (770)))), (1, .inl (t)), (2, .inl (kind)), (3, .inl (i))]) (st' := [.inr (.inr (some (770))), .inr (.inr (some (774 + (t).toNat))), .inr (.inr (some (770)))]) rfl ?_
              refine ez_gC (p := 782) (tg := 79) hP t770 rfl rfl tq_75 rfl rfl (fun (t782 : _ = 79) => ?_)
              refine ez_go (n := 1) (pc' := 83) (L' := [(0, .inr (.inr (some (770)))), (1, .inl (t)), (2, .inl (kind)), (3, .inl (i))]) (st' := [.inl (t), .inr (.inr (some (782))), .inr (.inr (some (774 + (t).toNat))), .inr (.inr (some (770)))]) rfl ?_
              have n22 : 8 ≤ qz_N h1 782 ∧ qz_N h1 782 ≤ 8 := ez_len hP t782 tq_79 rfl
              refine ez_aI hP t782 rfl tq_79 rfl rfl (by omega) (by omega) (fun (b21 : 0 ≤ qz_I h1 782 (t).toNat) (b21' : qz_I h1 782 (t).toNat ≤ 2000) => ?_)
              rw [show qz_I h1 782 (t).toNat = ((X (t).toNat).length : Int) from mt.1.1]
              refine ez_go (n := 2) (pc' := 86) (L' := [(0, .inr (.inr (some (770)))), (1, .inl (t)), (2, .inl (kind)), (3, .inl (i))]) (st' := [.inl (i), .inl (kind), .inl (((X (t).toNat).length : Int)), .inr (.inr (some (774 + (t).toNat))), .inr (.inr (some (770)))]) rfl ?_
              refine ez_cv hP t770 rfl rfl rfl tq_75 rfl rfl rfl (rd_med hI1 mtt (by omega) (by omega) (by omega) (fun w => ez_K1 ?_) (fun w => ez_K1 ?_))
              · skip
                exact ez_retZ rfl rfl (by decide) (k1 ok s7 1 (Or.inl ⟨w, rfl⟩) h1 hP ⟨fP, iP, vP⟩ h1 τ hP (nk.refl τ h1) h1 hP (fun _ _ => rfl) ⟨by omega, by omega⟩)
              · skip
                exact ez_retZ rfl rfl (by decide) (k1 ok s7 0 (Or.inr ⟨w, rfl⟩) h1 hP ⟨fP, iP, vP⟩ h1 τ hP (nk.refl τ h1) h1 hP (fun _ _ => rfl) ⟨by omega, by omega⟩)
            · skip
              refine ez_go (n := 2) (pc' := 59) (L' := [(0, .inr (.inr (some (770)))), (1, .inl (t)), (2, .inl (kind)), (3, .inl (i))]) (st' := [.inl (2), .inr (.inr (some (770)))]) rfl ?_
              refine ez_cv hP t770 rfl rfl rfl tq_75 rfl rfl rfl (rd_mfail hP t770 (by omega) (by omega) (fun gf hBf ff jf vf0 => ez_K1 ?_))
              refine ez_if rfl rfl ⟨by decide, by decide⟩ (fun _ => ?_) (fun (c23 : ¬((0 : Int) ≤ (0))) => absurd c23 (by decide))
              refine ez_go (n := 1) (pc' := 70) (L' := [(0, .inr (.inr (some (770)))), (1, .inl (t)), (2, .inl (kind)), (3, .inl (i))]) (st' := [.inl (0)]) rfl ?_
              exact ez_retZ rfl rfl (by decide) (kS (by omega) (by rw [← iP 7 (by decide)]; omega) gf hBf (mF.trans ⟨fP, iP, vP⟩ ⟨ff, jf, vf0⟩))
          · skip
            refine ez_go (n := 2) (pc' := 38) (L' := [(0, .inr (.inr (some (770)))), (1, .inl (t)), (2, .inl (kind)), (3, .inl (i))]) (st' := [.inl (1), .inr (.inr (some (770)))]) rfl ?_
            refine ez_cv hP t770 rfl rfl rfl tq_75 rfl rfl rfl (rd_mfail hP t770 (by omega) (by omega) (fun gf hBf ff jf vf0 => ez_K1 ?_))
            refine ez_if rfl rfl ⟨by decide, by decide⟩ (fun _ => ?_) (fun (c24 : ¬((0 : Int) ≤ (0))) => absurd c24 (by decide))
            refine ez_go (n := 1) (pc' := 49) (L' := [(0, .inr (.inr (some (770)))), (1, .inl (t)), (2, .inl (kind)), (3, .inl (i))]) (st' := [.inl (0)]) rfl ?_
            exact ez_retZ rfl rfl (by decide) (kA (by omega) gf hBf (mF.trans ⟨fP, iP, vP⟩ ⟨ff, jf, vf0⟩))

theorem rd_mnx1_l {t kind i : Int} (hI : mI τ h Ls b) (hX : jz_X τ) (sl : slt h) (mt : mx h (t).toNat (X (t).toNat) ∧ ptl (X (t).toNat) ∧ (X (t).toNat).length ≤ 2000) (mtt : mtx τ h (774 + (t).toNat) (X (t).toNat)) (kd : kind = 0 ∨ kind = 1) (t0 : 0 ≤ t) (t7 : t ≤ 7) (i0 : 0 ≤ i) (i1 : i ≤ ((X (t).toNat).length : Int)) (k9 : ∀ v, nxb (edP (yD Ls) (X t.toNat) kind) i v → Q (.inl (some (ez_v (.inl v))), h)) : ∀ (n : Nat) (k : Int), n = (k + 1).toNat → -1 ≤ k → k < i → (∀ j, k < j → j < i → ¬ edP (yD Ls) (X t.toNat) kind j) → ez_W (d + 6) cm_281 73 [(6, .inl (k)), (5, .inl (-1)), (0, .inr (.inr (some (770)))), (1, .inl (t)), (2, .inl (kind)), (3, .inl (i)), (4, .inl (1))] [] h Q := by
  have hB := hI.1
  have t770 : τ 770 = 75 := hX 770 (by decide)
  have mt2 := mt.2.2
  intro n
  induction n with
  | zero =>
    intro k hn0 ka kb hn
    refine ez_go (n := 1) (pc' := 75) (L' := [(6, .inl (k)), (5, .inl (-1)), (0, .inr (.inr (some (770)))), (1, .inl (t)), (2, .inl (kind)), (3, .inl (i)), (4, .inl (1))]) (st' := [.inl (k)]) rfl ?_
    refine ez_if rfl rfl ⟨by first | omega | exact (sz_i32 _).1, by first | omega | exact (sz_i32 _).2⟩ (fun (c1 : (k) < (0)) => ?_) (fun (c1 : ¬((k) < (0))) => ?_)
    · skip
      refine ez_go (n := 1) (pc' := 125) (L' := [(6, .inl (k)), (5, .inl (-1)), (0, .inr (.inr (some (770)))), (1, .inl (t)), (2, .inl (kind)), (3, .inl (i)), (4, .inl (1))]) (st' := [.inl (-1)]) rfl ?_
      exact ez_retI rfl rfl (k9 _ (Or.inr ⟨rfl, fun j ja jb => hn j (by omega) (by omega)⟩))
    · skip
      refine ez_go (n := 2) (pc' := 81) (L' := [(6, .inl (k)), (5, .inl (-1)), (0, .inr (.inr (some (770)))), (1, .inl (t)), (2, .inl (kind)), (3, .inl (i)), (4, .inl (1))]) (st' := [.inr (.inr (some (770))), .inl (k)]) rfl ?_
      refine ez_gC (p := 782) (tg := 79) hB t770 rfl rfl tq_75 rfl rfl (fun (t782 : _ = 79) => ?_)
      refine ez_go (n := 1) (pc' := 85) (L' := [(6, .inl (k)), (5, .inl (-1)), (0, .inr (.inr (some (770)))), (1, .inl (t)), (2, .inl (kind)), (3, .inl (i)), (4, .inl (1))]) (st' := [.inl (t), .inr (.inr (some (782))), .inl (k)]) rfl ?_
      have n3 : 8 ≤ qz_N h 782 ∧ qz_N h 782 ≤ 8 := ez_len hB t782 tq_79 rfl
      refine ez_aI hB t782 rfl tq_79 rfl rfl (by omega) (by omega) (fun (b2 : 0 ≤ qz_I h 782 (t).toNat) (b2' : qz_I h 782 (t).toNat ≤ 2000) => ?_)
      rw [show qz_I h 782 (t).toNat = ((X (t).toNat).length : Int) from mt.1.1]
      refine ez_icmp rfl rfl ⟨by first | omega | exact (sz_i32 _).1, by first | omega | exact (sz_i32 _).2⟩ ⟨by first | omega | exact (sz_i32 _).1, by first | omega | exact (sz_i32 _).2⟩ (fun (c4 : (((X (t).toNat).length : Int)) < (k)) => ?_) (fun (c4 : ¬((((X (t).toNat).length : Int)) < (k))) => ?_)
      · skip
        refine ez_go (n := 1) (pc' := 125) (L' := [(6, .inl (k)), (5, .inl (-1)), (0, .inr (.inr (some (770)))), (1, .inl (t)), (2, .inl (kind)), (3, .inl (i)), (4, .inl (1))]) (st' := [.inl (-1)]) rfl ?_
        exact ez_retI rfl rfl (k9 _ (Or.inr ⟨rfl, fun j ja jb => hn j (by omega) (by omega)⟩))
      · skip
        refine ez_go (n := 2) (pc' := 91) (L' := [(6, .inl (k)), (5, .inl (-1)), (0, .inr (.inr (some (770)))), (1, .inl (t)), (2, .inl (kind)), (3, .inl (i)), (4, .inl (1))]) (st' := [.inr (.inr (some (770))), .inr (.inr (some (770)))]) rfl ?_
        refine ez_gC (p := 773) (tg := 78) hB t770 rfl rfl tq_75 rfl rfl (fun (t773 : _ = 78) => ?_)
        refine ez_go (n := 1) (pc' := 95) (L' := [(6, .inl (k)), (5, .inl (-1)), (0, .inr (.inr (some (770)))), (1, .inl (t)), (2, .inl (kind)), (3, .inl (i)), (4, .inl (1))]) (st' := [.inl (t), .inr (.inr (some (773))), .inr (.inr (some (770)))]) rfl ?_
        have n6 : 8 ≤ qz_N h 773 ∧ qz_N h 773 ≤ 8 := ez_len hB t773 tq_78 rfl
        have y7 : 1 ≤ qz_I h 773 (t).toNat := (by have := (sl t.toNat (by omega)).2; omega)
        have y8 : 1 ≤ qz_I h 773 (t).toNat ∧ qz_I h 773 (t).toNat ≤ 1000000 := ez_aB hB t773 tq_78 rfl rfl (by decide) (by omega) (by omega)
        have y8' : ((qz_P h 773 (t).toNat : Nat) : Int) + 1 = qz_I h 773 (t).toNat := by unfold qz_P; omega
        refine ez_aR hB t773 rfl tq_78 rfl rfl (by omega) (by omega) (by omega) (fun (t5 : _ = 37) => ?_)
        rw [show qz_P h 773 (t).toNat = 774 + (t).toNat by unfold qz_P; have := (sl (t).toNat (by omega)).2; rw [show qz_I h 773 (t).toNat = qz_I h 773 (t).toNat from rfl]; omega]
        refine ez_go (n := 1) (pc' := 97) (L' := [(6, .inl (k)), (5, .inl (-1)), (0, .inr (.inr (some (770)))), (1, .inl (t)), (2, .inl (kind)), (3, .inl (i)), (4, .inl (1))]) (st' := [.inr (.inr (some (770))), .inr (.inr (some (774 + (t).toNat))), .inr (.inr (some (770)))]) rfl ?_
        refine ez_gC (p := 782) (tg := 79) hB t770 rfl rfl tq_75 rfl rfl (fun (t782 : _ = 79) => ?_)
        refine ez_go (n := 1) (pc' := 101) (L' := [(6, .inl (k)), (5, .inl (-1)), (0, .inr (.inr (some (770)))), (1, .inl (t)), (2, .inl (kind)), (3, .inl (i)), (4, .inl (1))]) (st' := [.inl (t), .inr (.inr (some (782))), .inr (.inr (some (774 + (t).toNat))), .inr (.inr (some (770)))]) rfl ?_
        have n10 : 8 ≤ qz_N h 782 ∧ qz_N h 782 ≤ 8 := ez_len hB t782 tq_79 rfl
        refine ez_aI hB t782 rfl tq_79 rfl rfl (by omega) (by omega) (fun (b9 : 0 ≤ qz_I h 782 (t).toNat) (b9' : qz_I h 782 (t).toNat ≤ 2000) => ?_)
        rw [show qz_I h 782 (t).toNat = ((X (t).toNat).length : Int) from mt.1.1]
        refine ez_go (n := 2) (pc' := 105) (L' := [(6, .inl (k)), (5, .inl (-1)), (0, .inr (.inr (some (770)))), (1, .inl (t)), (2, .inl (kind)), (3, .inl (i)), (4, .inl (1))]) (st' := [.inl (k), .inl (kind), .inl (((X (t).toNat).length : Int)), .inr (.inr (some (774 + (t).toNat))), .inr (.inr (some (770)))]) rfl ?_
        refine ez_cv hB t770 rfl rfl rfl tq_75 rfl rfl rfl (rd_med hI mtt kd (by omega) (by omega) (fun w => ez_K1 ?_) (fun w => ez_K1 ?_))
        · skip
          refine ez_if rfl rfl ⟨by decide, by decide⟩ (fun (c11 : (1 : Int) = (0)) => absurd c11 (by decide)) (fun _ => ?_)
          refine ez_go (n := 1) (pc' := 113) (L' := [(6, .inl (k)), (5, .inl (-1)), (0, .inr (.inr (some (770)))), (1, .inl (t)), (2, .inl (kind)), (3, .inl (i)), (4, .inl (1))]) (st' := [.inl (k)]) rfl ?_
          exact ez_retI rfl rfl (k9 _ (Or.inl ⟨by omega, by omega, w, fun j ja jb => hn j (by omega) (by omega)⟩))
        · skip
          refine ez_if rfl rfl ⟨by decide, by decide⟩ (fun _ => ?_) (fun (c12 : ¬((0 : Int) = (0))) => absurd c12 (by decide))
          refine ez_go (n := 5) (pc' := 73) (L' := [(6, .inl ((k) + (-1))), (5, .inl (-1)), (0, .inr (.inr (some (770)))), (1, .inl (t)), (2, .inl (kind)), (3, .inl (i)), (4, .inl (1))]) (st' := []) rfl ?_
          exfalso; omega
  | succ n ih =>
    intro k hn0 ka kb hn
    refine ez_go (n := 1) (pc' := 75) (L' := [(6, .inl (k)), (5, .inl (-1)), (0, .inr (.inr (some (770)))), (1, .inl (t)), (2, .inl (kind)), (3, .inl (i)), (4, .inl (1))]) (st' := [.inl (k)]) rfl ?_
    refine ez_if rfl rfl ⟨by first | omega | exact (sz_i32 _).1, by first | omega | exact (sz_i32 _).2⟩ (fun (c1 : (k) < (0)) => ?_) (fun (c1 : ¬((k) < (0))) => ?_)
    · skip
      refine ez_go (n := 1) (pc' := 125) (L' := [(6, .inl (k)), (5, .inl (-1)), (0, .inr (.inr (some (770)))), (1, .inl (t)), (2, .inl (kind)), (3, .inl (i)), (4, .inl (1))]) (st' := [.inl (-1)]) rfl ?_
      exact ez_retI rfl rfl (k9 _ (Or.inr ⟨rfl, fun j ja jb => hn j (by omega) (by omega)⟩))
    · skip
      refine ez_go (n := 2) (pc' := 81) (L' := [(6, .inl (k)), (5, .inl (-1)), (0, .inr (.inr (some (770)))), (1, .inl (t)), (2, .inl (kind)), (3, .inl (i)), (4, .inl (1))]) (st' := [.inr (.inr (some (770))), .inl (k)]) rfl ?_
      refine ez_gC (p := 782) (tg := 79) hB t770 rfl rfl tq_75 rfl rfl (fun (t782 : _ = 79) => ?_)
      refine ez_go (n := 1) (pc' := 85) (L' := [(6, .inl (k)), (5, .inl (-1)), (0, .inr (.inr (some (770)))), (1, .inl (t)), (2, .inl (kind)), (3, .inl (i)), (4, .inl (1))]) (st' := [.inl (t), .inr (.inr (some (782))), .inl (k)]) rfl ?_
      have n3 : 8 ≤ qz_N h 782 ∧ qz_N h 782 ≤ 8 := ez_len hB t782 tq_79 rfl
      refine ez_aI hB t782 rfl tq_79 rfl rfl (by omega) (by omega) (fun (b2 : 0 ≤ qz_I h 782 (t).toNat) (b2' : qz_I h 782 (t).toNat ≤ 2000) => ?_)
      rw [show qz_I h 782 (t).toNat = ((X (t).toNat).length : Int) from mt.1.1]
      refine ez_icmp rfl rfl ⟨by first | omega | exact (sz_i32 _).1, by first | omega | exact (sz_i32 _).2⟩ ⟨by first | omega | exact (sz_i32 _).1, by first | omega | exact (sz_i32 _).2⟩ (fun (c4 : (((X (t).toNat).length : Int)) < (k)) => ?_) (fun (c4 : ¬((((X (t).toNat).length : Int)) < (k))) => ?_)
      · skip
        refine ez_go (n := 1) (pc' := 125) (L' := [(6, .inl (k)), (5, .inl (-1)), (0, .inr (.inr (some (770)))), (1, .inl (t)), (2, .inl (kind)), (3, .inl (i)), (4, .inl (1))]) (st' := [.inl (-1)]) rfl ?_
        exact ez_retI rfl rfl (k9 _ (Or.inr ⟨rfl, fun j ja jb => hn j (by omega) (by omega)⟩))
      · skip
        refine ez_go (n := 2) (pc' := 91) (L' := [(6, .inl (k)), (5, .inl (-1)), (0, .inr (.inr (some (770)))), (1, .inl (t)), (2, .inl (kind)), (3, .inl (i)), (4, .inl (1))]) (st' := [.inr (.inr (some (770))), .inr (.inr (some (770)))]) rfl ?_
        refine ez_gC (p := 773) (tg := 78) hB t770 rfl rfl tq_75 rfl rfl (fun (t773 : _ = 78) => ?_)
        refine ez_go (n := 1) (pc' := 95) (L' := [(6, .inl (k)), (5, .inl (-1)), (0, .inr (.inr (some (770)))), (1, .inl (t)), (2, .inl (kind)), (3, .inl (i)), (4, .inl (1))]) (st' := [.inl (t), .inr (.inr (some (773))), .inr (.inr (some (770)))]) rfl ?_
        have n6 : 8 ≤ qz_N h 773 ∧ qz_N h 773 ≤ 8 := ez_len hB t773 tq_78 rfl
        have y7 : 1 ≤ qz_I h 773 (t).toNat := (by have := (sl t.toNat (by omega)).2; omega)
        have y8 : 1 ≤ qz_I h 773 (t).toNat ∧ qz_I h 773 (t).toNat ≤ 1000000 := ez_aB hB t773 tq_78 rfl rfl (by decide) (by omega) (by omega)
        have y8' : ((qz_P h 773 (t).toNat : Nat) : Int) + 1 = qz_I h 773 (t).toNat := by unfold qz_P; omega
        refine ez_aR hB t773 rfl tq_78 rfl rfl (by omega) (by omega) (by omega) (fun (t5 : _ = 37) => ?_)
        rw [show qz_P h 773 (t).toNat = 774 + (t).toNat by unfold qz_P; have := (sl (t).toNat (by omega)).2; rw [show qz_I h 773 (t).toNat = qz_I h 773 (t).toNat from rfl]; omega]
        refine ez_go (n := 1) (pc' := 97) (L' := [(6, .inl (k)), (5, .inl (-1)), (0, .inr (.inr (some (770)))), (1, .inl (t)), (2, .inl (kind)), (3, .inl (i)), (4, .inl (1))]) (st' := [.inr (.inr (some (770))), .inr (.inr (some (774 + (t).toNat))), .inr (.inr (some (770)))]) rfl ?_
        refine ez_gC (p := 782) (tg := 79) hB t770 rfl rfl tq_75 rfl rfl (fun (t782 : _ = 79) => ?_)
        refine ez_go (n := 1) (pc' := 101) (L' := [(6, .inl (k)), (5, .inl (-1)), (0, .inr (.inr (some (770)))), (1, .inl (t)), (2, .inl (kind)), (3, .inl (i)), (4, .inl (1))]) (st' := [.inl (t), .inr (.inr (some (782))), .inr (.inr (some (774 + (t).toNat))), .inr (.inr (some (770)))]) rfl ?_
        have n10 : 8 ≤ qz_N h 782 ∧ qz_N h 782 ≤ 8 := ez_len hB t782 tq_79 rfl
        refine ez_aI hB t782 rfl tq_79 rfl rfl (by omega) (by omega) (fun (b9 : 0 ≤ qz_I h 782 (t).toNat) (b9' : qz_I h 782 (t).toNat ≤ 2000) => ?_)
        rw [show qz_I h 782 (t).toNat = ((X (t).toNat).length : Int) from mt.1.1]
        refine ez_go (n := 2) (pc' := 105) (L' := [(6, .inl (k)), (5, .inl (-1)), (0, .inr (.inr (some (770)))), (1, .inl (t)), (2, .inl (kind)), (3, .inl (i)), (4, .inl (1))]) (st' := [.inl (k), .inl (kind), .inl (((X (t).toNat).length : Int)), .inr (.inr (some (774 + (t).toNat))), .inr (.inr (some (770)))]) rfl ?_
        refine ez_cv hB t770 rfl rfl rfl tq_75 rfl rfl rfl (rd_med hI mtt kd (by omega) (by omega) (fun w => ez_K1 ?_) (fun w => ez_K1 ?_))
        · skip
          refine ez_if rfl rfl ⟨by decide, by decide⟩ (fun (c11 : (1 : Int) = (0)) => absurd c11 (by decide)) (fun _ => ?_)
          refine ez_go (n := 1) (pc' := 113) (L' := [(6, .inl (k)), (5, .inl (-1)), (0, .inr (.inr (some (770)))), (1, .inl (t)), (2, .inl (kind)), (3, .inl (i)), (4, .inl (1))]) (st' := [.inl (k)]) rfl ?_
          exact ez_retI rfl rfl (k9 _ (Or.inl ⟨by omega, by omega, w, fun j ja jb => hn j (by omega) (by omega)⟩))
        · skip
          refine ez_if rfl rfl ⟨by decide, by decide⟩ (fun _ => ?_) (fun (c12 : ¬((0 : Int) = (0))) => absurd c12 (by decide))
          refine ez_go (n := 5) (pc' := 73) (L' := [(6, .inl ((k) + (-1))), (5, .inl (-1)), (0, .inr (.inr (some (770)))), (1, .inl (t)), (2, .inl (kind)), (3, .inl (i)), (4, .inl (1))]) (st' := []) rfl ?_
          refine ez_less [(6, .inl ((k) + (-1))), (5, .inl (-1)), (0, .inr (.inr (some (770)))), (1, .inl (t)), (2, .inl (kind)), (3, .inl (i)), (4, .inl (1))] rfl ⟨rfl, rfl, rfl, rfl, rfl, rfl, rfl, trivial⟩ ?_
          refine ih _ (by omega) (by omega) (by omega) (fun j ja jb => ?_)
          by_cases e : j = k
          · rw [e]; exact w
          · exact hn j (by omega) (by omega)

theorem rd_mnext1 {t kind i : Int} (hI9 : mI τ h Ls 0) (sl : slt h) (mxh : mxs h X) (tr : ez_rg t) (kindr : ez_rg kind) (ir : ez_rg i) (kA : (t < 0 ∨ 7 < t ∨ kind < 0 ∨ 1 < kind ∨ i < 0 ∨ ((X (t).toNat).length : Int) < i) → ∀ g, ez_B τ g → mF h g 1 → Q (.inl (some (ez_v (.inl 0))), g)) (kS : ((0 ≤ t ∧ t ≤ 7) ∧ (0 ≤ kind ∧ kind ≤ 1) ∧ 0 ≤ i ∧ i ≤ ((X (t).toNat).length : Int)) → qz_I h 770 7 = 0 → ∀ g, ez_B τ g → mF h g 2 → Q (.inl (some (ez_v (.inl 0))), g)) (k1 : ((0 ≤ t ∧ t ≤ 7) ∧ (0 ≤ kind ∧ kind ≤ 1) ∧ 0 ≤ i ∧ i ≤ ((X (t).toNat).length : Int)) → qz_I h 770 7 ≠ 0 → ∀ v, nxb (edP (yD Ls) (X t.toNat) kind) i v → ∀ h1, ez_B τ h1 → mF h h1 0 → ∀ g2 τ2, ez_B τ2 g2 → nk τ h1 τ2 g2 → ∀ g3, ez_B τ2 g3 → (∀ q, τ2 q ≠ 0 → g3.2.2 q = g2.2.2 q) → (g3.1 ≤ g2.1 + 1 ∧ g3.2.1 ≤ g2.2.1 + 6) → Q (.inl (some (ez_v (.inl v))), g3)) : ez_W (d + 6) cm_281 0 [(0, .inr (.inr (some (770)))), (1, .inl (t)), (2, .inl (kind)), (3, .inl (i)), (4, .inl (1))] [] h Q := by
  have hB := hI9.1
  have hX := hI9.2.1
  have t770 : τ 770 = 75 := hX 770 (by decide)
  obtain ⟨tr1, tr2⟩ := id tr
  obtain ⟨kindr1, kindr2⟩ := id kindr
  obtain ⟨ir1, ir2⟩ := id ir
  refine ez_go (n := 2) (pc' := 2) (L' := [(0, .inr (.inr (some (770)))), (1, .inl (t)), (2, .inl (kind)), (3, .inl (i)), (4, .inl (1))]) (st' := [.inl (0), .inr (.inr (some (770)))]) rfl ?_
  refine ez_pf hB t770 rfl rfl tq_75 rfl rfl rfl rfl (ez_vdI rfl rfl (by omega) (by omega)) (fun hB1 w2 => ?_)
  have fP : ez_fr (ez_one 770) h (dz_put h 770 0 (ez_v (.inl (0)))) := (ez_fr.refl (ez_one 770) h).put rfl _ _
  have vP : qz_I (dz_put h 770 0 (ez_v (.inl (0)))) 770 0 = 0 := w2.trans (rz_rd ⟨by omega, by omega⟩)
  have iP : ∀ j, j ≠ 0 → qz_I (dz_put h 770 0 (ez_v (.inl (0)))) 770 j = qz_I h 770 j := fun j hj => ez_put_I (fun w => hj w.2)
  have hP := hB1
  generalize (dz_put h 770 0 (ez_v (.inl (0)))) = h1 at *
  have cP1 := fP.1; have cP2 := fP.2.1
  refine ez_go (n := 2) (pc' := 7) (L' := [(0, .inr (.inr (some (770)))), (1, .inl (t)), (2, .inl (kind)), (3, .inl (i)), (4, .inl (1))]) (st' := [.inl (t), .inr (.inr (some (770)))]) rfl ?_
  refine ez_cv hP t770 rfl rfl rfl tq_75 rfl rfl rfl (rd_mout (show ez_rg (t) by assumption) (fun o7 => ez_K1 ?_) (fun o7 => ez_K1 ?_))
  · skip
    refine ez_if rfl rfl ⟨by decide, by decide⟩ (fun _ => ?_) (fun (c3 : ¬((1 : Int) ≠ (0))) => absurd c3 (by decide))
    refine ez_go (n := 2) (pc' := 38) (L' := [(0, .inr (.inr (some (770)))), (1, .inl (t)), (2, .inl (kind)), (3, .inl (i)), (4, .inl (1))]) (st' := [.inl (1), .inr (.inr (some (770)))]) rfl ?_
    refine ez_cv hP t770 rfl rfl rfl tq_75 rfl rfl rfl (rd_mfail hP t770 (by omega) (by omega) (fun gf hBf ff jf vf0 => ez_K1 ?_))
    exact ez_retI rfl rfl (kA (by omega) gf hBf (mF.trans ⟨fP, iP, vP⟩ ⟨ff, jf, vf0⟩))
  · skip
    refine ez_if rfl rfl ⟨by decide, by decide⟩ (fun (c4 : (0 : Int) ≠ (0)) => absurd c4 (by decide)) (fun _ => ?_)
    refine ez_go (n := 1) (pc' := 14) (L' := [(0, .inr (.inr (some (770)))), (1, .inl (t)), (2, .inl (kind)), (3, .inl (i)), (4, .inl (1))]) (st' := [.inl (kind)]) rfl ?_
    refine ez_if rfl rfl ⟨by first | omega | exact (sz_i32 _).1, by first | omega | exact (sz_i32 _).2⟩ (fun (c5 : (kind) < (0)) => ?_) (fun (c5 : ¬((kind) < (0))) => ?_)
    · skip
      refine ez_go (n := 2) (pc' := 38) (L' := [(0, .inr (.inr (some (770)))), (1, .inl (t)), (2, .inl (kind)), (3, .inl (i)), (4, .inl (1))]) (st' := [.inl (1), .inr (.inr (some (770)))]) rfl ?_
      refine ez_cv hP t770 rfl rfl rfl tq_75 rfl rfl rfl (rd_mfail hP t770 (by omega) (by omega) (fun gf hBf ff jf vf0 => ez_K1 ?_))
      exact ez_retI rfl rfl (kA (by omega) gf hBf (mF.trans ⟨fP, iP, vP⟩ ⟨ff, jf, vf0⟩))
    · skip
      refine ez_go (n := 2) (pc' := 19) (L' := [(0, .inr (.inr (some (770)))), (1, .inl (t)), (2, .inl (kind)), (3, .inl (i)), (4, .inl (1))]) (st' := [.inl (1), .inl (kind)]) rfl ?_
      refine ez_icmp rfl rfl ⟨by first | omega | exact (sz_i32 _).1, by first | omega | exact (sz_i32 _).2⟩ ⟨by first | omega | exact (sz_i32 _).1, by first | omega | exact (sz_i32 _).2⟩ (fun (c6 : (1) < (kind)) => ?_) (fun (c6 : ¬((1) < (kind))) => ?_)
      · skip
        refine ez_go (n := 2) (pc' := 38) (L' := [(0, .inr (.inr (some (770)))), (1, .inl (t)), (2, .inl (kind)), (3, .inl (i)), (4, .inl (1))]) (st' := [.inl (1), .inr (.inr (some (770)))]) rfl ?_
        refine ez_cv hP t770 rfl rfl rfl tq_75 rfl rfl rfl (rd_mfail hP t770 (by omega) (by omega) (fun gf hBf ff jf vf0 => ez_K1 ?_))
        exact ez_retI rfl rfl (kA (by omega) gf hBf (mF.trans ⟨fP, iP, vP⟩ ⟨ff, jf, vf0⟩))
      · skip
        refine ez_go (n := 1) (pc' := 23) (L' := [(0, .inr (.inr (some (770)))), (1, .inl (t)), (2, .inl (kind)), (3, .inl (i)), (4, .inl (1))]) (st' := [.inl (i)]) rfl ?_
        refine ez_if rfl rfl ⟨by first | omega | exact (sz_i32 _).1, by first | omega | exact (sz_i32 _).2⟩ (fun (c7 : (i) < (0)) => ?_) (fun (c7 : ¬((i) < (0))) => ?_)
        · skip
          refine ez_go (n := 2) (pc' := 38) (L' := [(0, .inr (.inr (some (770)))), (1, .inl (t)), (2, .inl (kind)), (3, .inl (i)), (4, .inl (1))]) (st' := [.inl (1), .inr (.inr (some (770)))]) rfl ?_
          refine ez_cv hP t770 rfl rfl rfl tq_75 rfl rfl rfl (rd_mfail hP t770 (by omega) (by omega) (fun gf hBf ff jf vf0 => ez_K1 ?_))
          exact ez_retI rfl rfl (kA (by omega) gf hBf (mF.trans ⟨fP, iP, vP⟩ ⟨ff, jf, vf0⟩))
        · skip
          refine ez_go (n := 2) (pc' := 28) (L' := [(0, .inr (.inr (some (770)))), (1, .inl (t)), (2, .inl (kind)), (3, .inl (i)), (4, .inl (1))]) (st' := [.inr (.inr (some (770))), .inl (i)]) rfl ?_
          refine ez_gC (p := 782) (tg := 79) hP t770 rfl rfl tq_75 rfl rfl (fun (t782 : _ = 79) => ?_)
          refine ez_go (n := 1) (pc' := 32) (L' := [(0, .inr (.inr (some (770)))), (1, .inl (t)), (2, .inl (kind)), (3, .inl (i)), (4, .inl (1))]) (st' := [.inl (t), .inr (.inr (some (782))), .inl (i)]) rfl ?_
          have n9 : 8 ≤ qz_N h1 782 ∧ qz_N h1 782 ≤ 8 := ez_len hP t782 tq_79 rfl
          refine ez_aI hP t782 rfl tq_79 rfl rfl (by omega) (by omega) (fun (b8 : 0 ≤ qz_I h1 782 (t).toNat) (b8' : qz_I h1 782 (t).toNat ≤ 2000) => ?_)
          have k1P : ∀ q, q ≠ 770 → h1.2.2 q = h.2.2 q := fun q hq => fP.2.2 q (dz_beq_ne hq)
          have c73 : ∀ j, qz_I h1 773 j = qz_I h 773 j := fun j => fP.I rfl j
          have mt := (mxh.k (g := h1) (fun q hq => k1P q (by omega))) (t).toNat (by omega)
          have mt2 := mt.2.2
          rw [show qz_I h1 782 (t).toNat = ((X (t).toNat).length : Int) from mt.1.1]
          refine ez_icmp rfl rfl ⟨by first | omega | exact (sz_i32 _).1, by first | omega | exact (sz_i32 _).2⟩ ⟨by first | omega | exact (sz_i32 _).1, by first | omega | exact (sz_i32 _).2⟩ (fun (c10 : (i) ≤ (((X (t).toNat).length : Int))) => ?_) (fun (c10 : ¬((i) ≤ (((X (t).toNat).length : Int)))) => ?_)
          · skip
            refine ez_go (n := 1) (pc' := 43) (L' := [(0, .inr (.inr (some (770)))), (1, .inl (t)), (2, .inl (kind)), (3, .inl (i)), (4, .inl (1))]) (st' := [.inr (.inr (some (770)))]) rfl ?_
            refine ez_gI hP t770 rfl rfl tq_75 rfl rfl (fun (b11 : 0 ≤ qz_I h1 770 7) (b11' : qz_I h1 770 7 ≤ 1) => ?_)
            refine ez_if rfl rfl ⟨by first | omega | exact (sz_i32 _).1, by first | omega | exact (sz_i32 _).2⟩ (fun (c12 : (qz_I h1 770 7) ≠ (0)) => ?_) (fun (c12 : ¬((qz_I h1 770 7) ≠ (0))) => ?_)
            · skip
              have hI1 : mI τ h1 Ls 0 := hI9.gen hP (fun _ _ => rfl) (fun q q0 => by rw [q0]; decide) (fun q hq => fP.2.2 q (dz_beq_ne (fun e => by rw [e, t770] at hq; omega))) (fun j j1 j2 => iP j (by omega))
              have mtt : mtx τ h1 (774 + (t).toNat) (X (t).toNat) := ⟨(mx_tag hX (show (t).toNat < 8 by omega)).1, ⟨by omega, mt.2.1⟩, fun k ka kb => mt.1.2 _ _ (uX_e (by omega))⟩
              have ok : ((0 ≤ t ∧ t ≤ 7) ∧ (0 ≤ kind ∧ kind ≤ 1) ∧ 0 ≤ i ∧ i ≤ ((X (t).toNat).length : Int)) := by omega
              have s7 : qz_I h 770 7 ≠ 0 := by rw [← iP 7 (by decide)]; assumption
              refine ez_go (n := 1) (pc' := 57) (L' := [(0, .inr (.inr (some (770)))), (1, .inl (t)), (2, .inl (kind)), (3, .inl (i)), (4, .inl (1))]) (st' := [.inl (1)]) rfl ?_
              refine ez_if rfl rfl ⟨by decide, by decide⟩ (fun (c13 : (1 : Int) = (0)) => absurd c13 (by decide)) (fun _ => ?_)
              refine ez_go (n := 7) (pc' := 73) (L' := [(6, .inl ((i) + (-1))), (5, .inl (-1)), (0, .inr (.inr (some (770)))), (1, .inl (t)), (2, .inl (kind)), (3, .inl (i)), (4, .inl (1))]) (st' := []) rfl ?_
              refine ez_less [(6, .inl ((i) + (-1))), (5, .inl (-1)), (0, .inr (.inr (some (770)))), (1, .inl (t)), (2, .inl (kind)), (3, .inl (i)), (4, .inl (1))] rfl ⟨rfl, rfl, rfl, rfl, rfl, rfl, rfl, trivial⟩ ?_
              have sl1 : slt h1 := fun s hs => by unfold qz_I; rw [k1P 195 (by decide), k1P 773 (by decide)]; exact sl s hs
              exact rd_mnx1_l (h := h1) hI1 hX sl1 mt mtt (by omega) (by omega) (by omega) (by omega) (by omega) (fun v nv => k1 ok s7 v nv h1 hP ⟨fP, iP, vP⟩ h1 τ hP (nk.refl τ h1) h1 hP (fun _ _ => rfl) ⟨by omega, by omega⟩) _ _ rfl (by omega) (by omega) (fun j ja jb => by omega)
            · skip
              refine ez_go (n := 2) (pc' := 51) (L' := [(0, .inr (.inr (some (770)))), (1, .inl (t)), (2, .inl (kind)), (3, .inl (i)), (4, .inl (1))]) (st' := [.inl (2), .inr (.inr (some (770)))]) rfl ?_
              refine ez_cv hP t770 rfl rfl rfl tq_75 rfl rfl rfl (rd_mfail hP t770 (by omega) (by omega) (fun gf hBf ff jf vf0 => ez_K1 ?_))
              exact ez_retI rfl rfl (kS (by omega) (by rw [← iP 7 (by decide)]; omega) gf hBf (mF.trans ⟨fP, iP, vP⟩ ⟨ff, jf, vf0⟩))
          · skip
            refine ez_go (n := 2) (pc' := 38) (L' := [(0, .inr (.inr (some (770)))), (1, .inl (t)), (2, .inl (kind)), (3, .inl (i)), (4, .inl (1))]) (st' := [.inl (1), .inr (.inr (some (770)))]) rfl ?_
            refine ez_cv hP t770 rfl rfl rfl tq_75 rfl rfl rfl (rd_mfail hP t770 (by omega) (by omega) (fun gf hBf ff jf vf0 => ez_K1 ?_))
            exact ez_retI rfl rfl (kA (by omega) gf hBf (mF.trans ⟨fP, iP, vP⟩ ⟨ff, jf, vf0⟩))

theorem rd_mnx0_l {t kind i : Int} (hI : mI τ h Ls b) (hX : jz_X τ) (sl : slt h) (mt : mx h (t).toNat (X (t).toNat) ∧ ptl (X (t).toNat) ∧ (X (t).toNat).length ≤ 2000) (mtt : mtx τ h (774 + (t).toNat) (X (t).toNat)) (kd : kind = 0 ∨ kind = 1) (t0 : 0 ≤ t) (t7 : t ≤ 7) (i0 : 0 ≤ i) (i1 : i ≤ ((X (t).toNat).length : Int)) (k9 : ∀ v, nxf (edP (yD Ls) (X t.toNat) kind) (X t.toNat).length i v → Q (.inl (some (ez_v (.inl v))), h)) : ∀ (n : Nat) (k : Int), n = (((X (t).toNat).length : Int) + 1 - k).toNat → i < k → k ≤ ((X (t).toNat).length : Int) + 1 → (∀ j, i < j → j < k → ¬ edP (yD Ls) (X t.toNat) kind j) → ez_W (d + 6) cm_281 73 [(6, .inl (k)), (5, .inl (1)), (0, .inr (.inr (some (770)))), (1, .inl (t)), (2, .inl (kind)), (3, .inl (i)), (4, .inl (0))] [] h Q := by
  have hB := hI.1
  have t770 : τ 770 = 75 := hX 770 (by decide)
  have mt2 := mt.2.2
  intro n
  induction n with
  | zero =>
    intro k hn0 ka kb hn
    refine ez_go (n := 1) (pc' := 75) (L' := [(6, .inl (k)), (5, .inl (1)), (0, .inr (.inr (some (770)))), (1, .inl (t)), (2, .inl (kind)), (3, .inl (i)), (4, .inl (0))]) (st' := [.inl (k)]) rfl ?_
    refine ez_if rfl rfl ⟨by first | omega | exact (sz_i32 _).1, by first | omega | exact (sz_i32 _).2⟩ (fun (c1 : (k) < (0)) => ?_) (fun (c1 : ¬((k) < (0))) => ?_)
    · skip
      refine ez_go (n := 1) (pc' := 125) (L' := [(6, .inl (k)), (5, .inl (1)), (0, .inr (.inr (some (770)))), (1, .inl (t)), (2, .inl (kind)), (3, .inl (i)), (4, .inl (0))]) (st' := [.inl (-1)]) rfl ?_
      exact ez_retI rfl rfl (k9 _ (Or.inr ⟨rfl, fun j ja jb => hn j (by omega) (by omega)⟩))
    · skip
      refine ez_go (n := 2) (pc' := 81) (L' := [(6, .inl (k)), (5, .inl (1)), (0, .inr (.inr (some (770)))), (1, .inl (t)), (2, .inl (kind)), (3, .inl (i)), (4, .inl (0))]) (st' := [.inr (.inr (some (770))), .inl (k)]) rfl ?_
      refine ez_gC (p := 782) (tg := 79) hB t770 rfl rfl tq_75 rfl rfl (fun (t782 : _ = 79) => ?_)
      refine ez_go (n := 1) (pc' := 85) (L' := [(6, .inl (k)), (5, .inl (1)), (0, .inr (.inr (some (770)))), (1, .inl (t)), (2, .inl (kind)), (3, .inl (i)), (4, .inl (0))]) (st' := [.inl (t), .inr (.inr (some (782))), .inl (k)]) rfl ?_
      have n3 : 8 ≤ qz_N h 782 ∧ qz_N h 782 ≤ 8 := ez_len hB t782 tq_79 rfl
      refine ez_aI hB t782 rfl tq_79 rfl rfl (by omega) (by omega) (fun (b2 : 0 ≤ qz_I h 782 (t).toNat) (b2' : qz_I h 782 (t).toNat ≤ 2000) => ?_)
      rw [show qz_I h 782 (t).toNat = ((X (t).toNat).length : Int) from mt.1.1]
      refine ez_icmp rfl rfl ⟨by first | omega | exact (sz_i32 _).1, by first | omega | exact (sz_i32 _).2⟩ ⟨by first | omega | exact (sz_i32 _).1, by first | omega | exact (sz_i32 _).2⟩ (fun (c4 : (((X (t).toNat).length : Int)) < (k)) => ?_) (fun (c4 : ¬((((X (t).toNat).length : Int)) < (k))) => ?_)
      · skip
        refine ez_go (n := 1) (pc' := 125) (L' := [(6, .inl (k)), (5, .inl (1)), (0, .inr (.inr (some (770)))), (1, .inl (t)), (2, .inl (kind)), (3, .inl (i)), (4, .inl (0))]) (st' := [.inl (-1)]) rfl ?_
        exact ez_retI rfl rfl (k9 _ (Or.inr ⟨rfl, fun j ja jb => hn j (by omega) (by omega)⟩))
      · skip
        refine ez_go (n := 2) (pc' := 91) (L' := [(6, .inl (k)), (5, .inl (1)), (0, .inr (.inr (some (770)))), (1, .inl (t)), (2, .inl (kind)), (3, .inl (i)), (4, .inl (0))]) (st' := [.inr (.inr (some (770))), .inr (.inr (some (770)))]) rfl ?_
        refine ez_gC (p := 773) (tg := 78) hB t770 rfl rfl tq_75 rfl rfl (fun (t773 : _ = 78) => ?_)
        refine ez_go (n := 1) (pc' := 95) (L' := [(6, .inl (k)), (5, .inl (1)), (0, .inr (.inr (some (770)))), (1, .inl (t)), (2, .inl (kind)), (3, .inl (i)), (4, .inl (0))]) (st' := [.inl (t), .inr (.inr (some (773))), .inr (.inr (some (770)))]) rfl ?_
        have n6 : 8 ≤ qz_N h 773 ∧ qz_N h 773 ≤ 8 := ez_len hB t773 tq_78 rfl
        have y7 : 1 ≤ qz_I h 773 (t).toNat := (by have := (sl t.toNat (by omega)).2; omega)
        have y8 : 1 ≤ qz_I h 773 (t).toNat ∧ qz_I h 773 (t).toNat ≤ 1000000 := ez_aB hB t773 tq_78 rfl rfl (by decide) (by omega) (by omega)
        have y8' : ((qz_P h 773 (t).toNat : Nat) : Int) + 1 = qz_I h 773 (t).toNat := by unfold qz_P; omega
        refine ez_aR hB t773 rfl tq_78 rfl rfl (by omega) (by omega) (by omega) (fun (t5 : _ = 37) => ?_)
        rw [show qz_P h 773 (t).toNat = 774 + (t).toNat by unfold qz_P; have := (sl (t).toNat (by omega)).2; rw [show qz_I h 773 (t).toNat = qz_I h 773 (t).toNat from rfl]; omega]
        refine ez_go (n := 1) (pc' := 97) (L' := [(6, .inl (k)), (5, .inl (1)), (0, .inr (.inr (some (770)))), (1, .inl (t)), (2, .inl (kind)), (3, .inl (i)), (4, .inl (0))]) (st' := [.inr (.inr (some (770))), .inr (.inr (some (774 + (t).toNat))), .inr (.inr (some (770)))]) rfl ?_
        refine ez_gC (p := 782) (tg := 79) hB t770 rfl rfl tq_75 rfl rfl (fun (t782 : _ = 79) => ?_)
        refine ez_go (n := 1) (pc' := 101) (L' := [(6, .inl (k)), (5, .inl (1)), (0, .inr (.inr (some (770)))), (1, .inl (t)), (2, .inl (kind)), (3, .inl (i)), (4, .inl (0))]) (st' := [.inl (t), .inr (.inr (some (782))), .inr (.inr (some (774 + (t).toNat))), .inr (.inr (some (770)))]) rfl ?_
        have n10 : 8 ≤ qz_N h 782 ∧ qz_N h 782 ≤ 8 := ez_len hB t782 tq_79 rfl
        refine ez_aI hB t782 rfl tq_79 rfl rfl (by omega) (by omega) (fun (b9 : 0 ≤ qz_I h 782 (t).toNat) (b9' : qz_I h 782 (t).toNat ≤ 2000) => ?_)
        rw [show qz_I h 782 (t).toNat = ((X (t).toNat).length : Int) from mt.1.1]
        refine ez_go (n := 2) (pc' := 105) (L' := [(6, .inl (k)), (5, .inl (1)), (0, .inr (.inr (some (770)))), (1, .inl (t)), (2, .inl (kind)), (3, .inl (i)), (4, .inl (0))]) (st' := [.inl (k), .inl (kind), .inl (((X (t).toNat).length : Int)), .inr (.inr (some (774 + (t).toNat))), .inr (.inr (some (770)))]) rfl ?_
        refine ez_cv hB t770 rfl rfl rfl tq_75 rfl rfl rfl (rd_med hI mtt kd (by omega) (by omega) (fun w => ez_K1 ?_) (fun w => ez_K1 ?_))
        · skip
          refine ez_if rfl rfl ⟨by decide, by decide⟩ (fun (c11 : (1 : Int) = (0)) => absurd c11 (by decide)) (fun _ => ?_)
          refine ez_go (n := 1) (pc' := 113) (L' := [(6, .inl (k)), (5, .inl (1)), (0, .inr (.inr (some (770)))), (1, .inl (t)), (2, .inl (kind)), (3, .inl (i)), (4, .inl (0))]) (st' := [.inl (k)]) rfl ?_
          exact ez_retI rfl rfl (k9 _ (Or.inl ⟨by omega, by omega, w, fun j ja jb => hn j (by omega) (by omega)⟩))
        · skip
          refine ez_if rfl rfl ⟨by decide, by decide⟩ (fun _ => ?_) (fun (c12 : ¬((0 : Int) = (0))) => absurd c12 (by decide))
          refine ez_go (n := 5) (pc' := 73) (L' := [(6, .inl ((k) + (1))), (5, .inl (1)), (0, .inr (.inr (some (770)))), (1, .inl (t)), (2, .inl (kind)), (3, .inl (i)), (4, .inl (0))]) (st' := []) rfl ?_
          exfalso; omega
  | succ n ih =>
    intro k hn0 ka kb hn
    refine ez_go (n := 1) (pc' := 75) (L' := [(6, .inl (k)), (5, .inl (1)), (0, .inr (.inr (some (770)))), (1, .inl (t)), (2, .inl (kind)), (3, .inl (i)), (4, .inl (0))]) (st' := [.inl (k)]) rfl ?_
    refine ez_if rfl rfl ⟨by first | omega | exact (sz_i32 _).1, by first | omega | exact (sz_i32 _).2⟩ (fun (c1 : (k) < (0)) => ?_) (fun (c1 : ¬((k) < (0))) => ?_)
    · skip
      refine ez_go (n := 1) (pc' := 125) (L' := [(6, .inl (k)), (5, .inl (1)), (0, .inr (.inr (some (770)))), (1, .inl (t)), (2, .inl (kind)), (3, .inl (i)), (4, .inl (0))]) (st' := [.inl (-1)]) rfl ?_
      exact ez_retI rfl rfl (k9 _ (Or.inr ⟨rfl, fun j ja jb => hn j (by omega) (by omega)⟩))
    · skip
      refine ez_go (n := 2) (pc' := 81) (L' := [(6, .inl (k)), (5, .inl (1)), (0, .inr (.inr (some (770)))), (1, .inl (t)), (2, .inl (kind)), (3, .inl (i)), (4, .inl (0))]) (st' := [.inr (.inr (some (770))), .inl (k)]) rfl ?_
      refine ez_gC (p := 782) (tg := 79) hB t770 rfl rfl tq_75 rfl rfl (fun (t782 : _ = 79) => ?_)
      refine ez_go (n := 1) (pc' := 85) (L' := [(6, .inl (k)), (5, .inl (1)), (0, .inr (.inr (some (770)))), (1, .inl (t)), (2, .inl (kind)), (3, .inl (i)), (4, .inl (0))]) (st' := [.inl (t), .inr (.inr (some (782))), .inl (k)]) rfl ?_
      have n3 : 8 ≤ qz_N h 782 ∧ qz_N h 782 ≤ 8 := ez_len hB t782 tq_79 rfl
      refine ez_aI hB t782 rfl tq_79 rfl rfl (by omega) (by omega) (fun (b2 : 0 ≤ qz_I h 782 (t).toNat) (b2' : qz_I h 782 (t).toNat ≤ 2000) => ?_)
      rw [show qz_I h 782 (t).toNat = ((X (t).toNat).length : Int) from mt.1.1]
      refine ez_icmp rfl rfl ⟨by first | omega | exact (sz_i32 _).1, by first | omega | exact (sz_i32 _).2⟩ ⟨by first | omega | exact (sz_i32 _).1, by first | omega | exact (sz_i32 _).2⟩ (fun (c4 : (((X (t).toNat).length : Int)) < (k)) => ?_) (fun (c4 : ¬((((X (t).toNat).length : Int)) < (k))) => ?_)
      · skip
        refine ez_go (n := 1) (pc' := 125) (L' := [(6, .inl (k)), (5, .inl (1)), (0, .inr (.inr (some (770)))), (1, .inl (t)), (2, .inl (kind)), (3, .inl (i)), (4, .inl (0))]) (st' := [.inl (-1)]) rfl ?_
        exact ez_retI rfl rfl (k9 _ (Or.inr ⟨rfl, fun j ja jb => hn j (by omega) (by omega)⟩))
      · skip
        refine ez_go (n := 2) (pc' := 91) (L' := [(6, .inl (k)), (5, .inl (1)), (0, .inr (.inr (some (770)))), (1, .inl (t)), (2, .inl (kind)), (3, .inl (i)), (4, .inl (0))]) (st' := [.inr (.inr (some (770))), .inr (.inr (some (770)))]) rfl ?_
        refine ez_gC (p := 773) (tg := 78) hB t770 rfl rfl tq_75 rfl rfl (fun (t773 : _ = 78) => ?_)
        refine ez_go (n := 1) (pc' := 95) (L' := [(6, .inl (k)), (5, .inl (1)), (0, .inr (.inr (some (770)))), (1, .inl (t)), (2, .inl (kind)), (3, .inl (i)), (4, .inl (0))]) (st' := [.inl (t), .inr (.inr (some (773))), .inr (.inr (some (770)))]) rfl ?_
        have n6 : 8 ≤ qz_N h 773 ∧ qz_N h 773 ≤ 8 := ez_len hB t773 tq_78 rfl
        have y7 : 1 ≤ qz_I h 773 (t).toNat := (by have := (sl t.toNat (by omega)).2; omega)
        have y8 : 1 ≤ qz_I h 773 (t).toNat ∧ qz_I h 773 (t).toNat ≤ 1000000 := ez_aB hB t773 tq_78 rfl rfl (by decide) (by omega) (by omega)
        have y8' : ((qz_P h 773 (t).toNat : Nat) : Int) + 1 = qz_I h 773 (t).toNat := by unfold qz_P; omega
        refine ez_aR hB t773 rfl tq_78 rfl rfl (by omega) (by omega) (by omega) (fun (t5 : _ = 37) => ?_)
        rw [show qz_P h 773 (t).toNat = 774 + (t).toNat by unfold qz_P; have := (sl (t).toNat (by omega)).2; rw [show qz_I h 773 (t).toNat = qz_I h 773 (t).toNat from rfl]; omega]
        refine ez_go (n := 1) (pc' := 97) (L' := [(6, .inl (k)), (5, .inl (1)), (0, .inr (.inr (some (770)))), (1, .inl (t)), (2, .inl (kind)), (3, .inl (i)), (4, .inl (0))]) (st' := [.inr (.inr (some (770))), .inr (.inr (some (774 + (t).toNat))), .inr (.inr (some (770)))]) rfl ?_
        refine ez_gC (p := 782) (tg := 79) hB t770 rfl rfl tq_75 rfl rfl (fun (t782 : _ = 79) => ?_)
        refine ez_go (n := 1) (pc' := 101) (L' := [(6, .inl (k)), (5, .inl (1)), (0, .inr (.inr (some (770)))), (1, .inl (t)), (2, .inl (kind)), (3, .inl (i)), (4, .inl (0))]) (st' := [.inl (t), .inr (.inr (some (782))), .inr (.inr (some (774 + (t).toNat))), .inr (.inr (some (770)))]) rfl ?_
        have n10 : 8 ≤ qz_N h 782 ∧ qz_N h 782 ≤ 8 := ez_len hB t782 tq_79 rfl
        refine ez_aI hB t782 rfl tq_79 rfl rfl (by omega) (by omega) (fun (b9 : 0 ≤ qz_I h 782 (t).toNat) (b9' : qz_I h 782 (t).toNat ≤ 2000) => ?_)
        rw [show qz_I h 782 (t).toNat = ((X (t).toNat).length : Int) from mt.1.1]
        refine ez_go (n := 2) (pc' := 105) (L' := [(6, .inl (k)), (5, .inl (1)), (0, .inr (.inr (some (770)))), (1, .inl (t)), (2, .inl (kind)), (3, .inl (i)), (4, .inl (0))]) (st' := [.inl (k), .inl (kind), .inl (((X (t).toNat).length : Int)), .inr (.inr (some (774 + (t).toNat))), .inr (.inr (some (770)))]) rfl ?_
        refine ez_cv hB t770 rfl rfl rfl tq_75 rfl rfl rfl (rd_med hI mtt kd (by omega) (by omega) (fun w => ez_K1 ?_) (fun w => ez_K1 ?_))
        · skip
          refine ez_if rfl rfl ⟨by decide, by decide⟩ (fun (c11 : (1 : Int) = (0)) => absurd c11 (by decide)) (fun _ => ?_)
          refine ez_go (n := 1) (pc' := 113) (L' := [(6, .inl (k)), (5, .inl (1)), (0, .inr (.inr (some (770)))), (1, .inl (t)), (2, .inl (kind)), (3, .inl (i)), (4, .inl (0))]) (st' := [.inl (k)]) rfl ?_
          exact ez_retI rfl rfl (k9 _ (Or.inl ⟨by omega, by omega, w, fun j ja jb => hn j (by omega) (by omega)⟩))
        · skip
          refine ez_if rfl rfl ⟨by decide, by decide⟩ (fun _ => ?_) (fun (c12 : ¬((0 : Int) = (0))) => absurd c12 (by decide))
          refine ez_go (n := 5) (pc' := 73) (L' := [(6, .inl ((k) + (1))), (5, .inl (1)), (0, .inr (.inr (some (770)))), (1, .inl (t)), (2, .inl (kind)), (3, .inl (i)), (4, .inl (0))]) (st' := []) rfl ?_
          refine ez_less [(6, .inl ((k) + (1))), (5, .inl (1)), (0, .inr (.inr (some (770)))), (1, .inl (t)), (2, .inl (kind)), (3, .inl (i)), (4, .inl (0))] rfl ⟨rfl, rfl, rfl, rfl, rfl, rfl, rfl, trivial⟩ ?_
          refine ih _ (by omega) (by omega) (by omega) (fun j ja jb => ?_)
          by_cases e : j = k
          · rw [e]; exact w
          · exact hn j (by omega) (by omega)

theorem rd_mnext0 {t kind i : Int} (hI9 : mI τ h Ls 0) (sl : slt h) (mxh : mxs h X) (tr : ez_rg t) (kindr : ez_rg kind) (ir : ez_rg i) (kA : (t < 0 ∨ 7 < t ∨ kind < 0 ∨ 1 < kind ∨ i < 0 ∨ ((X (t).toNat).length : Int) < i) → ∀ g, ez_B τ g → mF h g 1 → Q (.inl (some (ez_v (.inl 0))), g)) (kS : ((0 ≤ t ∧ t ≤ 7) ∧ (0 ≤ kind ∧ kind ≤ 1) ∧ 0 ≤ i ∧ i ≤ ((X (t).toNat).length : Int)) → qz_I h 770 7 = 0 → ∀ g, ez_B τ g → mF h g 2 → Q (.inl (some (ez_v (.inl 0))), g)) (k1 : ((0 ≤ t ∧ t ≤ 7) ∧ (0 ≤ kind ∧ kind ≤ 1) ∧ 0 ≤ i ∧ i ≤ ((X (t).toNat).length : Int)) → qz_I h 770 7 ≠ 0 → ∀ v, nxf (edP (yD Ls) (X t.toNat) kind) (X t.toNat).length i v → ∀ h1, ez_B τ h1 → mF h h1 0 → ∀ g2 τ2, ez_B τ2 g2 → nk τ h1 τ2 g2 → ∀ g3, ez_B τ2 g3 → (∀ q, τ2 q ≠ 0 → g3.2.2 q = g2.2.2 q) → (g3.1 ≤ g2.1 + 1 ∧ g3.2.1 ≤ g2.2.1 + 6) → Q (.inl (some (ez_v (.inl v))), g3)) : ez_W (d + 6) cm_281 0 [(0, .inr (.inr (some (770)))), (1, .inl (t)), (2, .inl (kind)), (3, .inl (i)), (4, .inl (0))] [] h Q := by
  have hB := hI9.1
  have hX := hI9.2.1
  have t770 : τ 770 = 75 := hX 770 (by decide)
  obtain ⟨tr1, tr2⟩ := id tr
  obtain ⟨kindr1, kindr2⟩ := id kindr
  obtain ⟨ir1, ir2⟩ := id ir
  refine ez_go (n := 2) (pc' := 2) (L' := [(0, .inr (.inr (some (770)))), (1, .inl (t)), (2, .inl (kind)), (3, .inl (i)), (4, .inl (0))]) (st' := [.inl (0), .inr (.inr (some (770)))]) rfl ?_
  refine ez_pf hB t770 rfl rfl tq_75 rfl rfl rfl rfl (ez_vdI rfl rfl (by omega) (by omega)) (fun hB1 w2 => ?_)
  have fP : ez_fr (ez_one 770) h (dz_put h 770 0 (ez_v (.inl (0)))) := (ez_fr.refl (ez_one 770) h).put rfl _ _
  have vP : qz_I (dz_put h 770 0 (ez_v (.inl (0)))) 770 0 = 0 := w2.trans (rz_rd ⟨by omega, by omega⟩)
  have iP : ∀ j, j ≠ 0 → qz_I (dz_put h 770 0 (ez_v (.inl (0)))) 770 j = qz_I h 770 j := fun j hj => ez_put_I (fun w => hj w.2)
  have hP := hB1
  generalize (dz_put h 770 0 (ez_v (.inl (0)))) = h1 at *
  have cP1 := fP.1; have cP2 := fP.2.1
  refine ez_go (n := 2) (pc' := 7) (L' := [(0, .inr (.inr (some (770)))), (1, .inl (t)), (2, .inl (kind)), (3, .inl (i)), (4, .inl (0))]) (st' := [.inl (t), .inr (.inr (some (770)))]) rfl ?_
  refine ez_cv hP t770 rfl rfl rfl tq_75 rfl rfl rfl (rd_mout (show ez_rg (t) by assumption) (fun o8 => ez_K1 ?_) (fun o8 => ez_K1 ?_))
  · skip
    refine ez_if rfl rfl ⟨by decide, by decide⟩ (fun _ => ?_) (fun (c3 : ¬((1 : Int) ≠ (0))) => absurd c3 (by decide))
    refine ez_go (n := 2) (pc' := 38) (L' := [(0, .inr (.inr (some (770)))), (1, .inl (t)), (2, .inl (kind)), (3, .inl (i)), (4, .inl (0))]) (st' := [.inl (1), .inr (.inr (some (770)))]) rfl ?_
    refine ez_cv hP t770 rfl rfl rfl tq_75 rfl rfl rfl (rd_mfail hP t770 (by omega) (by omega) (fun gf hBf ff jf vf0 => ez_K1 ?_))
    exact ez_retI rfl rfl (kA (by omega) gf hBf (mF.trans ⟨fP, iP, vP⟩ ⟨ff, jf, vf0⟩))
  · skip
    refine ez_if rfl rfl ⟨by decide, by decide⟩ (fun (c4 : (0 : Int) ≠ (0)) => absurd c4 (by decide)) (fun _ => ?_)
    refine ez_go (n := 1) (pc' := 14) (L' := [(0, .inr (.inr (some (770)))), (1, .inl (t)), (2, .inl (kind)), (3, .inl (i)), (4, .inl (0))]) (st' := [.inl (kind)]) rfl ?_
    refine ez_if rfl rfl ⟨by first | omega | exact (sz_i32 _).1, by first | omega | exact (sz_i32 _).2⟩ (fun (c5 : (kind) < (0)) => ?_) (fun (c5 : ¬((kind) < (0))) => ?_)
    · skip
      refine ez_go (n := 2) (pc' := 38) (L' := [(0, .inr (.inr (some (770)))), (1, .inl (t)), (2, .inl (kind)), (3, .inl (i)), (4, .inl (0))]) (st' := [.inl (1), .inr (.inr (some (770)))]) rfl ?_
      refine ez_cv hP t770 rfl rfl rfl tq_75 rfl rfl rfl (rd_mfail hP t770 (by omega) (by omega) (fun gf hBf ff jf vf0 => ez_K1 ?_))
      exact ez_retI rfl rfl (kA (by omega) gf hBf (mF.trans ⟨fP, iP, vP⟩ ⟨ff, jf, vf0⟩))
    · skip
      refine ez_go (n := 2) (pc' := 19) (L' := [(0, .inr (.inr (some (770)))), (1, .inl (t)), (2, .inl (kind)), (3, .inl (i)), (4, .inl (0))]) (st' := [.inl (1), .inl (kind)]) rfl ?_
      refine ez_icmp rfl rfl ⟨by first | omega | exact (sz_i32 _).1, by first | omega | exact (sz_i32 _).2⟩ ⟨by first | omega | exact (sz_i32 _).1, by first | omega | exact (sz_i32 _).2⟩ (fun (c6 : (1) < (kind)) => ?_) (fun (c6 : ¬((1) < (kind))) => ?_)
      · skip
        refine ez_go (n := 2) (pc' := 38) (L' := [(0, .inr (.inr (some (770)))), (1, .inl (t)), (2, .inl (kind)), (3, .inl (i)), (4, .inl (0))]) (st' := [.inl (1), .inr (.inr (some (770)))]) rfl ?_
        refine ez_cv hP t770 rfl rfl rfl tq_75 rfl rfl rfl (rd_mfail hP t770 (by omega) (by omega) (fun gf hBf ff jf vf0 => ez_K1 ?_))
        exact ez_retI rfl rfl (kA (by omega) gf hBf (mF.trans ⟨fP, iP, vP⟩ ⟨ff, jf, vf0⟩))
      · skip
        refine ez_go (n := 1) (pc' := 23) (L' := [(0, .inr (.inr (some (770)))), (1, .inl (t)), (2, .inl (kind)), (3, .inl (i)), (4, .inl (0))]) (st' := [.inl (i)]) rfl ?_
        refine ez_if rfl rfl ⟨by first | omega | exact (sz_i32 _).1, by first | omega | exact (sz_i32 _).2⟩ (fun (c7 : (i) < (0)) => ?_) (fun (c7 : ¬((i) < (0))) => ?_)
        · skip
          refine ez_go (n := 2) (pc' := 38) (L' := [(0, .inr (.inr (some (770)))), (1, .inl (t)), (2, .inl (kind)), (3, .inl (i)), (4, .inl (0))]) (st' := [.inl (1), .inr (.inr (some (770)))]) rfl ?_
          refine ez_cv hP t770 rfl rfl rfl tq_75 rfl rfl rfl (rd_mfail hP t770 (by omega) (by omega) (fun gf hBf ff jf vf0 => ez_K1 ?_))
          exact ez_retI rfl rfl (kA (by omega) gf hBf (mF.trans ⟨fP, iP, vP⟩ ⟨ff, jf, vf0⟩))
        · skip
          refine ez_go (n := 2) (pc' := 28) (L' := [(0, .inr (.inr (some (770)))), (1, .inl (t)), (2, .inl (kind)), (3, .inl (i)), (4, .inl (0))]) (st' := [.inr (.inr (some (770))), .inl (i)]) rfl ?_
          refine ez_gC (p := 782) (tg := 79) hP t770 rfl rfl tq_75 rfl rfl (fun (t782 : _ = 79) => ?_)
          refine ez_go (n := 1) (pc' := 32) (L' := [(0, .inr (.inr (some (770)))), (1, .inl (t)), (2, .inl (kind)), (3, .inl (i)), (4, .inl (0))]) (st' := [.inl (t), .inr (.inr (some (782))), .inl (i)]) rfl ?_
          have n9 : 8 ≤ qz_N h1 782 ∧ qz_N h1 782 ≤ 8 := ez_len hP t782 tq_79 rfl
          refine ez_aI hP t782 rfl tq_79 rfl rfl (by omega) (by omega) (fun (b8 : 0 ≤ qz_I h1 782 (t).toNat) (b8' : qz_I h1 782 (t).toNat ≤ 2000) => ?_)
          have k1P : ∀ q, q ≠ 770 → h1.2.2 q = h.2.2 q := fun q hq => fP.2.2 q (dz_beq_ne hq)
          have c73 : ∀ j, qz_I h1 773 j = qz_I h 773 j := fun j => fP.I rfl j
          have mt := (mxh.k (g := h1) (fun q hq => k1P q (by omega))) (t).toNat (by omega)
          have mt2 := mt.2.2
          rw [show qz_I h1 782 (t).toNat = ((X (t).toNat).length : Int) from mt.1.1]
          refine ez_icmp rfl rfl ⟨by first | omega | exact (sz_i32 _).1, by first | omega | exact (sz_i32 _).2⟩ ⟨by first | omega | exact (sz_i32 _).1, by first | omega | exact (sz_i32 _).2⟩ (fun (c10 : (i) ≤ (((X (t).toNat).length : Int))) => ?_) (fun (c10 : ¬((i) ≤ (((X (t).toNat).length : Int)))) => ?_)
          · skip
            refine ez_go (n := 1) (pc' := 43) (L' := [(0, .inr (.inr (some (770)))), (1, .inl (t)), (2, .inl (kind)), (3, .inl (i)), (4, .inl (0))]) (st' := [.inr (.inr (some (770)))]) rfl ?_
            refine ez_gI hP t770 rfl rfl tq_75 rfl rfl (fun (b11 : 0 ≤ qz_I h1 770 7) (b11' : qz_I h1 770 7 ≤ 1) => ?_)
            refine ez_if rfl rfl ⟨by first | omega | exact (sz_i32 _).1, by first | omega | exact (sz_i32 _).2⟩ (fun (c12 : (qz_I h1 770 7) ≠ (0)) => ?_) (fun (c12 : ¬((qz_I h1 770 7) ≠ (0))) => ?_)
            · skip
              have hI1 : mI τ h1 Ls 0 := hI9.gen hP (fun _ _ => rfl) (fun q q0 => by rw [q0]; decide) (fun q hq => fP.2.2 q (dz_beq_ne (fun e => by rw [e, t770] at hq; omega))) (fun j j1 j2 => iP j (by omega))
              have mtt : mtx τ h1 (774 + (t).toNat) (X (t).toNat) := ⟨(mx_tag hX (show (t).toNat < 8 by omega)).1, ⟨by omega, mt.2.1⟩, fun k ka kb => mt.1.2 _ _ (uX_e (by omega))⟩
              have ok : ((0 ≤ t ∧ t ≤ 7) ∧ (0 ≤ kind ∧ kind ≤ 1) ∧ 0 ≤ i ∧ i ≤ ((X (t).toNat).length : Int)) := by omega
              have s7 : qz_I h 770 7 ≠ 0 := by rw [← iP 7 (by decide)]; assumption
              refine ez_go (n := 1) (pc' := 57) (L' := [(0, .inr (.inr (some (770)))), (1, .inl (t)), (2, .inl (kind)), (3, .inl (i)), (4, .inl (0))]) (st' := [.inl (0)]) rfl ?_
              refine ez_if rfl rfl ⟨by decide, by decide⟩ (fun _ => ?_) (fun (c13 : ¬((0 : Int) = (0))) => absurd c13 (by decide))
              refine ez_go (n := 6) (pc' := 73) (L' := [(6, .inl ((i) + (1))), (5, .inl (1)), (0, .inr (.inr (some (770)))), (1, .inl (t)), (2, .inl (kind)), (3, .inl (i)), (4, .inl (0))]) (st' := []) rfl ?_
              refine ez_less [(6, .inl ((i) + (1))), (5, .inl (1)), (0, .inr (.inr (some (770)))), (1, .inl (t)), (2, .inl (kind)), (3, .inl (i)), (4, .inl (0))] rfl ⟨rfl, rfl, rfl, rfl, rfl, rfl, rfl, trivial⟩ ?_
              have sl1 : slt h1 := fun s hs => by unfold qz_I; rw [k1P 195 (by decide), k1P 773 (by decide)]; exact sl s hs
              exact rd_mnx0_l (h := h1) hI1 hX sl1 mt mtt (by omega) (by omega) (by omega) (by omega) (by omega) (fun v nv => k1 ok s7 v nv h1 hP ⟨fP, iP, vP⟩ h1 τ hP (nk.refl τ h1) h1 hP (fun _ _ => rfl) ⟨by omega, by omega⟩) _ _ rfl (by omega) (by omega) (fun j ja jb => by omega)
            · skip
              refine ez_go (n := 2) (pc' := 51) (L' := [(0, .inr (.inr (some (770)))), (1, .inl (t)), (2, .inl (kind)), (3, .inl (i)), (4, .inl (0))]) (st' := [.inl (2), .inr (.inr (some (770)))]) rfl ?_
              refine ez_cv hP t770 rfl rfl rfl tq_75 rfl rfl rfl (rd_mfail hP t770 (by omega) (by omega) (fun gf hBf ff jf vf0 => ez_K1 ?_))
              exact ez_retI rfl rfl (kS (by omega) (by rw [← iP 7 (by decide)]; omega) gf hBf (mF.trans ⟨fP, iP, vP⟩ ⟨ff, jf, vf0⟩))
          · skip
            refine ez_go (n := 2) (pc' := 38) (L' := [(0, .inr (.inr (some (770)))), (1, .inl (t)), (2, .inl (kind)), (3, .inl (i)), (4, .inl (0))]) (st' := [.inl (1), .inr (.inr (some (770)))]) rfl ?_
            refine ez_cv hP t770 rfl rfl rfl tq_75 rfl rfl rfl (rd_mfail hP t770 (by omega) (by omega) (fun gf hBf ff jf vf0 => ez_K1 ?_))
            exact ez_retI rfl rfl (kA (by omega) gf hBf (mF.trans ⟨fP, iP, vP⟩ ⟨ff, jf, vf0⟩))

end EzMgr
/-! The law: is, match, edge, next. (Written by wip/p2/py/pvx5.py.) -/
section EzAk
variable {d : Nat} {h : cz_H} {τ : Nat → Nat} {P Q : cz_F → Prop}
/-- what the class answers -/
def qbP (τ : Nat → Nat) (h : cz_H) (A S Xr : Prop) (P0 : Nat → Bool) (V : Int → Prop) (F : cz_F) : Prop := (A ∧ F = (.inr h.1, xc h 1)) ∨ (S ∧ F = (.inr h.1, xc h 2)) ∨ (Xr ∧ ∃ g, F = (.inr g.1, xc g 0) ∧ ez_B τ g ∧ ez_fr P0 h g) ∨ ∃ v g, V v ∧ F = (.inl (some (ez_v (.inl v))), g) ∧ ez_B τ g ∧ ez_fr P0 h g
theorem ow_CP {P0 : Nat → Bool} {gA : cz_H} {v : Int} (hX : jz_X τ) (hP : pkf τ P0) (fA : ez_fr P0 h gA) : ∀ q, τ q ≠ 0 → pkt (τ q) = false → τ q ≠ 35 → τ q ≠ 88 → τ q ≠ 89 → (ow gA v).2.2 q = h.2.2 q := fun q _ b c _ _ => by
  rw [ow_at (fun w => c (by rw [w]; exact hX 805 (by decide))), fA.2.2 q (hP q b)]
/-- asked, and answered -/
theorem tg_an {τ2 : Nat → Nat} {P0 : Nat → Bool} {gA h1 g2 g3 : cz_H} {v : Int} (hb : dz_B tz_T (qz_X rR) τ h) (hn : qz_I h 192 1 = qz_I h 770 2) (hP : pkf τ P0) (fA : ez_fr P0 h gA) (m1 : mH (ow gA v) h1) (n : nk τ h1 τ2 g2) (c3 : ∀ q, τ2 q ≠ 0 → g3.2.2 q = g2.2.2 q) (r3 : g3.1 ≤ g2.1 + 1 ∧ g3.2.1 ≤ g2.2.1 + 6) (B2 : ez_B τ2 g2) (B3 : ez_B τ2 g3) : dz_B tz_T (qz_X rR) τ2 g3 ∧ stp h g3 := by
  have hX := hb.2.1.1
  have t770 : τ 770 = 75 := hX 770 (by decide)
  have u770 : τ2 770 = 75 := n.X hX 770 (by decide)
  refine tg_mk hb hn (ow_CP hX hP fA) ⟨by show gA.1 ≤ _; rw [fA.1]; omega, by show gA.2.1 ≤ _; rw [fA.2.1]; omega⟩ m1 n (fun q a _ _ _ => c3 q a) (fun j _ => by unfold qz_I; rw [c3 770 (by rw [u770]; decide)]) r3 B2 B3 ?_
  obtain ⟨Ls, -, ww, xx⟩ := hb.2.1.2.2.2.2
  refine rX_t ww.1 xx (fun q hq => ?_)
  have eT := (n.1 q (by omega)).1
  rw [c3 q (by rw [eT]; omega), n.C hX (by omega) (by omega) (by omega) (by omega) (by omega) (by omega), m1.1 q (fun e => by rw [e, t770] at hq; omega) (fun e => by rw [e, hX 797 (by decide)] at hq; revert hq; decide), ow_at (fun e => by rw [e, hX 805 (by decide)] at hq; revert hq; decide)]
  exact fA.2.2 q (hP q (by rcases hq with e | e | e | e <;> (rw [e]; rfl)))
theorem hp_edge {a1 a2 a3 : Int} (hB : ez_B τ h) (t192 : τ 192 = 44) (hc : ez_W d cm_9 0 [(0, .inr (.inr (some (192)))), (1, .inl (a1)), (2, .inl (a2)), (3, .inl (a3))] [] h P) (k : ∀ F, P F → (∃ v τ1 g, (0 ≤ v ∧ v ≤ 1) ∧ F = (.inl (some (ez_v (.inl v))), g) ∧ ez_B τ1 g ∧ τ1 805 = 35 ∧ (ez_B τ1 (ow g v) → Q (.inl (some (ez_v (.inl 0))), ow g v))) ∨ (∃ r g, F = (.inr r, g) ∧ cz_exc g r = some 1 ∧ Q (.inl (some (ez_v (.inl 1))), g)) ∨ (∃ r g, F = (.inr r, g) ∧ cz_exc g r = some 2 ∧ Q (.inl (some (ez_v (.inl 2))), g))) : ez_W (d + 1) cm_199 0 [(0, .inr (.inr (some (192)))), (1, .inl (a1)), (2, .inl (a2)), (3, .inl (a3)), (4, .inr (.inr (some (805))))] [] h Q := by
  refine ez_go (n := 6) (pc' := 7) (L' := [(0, .inr (.inr (some (192)))), (1, .inl (a1)), (2, .inl (a2)), (3, .inl (a3)), (4, .inr (.inr (some (805))))]) (st' := [.inl (a3), .inl (a2), .inl (a1), .inr (.inr (some (192))), .inl (0), .inr (.inr (some (805)))]) rfl ?_
  refine ez_cv hB t192 rfl rfl rfl tq_44 rfl rfl rfl (ez_mono hc (fun F hF => ?_))
  rcases k F hF with ⟨v, τ1, g, hv, rfl, hB1, u805, kq⟩ | ⟨r, g, rfl, he, kq⟩ | ⟨r, g, rfl, he, kq⟩
  · refine ez_K1 ?_
    have hv2 : v = 0 ∨ v = 1 := by omega
    rcases hv2 with e | e
    · subst e
      refine ez_if rfl rfl ⟨by decide, by decide⟩ (fun _ => ?_) (fun (c1 : ¬((0 : Int) = (0))) => absurd c1 (by decide))
      refine ez_go (n := 1) (pc' := 18) (L' := [(0, .inr (.inr (some (192)))), (1, .inl (a1)), (2, .inl (a2)), (3, .inl (a3)), (4, .inr (.inr (some (805))))]) (st' := [.inr (.inl (Int64.ofInt (0 : Nat))), .inl (0), .inr (.inr (some (805)))]) rfl ?_
      rw [show Int64.ofInt (0 : Nat) = (Int32.ofInt (0)).toInt64 by first | rfl | decide]
      have n4 : 1 ≤ qz_N g 805 ∧ qz_N g 805 ≤ 1 := ez_len hB1 u805 tq_35 rfl
      refine ez_as hB1 u805 rfl tq_35 rfl rfl (by omega) (by omega) ez_vdJ (fun hB2 w3 => ?_)
      refine ez_go (n := 2) (pc' := 31) (L' := [(0, .inr (.inr (some (192)))), (1, .inl (a1)), (2, .inl (a2)), (3, .inl (a3)), (4, .inr (.inr (some (805))))]) (st' := [.inl (0)]) rfl ?_
      exact ez_retI rfl rfl (kq hB2)
    · subst e
      refine ez_if rfl rfl ⟨by decide, by decide⟩ (fun (c5 : (1 : Int) = (0)) => absurd c5 (by decide)) (fun _ => ?_)
      refine ez_go (n := 2) (pc' := 18) (L' := [(0, .inr (.inr (some (192)))), (1, .inl (a1)), (2, .inl (a2)), (3, .inl (a3)), (4, .inr (.inr (some (805))))]) (st' := [.inr (.inl (Int64.ofInt (1 : Nat))), .inl (0), .inr (.inr (some (805)))]) rfl ?_
      rw [show Int64.ofInt (1 : Nat) = (Int32.ofInt (1)).toInt64 by first | rfl | decide]
      have n8 : 1 ≤ qz_N g 805 ∧ qz_N g 805 ≤ 1 := ez_len hB1 u805 tq_35 rfl
      refine ez_as hB1 u805 rfl tq_35 rfl rfl (by omega) (by omega) ez_vdJ (fun hB6 w7 => ?_)
      refine ez_go (n := 2) (pc' := 31) (L' := [(0, .inr (.inr (some (192)))), (1, .inl (a1)), (2, .inl (a2)), (3, .inl (a3)), (4, .inr (.inr (some (805))))]) (st' := [.inl (0)]) rfl ?_
      exact ez_retI rfl rfl (kq hB6)
  · refine ez_Kc he rfl ?_
    refine ez_go (n := 2) (pc' := 25) (L' := [(5, .inr (.inr (some (r)))), (0, .inr (.inr (some (192)))), (1, .inl (a1)), (2, .inl (a2)), (3, .inl (a3)), (4, .inr (.inr (some (805))))]) (st' := [.inl (1)]) rfl ?_
    exact ez_retI rfl rfl kq
  · refine ez_Kc he rfl ?_
    refine ez_go (n := 2) (pc' := 29) (L' := [(5, .inr (.inr (some (r)))), (0, .inr (.inr (some (192)))), (1, .inl (a1)), (2, .inl (a2)), (3, .inl (a3)), (4, .inr (.inr (some (805))))]) (st' := [.inl (2)]) rfl ?_
    exact ez_retI rfl rfl kq

theorem rd_edgeP {Ls : List vz} {X : Nat → List Int} {a1 a2 a3 : Int} {T : Int → Nat} {O : Nat → Int} (hC : pz_C τ h T (vF Ls) (vE Ls)) (hx : sz_X τ h O (yD Ls)) (sl : slt h) (txh : txs h X) (r1 : ez_rg a1) (r2 : ez_rg a2) (r3 : ez_rg a3) (hr1 : h.1 + 1 ≤ 600192) (hr2 : h.2.1 + 6 ≤ 7302232) : ez_W (d + 9) cm_9 0 [(0, .inr (.inr (some (192)))), (1, .inl (a1)), (2, .inl (a2)), (3, .inl (a3))] [] h (qbP τ h (a1 < 0 ∨ 7 < a1 ∨ a2 < 0 ∨ 1 < a2 ∨ a3 < 0 ∨ ((X a1.toNat).length : Int) < a3) (((0 ≤ a1 ∧ a1 ≤ 7) ∧ (0 ≤ a2 ∧ a2 ≤ 1) ∧ 0 ≤ a3 ∧ a3 ≤ ((X a1.toNat).length : Int)) ∧ qz_I h 202 6 = 0) False cg_P (fun v => (((0 ≤ a1 ∧ a1 ≤ 7) ∧ (0 ≤ a2 ∧ a2 ≤ 1) ∧ 0 ≤ a3 ∧ a3 ≤ ((X a1.toNat).length : Int)) ∧ qz_I h 202 6 ≠ 0 ∧ bwP (edP (yD Ls) (X a1.toNat) a2 a3) v) ∧ (0 ≤ v ∧ v ≤ 1))) :=
  rd_cedge hC hx sl txh r1 r2 r3 hr1 hr2 (fun w => Or.inl ⟨w, rfl⟩) (fun w z => Or.inr (Or.inl ⟨⟨w, z⟩, rfl⟩)) (fun w z v iv v2 g b1 b2 => Or.inr (Or.inr (Or.inr ⟨v, g, ⟨⟨w, z, iv⟩, v2⟩, rfl, b1, b2⟩)))
theorem lw_edge {i : Int} (hb : dz_B tz_T (qz_X rR) τ h) (hn : qz_I h 192 1 = qz_I h 770 2) (i0 : 0 ≤ i) (i1 : i + 6 ≤ qz_N h 0) (i2 : i ≤ 4000) (hr1 : h.1 + 1100 ≤ 600192) (hr2 : h.2.1 + 150100 ≤ 7302232) (k : ∀ τ2 g, dz_B tz_T (qz_X rR) τ2 g → stp h g → ez_W (d + 11) cm_0 1213 [(4, .inl (i)), (0, .inr (.inr (some (0)))), (1, .inr (.inr (some (192)))), (2, .inr (.inr (some (770)))), (3, .inr (.inr (some (805))))] [] g Q) : ez_W (d + 11) cm_0 781 [(4, .inl (i)), (0, .inr (.inr (some (0)))), (1, .inr (.inr (some (192)))), (2, .inr (.inr (some (770)))), (3, .inr (.inr (some (805))))] [] h Q := by
  have hB := dz_ezB hb
  have hX := hb.2.1
  have t0 : τ 0 = 34 := hX.1 0 (by decide)
  have t192 : τ 192 = 44 := hX.1 192 (by decide)
  have t770 : τ 770 = 75 := hX.1 770 (by decide)
  have t805 : τ 805 = 35 := hX.1 805 (by decide)
  obtain ⟨Ls, ⟨t, c, m, w, s6, s77, u, p⟩, ww, X, x1, x2⟩ := id hX.2.2.2.2
  have hI : jz_I τ h (vF Ls) (vE Ls) := ⟨hB, hX.1, c⟩
  obtain ⟨T, hC⟩ := pz_C_of hI
  have sl := ww.2.1
  refine ez_go (n := 5) (pc' := 787) (L' := [(4, .inl (i)), (0, .inr (.inr (some (0)))), (1, .inr (.inr (some (192)))), (2, .inr (.inr (some (770)))), (3, .inr (.inr (some (805))))]) (st' := [.inl ((i) + (1)), .inr (.inr (some (0))), .inr (.inr (some (192)))]) rfl ?_
  have n2 : 0 ≤ qz_N h 0 ∧ qz_N h 0 ≤ 3072 := ez_len hB t0 tq_34 rfl
  refine ez_aI hB t0 rfl tq_34 rfl rfl (by omega) (by omega) (fun (b1 : -2147483648 ≤ qz_I h 0 ((i) + (1)).toNat) (b1' : qz_I h 0 ((i) + (1)).toNat ≤ 2147483647) => ?_)
  refine ez_go (n := 4) (pc' := 793) (L' := [(4, .inl (i)), (0, .inr (.inr (some (0)))), (1, .inr (.inr (some (192)))), (2, .inr (.inr (some (770)))), (3, .inr (.inr (some (805))))]) (st' := [.inl ((i) + (2)), .inr (.inr (some (0))), .inl (qz_I h 0 ((i) + (1)).toNat), .inr (.inr (some (192)))]) rfl ?_
  have n4 : 0 ≤ qz_N h 0 ∧ qz_N h 0 ≤ 3072 := ez_len hB t0 tq_34 rfl
  refine ez_aI hB t0 rfl tq_34 rfl rfl (by omega) (by omega) (fun (b3 : -2147483648 ≤ qz_I h 0 ((i) + (2)).toNat) (b3' : qz_I h 0 ((i) + (2)).toNat ≤ 2147483647) => ?_)
  refine ez_go (n := 4) (pc' := 799) (L' := [(4, .inl (i)), (0, .inr (.inr (some (0)))), (1, .inr (.inr (some (192)))), (2, .inr (.inr (some (770)))), (3, .inr (.inr (some (805))))]) (st' := [.inl ((i) + (3)), .inr (.inr (some (0))), .inl (qz_I h 0 ((i) + (2)).toNat), .inl (qz_I h 0 ((i) + (1)).toNat), .inr (.inr (some (192)))]) rfl ?_
  have n6 : 0 ≤ qz_N h 0 ∧ qz_N h 0 ≤ 3072 := ez_len hB t0 tq_34 rfl
  refine ez_aI hB t0 rfl tq_34 rfl rfl (by omega) (by omega) (fun (b5 : -2147483648 ≤ qz_I h 0 ((i) + (3)).toNat) (b5' : qz_I h 0 ((i) + (3)).toNat ≤ 2147483647) => ?_)
  refine ez_go (n := 1) (pc' := 801) (L' := [(4, .inl (i)), (0, .inr (.inr (some (0)))), (1, .inr (.inr (some (192)))), (2, .inr (.inr (some (770)))), (3, .inr (.inr (some (805))))]) (st' := [.inr (.inr (some (805))), .inl (qz_I h 0 ((i) + (3)).toNat), .inl (qz_I h 0 ((i) + (2)).toNat), .inl (qz_I h 0 ((i) + (1)).toNat), .inr (.inr (some (192)))]) rfl ?_
  obtain ⟨O9, hx9⟩ := ww.2.2.1
  refine ez_cs hB.2.1 rfl rfl rfl rfl rfl (hp_edge hB t192 (rd_edgeP (d := d) hC hx9 sl x1 ⟨by omega, by omega⟩ ⟨by omega, by omega⟩ ⟨by omega, by omega⟩ (by omega) (by omega)) (fun F hF => ?_))
  generalize ea1 : qz_I h 0 ((i) + (1)).toNat = a1 at *
  have ar1 : ez_rg a1 := ⟨by omega, by omega⟩
  generalize ea2 : qz_I h 0 ((i) + (2)).toNat = a2 at *
  have ar2 : ez_rg a2 := ⟨by omega, by omega⟩
  generalize ea3 : qz_I h 0 ((i) + (3)).toNat = a3 at *
  have ar3 : ez_rg a3 := ⟨by omega, by omega⟩
  rcases hF with ⟨wA, rfl⟩ | ⟨wS, rfl⟩ | ⟨wX, gA, rfl, BA, fA⟩ | ⟨v, gA, wV, rfl, BA, fA⟩
  · refine Or.inr (Or.inl ⟨_, _, rfl, xc_exc hB rfl, ez_K1 ?_⟩)
    have hBx : ez_B τ (xc h 1) := xc_B hB (by omega) (by omega)
    have rH : (xc h 1).1 ≤ h.1 + 1 ∧ (xc h 1).2.1 ≤ h.2.1 + 6 := ⟨Nat.le_refl _, Nat.le_refl _⟩
    obtain ⟨⟨pM, pN⟩, pS, pX, p7, sc, sn⟩ := tg_pre hX.1 t m w s77 ww x2 hBx (fun q a _ _ _ _ => xc_t hB a)
    refine ez_go (n := 6) (pc' := 812) (L' := [(5, .inl (1)), (4, .inl (i)), (0, .inr (.inr (some (0)))), (1, .inr (.inr (some (192)))), (2, .inr (.inr (some (770)))), (3, .inr (.inr (some (805))))]) (st' := [.inl ((i) + (1)), .inr (.inr (some (0))), .inr (.inr (some (770)))]) rfl ?_
    have n8 : 0 ≤ qz_N (xc h 1) 0 ∧ qz_N (xc h 1) 0 ≤ 3072 := ez_len hBx t0 tq_34 rfl
    refine ez_aI hBx t0 rfl tq_34 rfl rfl (by omega) (by omega) (fun (b7 : -2147483648 ≤ qz_I (xc h 1) 0 ((i) + (1)).toNat) (b7' : qz_I (xc h 1) 0 ((i) + (1)).toNat ≤ 2147483647) => ?_)
    rw [show qz_I (xc h 1) 0 ((i) + (1)).toNat = qz_I h 0 ((i) + (1)).toNat from sc _, ea1]
    refine ez_go (n := 4) (pc' := 818) (L' := [(5, .inl (1)), (4, .inl (i)), (0, .inr (.inr (some (0)))), (1, .inr (.inr (some (192)))), (2, .inr (.inr (some (770)))), (3, .inr (.inr (some (805))))]) (st' := [.inl ((i) + (2)), .inr (.inr (some (0))), .inl (a1), .inr (.inr (some (770)))]) rfl ?_
    have n10 : 0 ≤ qz_N (xc h 1) 0 ∧ qz_N (xc h 1) 0 ≤ 3072 := ez_len hBx t0 tq_34 rfl
    refine ez_aI hBx t0 rfl tq_34 rfl rfl (by omega) (by omega) (fun (b9 : -2147483648 ≤ qz_I (xc h 1) 0 ((i) + (2)).toNat) (b9' : qz_I (xc h 1) 0 ((i) + (2)).toNat ≤ 2147483647) => ?_)
    rw [show qz_I (xc h 1) 0 ((i) + (2)).toNat = qz_I h 0 ((i) + (2)).toNat from sc _, ea2]
    refine ez_go (n := 4) (pc' := 824) (L' := [(5, .inl (1)), (4, .inl (i)), (0, .inr (.inr (some (0)))), (1, .inr (.inr (some (192)))), (2, .inr (.inr (some (770)))), (3, .inr (.inr (some (805))))]) (st' := [.inl ((i) + (3)), .inr (.inr (some (0))), .inl (a2), .inl (a1), .inr (.inr (some (770)))]) rfl ?_
    have n12 : 0 ≤ qz_N (xc h 1) 0 ∧ qz_N (xc h 1) 0 ≤ 3072 := ez_len hBx t0 tq_34 rfl
    refine ez_aI hBx t0 rfl tq_34 rfl rfl (by omega) (by omega) (fun (b11 : -2147483648 ≤ qz_I (xc h 1) 0 ((i) + (3)).toNat) (b11' : qz_I (xc h 1) 0 ((i) + (3)).toNat ≤ 2147483647) => ?_)
    rw [show qz_I (xc h 1) 0 ((i) + (3)).toNat = qz_I h 0 ((i) + (3)).toNat from sc _, ea3]
    refine ez_cv hBx t770 rfl rfl rfl tq_75 rfl rfl rfl (rd_medge2 pM pS pX ar1 ar2 ar3 (fun _ g3 b1 b2 => ez_K1 ?_) (fun w9 => absurd w9 (by omega)) (fun w9 => absurd w9 (by omega)))
    have FN := ref_X hb hn b1 b2.1 b2.2.1
    have b0 := b2.2.2
    refine ez_go (n := 2) (pc' := 1213) (L' := [(6, .inl (0)), (5, .inl (1)), (4, .inl (i)), (0, .inr (.inr (some (0)))), (1, .inr (.inr (some (192)))), (2, .inr (.inr (some (770)))), (3, .inr (.inr (some (805))))]) (st' := []) rfl ?_
    refine ez_less [(4, .inl (i)), (0, .inr (.inr (some (0)))), (1, .inr (.inr (some (192)))), (2, .inr (.inr (some (770)))), (3, .inr (.inr (some (805))))] rfl ⟨rfl, rfl, rfl, rfl, rfl, trivial⟩ ?_
    exact k _ _ FN.1 FN.2
  · refine Or.inr (Or.inr (⟨_, _, rfl, xc_exc hB rfl, ez_K1 ?_⟩))
    have hBx : ez_B τ (xc h 2) := xc_B hB (by omega) (by omega)
    have rH : (xc h 2).1 ≤ h.1 + 1 ∧ (xc h 2).2.1 ≤ h.2.1 + 6 := ⟨Nat.le_refl _, Nat.le_refl _⟩
    obtain ⟨⟨pM, pN⟩, pS, pX, p7, sc, sn⟩ := tg_pre hX.1 t m w s77 ww x2 hBx (fun q a _ _ _ _ => xc_t hB a)
    obtain ⟨ok, s0⟩ := wS
    have n7 : qz_I (xc h 2) 770 7 = 0 := (p7 7).trans (s6.mp s0)
    refine ez_go (n := 6) (pc' := 812) (L' := [(5, .inl (2)), (4, .inl (i)), (0, .inr (.inr (some (0)))), (1, .inr (.inr (some (192)))), (2, .inr (.inr (some (770)))), (3, .inr (.inr (some (805))))]) (st' := [.inl ((i) + (1)), .inr (.inr (some (0))), .inr (.inr (some (770)))]) rfl ?_
    have n14 : 0 ≤ qz_N (xc h 2) 0 ∧ qz_N (xc h 2) 0 ≤ 3072 := ez_len hBx t0 tq_34 rfl
    refine ez_aI hBx t0 rfl tq_34 rfl rfl (by omega) (by omega) (fun (b13 : -2147483648 ≤ qz_I (xc h 2) 0 ((i) + (1)).toNat) (b13' : qz_I (xc h 2) 0 ((i) + (1)).toNat ≤ 2147483647) => ?_)
    rw [show qz_I (xc h 2) 0 ((i) + (1)).toNat = qz_I h 0 ((i) + (1)).toNat from sc _, ea1]
    refine ez_go (n := 4) (pc' := 818) (L' := [(5, .inl (2)), (4, .inl (i)), (0, .inr (.inr (some (0)))), (1, .inr (.inr (some (192)))), (2, .inr (.inr (some (770)))), (3, .inr (.inr (some (805))))]) (st' := [.inl ((i) + (2)), .inr (.inr (some (0))), .inl (a1), .inr (.inr (some (770)))]) rfl ?_
    have n16 : 0 ≤ qz_N (xc h 2) 0 ∧ qz_N (xc h 2) 0 ≤ 3072 := ez_len hBx t0 tq_34 rfl
    refine ez_aI hBx t0 rfl tq_34 rfl rfl (by omega) (by omega) (fun (b15 : -2147483648 ≤ qz_I (xc h 2) 0 ((i) + (2)).toNat) (b15' : qz_I (xc h 2) 0 ((i) + (2)).toNat ≤ 2147483647) => ?_)
    rw [show qz_I (xc h 2) 0 ((i) + (2)).toNat = qz_I h 0 ((i) + (2)).toNat from sc _, ea2]
    refine ez_go (n := 4) (pc' := 824) (L' := [(5, .inl (2)), (4, .inl (i)), (0, .inr (.inr (some (0)))), (1, .inr (.inr (some (192)))), (2, .inr (.inr (some (770)))), (3, .inr (.inr (some (805))))]) (st' := [.inl ((i) + (3)), .inr (.inr (some (0))), .inl (a2), .inl (a1), .inr (.inr (some (770)))]) rfl ?_
    have n18 : 0 ≤ qz_N (xc h 2) 0 ∧ qz_N (xc h 2) 0 ≤ 3072 := ez_len hBx t0 tq_34 rfl
    refine ez_aI hBx t0 rfl tq_34 rfl rfl (by omega) (by omega) (fun (b17 : -2147483648 ≤ qz_I (xc h 2) 0 ((i) + (3)).toNat) (b17' : qz_I (xc h 2) 0 ((i) + (3)).toNat ≤ 2147483647) => ?_)
    rw [show qz_I (xc h 2) 0 ((i) + (3)).toNat = qz_I h 0 ((i) + (3)).toNat from sc _, ea3]
    refine ez_cv hBx t770 rfl rfl rfl tq_75 rfl rfl rfl (rd_medge2 pM pS pX ar1 ar2 ar3 (fun w9 => absurd w9 (by omega)) (fun _ _ g3 b1 b2 => ez_K1 ?_) (fun _ z => absurd n7 z))
    have FN := ref_X hb hn b1 b2.1 b2.2.1
    have b0 := b2.2.2
    refine ez_go (n := 2) (pc' := 1213) (L' := [(6, .inl (0)), (5, .inl (2)), (4, .inl (i)), (0, .inr (.inr (some (0)))), (1, .inr (.inr (some (192)))), (2, .inr (.inr (some (770)))), (3, .inr (.inr (some (805))))]) (st' := []) rfl ?_
    refine ez_less [(4, .inl (i)), (0, .inr (.inr (some (0)))), (1, .inr (.inr (some (192)))), (2, .inr (.inr (some (770)))), (3, .inr (.inr (some (805))))] rfl ⟨rfl, rfl, rfl, rfl, rfl, trivial⟩ ?_
    exact k _ _ FN.1 FN.2
  · exact wX.elim
  · obtain ⟨⟨ok, s0, iv⟩, v2⟩ := wV
    have cA1 := fA.1; have cA2 := fA.2.1
    refine Or.inl ⟨v, τ, gA, v2, rfl, BA, t805, fun hBo => ez_K1 ?_⟩
    have rH : (ow gA v).1 ≤ h.1 + 1 ∧ (ow gA v).2.1 ≤ h.2.1 + 6 := ⟨by show gA.1 ≤ _; omega, by show gA.2.1 ≤ _; omega⟩
    obtain ⟨⟨pM, pN⟩, pS, pX, p7, sc, sn⟩ := tg_pre hX.1 t m w s77 ww x2 hBo (ow_CP hX.1 (pk_cg hX.1) fA)
    have n7 : qz_I (ow gA v) 770 7 ≠ 0 := fun z => s0 (s6.mpr ((p7 7).symm.trans z))
    refine ez_go (n := 6) (pc' := 812) (L' := [(5, .inl (0)), (4, .inl (i)), (0, .inr (.inr (some (0)))), (1, .inr (.inr (some (192)))), (2, .inr (.inr (some (770)))), (3, .inr (.inr (some (805))))]) (st' := [.inl ((i) + (1)), .inr (.inr (some (0))), .inr (.inr (some (770)))]) rfl ?_
    have n20 : 0 ≤ qz_N (ow gA v) 0 ∧ qz_N (ow gA v) 0 ≤ 3072 := ez_len hBo t0 tq_34 rfl
    refine ez_aI hBo t0 rfl tq_34 rfl rfl (by omega) (by omega) (fun (b19 : -2147483648 ≤ qz_I (ow gA v) 0 ((i) + (1)).toNat) (b19' : qz_I (ow gA v) 0 ((i) + (1)).toNat ≤ 2147483647) => ?_)
    rw [show qz_I (ow gA v) 0 ((i) + (1)).toNat = qz_I h 0 ((i) + (1)).toNat from sc _, ea1]
    refine ez_go (n := 4) (pc' := 818) (L' := [(5, .inl (0)), (4, .inl (i)), (0, .inr (.inr (some (0)))), (1, .inr (.inr (some (192)))), (2, .inr (.inr (some (770)))), (3, .inr (.inr (some (805))))]) (st' := [.inl ((i) + (2)), .inr (.inr (some (0))), .inl (a1), .inr (.inr (some (770)))]) rfl ?_
    have n22 : 0 ≤ qz_N (ow gA v) 0 ∧ qz_N (ow gA v) 0 ≤ 3072 := ez_len hBo t0 tq_34 rfl
    refine ez_aI hBo t0 rfl tq_34 rfl rfl (by omega) (by omega) (fun (b21 : -2147483648 ≤ qz_I (ow gA v) 0 ((i) + (2)).toNat) (b21' : qz_I (ow gA v) 0 ((i) + (2)).toNat ≤ 2147483647) => ?_)
    rw [show qz_I (ow gA v) 0 ((i) + (2)).toNat = qz_I h 0 ((i) + (2)).toNat from sc _, ea2]
    refine ez_go (n := 4) (pc' := 824) (L' := [(5, .inl (0)), (4, .inl (i)), (0, .inr (.inr (some (0)))), (1, .inr (.inr (some (192)))), (2, .inr (.inr (some (770)))), (3, .inr (.inr (some (805))))]) (st' := [.inl ((i) + (3)), .inr (.inr (some (0))), .inl (a2), .inl (a1), .inr (.inr (some (770)))]) rfl ?_
    have n24 : 0 ≤ qz_N (ow gA v) 0 ∧ qz_N (ow gA v) 0 ≤ 3072 := ez_len hBo t0 tq_34 rfl
    refine ez_aI hBo t0 rfl tq_34 rfl rfl (by omega) (by omega) (fun (b23 : -2147483648 ≤ qz_I (ow gA v) 0 ((i) + (3)).toNat) (b23' : qz_I (ow gA v) 0 ((i) + (3)).toNat ≤ 2147483647) => ?_)
    rw [show qz_I (ow gA v) 0 ((i) + (3)).toNat = qz_I h 0 ((i) + (3)).toNat from sc _, ea3]
    refine ez_cv hBo t770 rfl rfl rfl tq_75 rfl rfl rfl (rd_medge2 pM pS pX ar1 ar2 ar3 (fun w9 => absurd w9 (by omega)) (fun _ z => absurd z n7) (fun _ _ v9 iv9 h1 c1 c2 g2 τ2 c3 c4 g3 b1 c5 c6 => ez_K1 ?_))
    have ev := bwP_u iv9 iv
    subst ev
    have u770 : τ2 770 = 75 := c4.X hX.1 770 (by decide)
    have u805 : τ2 805 = 35 := c4.X hX.1 805 (by decide)
    have FN := tg_an hb hn (pk_cg hX.1) fA c2.H c4 c5 c6 c3 b1
    have b0 : qz_I g3 770 0 = 0 := (show qz_I g3 770 0 = qz_I g2 770 0 by unfold qz_I; rw [c5 770 (by rw [u770]; decide)]).trans ((c4.2.2.1 0 (by decide) (by decide) (by decide)).trans c2.2.2)
    have hv2 : v9 = 0 ∨ v9 = 1 := by omega
    rcases hv2 with e | e
    · subst e
      refine ez_go (n := 2) (pc' := 1213) (L' := [(6, .inl (0)), (5, .inl (0)), (4, .inl (i)), (0, .inr (.inr (some (0)))), (1, .inr (.inr (some (192)))), (2, .inr (.inr (some (770)))), (3, .inr (.inr (some (805))))]) (st' := []) rfl ?_
      refine ez_less [(4, .inl (i)), (0, .inr (.inr (some (0)))), (1, .inr (.inr (some (192)))), (2, .inr (.inr (some (770)))), (3, .inr (.inr (some (805))))] rfl ⟨rfl, rfl, rfl, rfl, rfl, trivial⟩ ?_
      exact k _ _ FN.1 FN.2
    · subst e
      refine ez_go (n := 2) (pc' := 1213) (L' := [(6, .inl (1)), (5, .inl (0)), (4, .inl (i)), (0, .inr (.inr (some (0)))), (1, .inr (.inr (some (192)))), (2, .inr (.inr (some (770)))), (3, .inr (.inr (some (805))))]) (st' := []) rfl ?_
      refine ez_less [(4, .inl (i)), (0, .inr (.inr (some (0)))), (1, .inr (.inr (some (192)))), (2, .inr (.inr (some (770)))), (3, .inr (.inr (some (805))))] rfl ⟨rfl, rfl, rfl, rfl, rfl, trivial⟩ ?_
      exact k _ _ FN.1 FN.2

theorem hp_next {a1 a2 a3 a4 : Int} (hB : ez_B τ h) (t192 : τ 192 = 44) (hc : ez_W d cm_23 0 [(0, .inr (.inr (some (192)))), (1, .inl (a1)), (2, .inl (a2)), (3, .inl (a3)), (4, .inl (a4))] [] h P) (k : ∀ F, P F → (∃ v τ1 g, F = (.inl (some (ez_v (.inl v))), g) ∧ ez_B τ1 g ∧ τ1 805 = 35 ∧ (ez_B τ1 (ow g v) → Q (.inl (some (ez_v (.inl 0))), ow g v))) ∨ (∃ r g, F = (.inr r, g) ∧ cz_exc g r = some 1 ∧ Q (.inl (some (ez_v (.inl 1))), g)) ∨ (∃ r g, F = (.inr r, g) ∧ cz_exc g r = some 2 ∧ Q (.inl (some (ez_v (.inl 2))), g))) : ez_W (d + 1) cm_207 0 [(0, .inr (.inr (some (192)))), (1, .inl (a1)), (2, .inl (a2)), (3, .inl (a3)), (4, .inl (a4)), (5, .inr (.inr (some (805))))] [] h Q := by
  refine ez_go (n := 7) (pc' := 9) (L' := [(0, .inr (.inr (some (192)))), (1, .inl (a1)), (2, .inl (a2)), (3, .inl (a3)), (4, .inl (a4)), (5, .inr (.inr (some (805))))]) (st' := [.inl (a4), .inl (a3), .inl (a2), .inl (a1), .inr (.inr (some (192))), .inl (0), .inr (.inr (some (805)))]) rfl ?_
  refine ez_cv hB t192 rfl rfl rfl tq_44 rfl rfl rfl (ez_mono hc (fun F hF => ?_))
  rcases k F hF with ⟨v, τ1, g, rfl, hB1, u805, kq⟩ | ⟨r, g, rfl, he, kq⟩ | ⟨r, g, rfl, he, kq⟩
  · refine ez_K1 ?_
    refine ez_go (n := 1) (pc' := 13) (L' := [(0, .inr (.inr (some (192)))), (1, .inl (a1)), (2, .inl (a2)), (3, .inl (a3)), (4, .inl (a4)), (5, .inr (.inr (some (805))))]) (st' := [.inr (.inl ((Int32.ofInt (v)).toInt64)), .inl (0), .inr (.inr (some (805)))]) rfl ?_
    have n3 : 1 ≤ qz_N g 805 ∧ qz_N g 805 ≤ 1 := ez_len hB1 u805 tq_35 rfl
    refine ez_as hB1 u805 rfl tq_35 rfl rfl (by omega) (by omega) ez_vdJ (fun hB1 w2 => ?_)
    refine ez_go (n := 2) (pc' := 26) (L' := [(0, .inr (.inr (some (192)))), (1, .inl (a1)), (2, .inl (a2)), (3, .inl (a3)), (4, .inl (a4)), (5, .inr (.inr (some (805))))]) (st' := [.inl (0)]) rfl ?_
    exact ez_retI rfl rfl (kq hB1)
  · refine ez_Kc he rfl ?_
    refine ez_go (n := 2) (pc' := 20) (L' := [(6, .inr (.inr (some (r)))), (0, .inr (.inr (some (192)))), (1, .inl (a1)), (2, .inl (a2)), (3, .inl (a3)), (4, .inl (a4)), (5, .inr (.inr (some (805))))]) (st' := [.inl (1)]) rfl ?_
    exact ez_retI rfl rfl kq
  · refine ez_Kc he rfl ?_
    refine ez_go (n := 2) (pc' := 24) (L' := [(6, .inr (.inr (some (r)))), (0, .inr (.inr (some (192)))), (1, .inl (a1)), (2, .inl (a2)), (3, .inl (a3)), (4, .inl (a4)), (5, .inr (.inr (some (805))))]) (st' := [.inl (2)]) rfl ?_
    exact ez_retI rfl rfl kq

theorem rd_nextP1 {Ls : List vz} {X : Nat → List Int} {a1 a2 a3 : Int} {T : Int → Nat} {O : Nat → Int} (hC : pz_C τ h T (vF Ls) (vE Ls)) (hx : sz_X τ h O (yD Ls)) (sl : slt h) (txh : txs h X) (r1 : ez_rg a1) (r2 : ez_rg a2) (r3 : ez_rg a3) (hr1 : h.1 + 1 ≤ 600192) (hr2 : h.2.1 + 6 ≤ 7302232) : ez_W (d + 9) cm_23 0 [(0, .inr (.inr (some (192)))), (1, .inl (a1)), (2, .inl (a2)), (3, .inl (a3)), (4, .inl (1))] [] h (qbP τ h (a1 < 0 ∨ 7 < a1 ∨ a2 < 0 ∨ 1 < a2 ∨ a3 < 0 ∨ ((X a1.toNat).length : Int) < a3) (((0 ≤ a1 ∧ a1 ≤ 7) ∧ (0 ≤ a2 ∧ a2 ≤ 1) ∧ 0 ≤ a3 ∧ a3 ≤ ((X a1.toNat).length : Int)) ∧ qz_I h 202 6 = 0) False cg_P (fun v => (((0 ≤ a1 ∧ a1 ≤ 7) ∧ (0 ≤ a2 ∧ a2 ≤ 1) ∧ 0 ≤ a3 ∧ a3 ≤ ((X a1.toNat).length : Int)) ∧ qz_I h 202 6 ≠ 0 ∧ nxb (edP (yD Ls) (X a1.toNat) a2) a3 v) ∧ (-1 ≤ v ∧ v ≤ 2000))) :=
  rd_cnext1 hC hx sl txh r1 r2 r3 hr1 hr2 (fun w => Or.inl ⟨w, rfl⟩) (fun w z => Or.inr (Or.inl ⟨⟨w, z⟩, rfl⟩)) (fun w z v iv v2 g b1 b2 => Or.inr (Or.inr (Or.inr ⟨v, g, ⟨⟨w, z, iv⟩, v2⟩, rfl, b1, b2⟩)))
theorem rd_nextP0 {Ls : List vz} {X : Nat → List Int} {a1 a2 a3 : Int} {T : Int → Nat} {O : Nat → Int} (hC : pz_C τ h T (vF Ls) (vE Ls)) (hx : sz_X τ h O (yD Ls)) (sl : slt h) (txh : txs h X) (r1 : ez_rg a1) (r2 : ez_rg a2) (r3 : ez_rg a3) (hr1 : h.1 + 1 ≤ 600192) (hr2 : h.2.1 + 6 ≤ 7302232) : ez_W (d + 9) cm_23 0 [(0, .inr (.inr (some (192)))), (1, .inl (a1)), (2, .inl (a2)), (3, .inl (a3)), (4, .inl (0))] [] h (qbP τ h (a1 < 0 ∨ 7 < a1 ∨ a2 < 0 ∨ 1 < a2 ∨ a3 < 0 ∨ ((X a1.toNat).length : Int) < a3) (((0 ≤ a1 ∧ a1 ≤ 7) ∧ (0 ≤ a2 ∧ a2 ≤ 1) ∧ 0 ≤ a3 ∧ a3 ≤ ((X a1.toNat).length : Int)) ∧ qz_I h 202 6 = 0) False cg_P (fun v => (((0 ≤ a1 ∧ a1 ≤ 7) ∧ (0 ≤ a2 ∧ a2 ≤ 1) ∧ 0 ≤ a3 ∧ a3 ≤ ((X a1.toNat).length : Int)) ∧ qz_I h 202 6 ≠ 0 ∧ nxf (edP (yD Ls) (X a1.toNat) a2) (X a1.toNat).length a3 v) ∧ (-1 ≤ v ∧ v ≤ 2000))) :=
  rd_cnext0 hC hx sl txh r1 r2 r3 hr1 hr2 (fun w => Or.inl ⟨w, rfl⟩) (fun w z => Or.inr (Or.inl ⟨⟨w, z⟩, rfl⟩)) (fun w z v iv v2 g b1 b2 => Or.inr (Or.inr (Or.inr ⟨v, g, ⟨⟨w, z, iv⟩, v2⟩, rfl, b1, b2⟩)))
theorem lw_next {i : Int} (hb : dz_B tz_T (qz_X rR) τ h) (hn : qz_I h 192 1 = qz_I h 770 2) (i0 : 0 ≤ i) (i1 : i + 6 ≤ qz_N h 0) (i2 : i ≤ 4000) (hr1 : h.1 + 1100 ≤ 600192) (hr2 : h.2.1 + 150100 ≤ 7302232) (k : ∀ τ2 g, dz_B tz_T (qz_X rR) τ2 g → stp h g → ez_W (d + 11) cm_0 1213 [(4, .inl (i)), (0, .inr (.inr (some (0)))), (1, .inr (.inr (some (192)))), (2, .inr (.inr (some (770)))), (3, .inr (.inr (some (805))))] [] g Q) : ez_W (d + 11) cm_0 833 [(4, .inl (i)), (0, .inr (.inr (some (0)))), (1, .inr (.inr (some (192)))), (2, .inr (.inr (some (770)))), (3, .inr (.inr (some (805))))] [] h Q := by
  have hB := dz_ezB hb
  have hX := hb.2.1
  have t0 : τ 0 = 34 := hX.1 0 (by decide)
  have t192 : τ 192 = 44 := hX.1 192 (by decide)
  have t770 : τ 770 = 75 := hX.1 770 (by decide)
  have t805 : τ 805 = 35 := hX.1 805 (by decide)
  obtain ⟨Ls, ⟨t, c, m, w, s6, s77, u, p⟩, ww, X, x1, x2⟩ := id hX.2.2.2.2
  have hI : jz_I τ h (vF Ls) (vE Ls) := ⟨hB, hX.1, c⟩
  obtain ⟨T, hC⟩ := pz_C_of hI
  have sl := ww.2.1
  refine ez_go (n := 5) (pc' := 839) (L' := [(4, .inl (i)), (0, .inr (.inr (some (0)))), (1, .inr (.inr (some (192)))), (2, .inr (.inr (some (770)))), (3, .inr (.inr (some (805))))]) (st' := [.inl ((i) + (1)), .inr (.inr (some (0))), .inr (.inr (some (192)))]) rfl ?_
  have n2 : 0 ≤ qz_N h 0 ∧ qz_N h 0 ≤ 3072 := ez_len hB t0 tq_34 rfl
  refine ez_aI hB t0 rfl tq_34 rfl rfl (by omega) (by omega) (fun (b1 : -2147483648 ≤ qz_I h 0 ((i) + (1)).toNat) (b1' : qz_I h 0 ((i) + (1)).toNat ≤ 2147483647) => ?_)
  refine ez_go (n := 4) (pc' := 845) (L' := [(4, .inl (i)), (0, .inr (.inr (some (0)))), (1, .inr (.inr (some (192)))), (2, .inr (.inr (some (770)))), (3, .inr (.inr (some (805))))]) (st' := [.inl ((i) + (2)), .inr (.inr (some (0))), .inl (qz_I h 0 ((i) + (1)).toNat), .inr (.inr (some (192)))]) rfl ?_
  have n4 : 0 ≤ qz_N h 0 ∧ qz_N h 0 ≤ 3072 := ez_len hB t0 tq_34 rfl
  refine ez_aI hB t0 rfl tq_34 rfl rfl (by omega) (by omega) (fun (b3 : -2147483648 ≤ qz_I h 0 ((i) + (2)).toNat) (b3' : qz_I h 0 ((i) + (2)).toNat ≤ 2147483647) => ?_)
  refine ez_go (n := 4) (pc' := 851) (L' := [(4, .inl (i)), (0, .inr (.inr (some (0)))), (1, .inr (.inr (some (192)))), (2, .inr (.inr (some (770)))), (3, .inr (.inr (some (805))))]) (st' := [.inl ((i) + (3)), .inr (.inr (some (0))), .inl (qz_I h 0 ((i) + (2)).toNat), .inl (qz_I h 0 ((i) + (1)).toNat), .inr (.inr (some (192)))]) rfl ?_
  have n6 : 0 ≤ qz_N h 0 ∧ qz_N h 0 ≤ 3072 := ez_len hB t0 tq_34 rfl
  refine ez_aI hB t0 rfl tq_34 rfl rfl (by omega) (by omega) (fun (b5 : -2147483648 ≤ qz_I h 0 ((i) + (3)).toNat) (b5' : qz_I h 0 ((i) + (3)).toNat ≤ 2147483647) => ?_)
  refine ez_go (n := 4) (pc' := 857) (L' := [(4, .inl (i)), (0, .inr (.inr (some (0)))), (1, .inr (.inr (some (192)))), (2, .inr (.inr (some (770)))), (3, .inr (.inr (some (805))))]) (st' := [.inl ((i) + (4)), .inr (.inr (some (0))), .inl (qz_I h 0 ((i) + (3)).toNat), .inl (qz_I h 0 ((i) + (2)).toNat), .inl (qz_I h 0 ((i) + (1)).toNat), .inr (.inr (some (192)))]) rfl ?_
  have n8 : 0 ≤ qz_N h 0 ∧ qz_N h 0 ≤ 3072 := ez_len hB t0 tq_34 rfl
  refine ez_aI hB t0 rfl tq_34 rfl rfl (by omega) (by omega) (fun (b7 : -2147483648 ≤ qz_I h 0 ((i) + (4)).toNat) (b7' : qz_I h 0 ((i) + (4)).toNat ≤ 2147483647) => ?_)
  refine ez_if rfl rfl ⟨by first | omega | exact (sz_i32 _).1, by first | omega | exact (sz_i32 _).2⟩ (fun (c9 : (qz_I h 0 ((i) + (4)).toNat) = (0)) => ?_) (fun (c9 : ¬((qz_I h 0 ((i) + (4)).toNat) = (0))) => ?_)
  · skip
    refine ez_go (n := 2) (pc' := 867) (L' := [(4, .inl (i)), (0, .inr (.inr (some (0)))), (1, .inr (.inr (some (192)))), (2, .inr (.inr (some (770)))), (3, .inr (.inr (some (805))))]) (st' := [.inr (.inr (some (805))), .inl (0), .inl (qz_I h 0 ((i) + (3)).toNat), .inl (qz_I h 0 ((i) + (2)).toNat), .inl (qz_I h 0 ((i) + (1)).toNat), .inr (.inr (some (192)))]) rfl ?_
    obtain ⟨O9, hx9⟩ := ww.2.2.1
    refine ez_cs hB.2.1 rfl rfl rfl rfl rfl (hp_next hB t192 (rd_nextP0 (d := d) hC hx9 sl x1 ⟨by omega, by omega⟩ ⟨by omega, by omega⟩ ⟨by omega, by omega⟩ (by omega) (by omega)) (fun F hF => ?_))
    generalize ea1 : qz_I h 0 ((i) + (1)).toNat = a1 at *
    have ar1 : ez_rg a1 := ⟨by omega, by omega⟩
    generalize ea2 : qz_I h 0 ((i) + (2)).toNat = a2 at *
    have ar2 : ez_rg a2 := ⟨by omega, by omega⟩
    generalize ea3 : qz_I h 0 ((i) + (3)).toNat = a3 at *
    have ar3 : ez_rg a3 := ⟨by omega, by omega⟩
    rcases hF with ⟨wA, rfl⟩ | ⟨wS, rfl⟩ | ⟨wX, gA, rfl, BA, fA⟩ | ⟨v, gA, wV, rfl, BA, fA⟩
    · refine Or.inr (Or.inl ⟨_, _, rfl, xc_exc hB rfl, ez_K1 ?_⟩)
      have hBx : ez_B τ (xc h 1) := xc_B hB (by omega) (by omega)
      have rH : (xc h 1).1 ≤ h.1 + 1 ∧ (xc h 1).2.1 ≤ h.2.1 + 6 := ⟨Nat.le_refl _, Nat.le_refl _⟩
      obtain ⟨⟨pM, pN⟩, pS, pX, p7, sc, sn⟩ := tg_pre hX.1 t m w s77 ww x2 hBx (fun q a _ _ _ _ => xc_t hB a)
      refine ez_go (n := 6) (pc' := 878) (L' := [(5, .inl (1)), (4, .inl (i)), (0, .inr (.inr (some (0)))), (1, .inr (.inr (some (192)))), (2, .inr (.inr (some (770)))), (3, .inr (.inr (some (805))))]) (st' := [.inl ((i) + (1)), .inr (.inr (some (0))), .inr (.inr (some (770)))]) rfl ?_
      have n11 : 0 ≤ qz_N (xc h 1) 0 ∧ qz_N (xc h 1) 0 ≤ 3072 := ez_len hBx t0 tq_34 rfl
      refine ez_aI hBx t0 rfl tq_34 rfl rfl (by omega) (by omega) (fun (b10 : -2147483648 ≤ qz_I (xc h 1) 0 ((i) + (1)).toNat) (b10' : qz_I (xc h 1) 0 ((i) + (1)).toNat ≤ 2147483647) => ?_)
      rw [show qz_I (xc h 1) 0 ((i) + (1)).toNat = qz_I h 0 ((i) + (1)).toNat from sc _, ea1]
      refine ez_go (n := 4) (pc' := 884) (L' := [(5, .inl (1)), (4, .inl (i)), (0, .inr (.inr (some (0)))), (1, .inr (.inr (some (192)))), (2, .inr (.inr (some (770)))), (3, .inr (.inr (some (805))))]) (st' := [.inl ((i) + (2)), .inr (.inr (some (0))), .inl (a1), .inr (.inr (some (770)))]) rfl ?_
      have n13 : 0 ≤ qz_N (xc h 1) 0 ∧ qz_N (xc h 1) 0 ≤ 3072 := ez_len hBx t0 tq_34 rfl
      refine ez_aI hBx t0 rfl tq_34 rfl rfl (by omega) (by omega) (fun (b12 : -2147483648 ≤ qz_I (xc h 1) 0 ((i) + (2)).toNat) (b12' : qz_I (xc h 1) 0 ((i) + (2)).toNat ≤ 2147483647) => ?_)
      rw [show qz_I (xc h 1) 0 ((i) + (2)).toNat = qz_I h 0 ((i) + (2)).toNat from sc _, ea2]
      refine ez_go (n := 4) (pc' := 890) (L' := [(5, .inl (1)), (4, .inl (i)), (0, .inr (.inr (some (0)))), (1, .inr (.inr (some (192)))), (2, .inr (.inr (some (770)))), (3, .inr (.inr (some (805))))]) (st' := [.inl ((i) + (3)), .inr (.inr (some (0))), .inl (a2), .inl (a1), .inr (.inr (some (770)))]) rfl ?_
      have n15 : 0 ≤ qz_N (xc h 1) 0 ∧ qz_N (xc h 1) 0 ≤ 3072 := ez_len hBx t0 tq_34 rfl
      refine ez_aI hBx t0 rfl tq_34 rfl rfl (by omega) (by omega) (fun (b14 : -2147483648 ≤ qz_I (xc h 1) 0 ((i) + (3)).toNat) (b14' : qz_I (xc h 1) 0 ((i) + (3)).toNat ≤ 2147483647) => ?_)
      rw [show qz_I (xc h 1) 0 ((i) + (3)).toNat = qz_I h 0 ((i) + (3)).toNat from sc _, ea3]
      refine ez_go (n := 4) (pc' := 896) (L' := [(5, .inl (1)), (4, .inl (i)), (0, .inr (.inr (some (0)))), (1, .inr (.inr (some (192)))), (2, .inr (.inr (some (770)))), (3, .inr (.inr (some (805))))]) (st' := [.inl ((i) + (4)), .inr (.inr (some (0))), .inl (a3), .inl (a2), .inl (a1), .inr (.inr (some (770)))]) rfl ?_
      have n17 : 0 ≤ qz_N (xc h 1) 0 ∧ qz_N (xc h 1) 0 ≤ 3072 := ez_len hBx t0 tq_34 rfl
      refine ez_aI hBx t0 rfl tq_34 rfl rfl (by omega) (by omega) (fun (b16 : -2147483648 ≤ qz_I (xc h 1) 0 ((i) + (4)).toNat) (b16' : qz_I (xc h 1) 0 ((i) + (4)).toNat ≤ 2147483647) => ?_)
      rw [show qz_I (xc h 1) 0 ((i) + (4)).toNat = qz_I h 0 ((i) + (4)).toNat from sc _]
      refine ez_if rfl rfl ⟨by first | omega | exact (sz_i32 _).1, by first | omega | exact (sz_i32 _).2⟩ (fun (c18 : (qz_I h 0 ((i) + (4)).toNat) = (0)) => ?_) (fun (c18 : ¬((qz_I h 0 ((i) + (4)).toNat) = (0))) => ?_)
      · skip
        refine ez_go (n := 1) (pc' := 905) (L' := [(5, .inl (1)), (4, .inl (i)), (0, .inr (.inr (some (0)))), (1, .inr (.inr (some (192)))), (2, .inr (.inr (some (770)))), (3, .inr (.inr (some (805))))]) (st' := [.inl (0), .inl (a3), .inl (a2), .inl (a1), .inr (.inr (some (770)))]) rfl ?_
        refine ez_cv hBx t770 rfl rfl rfl tq_75 rfl rfl rfl (rd_mnext0 pM pS pX ar1 ar2 ar3 (fun _ g3 b1 b2 => ez_K1 ?_) (fun w9 => absurd w9 (by omega)) (fun w9 => absurd w9 (by omega)))
        have FN := ref_X hb hn b1 b2.1 b2.2.1
        have b0 := b2.2.2
        refine ez_go (n := 2) (pc' := 1213) (L' := [(6, .inl (0)), (5, .inl (1)), (4, .inl (i)), (0, .inr (.inr (some (0)))), (1, .inr (.inr (some (192)))), (2, .inr (.inr (some (770)))), (3, .inr (.inr (some (805))))]) (st' := []) rfl ?_
        refine ez_less [(4, .inl (i)), (0, .inr (.inr (some (0)))), (1, .inr (.inr (some (192)))), (2, .inr (.inr (some (770)))), (3, .inr (.inr (some (805))))] rfl ⟨rfl, rfl, rfl, rfl, rfl, trivial⟩ ?_
        exact k _ _ FN.1 FN.2
      · skip
        refine ez_go (n := 2) (pc' := 905) (L' := [(5, .inl (1)), (4, .inl (i)), (0, .inr (.inr (some (0)))), (1, .inr (.inr (some (192)))), (2, .inr (.inr (some (770)))), (3, .inr (.inr (some (805))))]) (st' := [.inl (1), .inl (a3), .inl (a2), .inl (a1), .inr (.inr (some (770)))]) rfl ?_
        exfalso; omega
    · refine Or.inr (Or.inr (⟨_, _, rfl, xc_exc hB rfl, ez_K1 ?_⟩))
      have hBx : ez_B τ (xc h 2) := xc_B hB (by omega) (by omega)
      have rH : (xc h 2).1 ≤ h.1 + 1 ∧ (xc h 2).2.1 ≤ h.2.1 + 6 := ⟨Nat.le_refl _, Nat.le_refl _⟩
      obtain ⟨⟨pM, pN⟩, pS, pX, p7, sc, sn⟩ := tg_pre hX.1 t m w s77 ww x2 hBx (fun q a _ _ _ _ => xc_t hB a)
      obtain ⟨ok, s0⟩ := wS
      have n7 : qz_I (xc h 2) 770 7 = 0 := (p7 7).trans (s6.mp s0)
      refine ez_go (n := 6) (pc' := 878) (L' := [(5, .inl (2)), (4, .inl (i)), (0, .inr (.inr (some (0)))), (1, .inr (.inr (some (192)))), (2, .inr (.inr (some (770)))), (3, .inr (.inr (some (805))))]) (st' := [.inl ((i) + (1)), .inr (.inr (some (0))), .inr (.inr (some (770)))]) rfl ?_
      have n20 : 0 ≤ qz_N (xc h 2) 0 ∧ qz_N (xc h 2) 0 ≤ 3072 := ez_len hBx t0 tq_34 rfl
      refine ez_aI hBx t0 rfl tq_34 rfl rfl (by omega) (by omega) (fun (b19 : -2147483648 ≤ qz_I (xc h 2) 0 ((i) + (1)).toNat) (b19' : qz_I (xc h 2) 0 ((i) + (1)).toNat ≤ 2147483647) => ?_)
      rw [show qz_I (xc h 2) 0 ((i) + (1)).toNat = qz_I h 0 ((i) + (1)).toNat from sc _, ea1]
      refine ez_go (n := 4) (pc' := 884) (L' := [(5, .inl (2)), (4, .inl (i)), (0, .inr (.inr (some (0)))), (1, .inr (.inr (some (192)))), (2, .inr (.inr (some (770)))), (3, .inr (.inr (some (805))))]) (st' := [.inl ((i) + (2)), .inr (.inr (some (0))), .inl (a1), .inr (.inr (some (770)))]) rfl ?_
      have n22 : 0 ≤ qz_N (xc h 2) 0 ∧ qz_N (xc h 2) 0 ≤ 3072 := ez_len hBx t0 tq_34 rfl
      refine ez_aI hBx t0 rfl tq_34 rfl rfl (by omega) (by omega) (fun (b21 : -2147483648 ≤ qz_I (xc h 2) 0 ((i) + (2)).toNat) (b21' : qz_I (xc h 2) 0 ((i) + (2)).toNat ≤ 2147483647) => ?_)
      rw [show qz_I (xc h 2) 0 ((i) + (2)).toNat = qz_I h 0 ((i) + (2)).toNat from sc _, ea2]
      refine ez_go (n := 4) (pc' := 890) (L' := [(5, .inl (2)), (4, .inl (i)), (0, .inr (.inr (some (0)))), (1, .inr (.inr (some (192)))), (2, .inr (.inr (some (770)))), (3, .inr (.inr (some (805))))]) (st' := [.inl ((i) + (3)), .inr (.inr (some (0))), .inl (a2), .inl (a1), .inr (.inr (some (770)))]) rfl ?_
      have n24 : 0 ≤ qz_N (xc h 2) 0 ∧ qz_N (xc h 2) 0 ≤ 3072 := ez_len hBx t0 tq_34 rfl
      refine ez_aI hBx t0 rfl tq_34 rfl rfl (by omega) (by omega) (fun (b23 : -2147483648 ≤ qz_I (xc h 2) 0 ((i) + (3)).toNat) (b23' : qz_I (xc h 2) 0 ((i) + (3)).toNat ≤ 2147483647) => ?_)
      rw [show qz_I (xc h 2) 0 ((i) + (3)).toNat = qz_I h 0 ((i) + (3)).toNat from sc _, ea3]
      refine ez_go (n := 4) (pc' := 896) (L' := [(5, .inl (2)), (4, .inl (i)), (0, .inr (.inr (some (0)))), (1, .inr (.inr (some (192)))), (2, .inr (.inr (some (770)))), (3, .inr (.inr (some (805))))]) (st' := [.inl ((i) + (4)), .inr (.inr (some (0))), .inl (a3), .inl (a2), .inl (a1), .inr (.inr (some (770)))]) rfl ?_
      have n26 : 0 ≤ qz_N (xc h 2) 0 ∧ qz_N (xc h 2) 0 ≤ 3072 := ez_len hBx t0 tq_34 rfl
      refine ez_aI hBx t0 rfl tq_34 rfl rfl (by omega) (by omega) (fun (b25 : -2147483648 ≤ qz_I (xc h 2) 0 ((i) + (4)).toNat) (b25' : qz_I (xc h 2) 0 ((i) + (4)).toNat ≤ 2147483647) => ?_)
      rw [show qz_I (xc h 2) 0 ((i) + (4)).toNat = qz_I h 0 ((i) + (4)).toNat from sc _]
      refine ez_if rfl rfl ⟨by first | omega | exact (sz_i32 _).1, by first | omega | exact (sz_i32 _).2⟩ (fun (c27 : (qz_I h 0 ((i) + (4)).toNat) = (0)) => ?_) (fun (c27 : ¬((qz_I h 0 ((i) + (4)).toNat) = (0))) => ?_)
      · skip
        refine ez_go (n := 1) (pc' := 905) (L' := [(5, .inl (2)), (4, .inl (i)), (0, .inr (.inr (some (0)))), (1, .inr (.inr (some (192)))), (2, .inr (.inr (some (770)))), (3, .inr (.inr (some (805))))]) (st' := [.inl (0), .inl (a3), .inl (a2), .inl (a1), .inr (.inr (some (770)))]) rfl ?_
        refine ez_cv hBx t770 rfl rfl rfl tq_75 rfl rfl rfl (rd_mnext0 pM pS pX ar1 ar2 ar3 (fun w9 => absurd w9 (by omega)) (fun _ _ g3 b1 b2 => ez_K1 ?_) (fun _ z => absurd n7 z))
        have FN := ref_X hb hn b1 b2.1 b2.2.1
        have b0 := b2.2.2
        refine ez_go (n := 2) (pc' := 1213) (L' := [(6, .inl (0)), (5, .inl (2)), (4, .inl (i)), (0, .inr (.inr (some (0)))), (1, .inr (.inr (some (192)))), (2, .inr (.inr (some (770)))), (3, .inr (.inr (some (805))))]) (st' := []) rfl ?_
        refine ez_less [(4, .inl (i)), (0, .inr (.inr (some (0)))), (1, .inr (.inr (some (192)))), (2, .inr (.inr (some (770)))), (3, .inr (.inr (some (805))))] rfl ⟨rfl, rfl, rfl, rfl, rfl, trivial⟩ ?_
        exact k _ _ FN.1 FN.2
      · skip
        refine ez_go (n := 2) (pc' := 905) (L' := [(5, .inl (2)), (4, .inl (i)), (0, .inr (.inr (some (0)))), (1, .inr (.inr (some (192)))), (2, .inr (.inr (some (770)))), (3, .inr (.inr (some (805))))]) (st' := [.inl (1), .inl (a3), .inl (a2), .inl (a1), .inr (.inr (some (770)))]) rfl ?_
        exfalso; omega
    · exact wX.elim
    · obtain ⟨⟨ok, s0, iv⟩, v2⟩ := wV
      have cA1 := fA.1; have cA2 := fA.2.1
      refine Or.inl ⟨v, τ, gA, rfl, BA, t805, fun hBo => ez_K1 ?_⟩
      have rH : (ow gA v).1 ≤ h.1 + 1 ∧ (ow gA v).2.1 ≤ h.2.1 + 6 := ⟨by show gA.1 ≤ _; omega, by show gA.2.1 ≤ _; omega⟩
      obtain ⟨⟨pM, pN⟩, pS, pX, p7, sc, sn⟩ := tg_pre hX.1 t m w s77 ww x2 hBo (ow_CP hX.1 (pk_cg hX.1) fA)
      have n7 : qz_I (ow gA v) 770 7 ≠ 0 := fun z => s0 (s6.mpr ((p7 7).symm.trans z))
      refine ez_go (n := 6) (pc' := 878) (L' := [(5, .inl (0)), (4, .inl (i)), (0, .inr (.inr (some (0)))), (1, .inr (.inr (some (192)))), (2, .inr (.inr (some (770)))), (3, .inr (.inr (some (805))))]) (st' := [.inl ((i) + (1)), .inr (.inr (some (0))), .inr (.inr (some (770)))]) rfl ?_
      have n29 : 0 ≤ qz_N (ow gA v) 0 ∧ qz_N (ow gA v) 0 ≤ 3072 := ez_len hBo t0 tq_34 rfl
      refine ez_aI hBo t0 rfl tq_34 rfl rfl (by omega) (by omega) (fun (b28 : -2147483648 ≤ qz_I (ow gA v) 0 ((i) + (1)).toNat) (b28' : qz_I (ow gA v) 0 ((i) + (1)).toNat ≤ 2147483647) => ?_)
      rw [show qz_I (ow gA v) 0 ((i) + (1)).toNat = qz_I h 0 ((i) + (1)).toNat from sc _, ea1]
      refine ez_go (n := 4) (pc' := 884) (L' := [(5, .inl (0)), (4, .inl (i)), (0, .inr (.inr (some (0)))), (1, .inr (.inr (some (192)))), (2, .inr (.inr (some (770)))), (3, .inr (.inr (some (805))))]) (st' := [.inl ((i) + (2)), .inr (.inr (some (0))), .inl (a1), .inr (.inr (some (770)))]) rfl ?_
      have n31 : 0 ≤ qz_N (ow gA v) 0 ∧ qz_N (ow gA v) 0 ≤ 3072 := ez_len hBo t0 tq_34 rfl
      refine ez_aI hBo t0 rfl tq_34 rfl rfl (by omega) (by omega) (fun (b30 : -2147483648 ≤ qz_I (ow gA v) 0 ((i) + (2)).toNat) (b30' : qz_I (ow gA v) 0 ((i) + (2)).toNat ≤ 2147483647) => ?_)
      rw [show qz_I (ow gA v) 0 ((i) + (2)).toNat = qz_I h 0 ((i) + (2)).toNat from sc _, ea2]
      refine ez_go (n := 4) (pc' := 890) (L' := [(5, .inl (0)), (4, .inl (i)), (0, .inr (.inr (some (0)))), (1, .inr (.inr (some (192)))), (2, .inr (.inr (some (770)))), (3, .inr (.inr (some (805))))]) (st' := [.inl ((i) + (3)), .inr (.inr (some (0))), .inl (a2), .inl (a1), .inr (.inr (some (770)))]) rfl ?_
      have n33 : 0 ≤ qz_N (ow gA v) 0 ∧ qz_N (ow gA v) 0 ≤ 3072 := ez_len hBo t0 tq_34 rfl
      refine ez_aI hBo t0 rfl tq_34 rfl rfl (by omega) (by omega) (fun (b32 : -2147483648 ≤ qz_I (ow gA v) 0 ((i) + (3)).toNat) (b32' : qz_I (ow gA v) 0 ((i) + (3)).toNat ≤ 2147483647) => ?_)
      rw [show qz_I (ow gA v) 0 ((i) + (3)).toNat = qz_I h 0 ((i) + (3)).toNat from sc _, ea3]
      refine ez_go (n := 4) (pc' := 896) (L' := [(5, .inl (0)), (4, .inl (i)), (0, .inr (.inr (some (0)))), (1, .inr (.inr (some (192)))), (2, .inr (.inr (some (770)))), (3, .inr (.inr (some (805))))]) (st' := [.inl ((i) + (4)), .inr (.inr (some (0))), .inl (a3), .inl (a2), .inl (a1), .inr (.inr (some (770)))]) rfl ?_
      have n35 : 0 ≤ qz_N (ow gA v) 0 ∧ qz_N (ow gA v) 0 ≤ 3072 := ez_len hBo t0 tq_34 rfl
      refine ez_aI hBo t0 rfl tq_34 rfl rfl (by omega) (by omega) (fun (b34 : -2147483648 ≤ qz_I (ow gA v) 0 ((i) + (4)).toNat) (b34' : qz_I (ow gA v) 0 ((i) + (4)).toNat ≤ 2147483647) => ?_)
      rw [show qz_I (ow gA v) 0 ((i) + (4)).toNat = qz_I h 0 ((i) + (4)).toNat from sc _]
      refine ez_if rfl rfl ⟨by first | omega | exact (sz_i32 _).1, by first | omega | exact (sz_i32 _).2⟩ (fun (c36 : (qz_I h 0 ((i) + (4)).toNat) = (0)) => ?_) (fun (c36 : ¬((qz_I h 0 ((i) + (4)).toNat) = (0))) => ?_)
      · skip
        refine ez_go (n := 1) (pc' := 905) (L' := [(5, .inl (0)), (4, .inl (i)), (0, .inr (.inr (some (0)))), (1, .inr (.inr (some (192)))), (2, .inr (.inr (some (770)))), (3, .inr (.inr (some (805))))]) (st' := [.inl (0), .inl (a3), .inl (a2), .inl (a1), .inr (.inr (some (770)))]) rfl ?_
        refine ez_cv hBo t770 rfl rfl rfl tq_75 rfl rfl rfl (rd_mnext0 pM pS pX ar1 ar2 ar3 (fun w9 => absurd w9 (by omega)) (fun _ z => absurd z n7) (fun _ _ v9 iv9 h1 c1 c2 g2 τ2 c3 c4 g3 b1 c5 c6 => ez_K1 ?_))
        have ev := nxf_u iv9 iv
        subst ev
        have u770 : τ2 770 = 75 := c4.X hX.1 770 (by decide)
        have u805 : τ2 805 = 35 := c4.X hX.1 805 (by decide)
        have FN := tg_an hb hn (pk_cg hX.1) fA c2.H c4 c5 c6 c3 b1
        have b0 : qz_I g3 770 0 = 0 := (show qz_I g3 770 0 = qz_I g2 770 0 by unfold qz_I; rw [c5 770 (by rw [u770]; decide)]).trans ((c4.2.2.1 0 (by decide) (by decide) (by decide)).trans c2.2.2)
        refine ez_go (n := 2) (pc' := 1213) (L' := [(6, .inl (v9)), (5, .inl (0)), (4, .inl (i)), (0, .inr (.inr (some (0)))), (1, .inr (.inr (some (192)))), (2, .inr (.inr (some (770)))), (3, .inr (.inr (some (805))))]) (st' := []) rfl ?_
        refine ez_less [(4, .inl (i)), (0, .inr (.inr (some (0)))), (1, .inr (.inr (some (192)))), (2, .inr (.inr (some (770)))), (3, .inr (.inr (some (805))))] rfl ⟨rfl, rfl, rfl, rfl, rfl, trivial⟩ ?_
        exact k _ _ FN.1 FN.2
      · skip
        refine ez_go (n := 2) (pc' := 905) (L' := [(5, .inl (0)), (4, .inl (i)), (0, .inr (.inr (some (0)))), (1, .inr (.inr (some (192)))), (2, .inr (.inr (some (770)))), (3, .inr (.inr (some (805))))]) (st' := [.inl (1), .inl (a3), .inl (a2), .inl (a1), .inr (.inr (some (770)))]) rfl ?_
        exfalso; omega
  · skip
    refine ez_go (n := 3) (pc' := 867) (L' := [(4, .inl (i)), (0, .inr (.inr (some (0)))), (1, .inr (.inr (some (192)))), (2, .inr (.inr (some (770)))), (3, .inr (.inr (some (805))))]) (st' := [.inr (.inr (some (805))), .inl (1), .inl (qz_I h 0 ((i) + (3)).toNat), .inl (qz_I h 0 ((i) + (2)).toNat), .inl (qz_I h 0 ((i) + (1)).toNat), .inr (.inr (some (192)))]) rfl ?_
    obtain ⟨O9, hx9⟩ := ww.2.2.1
    refine ez_cs hB.2.1 rfl rfl rfl rfl rfl (hp_next hB t192 (rd_nextP1 (d := d) hC hx9 sl x1 ⟨by omega, by omega⟩ ⟨by omega, by omega⟩ ⟨by omega, by omega⟩ (by omega) (by omega)) (fun F hF => ?_))
    generalize ea1 : qz_I h 0 ((i) + (1)).toNat = a1 at *
    have ar1 : ez_rg a1 := ⟨by omega, by omega⟩
    generalize ea2 : qz_I h 0 ((i) + (2)).toNat = a2 at *
    have ar2 : ez_rg a2 := ⟨by omega, by omega⟩
    generalize ea3 : qz_I h 0 ((i) + (3)).toNat = a3 at *
    have ar3 : ez_rg a3 := ⟨by omega, by omega⟩
    rcases hF with ⟨wA, rfl⟩ | ⟨wS, rfl⟩ | ⟨wX, gA, rfl, BA, fA⟩ | ⟨v, gA, wV, rfl, BA, fA⟩
    · refine Or.inr (Or.inl ⟨_, _, rfl, xc_exc hB rfl, ez_K1 ?_⟩)
      have hBx : ez_B τ (xc h 1) := xc_B hB (by omega) (by omega)
      have rH : (xc h 1).1 ≤ h.1 + 1 ∧ (xc h 1).2.1 ≤ h.2.1 + 6 := ⟨Nat.le_refl _, Nat.le_refl _⟩
      obtain ⟨⟨pM, pN⟩, pS, pX, p7, sc, sn⟩ := tg_pre hX.1 t m w s77 ww x2 hBx (fun q a _ _ _ _ => xc_t hB a)
      refine ez_go (n := 6) (pc' := 878) (L' := [(5, .inl (1)), (4, .inl (i)), (0, .inr (.inr (some (0)))), (1, .inr (.inr (some (192)))), (2, .inr (.inr (some (770)))), (3, .inr (.inr (some (805))))]) (st' := [.inl ((i) + (1)), .inr (.inr (some (0))), .inr (.inr (some (770)))]) rfl ?_
      have n38 : 0 ≤ qz_N (xc h 1) 0 ∧ qz_N (xc h 1) 0 ≤ 3072 := ez_len hBx t0 tq_34 rfl
      refine ez_aI hBx t0 rfl tq_34 rfl rfl (by omega) (by omega) (fun (b37 : -2147483648 ≤ qz_I (xc h 1) 0 ((i) + (1)).toNat) (b37' : qz_I (xc h 1) 0 ((i) + (1)).toNat ≤ 2147483647) => ?_)
      rw [show qz_I (xc h 1) 0 ((i) + (1)).toNat = qz_I h 0 ((i) + (1)).toNat from sc _, ea1]
      refine ez_go (n := 4) (pc' := 884) (L' := [(5, .inl (1)), (4, .inl (i)), (0, .inr (.inr (some (0)))), (1, .inr (.inr (some (192)))), (2, .inr (.inr (some (770)))), (3, .inr (.inr (some (805))))]) (st' := [.inl ((i) + (2)), .inr (.inr (some (0))), .inl (a1), .inr (.inr (some (770)))]) rfl ?_
      have n40 : 0 ≤ qz_N (xc h 1) 0 ∧ qz_N (xc h 1) 0 ≤ 3072 := ez_len hBx t0 tq_34 rfl
      refine ez_aI hBx t0 rfl tq_34 rfl rfl (by omega) (by omega) (fun (b39 : -2147483648 ≤ qz_I (xc h 1) 0 ((i) + (2)).toNat) (b39' : qz_I (xc h 1) 0 ((i) + (2)).toNat ≤ 2147483647) => ?_)
      rw [show qz_I (xc h 1) 0 ((i) + (2)).toNat = qz_I h 0 ((i) + (2)).toNat from sc _, ea2]
      refine ez_go (n := 4) (pc' := 890) (L' := [(5, .inl (1)), (4, .inl (i)), (0, .inr (.inr (some (0)))), (1, .inr (.inr (some (192)))), (2, .inr (.inr (some (770)))), (3, .inr (.inr (some (805))))]) (st' := [.inl ((i) + (3)), .inr (.inr (some (0))), .inl (a2), .inl (a1), .inr (.inr (some (770)))]) rfl ?_
      have n42 : 0 ≤ qz_N (xc h 1) 0 ∧ qz_N (xc h 1) 0 ≤ 3072 := ez_len hBx t0 tq_34 rfl
      refine ez_aI hBx t0 rfl tq_34 rfl rfl (by omega) (by omega) (fun (b41 : -2147483648 ≤ qz_I (xc h 1) 0 ((i) + (3)).toNat) (b41' : qz_I (xc h 1) 0 ((i) + (3)).toNat ≤ 2147483647) => ?_)
      rw [show qz_I (xc h 1) 0 ((i) + (3)).toNat = qz_I h 0 ((i) + (3)).toNat from sc _, ea3]
      refine ez_go (n := 4) (pc' := 896) (L' := [(5, .inl (1)), (4, .inl (i)), (0, .inr (.inr (some (0)))), (1, .inr (.inr (some (192)))), (2, .inr (.inr (some (770)))), (3, .inr (.inr (some (805))))]) (st' := [.inl ((i) + (4)), .inr (.inr (some (0))), .inl (a3), .inl (a2), .inl (a1), .inr (.inr (some (770)))]) rfl ?_
      have n44 : 0 ≤ qz_N (xc h 1) 0 ∧ qz_N (xc h 1) 0 ≤ 3072 := ez_len hBx t0 tq_34 rfl
      refine ez_aI hBx t0 rfl tq_34 rfl rfl (by omega) (by omega) (fun (b43 : -2147483648 ≤ qz_I (xc h 1) 0 ((i) + (4)).toNat) (b43' : qz_I (xc h 1) 0 ((i) + (4)).toNat ≤ 2147483647) => ?_)
      rw [show qz_I (xc h 1) 0 ((i) + (4)).toNat = qz_I h 0 ((i) + (4)).toNat from sc _]
      refine ez_if rfl rfl ⟨by first | omega | exact (sz_i32 _).1, by first | omega | exact (sz_i32 _).2⟩ (fun (c45 : (qz_I h 0 ((i) + (4)).toNat) = (0)) => ?_) (fun (c45 : ¬((qz_I h 0 ((i) + (4)).toNat) = (0))) => ?_)
      · skip
        refine ez_go (n := 1) (pc' := 905) (L' := [(5, .inl (1)), (4, .inl (i)), (0, .inr (.inr (some (0)))), (1, .inr (.inr (some (192)))), (2, .inr (.inr (some (770)))), (3, .inr (.inr (some (805))))]) (st' := [.inl (0), .inl (a3), .inl (a2), .inl (a1), .inr (.inr (some (770)))]) rfl ?_
        exfalso; omega
      · skip
        refine ez_go (n := 2) (pc' := 905) (L' := [(5, .inl (1)), (4, .inl (i)), (0, .inr (.inr (some (0)))), (1, .inr (.inr (some (192)))), (2, .inr (.inr (some (770)))), (3, .inr (.inr (some (805))))]) (st' := [.inl (1), .inl (a3), .inl (a2), .inl (a1), .inr (.inr (some (770)))]) rfl ?_
        refine ez_cv hBx t770 rfl rfl rfl tq_75 rfl rfl rfl (rd_mnext1 pM pS pX ar1 ar2 ar3 (fun _ g3 b1 b2 => ez_K1 ?_) (fun w9 => absurd w9 (by omega)) (fun w9 => absurd w9 (by omega)))
        have FN := ref_X hb hn b1 b2.1 b2.2.1
        have b0 := b2.2.2
        refine ez_go (n := 2) (pc' := 1213) (L' := [(6, .inl (0)), (5, .inl (1)), (4, .inl (i)), (0, .inr (.inr (some (0)))), (1, .inr (.inr (some (192)))), (2, .inr (.inr (some (770)))), (3, .inr (.inr (some (805))))]) (st' := []) rfl ?_
        refine ez_less [(4, .inl (i)), (0, .inr (.inr (some (0)))), (1, .inr (.inr (some (192)))), (2, .inr (.inr (some (770)))), (3, .inr (.inr (some (805))))] rfl ⟨rfl, rfl, rfl, rfl, rfl, trivial⟩ ?_
        exact k _ _ FN.1 FN.2
    · refine Or.inr (Or.inr (⟨_, _, rfl, xc_exc hB rfl, ez_K1 ?_⟩))
      have hBx : ez_B τ (xc h 2) := xc_B hB (by omega) (by omega)
      have rH : (xc h 2).1 ≤ h.1 + 1 ∧ (xc h 2).2.1 ≤ h.2.1 + 6 := ⟨Nat.le_refl _, Nat.le_refl _⟩
      obtain ⟨⟨pM, pN⟩, pS, pX, p7, sc, sn⟩ := tg_pre hX.1 t m w s77 ww x2 hBx (fun q a _ _ _ _ => xc_t hB a)
      obtain ⟨ok, s0⟩ := wS
      have n7 : qz_I (xc h 2) 770 7 = 0 := (p7 7).trans (s6.mp s0)
      refine ez_go (n := 6) (pc' := 878) (L' := [(5, .inl (2)), (4, .inl (i)), (0, .inr (.inr (some (0)))), (1, .inr (.inr (some (192)))), (2, .inr (.inr (some (770)))), (3, .inr (.inr (some (805))))]) (st' := [.inl ((i) + (1)), .inr (.inr (some (0))), .inr (.inr (some (770)))]) rfl ?_
      have n47 : 0 ≤ qz_N (xc h 2) 0 ∧ qz_N (xc h 2) 0 ≤ 3072 := ez_len hBx t0 tq_34 rfl
      refine ez_aI hBx t0 rfl tq_34 rfl rfl (by omega) (by omega) (fun (b46 : -2147483648 ≤ qz_I (xc h 2) 0 ((i) + (1)).toNat) (b46' : qz_I (xc h 2) 0 ((i) + (1)).toNat ≤ 2147483647) => ?_)
      rw [show qz_I (xc h 2) 0 ((i) + (1)).toNat = qz_I h 0 ((i) + (1)).toNat from sc _, ea1]
      refine ez_go (n := 4) (pc' := 884) (L' := [(5, .inl (2)), (4, .inl (i)), (0, .inr (.inr (some (0)))), (1, .inr (.inr (some (192)))), (2, .inr (.inr (some (770)))), (3, .inr (.inr (some (805))))]) (st' := [.inl ((i) + (2)), .inr (.inr (some (0))), .inl (a1), .inr (.inr (some (770)))]) rfl ?_
      have n49 : 0 ≤ qz_N (xc h 2) 0 ∧ qz_N (xc h 2) 0 ≤ 3072 := ez_len hBx t0 tq_34 rfl
      refine ez_aI hBx t0 rfl tq_34 rfl rfl (by omega) (by omega) (fun (b48 : -2147483648 ≤ qz_I (xc h 2) 0 ((i) + (2)).toNat) (b48' : qz_I (xc h 2) 0 ((i) + (2)).toNat ≤ 2147483647) => ?_)
      rw [show qz_I (xc h 2) 0 ((i) + (2)).toNat = qz_I h 0 ((i) + (2)).toNat from sc _, ea2]
      refine ez_go (n := 4) (pc' := 890) (L' := [(5, .inl (2)), (4, .inl (i)), (0, .inr (.inr (some (0)))), (1, .inr (.inr (some (192)))), (2, .inr (.inr (some (770)))), (3, .inr (.inr (some (805))))]) (st' := [.inl ((i) + (3)), .inr (.inr (some (0))), .inl (a2), .inl (a1), .inr (.inr (some (770)))]) rfl ?_
      have n51 : 0 ≤ qz_N (xc h 2) 0 ∧ qz_N (xc h 2) 0 ≤ 3072 := ez_len hBx t0 tq_34 rfl
      refine ez_aI hBx t0 rfl tq_34 rfl rfl (by omega) (by omega) (fun (b50 : -2147483648 ≤ qz_I (xc h 2) 0 ((i) + (3)).toNat) (b50' : qz_I (xc h 2) 0 ((i) + (3)).toNat ≤ 2147483647) => ?_)
      rw [show qz_I (xc h 2) 0 ((i) + (3)).toNat = qz_I h 0 ((i) + (3)).toNat from sc _, ea3]
      refine ez_go (n := 4) (pc' := 896) (L' := [(5, .inl (2)), (4, .inl (i)), (0, .inr (.inr (some (0)))), (1, .inr (.inr (some (192)))), (2, .inr (.inr (some (770)))), (3, .inr (.inr (some (805))))]) (st' := [.inl ((i) + (4)), .inr (.inr (some (0))), .inl (a3), .inl (a2), .inl (a1), .inr (.inr (some (770)))]) rfl ?_
      have n53 : 0 ≤ qz_N (xc h 2) 0 ∧ qz_N (xc h 2) 0 ≤ 3072 := ez_len hBx t0 tq_34 rfl
      refine ez_aI hBx t0 rfl tq_34 rfl rfl (by omega) (by omega) (fun (b52 : -2147483648 ≤ qz_I (xc h 2) 0 ((i) + (4)).toNat) (b52' : qz_I (xc h 2) 0 ((i) + (4)).toNat ≤ 2147483647) => ?_)
      rw [show qz_I (xc h 2) 0 ((i) + (4)).toNat = qz_I h 0 ((i) + (4)).toNat from sc _]
      refine ez_if rfl rfl ⟨by first | omega | exact (sz_i32 _).1, by first | omega | exact (sz_i32 _).2⟩ (fun (c54 : (qz_I h 0 ((i) + (4)).toNat) = (0)) => ?_) (fun (c54 : ¬((qz_I h 0 ((i) + (4)).toNat) = (0))) => ?_)
      · skip
        refine ez_go (n := 1) (pc' := 905) (L' := [(5, .inl (2)), (4, .inl (i)), (0, .inr (.inr (some (0)))), (1, .inr (.inr (some (192)))), (2, .inr (.inr (some (770)))), (3, .inr (.inr (some (805))))]) (st' := [.inl (0), .inl (a3), .inl (a2), .inl (a1), .inr (.inr (some (770)))]) rfl ?_
        exfalso; omega
      · skip
        refine ez_go (n := 2) (pc' := 905) (L' := [(5, .inl (2)), (4, .inl (i)), (0, .inr (.inr (some (0)))), (1, .inr (.inr (some (192)))), (2, .inr (.inr (some (770)))), (3, .inr (.inr (some (805))))]) (st' := [.inl (1), .inl (a3), .inl (a2), .inl (a1), .inr (.inr (some (770)))]) rfl ?_
        refine ez_cv hBx t770 rfl rfl rfl tq_75 rfl rfl rfl (rd_mnext1 pM pS pX ar1 ar2 ar3 (fun w9 => absurd w9 (by omega)) (fun _ _ g3 b1 b2 => ez_K1 ?_) (fun _ z => absurd n7 z))
        have FN := ref_X hb hn b1 b2.1 b2.2.1
        have b0 := b2.2.2
        refine ez_go (n := 2) (pc' := 1213) (L' := [(6, .inl (0)), (5, .inl (2)), (4, .inl (i)), (0, .inr (.inr (some (0)))), (1, .inr (.inr (some (192)))), (2, .inr (.inr (some (770)))), (3, .inr (.inr (some (805))))]) (st' := []) rfl ?_
        refine ez_less [(4, .inl (i)), (0, .inr (.inr (some (0)))), (1, .inr (.inr (some (192)))), (2, .inr (.inr (some (770)))), (3, .inr (.inr (some (805))))] rfl ⟨rfl, rfl, rfl, rfl, rfl, trivial⟩ ?_
        exact k _ _ FN.1 FN.2
    · exact wX.elim
    · obtain ⟨⟨ok, s0, iv⟩, v2⟩ := wV
      have cA1 := fA.1; have cA2 := fA.2.1
      refine Or.inl ⟨v, τ, gA, rfl, BA, t805, fun hBo => ez_K1 ?_⟩
      have rH : (ow gA v).1 ≤ h.1 + 1 ∧ (ow gA v).2.1 ≤ h.2.1 + 6 := ⟨by show gA.1 ≤ _; omega, by show gA.2.1 ≤ _; omega⟩
      obtain ⟨⟨pM, pN⟩, pS, pX, p7, sc, sn⟩ := tg_pre hX.1 t m w s77 ww x2 hBo (ow_CP hX.1 (pk_cg hX.1) fA)
      have n7 : qz_I (ow gA v) 770 7 ≠ 0 := fun z => s0 (s6.mpr ((p7 7).symm.trans z))
      refine ez_go (n := 6) (pc' := 878) (L' := [(5, .inl (0)), (4, .inl (i)), (0, .inr (.inr (some (0)))), (1, .inr (.inr (some (192)))), (2, .inr (.inr (some (770)))), (3, .inr (.inr (some (805))))]) (st' := [.inl ((i) + (1)), .inr (.inr (some (0))), .inr (.inr (some (770)))]) rfl ?_
      have n56 : 0 ≤ qz_N (ow gA v) 0 ∧ qz_N (ow gA v) 0 ≤ 3072 := ez_len hBo t0 tq_34 rfl
      refine ez_aI hBo t0 rfl tq_34 rfl rfl (by omega) (by omega) (fun (b55 : -2147483648 ≤ qz_I (ow gA v) 0 ((i) + (1)).toNat) (b55' : qz_I (ow gA v) 0 ((i) + (1)).toNat ≤ 2147483647) => ?_)
      rw [show qz_I (ow gA v) 0 ((i) + (1)).toNat = qz_I h 0 ((i) + (1)).toNat from sc _, ea1]
      refine ez_go (n := 4) (pc' := 884) (L' := [(5, .inl (0)), (4, .inl (i)), (0, .inr (.inr (some (0)))), (1, .inr (.inr (some (192)))), (2, .inr (.inr (some (770)))), (3, .inr (.inr (some (805))))]) (st' := [.inl ((i) + (2)), .inr (.inr (some (0))), .inl (a1), .inr (.inr (some (770)))]) rfl ?_
      have n58 : 0 ≤ qz_N (ow gA v) 0 ∧ qz_N (ow gA v) 0 ≤ 3072 := ez_len hBo t0 tq_34 rfl
      refine ez_aI hBo t0 rfl tq_34 rfl rfl (by omega) (by omega) (fun (b57 : -2147483648 ≤ qz_I (ow gA v) 0 ((i) + (2)).toNat) (b57' : qz_I (ow gA v) 0 ((i) + (2)).toNat ≤ 2147483647) => ?_)
      rw [show qz_I (ow gA v) 0 ((i) + (2)).toNat = qz_I h 0 ((i) + (2)).toNat from sc _, ea2]
      refine ez_go (n := 4) (pc' := 890) (L' := [(5, .inl (0)), (4, .inl (i)), (0, .inr (.inr (some (0)))), (1, .inr (.inr (some (192)))), (2, .inr (.inr (some (770)))), (3, .inr (.inr (some (805))))]) (st' := [.inl ((i) + (3)), .inr (.inr (some (0))), .inl (a2), .inl (a1), .inr (.inr (some (770)))]) rfl ?_
      have n60 : 0 ≤ qz_N (ow gA v) 0 ∧ qz_N (ow gA v) 0 ≤ 3072 := ez_len hBo t0 tq_34 rfl
      refine ez_aI hBo t0 rfl tq_34 rfl rfl (by omega) (by omega) (fun (b59 : -2147483648 ≤ qz_I (ow gA v) 0 ((i) + (3)).toNat) (b59' : qz_I (ow gA v) 0 ((i) + (3)).toNat ≤ 2147483647) => ?_)
      rw [show qz_I (ow gA v) 0 ((i) + (3)).toNat = qz_I h 0 ((i) + (3)).toNat from sc _, ea3]
      refine ez_go (n := 4) (pc' := 896) (L' := [(5, .inl (0)), (4, .inl (i)), (0, .inr (.inr (some (0)))), (1, .inr (.inr (some (192)))), (2, .inr (.inr (some (770)))), (3, .inr (.inr (some (805))))]) (st' := [.inl ((i) + (4)), .inr (.inr (some (0))), .inl (a3), .inl (a2), .inl (a1), .inr (.inr (some (770)))]) rfl ?_
      have n62 : 0 ≤ qz_N (ow gA v) 0 ∧ qz_N (ow gA v) 0 ≤ 3072 := ez_len hBo t0 tq_34 rfl
      refine ez_aI hBo t0 rfl tq_34 rfl rfl (by omega) (by omega) (fun (b61 : -2147483648 ≤ qz_I (ow gA v) 0 ((i) + (4)).toNat) (b61' : qz_I (ow gA v) 0 ((i) + (4)).toNat ≤ 2147483647) => ?_)
      rw [show qz_I (ow gA v) 0 ((i) + (4)).toNat = qz_I h 0 ((i) + (4)).toNat from sc _]
      refine ez_if rfl rfl ⟨by first | omega | exact (sz_i32 _).1, by first | omega | exact (sz_i32 _).2⟩ (fun (c63 : (qz_I h 0 ((i) + (4)).toNat) = (0)) => ?_) (fun (c63 : ¬((qz_I h 0 ((i) + (4)).toNat) = (0))) => ?_)
      · skip
        refine ez_go (n := 1) (pc' := 905) (L' := [(5, .inl (0)), (4, .inl (i)), (0, .inr (.inr (some (0)))), (1, .inr (.inr (some (192)))), (2, .inr (.inr (some (770)))), (3, .inr (.inr (some (805))))]) (st' := [.inl (0), .inl (a3), .inl (a2), .inl (a1), .inr (.inr (some (770)))]) rfl ?_
        exfalso; omega
      · skip
        refine ez_go (n := 2) (pc' := 905) (L' := [(5, .inl (0)), (4, .inl (i)), (0, .inr (.inr (some (0)))), (1, .inr (.inr (some (192)))), (2, .inr (.inr (some (770)))), (3, .inr (.inr (some (805))))]) (st' := [.inl (1), .inl (a3), .inl (a2), .inl (a1), .inr (.inr (some (770)))]) rfl ?_
        refine ez_cv hBo t770 rfl rfl rfl tq_75 rfl rfl rfl (rd_mnext1 pM pS pX ar1 ar2 ar3 (fun w9 => absurd w9 (by omega)) (fun _ z => absurd z n7) (fun _ _ v9 iv9 h1 c1 c2 g2 τ2 c3 c4 g3 b1 c5 c6 => ez_K1 ?_))
        have ev := nxb_u iv9 iv
        subst ev
        have u770 : τ2 770 = 75 := c4.X hX.1 770 (by decide)
        have u805 : τ2 805 = 35 := c4.X hX.1 805 (by decide)
        have FN := tg_an hb hn (pk_cg hX.1) fA c2.H c4 c5 c6 c3 b1
        have b0 : qz_I g3 770 0 = 0 := (show qz_I g3 770 0 = qz_I g2 770 0 by unfold qz_I; rw [c5 770 (by rw [u770]; decide)]).trans ((c4.2.2.1 0 (by decide) (by decide) (by decide)).trans c2.2.2)
        refine ez_go (n := 2) (pc' := 1213) (L' := [(6, .inl (v9)), (5, .inl (0)), (4, .inl (i)), (0, .inr (.inr (some (0)))), (1, .inr (.inr (some (192)))), (2, .inr (.inr (some (770)))), (3, .inr (.inr (some (805))))]) (st' := []) rfl ?_
        refine ez_less [(4, .inl (i)), (0, .inr (.inr (some (0)))), (1, .inr (.inr (some (192)))), (2, .inr (.inr (some (770)))), (3, .inr (.inr (some (805))))] rfl ⟨rfl, rfl, rfl, rfl, rfl, trivial⟩ ?_
        exact k _ _ FN.1 FN.2

end EzAk
