/-! The reader of the class, functionally, III: fields. (Written by wip/p2/py/pv4.py.) -/
/-- from the end back over blanks: at most n -/
def rz_back (b : Int → Int) : Nat → Int → Int
  | 0, e => e
  | n + 1, e => if b (e - 1) = 9 ∨ b (e - 1) = 32 then rz_back b n (e - 1) else e
theorem rz_back_le (b : Int → Int) : ∀ n e, e - n ≤ rz_back b n e ∧ rz_back b n e ≤ e
  | 0, e => ⟨by show e - 0 ≤ e; omega, Int.le_refl e⟩
  | n + 1, e => by
    unfold rz_back
    split
    · have := rz_back_le b n (e - 1); omega
    · omega
/-- a piece without the blanks around it -/
def rz_tl (b : Int → Int) (p : Int × Int) : Int := rz_skip b (p.2 - p.1).toNat p.1
def rz_tr (b : Int → Int) (p : Int × Int) : Int := rz_back b (p.2 - rz_tl b p).toNat p.2
/-- the pieces between semicolons: n bytes from i on, the piece began at s -/
def rz_seg (b : Int → Int) : Nat → Int → Int → List (Int × Int)
  | 0, i, s => [(s, i)]
  | n + 1, i, s => if b i = 59 then (s, i) :: rz_seg b n (i + 1) (i + 1) else rz_seg b n (i + 1) s
theorem rz_seg_pos (b : Int → Int) : ∀ n i s, 1 ≤ (rz_seg b n i s).length
  | 0, i, s => Nat.le_refl 1
  | n + 1, i, s => by
    unfold rz_seg
    split
    · exact Nat.succ_le_succ (Nat.zero_le _)
    · exact rz_seg_pos b n _ _
/-- other places are as they were -/
def ez_fr (P : Nat → Bool) (h h' : cz_H) : Prop := h'.1 = h.1 ∧ h'.2.1 = h.2.1 ∧ ∀ q, P q = false → h'.2.2 q = h.2.2 q
theorem ez_fr.refl (P : Nat → Bool) (h : cz_H) : ez_fr P h h := ⟨rfl, rfl, fun _ _ => rfl⟩
theorem ez_fr.put {P : Nat → Bool} {h h1 : cz_H} (hf : ez_fr P h h1) {r : Nat} (hr : P r = true) (i : Nat) (v : cz_V) : ez_fr P h (dz_put h1 r i v) := by
  refine ⟨hf.1, hf.2.1, fun q hq => ?_⟩
  rw [dz_put_at, if_neg (fun e => by rw [e, hr] at hq; cases hq)]
  exact hf.2.2 q hq
theorem ez_fr.trans {P : Nat → Bool} {h h1 h2 : cz_H} (a : ez_fr P h h1) (b : ez_fr P h1 h2) : ez_fr P h h2 := ⟨b.1.trans a.1, b.2.1.trans a.2.1, fun q hq => (b.2.2 q hq).trans (a.2.2 q hq)⟩
theorem ez_fr.I {P : Nat → Bool} {h h' : cz_H} (hf : ez_fr P h h') {q : Nat} (hq : P q = false) (j : Nat) : qz_I h' q j = qz_I h q j := by unfold qz_I; rw [hf.2.2 q hq]
theorem ez_fr.N {P : Nat → Bool} {h h' : cz_H} (hf : ez_fr P h h') {q : Nat} (hq : P q = false) : qz_N h' q = qz_N h q := by unfold qz_N; rw [hf.2.2 q hq]
def rz_ft (q : Nat) : Bool := Nat.beq q 721 || Nat.beq q 722
theorem rz_b_fr {P : Nat → Bool} {h h' : cz_H} (hf : ez_fr P h h') (hp : P 193 = false) : rz_b h' = rz_b h := funext fun i => hf.I hp _
section EzRd4
variable {d : Nat} {h : cz_H} {τ : Nat → Nat} {Q : cz_F → Prop}
theorem rd_trim_l {f s low stop : Int} (hB : ez_B τ h) (t720 : τ 720 = 52) (t721 : τ 721 = 53) (t722 : τ 722 = 54) (f0 : 0 ≤ f) (f1 : f < 7) (h0 : 0 ≤ low) (h1 : stop ≤ 4096) : ∀ (n : Nat) (e : Int), low ≤ e → e ≤ stop → n = (e - low).toNat → (∀ g, ez_B τ g → ez_fr rz_ft h g → (∀ k : Int, 0 ≤ k → k ≠ f → rz_f g k = rz_f h k ∧ rz_t g k = rz_t h k) → rz_f g f = low → rz_t g f = rz_back (rz_b h) n e → Q (.inl none, g)) → ez_W (d + 1) cm_180 11 [(5, .inl (e)), (4, .inl (low)), (0, .inr (.inr (some (720)))), (1, .inl (f)), (2, .inl (s)), (3, .inl (stop))] [] h Q := by
  intro n
  induction n with
  | zero =>
    intro e he1 he2 hn k
    unfold rz_back at k
    refine ez_go (n := 2) (pc' := 15) (L' := [(5, .inl (e)), (4, .inl (low)), (0, .inr (.inr (some (720)))), (1, .inl (f)), (2, .inl (s)), (3, .inl (stop))]) (st' := [.inl (low), .inl (e)]) rfl ?_
    refine ez_icmp rfl rfl ⟨by omega, by omega⟩ ⟨by omega, by omega⟩ (fun (c1 : (e) ≤ (low)) => ?_) (fun (c1 : ¬((e) ≤ (low))) => ?_)
    · skip
      refine ez_go (n := 1) (pc' := 36) (L' := [(5, .inl (e)), (4, .inl (low)), (0, .inr (.inr (some (720)))), (1, .inl (f)), (2, .inl (s)), (3, .inl (stop))]) (st' := [.inr (.inr (some (720)))]) rfl ?_
      refine ez_gC (p := 721) (tg := 53) hB t720 rfl rfl tq_52 rfl rfl (fun (t721 : _ = 53) => ?_)
      refine ez_go (n := 2) (pc' := 42) (L' := [(5, .inl (e)), (4, .inl (low)), (0, .inr (.inr (some (720)))), (1, .inl (f)), (2, .inl (s)), (3, .inl (stop))]) (st' := [.inl (low), .inl (f), .inr (.inr (some (721)))]) rfl ?_
      have n4 : 7 ≤ qz_N h 721 ∧ qz_N h 721 ≤ 7 := ez_len hB t721 tq_53 rfl
      refine ez_as hB t721 rfl tq_53 rfl rfl (by omega) (by omega) (ez_vdI rfl rfl (by omega) (by omega)) (fun hB2 w3 => ?_)
      refine ez_go (n := 1) (pc' := 44) (L' := [(5, .inl (e)), (4, .inl (low)), (0, .inr (.inr (some (720)))), (1, .inl (f)), (2, .inl (s)), (3, .inl (stop))]) (st' := [.inr (.inr (some (720)))]) rfl ?_
      refine ez_gC (p := 722) (tg := 54) hB2 t720 rfl rfl tq_52 rfl rfl (fun (t722 : _ = 54) => ?_)
      refine ez_go (n := 2) (pc' := 50) (L' := [(5, .inl (e)), (4, .inl (low)), (0, .inr (.inr (some (720)))), (1, .inl (f)), (2, .inl (s)), (3, .inl (stop))]) (st' := [.inl (e), .inl (f), .inr (.inr (some (722)))]) rfl ?_
      have n7 : 7 ≤ qz_N (dz_put h 721 (f).toNat (ez_v (.inl (low)))) 722 ∧ qz_N (dz_put h 721 (f).toNat (ez_v (.inl (low)))) 722 ≤ 7 := ez_len hB2 t722 tq_54 rfl
      refine ez_as hB2 t722 rfl tq_54 rfl rfl (by omega) (by omega) (ez_vdI rfl rfl (by omega) (by omega)) (fun hB5 w6 => ?_)
      refine ez_ret0 rfl rfl (k _ hB5 ((ez_fr.refl rz_ft h).put rfl _ _ |>.put rfl _ _) (fun j j0 j1 => ⟨?_, ?_⟩) ?_ ?_)
      · unfold rz_f; rw [ez_put_I (by omega), ez_put_I (by omega)]
      · unfold rz_t; rw [ez_put_I (by omega), ez_put_I (by omega)]
      · unfold rz_f; rw [ez_put_I (by omega), w3]; exact (show ez_rg low from ⟨by omega, by omega⟩).v
      · unfold rz_t; rw [w6]; exact (show ez_rg e from ⟨by omega, by omega⟩).v
    · skip
      refine ez_go (n := 4) (pc' := 23) (L' := [(5, .inl (e)), (4, .inl (low)), (0, .inr (.inr (some (720)))), (1, .inl (f)), (2, .inl (s)), (3, .inl (stop))]) (st' := [.inl ((e) - (1)), .inr (.inr (some (720)))]) rfl ?_
      exfalso; omega
  | succ n ih =>
    intro e he1 he2 hn k
    unfold rz_back at k
    refine ez_go (n := 2) (pc' := 15) (L' := [(5, .inl (e)), (4, .inl (low)), (0, .inr (.inr (some (720)))), (1, .inl (f)), (2, .inl (s)), (3, .inl (stop))]) (st' := [.inl (low), .inl (e)]) rfl ?_
    refine ez_icmp rfl rfl ⟨by omega, by omega⟩ ⟨by omega, by omega⟩ (fun (c1 : (e) ≤ (low)) => ?_) (fun (c1 : ¬((e) ≤ (low))) => ?_)
    · exfalso; omega
    · skip
      refine ez_go (n := 4) (pc' := 23) (L' := [(5, .inl (e)), (4, .inl (low)), (0, .inr (.inr (some (720)))), (1, .inl (f)), (2, .inl (s)), (3, .inl (stop))]) (st' := [.inl ((e) - (1)), .inr (.inr (some (720)))]) rfl ?_
      refine ez_cv hB t720 rfl rfl rfl tq_52 rfl rfl rfl (rd_isBlank hB t720 (by omega) (by omega) (fun (e2 : rz_bl h ((e) - (1))) => ez_K1 ?_) (fun (e2 : ¬ rz_bl h ((e) - (1))) => ez_K1 ?_))
      · skip
        rw [if_pos (show (rz_b h (e - 1) = 9 ∨ rz_b h (e - 1) = 32) from e2)] at k
        refine ez_if rfl rfl ⟨by decide, by decide⟩ (fun (c3 : (1 : Int) = (0)) => absurd c3 (by decide)) (fun _ => ?_)
        refine ez_go (n := 2) (pc' := 11) (L' := [(5, .inl (e + (-1))), (4, .inl (low)), (0, .inr (.inr (some (720)))), (1, .inl (f)), (2, .inl (s)), (3, .inl (stop))]) (st' := []) rfl ?_
        refine ez_less [(5, .inl (e + (-1))), (4, .inl (low)), (0, .inr (.inr (some (720)))), (1, .inl (f)), (2, .inl (s)), (3, .inl (stop))] rfl ⟨rfl, rfl, rfl, rfl, rfl, rfl, trivial⟩ ?_
        exact ih _ (by omega) (by omega) (by omega) k
      · skip
        rw [if_neg (show ¬(rz_b h (e - 1) = 9 ∨ rz_b h (e - 1) = 32) from e2)] at k
        refine ez_if rfl rfl ⟨by decide, by decide⟩ (fun _ => ?_) (fun (c4 : ¬((0 : Int) = (0))) => absurd c4 (by decide))
        refine ez_go (n := 1) (pc' := 36) (L' := [(5, .inl (e)), (4, .inl (low)), (0, .inr (.inr (some (720)))), (1, .inl (f)), (2, .inl (s)), (3, .inl (stop))]) (st' := [.inr (.inr (some (720)))]) rfl ?_
        refine ez_gC (p := 721) (tg := 53) hB t720 rfl rfl tq_52 rfl rfl (fun (t721 : _ = 53) => ?_)
        refine ez_go (n := 2) (pc' := 42) (L' := [(5, .inl (e)), (4, .inl (low)), (0, .inr (.inr (some (720)))), (1, .inl (f)), (2, .inl (s)), (3, .inl (stop))]) (st' := [.inl (low), .inl (f), .inr (.inr (some (721)))]) rfl ?_
        have n7 : 7 ≤ qz_N h 721 ∧ qz_N h 721 ≤ 7 := ez_len hB t721 tq_53 rfl
        refine ez_as hB t721 rfl tq_53 rfl rfl (by omega) (by omega) (ez_vdI rfl rfl (by omega) (by omega)) (fun hB5 w6 => ?_)
        refine ez_go (n := 1) (pc' := 44) (L' := [(5, .inl (e)), (4, .inl (low)), (0, .inr (.inr (some (720)))), (1, .inl (f)), (2, .inl (s)), (3, .inl (stop))]) (st' := [.inr (.inr (some (720)))]) rfl ?_
        refine ez_gC (p := 722) (tg := 54) hB5 t720 rfl rfl tq_52 rfl rfl (fun (t722 : _ = 54) => ?_)
        refine ez_go (n := 2) (pc' := 50) (L' := [(5, .inl (e)), (4, .inl (low)), (0, .inr (.inr (some (720)))), (1, .inl (f)), (2, .inl (s)), (3, .inl (stop))]) (st' := [.inl (e), .inl (f), .inr (.inr (some (722)))]) rfl ?_
        have n10 : 7 ≤ qz_N (dz_put h 721 (f).toNat (ez_v (.inl (low)))) 722 ∧ qz_N (dz_put h 721 (f).toNat (ez_v (.inl (low)))) 722 ≤ 7 := ez_len hB5 t722 tq_54 rfl
        refine ez_as hB5 t722 rfl tq_54 rfl rfl (by omega) (by omega) (ez_vdI rfl rfl (by omega) (by omega)) (fun hB8 w9 => ?_)
        refine ez_ret0 rfl rfl (k _ hB8 ((ez_fr.refl rz_ft h).put rfl _ _ |>.put rfl _ _) (fun j j0 j1 => ⟨?_, ?_⟩) ?_ ?_)
        · unfold rz_f; rw [ez_put_I (by omega), ez_put_I (by omega)]
        · unfold rz_t; rw [ez_put_I (by omega), ez_put_I (by omega)]
        · unfold rz_f; rw [ez_put_I (by omega), w6]; exact (show ez_rg low from ⟨by omega, by omega⟩).v
        · unfold rz_t; rw [w9]; exact (show ez_rg e from ⟨by omega, by omega⟩).v
theorem rd_trim {f s stop : Int} (hB : ez_B τ h) (t720 : τ 720 = 52) (t721 : τ 721 = 53) (t722 : τ 722 = 54) (f0 : 0 ≤ f) (f1 : f < 7) (h0 : 0 ≤ s) (hs : s ≤ stop) (h1 : stop ≤ 4096) (k : ∀ g, ez_B τ g → ez_fr rz_ft h g → (∀ k : Int, 0 ≤ k → k ≠ f → rz_f g k = rz_f h k ∧ rz_t g k = rz_t h k) → rz_f g f = rz_tl (rz_b h) (s, stop) → rz_t g f = rz_tr (rz_b h) (s, stop) → Q (.inl none, g)) : ez_W (d + 2) cm_180 0 [(0, .inr (.inr (some (720)))), (1, .inl (f)), (2, .inl (s)), (3, .inl (stop))] [] h Q := by
  refine ez_go (n := 3) (pc' := 3) (L' := [(0, .inr (.inr (some (720)))), (1, .inl (f)), (2, .inl (s)), (3, .inl (stop))]) (st' := [.inl (stop), .inl (s), .inr (.inr (some (720)))]) rfl ?_
  refine ez_cv hB t720 rfl rfl rfl tq_52 rfl rfl rfl (rd_skipBlanks hB t720 (by omega) (by omega) (by omega) (ez_K1 ?_))
  have x1 := rz_skip_le (rz_b h) ((stop) - (s)).toNat (s)
  refine ez_go (n := 3) (pc' := 11) (L' := [(5, .inl (stop)), (4, .inl (rz_skip (rz_b h) ((stop) - (s)).toNat (s))), (0, .inr (.inr (some (720)))), (1, .inl (f)), (2, .inl (s)), (3, .inl (stop))]) (st' := []) rfl ?_
  exact rd_trim_l hB t720 t721 t722 f0 f1 (by omega) h1 _ _ (by omega) (by omega) rfl k

/-- the fields as split leaves them -/
def rz_flds (b : Int → Int) (h : cz_H) (A : List (Int × Int)) : Prop := ∀ (k : Nat) (p : Int × Int), A[k]? = some p → rz_f h k = rz_tl b p ∧ rz_t h k = rz_tr b p
theorem rz_flds_app {b : Int → Int} {h g : cz_H} {A : List (Int × Int)} {p : Int × Int} (hA : rz_flds b h A) (hk : ∀ k : Int, 0 ≤ k → k ≠ (A.length : Int) → rz_f g k = rz_f h k ∧ rz_t g k = rz_t h k) (h1 : rz_f g (A.length : Int) = rz_tl b p) (h2 : rz_t g (A.length : Int) = rz_tr b p) : rz_flds b g (A ++ [p]) := by
  intro k q hq
  by_cases e : k < A.length
  · rw [List.getElem?_append_left e] at hq
    obtain ⟨a1, a2⟩ := hk (k : Int) (by omega) (by omega)
    rw [a1, a2]
    exact hA k q hq
  · have hl := (List.getElem?_eq_some_iff.mp hq).1
    rw [List.length_append] at hl
    have e : k = A.length := by simp at hl; omega
    subst e
    rw [List.getElem?_append_right (Nat.le_refl _), Nat.sub_self] at hq
    cases hq
    exact ⟨h1, h2⟩
theorem rd_split_e {n w stop i s f : Int} {g : cz_H} (t720 : τ 720 = 52) (w0 : 0 ≤ w) (w1 : w ≤ 7) (s0 : 0 ≤ stop) (s1 : stop ≤ 4096) (hi : i = stop + 1) (k0 : ∀ g, ez_B τ g → ez_fr rz_ft h g → (rz_seg (rz_b h) stop.toNat 0 0).length ≠ w.toNat → Q (.inl (some (ez_v (.inl 0))), g)) (k1 : ∀ g, ez_B τ g → ez_fr rz_ft h g → (rz_seg (rz_b h) stop.toNat 0 0).length = w.toNat → rz_flds (rz_b h) g (rz_seg (rz_b h) stop.toNat 0 0) → Q (.inl (some (ez_v (.inl 1))), g)) (hB : ez_B τ g) (hf : ez_fr rz_ft h g) (hA : f = ((rz_seg (rz_b h) stop.toNat 0 0).length : Int)) (hfl : rz_flds (rz_b h) g (rz_seg (rz_b h) stop.toNat 0 0)) (hfb : f ≤ 100) : ez_W (d + 3) cm_172 25 [(6, .inl (i)), (5, .inl (s)), (4, .inl (f)), (3, .inl (stop)), (0, .inr (.inr (some (720)))), (1, .inl (n)), (2, .inl (w))] [] g Q := by
  refine ez_go (n := 2) (pc' := 28) (L' := [(6, .inl (i)), (5, .inl (s)), (4, .inl (f)), (3, .inl (stop)), (0, .inr (.inr (some (720)))), (1, .inl (n)), (2, .inl (w))]) (st' := [.inl (stop), .inl (i)]) rfl ?_
  refine ez_icmp rfl rfl ⟨by omega, by omega⟩ ⟨by omega, by omega⟩ (fun (c1 : (stop) < (i)) => ?_) (fun (c1 : ¬((stop) < (i))) => ?_)
  · skip
    refine ez_go (n := 2) (pc' := 85) (L' := [(6, .inl (i)), (5, .inl (s)), (4, .inl (f)), (3, .inl (stop)), (0, .inr (.inr (some (720)))), (1, .inl (n)), (2, .inl (w))]) (st' := [.inl (w), .inl (f)]) rfl ?_
    refine ez_icmp rfl rfl ⟨by omega, by omega⟩ ⟨by omega, by omega⟩ (fun (c2 : (f) ≠ (w)) => ?_) (fun (c2 : ¬((f) ≠ (w))) => ?_)
    · skip
      refine ez_go (n := 1) (pc' := 93) (L' := [(6, .inl (i)), (5, .inl (s)), (4, .inl (f)), (3, .inl (stop)), (0, .inr (.inr (some (720)))), (1, .inl (n)), (2, .inl (w))]) (st' := [.inl (0)]) rfl ?_
      exact ez_retZ rfl rfl (by decide) (k0 g hB hf (by omega))
    · skip
      refine ez_go (n := 2) (pc' := 93) (L' := [(6, .inl (i)), (5, .inl (s)), (4, .inl (f)), (3, .inl (stop)), (0, .inr (.inr (some (720)))), (1, .inl (n)), (2, .inl (w))]) (st' := [.inl (1)]) rfl ?_
      exact ez_retZ rfl rfl (by decide) (k1 g hB hf (by omega) hfl)
  · exfalso; omega

theorem rd_split_l {n w stop : Int} (t720 : τ 720 = 52) (t721 : τ 721 = 53) (t722 : τ 722 = 54) (w0 : 0 ≤ w) (w1 : w ≤ 7) (s0 : 0 ≤ stop) (s1 : stop ≤ 4096) (k0 : ∀ g, ez_B τ g → ez_fr rz_ft h g → (rz_seg (rz_b h) stop.toNat 0 0).length ≠ w.toNat → Q (.inl (some (ez_v (.inl 0))), g)) (k1 : ∀ g, ez_B τ g → ez_fr rz_ft h g → (rz_seg (rz_b h) stop.toNat 0 0).length = w.toNat → rz_flds (rz_b h) g (rz_seg (rz_b h) stop.toNat 0 0) → Q (.inl (some (ez_v (.inl 1))), g)) : ∀ (m : Nat) (i s f : Int) (g : cz_H) (A : List (Int × Int)), 0 ≤ s → s ≤ i → i ≤ stop → m = (stop - i).toNat → ez_B τ g → ez_fr rz_ft h g → f = (A.length : Int) → f ≤ w → rz_seg (rz_b h) stop.toNat 0 0 = A ++ rz_seg (rz_b h) m i s → rz_flds (rz_b h) g A → ez_W (d + 3) cm_172 25 [(6, .inl (i)), (5, .inl (s)), (4, .inl (f)), (3, .inl (stop)), (0, .inr (.inr (some (720)))), (1, .inl (n)), (2, .inl (w))] [] g Q := by
  intro m
  induction m with
  | zero =>
    intro i s f g A a1 a2 a3 hm hB hf hA hw hseg hfl
    have hbg : rz_b g = rz_b h := rz_b_fr hf rfl
    have hseg : rz_seg (rz_b h) stop.toNat 0 0 = A ++ [(s, i)] := hseg
    refine ez_go (n := 2) (pc' := 28) (L' := [(6, .inl (i)), (5, .inl (s)), (4, .inl (f)), (3, .inl (stop)), (0, .inr (.inr (some (720)))), (1, .inl (n)), (2, .inl (w))]) (st' := [.inl (stop), .inl (i)]) rfl ?_
    refine ez_icmp rfl rfl ⟨by omega, by omega⟩ ⟨by omega, by omega⟩ (fun (c1 : (stop) < (i)) => ?_) (fun (c1 : ¬((stop) < (i))) => ?_)
    · exfalso; omega
    · skip
      refine ez_go (n := 2) (pc' := 34) (L' := [(6, .inl (i)), (5, .inl (s)), (4, .inl (f)), (3, .inl (stop)), (0, .inr (.inr (some (720)))), (1, .inl (n)), (2, .inl (w))]) (st' := [.inl (stop), .inl (i)]) rfl ?_
      refine ez_icmp rfl rfl ⟨by omega, by omega⟩ ⟨by omega, by omega⟩ (fun (c2 : (i) = (stop)) => ?_) (fun (c2 : ¬((i) = (stop))) => ?_)
      · skip
        refine ez_go (n := 2) (pc' := 52) (L' := [(6, .inl (i)), (5, .inl (s)), (4, .inl (f)), (3, .inl (stop)), (0, .inr (.inr (some (720)))), (1, .inl (n)), (2, .inl (w))]) (st' := [.inl (w), .inl (f)]) rfl ?_
        refine ez_icmp rfl rfl ⟨by omega, by omega⟩ ⟨by omega, by omega⟩ (fun (c3 : (f) < (w)) => ?_) (fun (c3 : ¬((f) < (w))) => ?_)
        · skip
          refine ez_go (n := 4) (pc' := 64) (L' := [(6, .inl (i)), (5, .inl (s)), (4, .inl (f)), (3, .inl (stop)), (0, .inr (.inr (some (720)))), (1, .inl (n)), (2, .inl (w))]) (st' := [.inl (i), .inl (s), .inl (f), .inr (.inr (some (720)))]) rfl ?_
          refine ez_cv hB t720 rfl rfl rfl tq_52 rfl rfl rfl (rd_trim hB t720 t721 t722 (by omega) (by omega) (by omega) (by omega) (by omega) (fun g2 hB2 hf2 hk2 hx hy => ez_K0 ?_))
          rw [hbg] at hx hy
          have hfl2 : rz_flds (rz_b h) g2 (A ++ [(s, i)]) := rz_flds_app hfl (fun k e1 e2 => hk2 k e1 (by omega)) (by rw [← hA]; exact hx) (by rw [← hA]; exact hy)
          refine ez_go (n := 7) (pc' := 25) (L' := [(6, .inl (i + 1)), (5, .inl ((i) + (1))), (4, .inl (f + 1)), (3, .inl (stop)), (0, .inr (.inr (some (720)))), (1, .inl (n)), (2, .inl (w))]) (st' := []) rfl ?_
          refine ez_less [(6, .inl (i + 1)), (5, .inl ((i) + (1))), (4, .inl (f + 1)), (3, .inl (stop)), (0, .inr (.inr (some (720)))), (1, .inl (n)), (2, .inl (w))] rfl ⟨rfl, rfl, rfl, rfl, rfl, rfl, rfl, trivial⟩ ?_
          refine rd_split_e t720 (i := i + 1) (s := i + 1) (f := f + 1) w0 w1 s0 s1 (by omega) k0 k1 hB2 (hf.trans hf2) (by rw [hseg, List.length_append]; show f + 1 = ((A.length + 1 : Nat) : Int); omega) (by rw [hseg]; exact hfl2) (by omega)
        · skip
          refine ez_go (n := 1) (pc' := 56) (L' := [(6, .inl (i)), (5, .inl (s)), (4, .inl (f)), (3, .inl (stop)), (0, .inr (.inr (some (720)))), (1, .inl (n)), (2, .inl (w))]) (st' := [.inl (0)]) rfl ?_
          exact ez_retZ rfl rfl (by decide) (k0 g hB hf (by rw [hseg, List.length_append]; show A.length + 1 ≠ _; omega))
      · exfalso; omega
  | succ m ih =>
    intro i s f g A a1 a2 a3 hm hB hf hA hw hseg hfl
    have hbg : rz_b g = rz_b h := rz_b_fr hf rfl
    have hseg : rz_seg (rz_b h) stop.toNat 0 0 = A ++ (if rz_b h i = 59 then (s, i) :: rz_seg (rz_b h) m (i + 1) (i + 1) else rz_seg (rz_b h) m (i + 1) s) := hseg
    refine ez_go (n := 2) (pc' := 28) (L' := [(6, .inl (i)), (5, .inl (s)), (4, .inl (f)), (3, .inl (stop)), (0, .inr (.inr (some (720)))), (1, .inl (n)), (2, .inl (w))]) (st' := [.inl (stop), .inl (i)]) rfl ?_
    refine ez_icmp rfl rfl ⟨by omega, by omega⟩ ⟨by omega, by omega⟩ (fun (c1 : (stop) < (i)) => ?_) (fun (c1 : ¬((stop) < (i))) => ?_)
    · exfalso; omega
    · skip
      refine ez_go (n := 2) (pc' := 34) (L' := [(6, .inl (i)), (5, .inl (s)), (4, .inl (f)), (3, .inl (stop)), (0, .inr (.inr (some (720)))), (1, .inl (n)), (2, .inl (w))]) (st' := [.inl (stop), .inl (i)]) rfl ?_
      refine ez_icmp rfl rfl ⟨by omega, by omega⟩ ⟨by omega, by omega⟩ (fun (c2 : (i) = (stop)) => ?_) (fun (c2 : ¬((i) = (stop))) => ?_)
      · exfalso; omega
      · skip
        refine ez_go (n := 1) (pc' := 38) (L' := [(6, .inl (i)), (5, .inl (s)), (4, .inl (f)), (3, .inl (stop)), (0, .inr (.inr (some (720)))), (1, .inl (n)), (2, .inl (w))]) (st' := [.inr (.inr (some (720)))]) rfl ?_
        refine ez_gC (p := 193) (tg := 45) hB t720 rfl rfl tq_52 rfl rfl (fun (t193 : _ = 45) => ?_)
        refine ez_go (n := 1) (pc' := 43) (L' := [(6, .inl (i)), (5, .inl (s)), (4, .inl (f)), (3, .inl (stop)), (0, .inr (.inr (some (720)))), (1, .inl (n)), (2, .inl (w))]) (st' := [.inl (i), .inr (.inr (some (193)))]) rfl ?_
        have n4 : 4096 ≤ qz_N g 193 ∧ qz_N g 193 ≤ 4096 := ez_len hB t193 tq_45 rfl
        refine ez_aI hB t193 rfl tq_45 rfl rfl (by omega) (by omega) (fun (b3 : -128 ≤ qz_I g 193 (i).toNat) (b3' : qz_I g 193 (i).toNat ≤ 127) => ?_)
        refine ez_go (n := 1) (pc' := 46) (L' := [(6, .inl (i)), (5, .inl (s)), (4, .inl (f)), (3, .inl (stop)), (0, .inr (.inr (some (720)))), (1, .inl (n)), (2, .inl (w))]) (st' := [.inl (59), .inl (qz_I g 193 (i).toNat)]) rfl ?_
        refine ez_icmp rfl rfl ⟨by omega, by omega⟩ ⟨by omega, by omega⟩ (fun (c5 : (qz_I g 193 (i).toNat) ≠ (59)) => ?_) (fun (c5 : ¬((qz_I g 193 (i).toNat) ≠ (59))) => ?_)
        · skip
          refine ez_go (n := 2) (pc' := 25) (L' := [(6, .inl (i + 1)), (5, .inl (s)), (4, .inl (f)), (3, .inl (stop)), (0, .inr (.inr (some (720)))), (1, .inl (n)), (2, .inl (w))]) (st' := []) rfl ?_
          refine ez_less [(6, .inl (i + 1)), (5, .inl (s)), (4, .inl (f)), (3, .inl (stop)), (0, .inr (.inr (some (720)))), (1, .inl (n)), (2, .inl (w))] rfl ⟨rfl, rfl, rfl, rfl, rfl, rfl, rfl, trivial⟩ ?_
          rw [if_neg (by rw [← hbg]; unfold rz_b; omega)] at hseg
          exact ih _ _ _ _ A (by omega) (by omega) (by omega) (by omega) hB hf hA hw hseg hfl
        · skip
          refine ez_go (n := 2) (pc' := 52) (L' := [(6, .inl (i)), (5, .inl (s)), (4, .inl (f)), (3, .inl (stop)), (0, .inr (.inr (some (720)))), (1, .inl (n)), (2, .inl (w))]) (st' := [.inl (w), .inl (f)]) rfl ?_
          refine ez_icmp rfl rfl ⟨by omega, by omega⟩ ⟨by omega, by omega⟩ (fun (c6 : (f) < (w)) => ?_) (fun (c6 : ¬((f) < (w))) => ?_)
          · skip
            refine ez_go (n := 4) (pc' := 64) (L' := [(6, .inl (i)), (5, .inl (s)), (4, .inl (f)), (3, .inl (stop)), (0, .inr (.inr (some (720)))), (1, .inl (n)), (2, .inl (w))]) (st' := [.inl (i), .inl (s), .inl (f), .inr (.inr (some (720)))]) rfl ?_
            refine ez_cv hB t720 rfl rfl rfl tq_52 rfl rfl rfl (rd_trim hB t720 t721 t722 (by omega) (by omega) (by omega) (by omega) (by omega) (fun g2 hB2 hf2 hk2 hx hy => ez_K0 ?_))
            rw [hbg] at hx hy
            have hfl2 : rz_flds (rz_b h) g2 (A ++ [(s, i)]) := rz_flds_app hfl (fun k e1 e2 => hk2 k e1 (by omega)) (by rw [← hA]; exact hx) (by rw [← hA]; exact hy)
            refine ez_go (n := 7) (pc' := 25) (L' := [(6, .inl (i + 1)), (5, .inl ((i) + (1))), (4, .inl (f + 1)), (3, .inl (stop)), (0, .inr (.inr (some (720)))), (1, .inl (n)), (2, .inl (w))]) (st' := []) rfl ?_
            refine ez_less [(6, .inl (i + 1)), (5, .inl ((i) + (1))), (4, .inl (f + 1)), (3, .inl (stop)), (0, .inr (.inr (some (720)))), (1, .inl (n)), (2, .inl (w))] rfl ⟨rfl, rfl, rfl, rfl, rfl, rfl, rfl, trivial⟩ ?_
            rw [if_pos (by rw [← hbg]; unfold rz_b; omega)] at hseg
            exact ih _ _ _ _ (A ++ [(s, i)]) (by omega) (by omega) (by omega) (by omega) hB2 (hf.trans hf2) (by rw [List.length_append]; show f + 1 = ((A.length + 1 : Nat) : Int); omega) (by omega) (by rw [hseg, List.append_assoc]; rfl) hfl2
          · skip
            refine ez_go (n := 1) (pc' := 56) (L' := [(6, .inl (i)), (5, .inl (s)), (4, .inl (f)), (3, .inl (stop)), (0, .inr (.inr (some (720)))), (1, .inl (n)), (2, .inl (w))]) (st' := [.inl (0)]) rfl ?_
            rw [if_pos (by rw [← hbg]; unfold rz_b; omega)] at hseg
            exact ez_retZ rfl rfl (by decide) (k0 g hB hf (by rw [hseg, List.length_append]; show A.length + (_ + 1) ≠ _; omega))
/-- where the comment begins -/
def rz_hash (b : Int → Int) (n c : Int) : Prop := 0 ≤ c ∧ c ≤ n ∧ (∀ j, 0 ≤ j → j < c → b j ≠ 35) ∧ (c = n ∨ b c = 35)
theorem rz_hash_uniq {b : Int → Int} {n c c' : Int} (h : rz_hash b n c) (h' : rz_hash b n c') : c = c' := by
  obtain ⟨a1, a2, a3, a4⟩ := h
  obtain ⟨b1, b2, b3, b4⟩ := h'
  by_cases e : c < c'
  · exfalso
    have := b3 c a1 e
    rcases a4 with w | w
    · omega
    · exact this w
  · by_cases e2 : c' < c
    · exfalso
      have := a3 c' b1 e2
      rcases b4 with w | w
      · omega
      · exact this w
    · omega
theorem rd_split {n w : Int} (hB : ez_B τ h) (t720 : τ 720 = 52) (t721 : τ 721 = 53) (t722 : τ 722 = 54) (n0 : 0 ≤ n) (n1 : n ≤ 4096) (w0 : 0 ≤ w) (w1 : w ≤ 7) (k0 : ∀ g, ez_B τ g → ez_fr rz_ft h g → (rz_plain (rz_b h) n → ∀ c, 0 ≤ c → c ≤ n → (∀ j, 0 ≤ j → j < c → rz_b h j ≠ 35) → (c = n ∨ rz_b h c = 35) → (rz_seg (rz_b h) c.toNat 0 0).length ≠ w.toNat) → Q (.inl (some (ez_v (.inl 0))), g)) (k1 : ∀ g c, ez_B τ g → ez_fr rz_ft h g → rz_plain (rz_b h) n → rz_hash (rz_b h) n c → (rz_seg (rz_b h) c.toNat 0 0).length = w.toNat → rz_flds (rz_b h) g (rz_seg (rz_b h) c.toNat 0 0) → Q (.inl (some (ez_v (.inl 1))), g)) : ez_W (d + 3) cm_172 0 [(0, .inr (.inr (some (720)))), (1, .inl (n)), (2, .inl (w))] [] h Q := by
  refine ez_go (n := 2) (pc' := 2) (L' := [(0, .inr (.inr (some (720)))), (1, .inl (n)), (2, .inl (w))]) (st' := [.inl (n), .inr (.inr (some (720)))]) rfl ?_
  refine ez_cv hB t720 rfl rfl rfl tq_52 rfl rfl rfl (rd_isPlain hB t720 (by omega) (by omega) (fun hpl => ez_K1 ?_) (fun hpl => ez_K1 ?_))
  · skip
    refine ez_if rfl rfl ⟨by decide, by decide⟩ (fun _ => ?_) (fun (c1 : ¬((1 : Int) ≠ (0))) => absurd c1 (by decide))
    refine ez_go (n := 2) (pc' := 12) (L' := [(0, .inr (.inr (some (720)))), (1, .inl (n)), (2, .inl (w))]) (st' := [.inl (n), .inr (.inr (some (720)))]) rfl ?_
    refine ez_cv hB t720 rfl rfl rfl tq_52 rfl rfl rfl (rd_commentStart hB t720 (by omega) (by omega) (fun c c0 c1 c2 c3 => ez_K1 ?_))
    refine ez_go (n := 7) (pc' := 25) (L' := [(6, .inl (0)), (5, .inl (0)), (4, .inl (0)), (3, .inl (c)), (0, .inr (.inr (some (720)))), (1, .inl (n)), (2, .inl (w))]) (st' := []) rfl ?_
    refine ez_less [(6, .inl (0)), (5, .inl (0)), (4, .inl (0)), (3, .inl (c)), (0, .inr (.inr (some (720)))), (1, .inl (n)), (2, .inl (w))] rfl ⟨rfl, rfl, rfl, rfl, rfl, rfl, rfl, trivial⟩ ?_
    exact rd_split_l t720 t721 t722 w0 w1 c0 (by omega) (fun g2 e1 e2 e3 => k0 g2 e1 e2 (fun _ c' d0 d1 d2 d3 => by rw [rz_hash_uniq ⟨d0, d1, d2, d3⟩ ⟨c0, c1, c2, c3⟩]; exact e3)) (fun g2 e1 e2 e3 e4 => k1 g2 c e1 e2 hpl ⟨c0, c1, c2, c3⟩ e3 e4) _ 0 0 0 h [] (by omega) (by omega) (by omega) rfl hB (ez_fr.refl _ _) rfl (by omega) (by show rz_seg _ c.toNat 0 0 = rz_seg _ (c - 0).toNat 0 0; rw [Int.sub_zero]) (fun k p hp => by cases hp)
  · skip
    refine ez_if rfl rfl ⟨by decide, by decide⟩ (fun (c2 : (0 : Int) ≠ (0)) => absurd c2 (by decide)) (fun _ => ?_)
    refine ez_go (n := 1) (pc' := 9) (L' := [(0, .inr (.inr (some (720)))), (1, .inl (n)), (2, .inl (w))]) (st' := [.inl (0)]) rfl ?_
    exact ez_retZ rfl rfl (by decide) (k0 h hB (ez_fr.refl _ _) (fun w => absurd w hpl))

end EzRd4
