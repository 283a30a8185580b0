/-! The model reads: peek, hex, code. (Written by wip/p2/py/pv50.py.) -/
def mb (h : cz_H) (i : Int) : Int := qz_I h 771 i.toNat
/-- only the place of reading has changed -/
def mz (h g : cz_H) : Prop := ez_fr (ez_one 770) h g ∧ ∀ j, j ≠ 17 → qz_I g 770 j = qz_I h 770 j
theorem mz.refl (h : cz_H) : mz h h := ⟨ez_fr.refl _ _, fun _ _ => rfl⟩
theorem mz.trans {h g k : cz_H} (a : mz h g) (b : mz g k) : mz h k := ⟨a.1.trans b.1, fun j hj => (b.2 j hj).trans (a.2 j hj)⟩
theorem mz.b {h g : cz_H} (a : mz h g) : mb g = mb h := funext fun i => a.1.I (by decide) _
theorem mz.I {h g : cz_H} (a : mz h g) {q : Nat} (hq : q ≠ 770) (j : Nat) : qz_I g q j = qz_I h q j := a.1.I (dz_beq_ne hq) j
theorem mz.N {h g : cz_H} (a : mz h g) {q : Nat} (hq : q ≠ 770) : qz_N g q = qz_N h q := a.1.N (dz_beq_ne hq)
theorem mz_put {h : cz_H} {v : cz_V} : mz h (dz_put h 770 17 v) := ⟨(ez_fr.refl (ez_one 770) h).put (show Nat.beq 770 770 = true from rfl) _ _, fun j hj => ez_put_I (fun w => hj w.2)⟩
/-- the byte at a, or -1 -/
def mk (b : Int → Int) (a s : Int) : Int := if a < s then b a else -1
/-- a digit's value, or -1 -/
def mh (c : Int) : Int := if 48 ≤ c ∧ c ≤ 57 then c - 48 else if 65 ≤ c ∧ c ≤ 70 then c - 55 else -1
/-- behind the digits: at most n -/
def me (b : Int → Int) : Nat → Int → Int
  | 0, i => i
  | n + 1, i => if 0 ≤ mh (b i) then me b n (i + 1) else i
theorem me_le (b : Int → Int) : ∀ n i, i ≤ me b n i ∧ me b n i ≤ i + n
  | 0, i => by unfold me; omega
  | n + 1, i => by
    have := me_le b n (i + 1)
    unfold me
    split <;> omega
theorem mh_rg (c : Int) : -1 ≤ mh c ∧ mh c ≤ 15 := by
  unfold mh
  split
  · omega
  · split <;> omega
theorem mk_pos {b : Int → Int} {a s : Int} (h : 0 ≤ mh (mk b a s)) : a < s ∧ 0 ≤ mh (b a) ∧ mk b a s = b a := by
  by_cases e : a < s
  · have e2 : mk b a s = b a := by unfold mk; rw [if_pos e]
    exact ⟨e, by rw [← e2]; exact h, e2⟩
  · have e2 : mk b a s = -1 := by unfold mk; rw [if_neg e]
    rw [e2] at h
    exact absurd h (by decide)
theorem mk_neg {b : Int → Int} {a s : Int} (h : ¬ 0 ≤ mh (mk b a s)) (e : a < s) : ¬ 0 ≤ mh (b a) := by
  have e2 : mk b a s = b a := by unfold mk; rw [if_pos e]
  rw [← e2]; exact h
theorem rz_hex_mh (b : Int → Int) (n : Nat) (i v : Int) : rz_hex b (n + 1) i v = if 0 ≤ mh (b i) then rz_hex b n (i + 1) (v * 16 + mh (b i)) else -1 := by
  unfold mh
  show (if 48 ≤ b i ∧ b i ≤ 57 then rz_hex b n (i + 1) (v * 16 + b i - 48) else if 65 ≤ b i ∧ b i ≤ 70 then rz_hex b n (i + 1) (v * 16 + b i - 65 + 10) else -1) = _
  by_cases e : 48 ≤ b i ∧ b i ≤ 57
  · rw [if_pos e, if_pos e, if_pos (by omega)]; congr 1; omega
  · rw [if_neg e, if_neg e]
    by_cases e2 : 65 ≤ b i ∧ b i ≤ 70
    · rw [if_pos e2, if_pos e2, if_pos (by omega)]; congr 1; omega
    · rw [if_neg e2, if_neg e2, if_neg (by omega)]
/-- digits alone up to there -/
theorem rz_hex_me (b : Int → Int) : ∀ (n : Nat) (i v : Int) (k : Nat), k ≤ n → i + (k : Int) ≤ me b n i → 0 ≤ v → ∃ w, rz_hex b k i v = w ∧ 0 ≤ w
  | n, i, v, 0, _, _, hv => ⟨v, rfl, hv⟩
  | 0, i, v, k + 1, hk, _, _ => by omega
  | n + 1, i, v, k + 1, hk, he, hv => by
    unfold me at he
    split at he
    · rename_i e
      rw [rz_hex_mh, if_pos e]
      exact rz_hex_me b n (i + 1) _ k (by omega) (by push_cast at he; omega) (by omega)
    · push_cast at he; omega
/-- beyond there is none -/
theorem rz_hex_no (b : Int → Int) : ∀ (n : Nat) (i v : Int) (k : Nat), k ≤ n → me b n i < i + (k : Int) → rz_hex b k i v = -1
  | n, i, v, 0, _, h => by have := me_le b n i; push_cast at h; omega
  | 0, i, v, k + 1, hk, _ => by omega
  | n + 1, i, v, k + 1, hk, he => by
    unfold me at he
    rw [rz_hex_mh]
    split at he
    · rename_i e
      rw [if_pos e]
      exact rz_hex_no b n (i + 1) _ k (by omega) (by push_cast at he; omega)
    · rename_i e
      rw [if_neg e]
/-- a CODE that ends elsewhere than its digits is none -/
theorem rz_code_no {b : Int → Int} {s t e : Int} (n : Nat) (hn : (t - s).toNat ≤ n) (he : me b n s < e) (h1 : s ≤ e) (h2 : e ≤ t) : rz_code b s e = -1 := by
  unfold rz_code
  have := rz_hex_no b n s 0 (e - s).toNat (by omega) (by omega)
  split
  · rfl
  · rw [this]; rfl
section EzMo
variable {d : Nat} {h : cz_H} {τ : Nat → Nat} {Q : cz_F → Prop}
theorem rd_can1 (hr1 : h.1 + 1 ≤ 600192) (hr2 : h.2.1 + 6 ≤ 7302232) (k : Q (.inl none, h)) : ez_W (d + 6) cm_227 0 [(0, .inr (.inr (some (770)))), (1, .inl (1))] [] h Q := by
  refine ez_go (n := 1) (pc' := 1) (L' := [(0, .inr (.inr (some (770)))), (1, .inl (1))]) (st' := [.inl (1)]) rfl ?_
  refine ez_if rfl rfl ⟨by decide, by decide⟩ (fun _ => ?_) (fun (c1 : ¬((1 : Int) ≠ (0))) => absurd c1 (by decide))
  exact ez_ret0 rfl rfl k

theorem rd_can0 (hr1 : h.1 + 1 ≤ 600192) (hr2 : h.2.1 + 6 ≤ 7302232) (k : Q (.inr h.1, xc h 1)) : ez_W (d + 6) cm_227 0 [(0, .inr (.inr (some (770)))), (1, .inl (0))] [] h Q := by
  refine ez_go (n := 1) (pc' := 1) (L' := [(0, .inr (.inr (some (770)))), (1, .inl (0))]) (st' := [.inl (0)]) rfl ?_
  refine ez_if rfl rfl ⟨by decide, by decide⟩ (fun (c1 : (0 : Int) ≠ (0)) => absurd c1 (by decide)) (fun _ => ?_)
  exact ez_th rfl rfl (by omega) (by omega) (by omega) rfl (k)

theorem rd_mblank {c : Int} (c0 : -128 ≤ c) (c1 : c ≤ 127) (k1 : c = 9 ∨ c = 32 → Q (.inl (some (ez_v (.inl 1))), h)) (k0 : ¬ (c = 9 ∨ c = 32) → Q (.inl (some (ez_v (.inl 0))), h)) : ez_W d cm_223 0 [(0, .inr (.inr (some (770)))), (1, .inl (c))] [] h Q := by
  refine ez_go (n := 2) (pc' := 3) (L' := [(0, .inr (.inr (some (770)))), (1, .inl (c))]) (st' := [.inl (9), .inl (c)]) rfl ?_
  refine ez_icmp rfl rfl ⟨by first | omega | exact (sz_i32 _).1, by first | omega | exact (sz_i32 _).2⟩ ⟨by first | omega | exact (sz_i32 _).1, by first | omega | exact (sz_i32 _).2⟩ (fun (c1 : (c) = (9)) => ?_) (fun (c1 : ¬((c) = (9))) => ?_)
  · skip
    refine ez_go (n := 2) (pc' := 17) (L' := [(0, .inr (.inr (some (770)))), (1, .inl (c))]) (st' := [.inl (1)]) rfl ?_
    exact ez_retZ rfl rfl (by decide) (k1 (by omega))
  · skip
    refine ez_go (n := 2) (pc' := 9) (L' := [(0, .inr (.inr (some (770)))), (1, .inl (c))]) (st' := [.inl (32), .inl (c)]) rfl ?_
    refine ez_icmp rfl rfl ⟨by first | omega | exact (sz_i32 _).1, by first | omega | exact (sz_i32 _).2⟩ ⟨by first | omega | exact (sz_i32 _).1, by first | omega | exact (sz_i32 _).2⟩ (fun (c2 : (c) ≠ (32)) => ?_) (fun (c2 : ¬((c) ≠ (32))) => ?_)
    · skip
      refine ez_go (n := 1) (pc' := 17) (L' := [(0, .inr (.inr (some (770)))), (1, .inl (c))]) (st' := [.inl (0)]) rfl ?_
      exact ez_retZ rfl rfl (by decide) (k0 (by omega))
    · skip
      refine ez_go (n := 2) (pc' := 17) (L' := [(0, .inr (.inr (some (770)))), (1, .inl (c))]) (st' := [.inl (1)]) rfl ?_
      exact ez_retZ rfl rfl (by decide) (k1 (by omega))

theorem rd_peek (hB : ez_B τ h) (t770 : τ 770 = 75) (k : -128 ≤ (mk (mb h) (qz_I h 770 17) (qz_I h 770 18)) → (mk (mb h) (qz_I h 770 17) (qz_I h 770 18)) ≤ 127 → Q (.inl (some (ez_v (.inl (mk (mb h) (qz_I h 770 17) (qz_I h 770 18))))), h)) : ez_W d cm_289 0 [(0, .inr (.inr (some (770))))] [] h Q := by
  refine ez_go (n := 1) (pc' := 1) (L' := [(0, .inr (.inr (some (770))))]) (st' := [.inr (.inr (some (770)))]) rfl ?_
  refine ez_gI hB t770 rfl rfl tq_75 rfl rfl (fun (b1 : 0 ≤ qz_I h 770 17) (b1' : qz_I h 770 17 ≤ 4200) => ?_)
  refine ez_go (n := 1) (pc' := 5) (L' := [(0, .inr (.inr (some (770))))]) (st' := [.inr (.inr (some (770))), .inl (qz_I h 770 17)]) rfl ?_
  refine ez_gI hB t770 rfl rfl tq_75 rfl rfl (fun (b2 : 0 ≤ qz_I h 770 18) (b2' : qz_I h 770 18 ≤ 4096) => ?_)
  refine ez_icmp rfl rfl ⟨by first | omega | exact (sz_i32 _).1, by first | omega | exact (sz_i32 _).2⟩ ⟨by first | omega | exact (sz_i32 _).1, by first | omega | exact (sz_i32 _).2⟩ (fun (c3 : (qz_I h 770 18) ≤ (qz_I h 770 17)) => ?_) (fun (c3 : ¬((qz_I h 770 18) ≤ (qz_I h 770 17))) => ?_)
  · skip
    refine ez_go (n := 1) (pc' := 24) (L' := [(0, .inr (.inr (some (770))))]) (st' := [.inl (-1)]) rfl ?_
    have e : (mk (mb h) (qz_I h 770 17) (qz_I h 770 18)) = -1 := by unfold mk; rw [if_neg (by omega)]
    rw [e] at k
    exact ez_retI rfl rfl (k (by omega) (by omega))
  · skip
    refine ez_go (n := 1) (pc' := 12) (L' := [(0, .inr (.inr (some (770))))]) (st' := [.inr (.inr (some (770)))]) rfl ?_
    refine ez_gC (p := 771) (tg := 76) hB t770 rfl rfl tq_75 rfl rfl (fun (t771 : _ = 76) => ?_)
    refine ez_go (n := 1) (pc' := 16) (L' := [(0, .inr (.inr (some (770))))]) (st' := [.inr (.inr (some (770))), .inr (.inr (some (771)))]) rfl ?_
    refine ez_gI hB t770 rfl rfl tq_75 rfl rfl (fun (b4 : 0 ≤ qz_I h 770 17) (b4' : qz_I h 770 17 ≤ 4200) => ?_)
    have n6 : 4096 ≤ qz_N h 771 ∧ qz_N h 771 ≤ 4096 := ez_len hB t771 tq_76 rfl
    refine ez_aI hB t771 rfl tq_76 rfl rfl (by omega) (by omega) (fun (b5 : -128 ≤ qz_I h 771 (qz_I h 770 17).toNat) (b5' : qz_I h 771 (qz_I h 770 17).toNat ≤ 127) => ?_)
    refine ez_go (n := 1) (pc' := 24) (L' := [(0, .inr (.inr (some (770))))]) (st' := [.inl (qz_I h 771 (qz_I h 770 17).toNat)]) rfl ?_
    have e : (mk (mb h) (qz_I h 770 17) (qz_I h 770 18)) = qz_I h 771 (qz_I h 770 17).toNat := by unfold mk; rw [if_pos (by omega)]; rfl
    rw [e] at k
    exact ez_retI rfl rfl (k (by omega) (by omega))

theorem rd_hex (hB : ez_B τ h) (t770 : τ 770 = 75) (k : Q (.inl (some (ez_v (.inl (mh (mk (mb h) (qz_I h 770 17) (qz_I h 770 18)))))), h)) : ez_W (d + 1) cm_265 0 [(0, .inr (.inr (some (770))))] [] h Q := by
  refine ez_go (n := 1) (pc' := 1) (L' := [(0, .inr (.inr (some (770))))]) (st' := [.inr (.inr (some (770)))]) rfl ?_
  refine ez_cv hB t770 rfl rfl rfl tq_75 rfl rfl rfl (rd_peek hB t770 (fun p1 p2 => ez_K1 ?_))
  generalize (mk (mb h) (qz_I h 770 17) (qz_I h 770 18)) = c at *
  refine ez_go (n := 3) (pc' := 8) (L' := [(1, .inl (c)), (0, .inr (.inr (some (770))))]) (st' := [.inl (48), .inl (c)]) rfl ?_
  refine ez_icmp rfl rfl ⟨by first | omega | exact (sz_i32 _).1, by first | omega | exact (sz_i32 _).2⟩ ⟨by first | omega | exact (sz_i32 _).1, by first | omega | exact (sz_i32 _).2⟩ (fun (c1 : (c) < (48)) => ?_) (fun (c1 : ¬((c) < (48))) => ?_)
  · skip
    refine ez_go (n := 2) (pc' := 27) (L' := [(1, .inl (c)), (0, .inr (.inr (some (770))))]) (st' := [.inl (65), .inl (c)]) rfl ?_
    refine ez_icmp rfl rfl ⟨by first | omega | exact (sz_i32 _).1, by first | omega | exact (sz_i32 _).2⟩ ⟨by first | omega | exact (sz_i32 _).1, by first | omega | exact (sz_i32 _).2⟩ (fun (c2 : (c) < (65)) => ?_) (fun (c2 : ¬((c) < (65))) => ?_)
    · skip
      refine ez_go (n := 1) (pc' := 47) (L' := [(1, .inl (c)), (0, .inr (.inr (some (770))))]) (st' := [.inl (-1)]) rfl ?_
      have e : mh c = -1 := by unfold mh; split <;> (try split) <;> omega
      rw [e] at k
      exact ez_retI rfl rfl k
    · skip
      refine ez_go (n := 2) (pc' := 33) (L' := [(1, .inl (c)), (0, .inr (.inr (some (770))))]) (st' := [.inl (70), .inl (c)]) rfl ?_
      refine ez_icmp rfl rfl ⟨by first | omega | exact (sz_i32 _).1, by first | omega | exact (sz_i32 _).2⟩ ⟨by first | omega | exact (sz_i32 _).1, by first | omega | exact (sz_i32 _).2⟩ (fun (c3 : (70) < (c)) => ?_) (fun (c3 : ¬((70) < (c))) => ?_)
      · skip
        refine ez_go (n := 1) (pc' := 47) (L' := [(1, .inl (c)), (0, .inr (.inr (some (770))))]) (st' := [.inl (-1)]) rfl ?_
        have e : mh c = -1 := by unfold mh; split <;> (try split) <;> omega
        rw [e] at k
        exact ez_retI rfl rfl k
      · skip
        refine ez_go (n := 6) (pc' := 47) (L' := [(1, .inl (c)), (0, .inr (.inr (some (770))))]) (st' := [.inl (((c) - (65)) + (10))]) rfl ?_
        have e : mh c = ((c) - (65)) + (10) := by unfold mh; split <;> (try split) <;> omega
        rw [e] at k
        exact ez_retI rfl rfl k
  · skip
    refine ez_go (n := 2) (pc' := 14) (L' := [(1, .inl (c)), (0, .inr (.inr (some (770))))]) (st' := [.inl (57), .inl (c)]) rfl ?_
    refine ez_icmp rfl rfl ⟨by first | omega | exact (sz_i32 _).1, by first | omega | exact (sz_i32 _).2⟩ ⟨by first | omega | exact (sz_i32 _).1, by first | omega | exact (sz_i32 _).2⟩ (fun (c4 : (57) < (c)) => ?_) (fun (c4 : ¬((57) < (c))) => ?_)
    · skip
      refine ez_go (n := 2) (pc' := 27) (L' := [(1, .inl (c)), (0, .inr (.inr (some (770))))]) (st' := [.inl (65), .inl (c)]) rfl ?_
      refine ez_icmp rfl rfl ⟨by first | omega | exact (sz_i32 _).1, by first | omega | exact (sz_i32 _).2⟩ ⟨by first | omega | exact (sz_i32 _).1, by first | omega | exact (sz_i32 _).2⟩ (fun (c5 : (c) < (65)) => ?_) (fun (c5 : ¬((c) < (65))) => ?_)
      · skip
        refine ez_go (n := 1) (pc' := 47) (L' := [(1, .inl (c)), (0, .inr (.inr (some (770))))]) (st' := [.inl (-1)]) rfl ?_
        have e : mh c = -1 := by unfold mh; split <;> (try split) <;> omega
        rw [e] at k
        exact ez_retI rfl rfl k
      · skip
        refine ez_go (n := 2) (pc' := 33) (L' := [(1, .inl (c)), (0, .inr (.inr (some (770))))]) (st' := [.inl (70), .inl (c)]) rfl ?_
        refine ez_icmp rfl rfl ⟨by first | omega | exact (sz_i32 _).1, by first | omega | exact (sz_i32 _).2⟩ ⟨by first | omega | exact (sz_i32 _).1, by first | omega | exact (sz_i32 _).2⟩ (fun (c6 : (70) < (c)) => ?_) (fun (c6 : ¬((70) < (c))) => ?_)
        · skip
          refine ez_go (n := 1) (pc' := 47) (L' := [(1, .inl (c)), (0, .inr (.inr (some (770))))]) (st' := [.inl (-1)]) rfl ?_
          have e : mh c = -1 := by unfold mh; split <;> (try split) <;> omega
          rw [e] at k
          exact ez_retI rfl rfl k
        · skip
          refine ez_go (n := 6) (pc' := 47) (L' := [(1, .inl (c)), (0, .inr (.inr (some (770))))]) (st' := [.inl (((c) - (65)) + (10))]) rfl ?_
          have e : mh c = ((c) - (65)) + (10) := by unfold mh; split <;> (try split) <;> omega
          rw [e] at k
          exact ez_retI rfl rfl k
    · skip
      refine ez_go (n := 4) (pc' := 47) (L' := [(1, .inl (c)), (0, .inr (.inr (some (770))))]) (st' := [.inl ((c) - (48))]) rfl ?_
      have e : mh c = (c) - (48) := by unfold mh; split <;> (try split) <;> omega
      rw [e] at k
      exact ez_retI rfl rfl k

theorem rd_mend (hB : ez_B τ h) (t770 : τ 770 = 75) (hr1 : h.1 + 1 ≤ 600192) (hr2 : h.2.1 + 6 ≤ 7302232) (k1 : qz_I h 770 17 = qz_I h 770 18 → Q (.inl none, h)) (k0 : qz_I h 770 17 ≠ qz_I h 770 18 → Q (.inr h.1, xc h 1)) : ez_W (d + 7) cm_248 0 [(0, .inr (.inr (some (770))))] [] h Q := by
  refine ez_go (n := 2) (pc' := 2) (L' := [(0, .inr (.inr (some (770))))]) (st' := [.inr (.inr (some (770))), .inr (.inr (some (770)))]) rfl ?_
  refine ez_gI hB t770 rfl rfl tq_75 rfl rfl (fun (b1 : 0 ≤ qz_I h 770 17) (b1' : qz_I h 770 17 ≤ 4200) => ?_)
  refine ez_go (n := 1) (pc' := 6) (L' := [(0, .inr (.inr (some (770))))]) (st' := [.inr (.inr (some (770))), .inl (qz_I h 770 17), .inr (.inr (some (770)))]) rfl ?_
  refine ez_gI hB t770 rfl rfl tq_75 rfl rfl (fun (b2 : 0 ≤ qz_I h 770 18) (b2' : qz_I h 770 18 ≤ 4096) => ?_)
  refine ez_icmp rfl rfl ⟨by first | omega | exact (sz_i32 _).1, by first | omega | exact (sz_i32 _).2⟩ ⟨by first | omega | exact (sz_i32 _).1, by first | omega | exact (sz_i32 _).2⟩ (fun (c3 : (qz_I h 770 17) ≠ (qz_I h 770 18)) => ?_) (fun (c3 : ¬((qz_I h 770 17) ≠ (qz_I h 770 18))) => ?_)
  · skip
    refine ez_go (n := 1) (pc' := 17) (L' := [(0, .inr (.inr (some (770))))]) (st' := [.inl (0), .inr (.inr (some (770)))]) rfl ?_
    refine ez_cv hB t770 rfl rfl rfl tq_75 rfl rfl rfl (rd_can0 (by omega) (by omega) (ez_Kp (xc_exc hB rfl) rfl (k0 (by omega))))
  · skip
    refine ez_go (n := 2) (pc' := 17) (L' := [(0, .inr (.inr (some (770))))]) (st' := [.inl (1), .inr (.inr (some (770)))]) rfl ?_
    refine ez_cv hB t770 rfl rfl rfl tq_75 rfl rfl rfl (rd_can1 (by omega) (by omega) (ez_K0 ?_))
    exact ez_ret0 rfl rfl (k1 (by omega))

theorem rd_code_x {v : Int} {g : cz_H} (t770 : τ 770 = 75) (hr1 : h.1 + 1 ≤ 600192) (hr2 : h.2.1 + 6 ≤ 7302232) (k1 : ∀ g, ez_B τ g → mz h g → qz_I g 770 17 = (me (mb h) (qz_I h 770 18 - qz_I h 770 17).toNat (qz_I h 770 17)) → rz_code (mb h) (qz_I h 770 17) (me (mb h) (qz_I h 770 18 - qz_I h 770 17).toNat (qz_I h 770 17)) ≠ -1 → Q (.inl (some (ez_v (.inl (rz_code (mb h) (qz_I h 770 17) (me (mb h) (qz_I h 770 18 - qz_I h 770 17).toNat (qz_I h 770 17)))))), g)) (k0 : rz_code (mb h) (qz_I h 770 17) (me (mb h) (qz_I h 770 18 - qz_I h 770 17).toNat (qz_I h 770 17)) = -1 → ∀ g, ez_B τ g → mz h g → Q (.inr g.1, xc g 1)) (hB : ez_B τ g) (hm : mz h g) (hf : qz_I h 770 17 ≤ qz_I g 770 17) (hf0 : 0 ≤ qz_I h 770 17) (hs : qz_I g 770 17 ≤ qz_I h 770 18) (hs1 : qz_I h 770 18 ≤ 4096) (h6 : qz_I g 770 17 - qz_I h 770 17 ≤ 6) (v0 : 0 ≤ v) (v1 : v ≤ 16777215) (he : qz_I g 770 17 = (me (mb h) (qz_I h 770 18 - qz_I h 770 17).toNat (qz_I h 770 17))) (hr : rz_hex (mb h) (qz_I g 770 17 - qz_I h 770 17).toNat (qz_I h 770 17) 0 = v) : ez_W (d + 7) cm_234 57 [(2, .inl (v)), (1, .inl ((qz_I h 770 17))), (0, .inr (.inr (some (770))))] [] g Q := by
  have c1 := hm.1.1
  have c2 := hm.1.2.1
  have bb : qz_I g 771 (qz_I h 770 17).toNat = qz_I h 771 (qz_I h 770 17).toNat := hm.I (by decide) _
  refine ez_go (n := 1) (pc' := 58) (L' := [(2, .inl (v)), (1, .inl ((qz_I h 770 17))), (0, .inr (.inr (some (770))))]) (st' := [.inr (.inr (some (770)))]) rfl ?_
  refine ez_gI hB t770 rfl rfl tq_75 rfl rfl (fun (b1 : 0 ≤ qz_I g 770 17) (b1' : qz_I g 770 17 ≤ 4200) => ?_)
  refine ez_go (n := 6) (pc' := 67) (L' := [(3, .inl ((qz_I g 770 17) - ((qz_I h 770 17)))), (2, .inl (v)), (1, .inl ((qz_I h 770 17))), (0, .inr (.inr (some (770))))]) (st' := [.inl (4), .inl ((qz_I g 770 17) - ((qz_I h 770 17))), .inr (.inr (some (770)))]) rfl ?_
  refine ez_icmp rfl rfl ⟨by first | omega | exact (sz_i32 _).1, by first | omega | exact (sz_i32 _).2⟩ ⟨by first | omega | exact (sz_i32 _).1, by first | omega | exact (sz_i32 _).2⟩ (fun (c2 : ((qz_I g 770 17) - ((qz_I h 770 17))) < (4)) => ?_) (fun (c2 : ¬(((qz_I g 770 17) - ((qz_I h 770 17))) < (4))) => ?_)
  · skip
    refine ez_go (n := 1) (pc' := 97) (L' := [(3, .inl ((qz_I g 770 17) - ((qz_I h 770 17)))), (2, .inl (v)), (1, .inl ((qz_I h 770 17))), (0, .inr (.inr (some (770))))]) (st' := [.inl (0), .inr (.inr (some (770)))]) rfl ?_
    refine ez_cv hB t770 rfl rfl rfl tq_75 rfl rfl rfl (rd_can0 (by omega) (by omega) (ez_Kp (xc_exc hB rfl) rfl (k0 (by unfold rz_code; rw [← he, hr]; first | (rw [if_pos (by omega)]) | (rw [if_pos (by show _ ∨ _ ∨ (_ ∧ qz_I h 771 _ = 48); rw [← bb]; omega)]) | (split; (· rfl); (· rw [if_neg (by omega)]))) g hB hm)))
  · skip
    refine ez_go (n := 1) (pc' := 71) (L' := [(3, .inl ((qz_I g 770 17) - ((qz_I h 770 17)))), (2, .inl (v)), (1, .inl ((qz_I h 770 17))), (0, .inr (.inr (some (770))))]) (st' := [.inl (v), .inr (.inr (some (770)))]) rfl ?_
    refine ez_ldc (1114111) rfl rfl rfl ?_
    refine ez_icmp rfl rfl ⟨by first | omega | exact (sz_i32 _).1, by first | omega | exact (sz_i32 _).2⟩ ⟨by first | omega | exact (sz_i32 _).1, by first | omega | exact (sz_i32 _).2⟩ (fun (c3 : (1114111) < (v)) => ?_) (fun (c3 : ¬((1114111) < (v))) => ?_)
    · skip
      refine ez_go (n := 1) (pc' := 97) (L' := [(3, .inl ((qz_I g 770 17) - ((qz_I h 770 17)))), (2, .inl (v)), (1, .inl ((qz_I h 770 17))), (0, .inr (.inr (some (770))))]) (st' := [.inl (0), .inr (.inr (some (770)))]) rfl ?_
      refine ez_cv hB t770 rfl rfl rfl tq_75 rfl rfl rfl (rd_can0 (by omega) (by omega) (ez_Kp (xc_exc hB rfl) rfl (k0 (by unfold rz_code; rw [← he, hr]; first | (rw [if_pos (by omega)]) | (rw [if_pos (by show _ ∨ _ ∨ (_ ∧ qz_I h 771 _ = 48); rw [← bb]; omega)]) | (split; (· rfl); (· rw [if_neg (by omega)]))) g hB hm)))
    · skip
      refine ez_go (n := 2) (pc' := 78) (L' := [(3, .inl ((qz_I g 770 17) - ((qz_I h 770 17)))), (2, .inl (v)), (1, .inl ((qz_I h 770 17))), (0, .inr (.inr (some (770))))]) (st' := [.inl (4), .inl ((qz_I g 770 17) - ((qz_I h 770 17))), .inr (.inr (some (770)))]) rfl ?_
      refine ez_icmp rfl rfl ⟨by first | omega | exact (sz_i32 _).1, by first | omega | exact (sz_i32 _).2⟩ ⟨by first | omega | exact (sz_i32 _).1, by first | omega | exact (sz_i32 _).2⟩ (fun (c4 : ((qz_I g 770 17) - ((qz_I h 770 17))) = (4)) => ?_) (fun (c4 : ¬(((qz_I g 770 17) - ((qz_I h 770 17))) = (4))) => ?_)
      · skip
        refine ez_go (n := 2) (pc' := 97) (L' := [(3, .inl ((qz_I g 770 17) - ((qz_I h 770 17)))), (2, .inl (v)), (1, .inl ((qz_I h 770 17))), (0, .inr (.inr (some (770))))]) (st' := [.inl (1), .inr (.inr (some (770)))]) rfl ?_
        refine ez_cv hB t770 rfl rfl rfl tq_75 rfl rfl rfl (rd_can1 (by omega) (by omega) (ez_K0 ?_))
        refine ez_go (n := 1) (pc' := 101) (L' := [(3, .inl ((qz_I g 770 17) - ((qz_I h 770 17)))), (2, .inl (v)), (1, .inl ((qz_I h 770 17))), (0, .inr (.inr (some (770))))]) (st' := [.inl (v)]) rfl ?_
        have e : rz_code (mb h) (qz_I h 770 17) (me (mb h) (qz_I h 770 18 - qz_I h 770 17).toNat (qz_I h 770 17)) = v := by unfold rz_code; rw [← he, hr, if_neg (by first | omega | (show ¬(_ ∨ _ ∨ (_ ∧ qz_I h 771 _ = 48)); rw [← bb]; omega)), if_pos (by omega)]
        rw [e] at k1
        exact ez_retI rfl rfl (k1 g hB hm he (by omega))
      · skip
        refine ez_go (n := 1) (pc' := 82) (L' := [(3, .inl ((qz_I g 770 17) - ((qz_I h 770 17)))), (2, .inl (v)), (1, .inl ((qz_I h 770 17))), (0, .inr (.inr (some (770))))]) (st' := [.inr (.inr (some (770))), .inr (.inr (some (770)))]) rfl ?_
        refine ez_gC (p := 771) (tg := 76) hB t770 rfl rfl tq_75 rfl rfl (fun (t771 : _ = 76) => ?_)
        refine ez_go (n := 1) (pc' := 86) (L' := [(3, .inl ((qz_I g 770 17) - ((qz_I h 770 17)))), (2, .inl (v)), (1, .inl ((qz_I h 770 17))), (0, .inr (.inr (some (770))))]) (st' := [.inl ((qz_I h 770 17)), .inr (.inr (some (771))), .inr (.inr (some (770)))]) rfl ?_
        have n6 : 4096 ≤ qz_N g 771 ∧ qz_N g 771 ≤ 4096 := ez_len hB t771 tq_76 rfl
        refine ez_aI hB t771 rfl tq_76 rfl rfl (by omega) (by omega) (fun (b5 : -128 ≤ qz_I g 771 ((qz_I h 770 17)).toNat) (b5' : qz_I g 771 ((qz_I h 770 17)).toNat ≤ 127) => ?_)
        refine ez_go (n := 1) (pc' := 89) (L' := [(3, .inl ((qz_I g 770 17) - ((qz_I h 770 17)))), (2, .inl (v)), (1, .inl ((qz_I h 770 17))), (0, .inr (.inr (some (770))))]) (st' := [.inl (48), .inl (qz_I g 771 ((qz_I h 770 17)).toNat), .inr (.inr (some (770)))]) rfl ?_
        refine ez_icmp rfl rfl ⟨by first | omega | exact (sz_i32 _).1, by first | omega | exact (sz_i32 _).2⟩ ⟨by first | omega | exact (sz_i32 _).1, by first | omega | exact (sz_i32 _).2⟩ (fun (c7 : (qz_I g 771 ((qz_I h 770 17)).toNat) = (48)) => ?_) (fun (c7 : ¬((qz_I g 771 ((qz_I h 770 17)).toNat) = (48))) => ?_)
        · skip
          refine ez_go (n := 1) (pc' := 97) (L' := [(3, .inl ((qz_I g 770 17) - ((qz_I h 770 17)))), (2, .inl (v)), (1, .inl ((qz_I h 770 17))), (0, .inr (.inr (some (770))))]) (st' := [.inl (0), .inr (.inr (some (770)))]) rfl ?_
          refine ez_cv hB t770 rfl rfl rfl tq_75 rfl rfl rfl (rd_can0 (by omega) (by omega) (ez_Kp (xc_exc hB rfl) rfl (k0 (by unfold rz_code; rw [← he, hr]; first | (rw [if_pos (by omega)]) | (rw [if_pos (by show _ ∨ _ ∨ (_ ∧ qz_I h 771 _ = 48); rw [← bb]; omega)]) | (split; (· rfl); (· rw [if_neg (by omega)]))) g hB hm)))
        · skip
          refine ez_go (n := 2) (pc' := 97) (L' := [(3, .inl ((qz_I g 770 17) - ((qz_I h 770 17)))), (2, .inl (v)), (1, .inl ((qz_I h 770 17))), (0, .inr (.inr (some (770))))]) (st' := [.inl (1), .inr (.inr (some (770)))]) rfl ?_
          refine ez_cv hB t770 rfl rfl rfl tq_75 rfl rfl rfl (rd_can1 (by omega) (by omega) (ez_K0 ?_))
          refine ez_go (n := 1) (pc' := 101) (L' := [(3, .inl ((qz_I g 770 17) - ((qz_I h 770 17)))), (2, .inl (v)), (1, .inl ((qz_I h 770 17))), (0, .inr (.inr (some (770))))]) (st' := [.inl (v)]) rfl ?_
          have e : rz_code (mb h) (qz_I h 770 17) (me (mb h) (qz_I h 770 18 - qz_I h 770 17).toNat (qz_I h 770 17)) = v := by unfold rz_code; rw [← he, hr, if_neg (by first | omega | (show ¬(_ ∨ _ ∨ (_ ∧ qz_I h 771 _ = 48)); rw [← bb]; omega)), if_pos (by omega)]
          rw [e] at k1
          exact ez_retI rfl rfl (k1 g hB hm he (by omega))

theorem rd_code_l (t770 : τ 770 = 75) (hr1 : h.1 + 1 ≤ 600192) (hr2 : h.2.1 + 6 ≤ 7302232) (hf0 : 0 ≤ qz_I h 770 17) (hs1 : qz_I h 770 18 ≤ 4096) (k1 : ∀ g, ez_B τ g → mz h g → qz_I g 770 17 = (me (mb h) (qz_I h 770 18 - qz_I h 770 17).toNat (qz_I h 770 17)) → rz_code (mb h) (qz_I h 770 17) (me (mb h) (qz_I h 770 18 - qz_I h 770 17).toNat (qz_I h 770 17)) ≠ -1 → Q (.inl (some (ez_v (.inl (rz_code (mb h) (qz_I h 770 17) (me (mb h) (qz_I h 770 18 - qz_I h 770 17).toNat (qz_I h 770 17)))))), g)) (k0 : rz_code (mb h) (qz_I h 770 17) (me (mb h) (qz_I h 770 18 - qz_I h 770 17).toNat (qz_I h 770 17)) = -1 → ∀ g, ez_B τ g → mz h g → Q (.inr g.1, xc g 1)) : ∀ (n : Nat) (v : Int) (g : cz_H), n = (qz_I h 770 18 - qz_I g 770 17).toNat → ez_B τ g → mz h g → qz_I h 770 17 ≤ qz_I g 770 17 → qz_I g 770 17 ≤ qz_I h 770 18 → qz_I g 770 17 - qz_I h 770 17 ≤ 6 → 0 ≤ v → (me (mb h) (qz_I h 770 18 - qz_I h 770 17).toNat (qz_I h 770 17)) = me (mb h) (qz_I h 770 18 - qz_I g 770 17).toNat (qz_I g 770 17) → (∀ m : Nat, rz_hex (mb h) ((qz_I g 770 17 - qz_I h 770 17).toNat + m) (qz_I h 770 17) 0 = rz_hex (mb h) m (qz_I g 770 17) v) → ez_W (d + 7) cm_234 7 [(2, .inl (v)), (1, .inl ((qz_I h 770 17))), (0, .inr (.inr (some (770))))] [] g Q := by
  intro n
  induction n with
  | zero =>
    intro v g hn hB hm hf hs h6 v0 he hr
    have hmr := mh_rg (mk (mb g) (qz_I g 770 17) (qz_I g 770 18))
    have e18 : qz_I g 770 18 = qz_I h 770 18 := hm.2 18 (by decide)
    have c1 := hm.1.1
    have c2 := hm.1.2.1
    have hr0 := hr 0
    rw [Nat.add_zero] at hr0
    have hr0 : rz_hex (mb h) (qz_I g 770 17 - qz_I h 770 17).toNat (qz_I h 770 17) 0 = v := hr0
    have hbd := rz_hex_bd (mb h) (qz_I g 770 17 - qz_I h 770 17).toNat (qz_I h 770 17) 0 1 (by omega) (by omega) (by omega)
    have hp6 := rz_pow6 (show (qz_I g 770 17 - qz_I h 770 17).toNat ≤ 6 by omega)
    rw [hr0] at hbd
    have v1 : v ≤ 16777215 := by omega
    refine ez_go (n := 1) (pc' := 8) (L' := [(2, .inl (v)), (1, .inl ((qz_I h 770 17))), (0, .inr (.inr (some (770))))]) (st' := [.inr (.inr (some (770)))]) rfl ?_
    refine ez_cv hB t770 rfl rfl rfl tq_75 rfl rfl rfl (rd_hex hB t770 (ez_K1 ?_))
    refine ez_if rfl rfl ⟨by first | omega | exact (sz_i32 _).1, by first | omega | exact (sz_i32 _).2⟩ (fun (c1 : (mh (mk (mb g) (qz_I g 770 17) (qz_I g 770 18))) < (0)) => ?_) (fun (c1 : ¬((mh (mk (mb g) (qz_I g 770 17) (qz_I g 770 18))) < (0))) => ?_)
    · skip
      refine ez_less [(2, .inl (v)), (1, .inl ((qz_I h 770 17))), (0, .inr (.inr (some (770))))] rfl ⟨rfl, rfl, rfl, trivial⟩ ?_
      refine rd_code_x t770 hr1 hr2 k1 k0 hB hm hf hf0 hs hs1 h6 v0 v1 ?_ hr0
      rw [he]
      by_cases e : qz_I g 770 17 < qz_I h 770 18
      · have hc9 := mk_neg (b := mb g) (a := qz_I g 770 17) (s := qz_I g 770 18) (by omega) (by omega)
        rw [hm.b] at hc9
        rw [show (qz_I h 770 18 - qz_I g 770 17).toNat = (qz_I h 770 18 - (qz_I g 770 17 + 1)).toNat + 1 by omega, me, if_neg hc9]
      · rw [show (qz_I h 770 18 - qz_I g 770 17).toNat = 0 by omega, me]
    · skip
      refine ez_go (n := 2) (pc' := 16) (L' := [(2, .inl (v)), (1, .inl ((qz_I h 770 17))), (0, .inr (.inr (some (770))))]) (st' := [.inr (.inr (some (770))), .inr (.inr (some (770)))]) rfl ?_
      refine ez_gI hB t770 rfl rfl tq_75 rfl rfl (fun (b2 : 0 ≤ qz_I g 770 17) (b2' : qz_I g 770 17 ≤ 4200) => ?_)
      refine ez_go (n := 3) (pc' := 23) (L' := [(2, .inl (v)), (1, .inl ((qz_I h 770 17))), (0, .inr (.inr (some (770))))]) (st' := [.inl (6), .inl ((qz_I g 770 17) - ((qz_I h 770 17))), .inr (.inr (some (770)))]) rfl ?_
      refine ez_icmp rfl rfl ⟨by first | omega | exact (sz_i32 _).1, by first | omega | exact (sz_i32 _).2⟩ ⟨by first | omega | exact (sz_i32 _).1, by first | omega | exact (sz_i32 _).2⟩ (fun (c3 : (6) ≤ ((qz_I g 770 17) - ((qz_I h 770 17)))) => ?_) (fun (c3 : ¬((6) ≤ ((qz_I g 770 17) - ((qz_I h 770 17))))) => ?_)
      · skip
        refine ez_go (n := 1) (pc' := 31) (L' := [(2, .inl (v)), (1, .inl ((qz_I h 770 17))), (0, .inr (.inr (some (770))))]) (st' := [.inl (0), .inr (.inr (some (770)))]) rfl ?_
        refine ez_cv hB t770 rfl rfl rfl tq_75 rfl rfl rfl (rd_can0 (by omega) (by omega) (ez_Kp (xc_exc hB rfl) rfl (k0 (by obtain ⟨hlt9, hc9, hmk⟩ := mk_pos (b := mb g) (a := qz_I g 770 17) (s := qz_I g 770 18) (by omega); rw [hm.b] at hc9; have q1 := me_le (mb h) (qz_I h 770 18 - (qz_I g 770 17 + 1)).toNat (qz_I g 770 17 + 1); unfold rz_code; rw [if_pos (Or.inr (Or.inl (by rw [he, show (qz_I h 770 18 - qz_I g 770 17).toNat = (qz_I h 770 18 - (qz_I g 770 17 + 1)).toNat + 1 by omega, me, if_pos hc9]; omega)))]) g hB hm)))
      · skip
        refine ez_go (n := 2) (pc' := 31) (L' := [(2, .inl (v)), (1, .inl ((qz_I h 770 17))), (0, .inr (.inr (some (770))))]) (st' := [.inl (1), .inr (.inr (some (770)))]) rfl ?_
        refine ez_cv hB t770 rfl rfl rfl tq_75 rfl rfl rfl (rd_can1 (by omega) (by omega) (ez_K0 ?_))
        refine ez_go (n := 4) (pc' := 39) (L' := [(2, .inl (v)), (1, .inl ((qz_I h 770 17))), (0, .inr (.inr (some (770))))]) (st' := [.inr (.inr (some (770))), .inl ((16) * (v))]) rfl ?_
        refine ez_cv hB t770 rfl rfl rfl tq_75 rfl rfl rfl (rd_hex hB t770 (ez_K1 ?_))
        refine ez_go (n := 4) (pc' := 46) (L' := [(2, .inl (((16) * (v)) + (mh (mk (mb g) (qz_I g 770 17) (qz_I g 770 18))))), (1, .inl ((qz_I h 770 17))), (0, .inr (.inr (some (770))))]) (st' := [.inr (.inr (some (770))), .inr (.inr (some (770)))]) rfl ?_
        refine ez_gI hB t770 rfl rfl tq_75 rfl rfl (fun (b4 : 0 ≤ qz_I g 770 17) (b4' : qz_I g 770 17 ≤ 4200) => ?_)
        refine ez_go (n := 2) (pc' := 51) (L' := [(2, .inl (((16) * (v)) + (mh (mk (mb g) (qz_I g 770 17) (qz_I g 770 18))))), (1, .inl ((qz_I h 770 17))), (0, .inr (.inr (some (770))))]) (st' := [.inl ((qz_I g 770 17) + (1)), .inr (.inr (some (770)))]) rfl ?_
        refine ez_pf hB t770 rfl rfl tq_75 rfl rfl rfl rfl (ez_vdI rfl rfl (by omega) (by omega)) (fun hB5 w6 => ?_)
        refine ez_go (n := 1) (pc' := 7) (L' := [(2, .inl (((16) * (v)) + (mh (mk (mb g) (qz_I g 770 17) (qz_I g 770 18))))), (1, .inl ((qz_I h 770 17))), (0, .inr (.inr (some (770))))]) (st' := []) rfl ?_
        refine ez_less [(2, .inl (((16) * (v)) + (mh (mk (mb g) (qz_I g 770 17) (qz_I g 770 18))))), (1, .inl ((qz_I h 770 17))), (0, .inr (.inr (some (770))))] rfl ⟨rfl, rfl, rfl, trivial⟩ ?_
        exfalso
        have := (mk_pos (b := mb g) (a := qz_I g 770 17) (s := qz_I g 770 18) (by omega)).1
        omega
  | succ n ih =>
    intro v g hn hB hm hf hs h6 v0 he hr
    have hmr := mh_rg (mk (mb g) (qz_I g 770 17) (qz_I g 770 18))
    have e18 : qz_I g 770 18 = qz_I h 770 18 := hm.2 18 (by decide)
    have c1 := hm.1.1
    have c2 := hm.1.2.1
    have hr0 := hr 0
    rw [Nat.add_zero] at hr0
    have hr0 : rz_hex (mb h) (qz_I g 770 17 - qz_I h 770 17).toNat (qz_I h 770 17) 0 = v := hr0
    have hbd := rz_hex_bd (mb h) (qz_I g 770 17 - qz_I h 770 17).toNat (qz_I h 770 17) 0 1 (by omega) (by omega) (by omega)
    have hp6 := rz_pow6 (show (qz_I g 770 17 - qz_I h 770 17).toNat ≤ 6 by omega)
    rw [hr0] at hbd
    have v1 : v ≤ 16777215 := by omega
    refine ez_go (n := 1) (pc' := 8) (L' := [(2, .inl (v)), (1, .inl ((qz_I h 770 17))), (0, .inr (.inr (some (770))))]) (st' := [.inr (.inr (some (770)))]) rfl ?_
    refine ez_cv hB t770 rfl rfl rfl tq_75 rfl rfl rfl (rd_hex hB t770 (ez_K1 ?_))
    refine ez_if rfl rfl ⟨by first | omega | exact (sz_i32 _).1, by first | omega | exact (sz_i32 _).2⟩ (fun (c1 : (mh (mk (mb g) (qz_I g 770 17) (qz_I g 770 18))) < (0)) => ?_) (fun (c1 : ¬((mh (mk (mb g) (qz_I g 770 17) (qz_I g 770 18))) < (0))) => ?_)
    · skip
      refine ez_less [(2, .inl (v)), (1, .inl ((qz_I h 770 17))), (0, .inr (.inr (some (770))))] rfl ⟨rfl, rfl, rfl, trivial⟩ ?_
      refine rd_code_x t770 hr1 hr2 k1 k0 hB hm hf hf0 hs hs1 h6 v0 v1 ?_ hr0
      rw [he]
      by_cases e : qz_I g 770 17 < qz_I h 770 18
      · have hc9 := mk_neg (b := mb g) (a := qz_I g 770 17) (s := qz_I g 770 18) (by omega) (by omega)
        rw [hm.b] at hc9
        rw [show (qz_I h 770 18 - qz_I g 770 17).toNat = (qz_I h 770 18 - (qz_I g 770 17 + 1)).toNat + 1 by omega, me, if_neg hc9]
      · rw [show (qz_I h 770 18 - qz_I g 770 17).toNat = 0 by omega, me]
    · skip
      refine ez_go (n := 2) (pc' := 16) (L' := [(2, .inl (v)), (1, .inl ((qz_I h 770 17))), (0, .inr (.inr (some (770))))]) (st' := [.inr (.inr (some (770))), .inr (.inr (some (770)))]) rfl ?_
      refine ez_gI hB t770 rfl rfl tq_75 rfl rfl (fun (b2 : 0 ≤ qz_I g 770 17) (b2' : qz_I g 770 17 ≤ 4200) => ?_)
      refine ez_go (n := 3) (pc' := 23) (L' := [(2, .inl (v)), (1, .inl ((qz_I h 770 17))), (0, .inr (.inr (some (770))))]) (st' := [.inl (6), .inl ((qz_I g 770 17) - ((qz_I h 770 17))), .inr (.inr (some (770)))]) rfl ?_
      refine ez_icmp rfl rfl ⟨by first | omega | exact (sz_i32 _).1, by first | omega | exact (sz_i32 _).2⟩ ⟨by first | omega | exact (sz_i32 _).1, by first | omega | exact (sz_i32 _).2⟩ (fun (c3 : (6) ≤ ((qz_I g 770 17) - ((qz_I h 770 17)))) => ?_) (fun (c3 : ¬((6) ≤ ((qz_I g 770 17) - ((qz_I h 770 17))))) => ?_)
      · skip
        refine ez_go (n := 1) (pc' := 31) (L' := [(2, .inl (v)), (1, .inl ((qz_I h 770 17))), (0, .inr (.inr (some (770))))]) (st' := [.inl (0), .inr (.inr (some (770)))]) rfl ?_
        refine ez_cv hB t770 rfl rfl rfl tq_75 rfl rfl rfl (rd_can0 (by omega) (by omega) (ez_Kp (xc_exc hB rfl) rfl (k0 (by obtain ⟨hlt9, hc9, hmk⟩ := mk_pos (b := mb g) (a := qz_I g 770 17) (s := qz_I g 770 18) (by omega); rw [hm.b] at hc9; have q1 := me_le (mb h) (qz_I h 770 18 - (qz_I g 770 17 + 1)).toNat (qz_I g 770 17 + 1); unfold rz_code; rw [if_pos (Or.inr (Or.inl (by rw [he, show (qz_I h 770 18 - qz_I g 770 17).toNat = (qz_I h 770 18 - (qz_I g 770 17 + 1)).toNat + 1 by omega, me, if_pos hc9]; omega)))]) g hB hm)))
      · skip
        refine ez_go (n := 2) (pc' := 31) (L' := [(2, .inl (v)), (1, .inl ((qz_I h 770 17))), (0, .inr (.inr (some (770))))]) (st' := [.inl (1), .inr (.inr (some (770)))]) rfl ?_
        refine ez_cv hB t770 rfl rfl rfl tq_75 rfl rfl rfl (rd_can1 (by omega) (by omega) (ez_K0 ?_))
        refine ez_go (n := 4) (pc' := 39) (L' := [(2, .inl (v)), (1, .inl ((qz_I h 770 17))), (0, .inr (.inr (some (770))))]) (st' := [.inr (.inr (some (770))), .inl ((16) * (v))]) rfl ?_
        refine ez_cv hB t770 rfl rfl rfl tq_75 rfl rfl rfl (rd_hex hB t770 (ez_K1 ?_))
        refine ez_go (n := 4) (pc' := 46) (L' := [(2, .inl (((16) * (v)) + (mh (mk (mb g) (qz_I g 770 17) (qz_I g 770 18))))), (1, .inl ((qz_I h 770 17))), (0, .inr (.inr (some (770))))]) (st' := [.inr (.inr (some (770))), .inr (.inr (some (770)))]) rfl ?_
        refine ez_gI hB t770 rfl rfl tq_75 rfl rfl (fun (b4 : 0 ≤ qz_I g 770 17) (b4' : qz_I g 770 17 ≤ 4200) => ?_)
        refine ez_go (n := 2) (pc' := 51) (L' := [(2, .inl (((16) * (v)) + (mh (mk (mb g) (qz_I g 770 17) (qz_I g 770 18))))), (1, .inl ((qz_I h 770 17))), (0, .inr (.inr (some (770))))]) (st' := [.inl ((qz_I g 770 17) + (1)), .inr (.inr (some (770)))]) rfl ?_
        refine ez_pf hB t770 rfl rfl tq_75 rfl rfl rfl rfl (ez_vdI rfl rfl (by omega) (by omega)) (fun hB5 w6 => ?_)
        refine ez_go (n := 1) (pc' := 7) (L' := [(2, .inl (((16) * (v)) + (mh (mk (mb g) (qz_I g 770 17) (qz_I g 770 18))))), (1, .inl ((qz_I h 770 17))), (0, .inr (.inr (some (770))))]) (st' := []) rfl ?_
        refine ez_less [(2, .inl (((16) * (v)) + (mh (mk (mb g) (qz_I g 770 17) (qz_I g 770 18))))), (1, .inl ((qz_I h 770 17))), (0, .inr (.inr (some (770))))] rfl ⟨rfl, rfl, rfl, trivial⟩ ?_
        obtain ⟨hlt9, hc9, hmk⟩ := mk_pos (b := mb g) (a := qz_I g 770 17) (s := qz_I g 770 18) (by omega)
        rw [hm.b] at hc9 hmk
        have hmr2 := mh_rg (mb h (qz_I g 770 17))
        have hmk2 : mk (mb g) (qz_I g 770 17) (qz_I g 770 18) = mb h (qz_I g 770 17) := by rw [hm.b]; exact hmk
        have a9 : qz_I (dz_put g 770 17 (ez_v (.inl ((qz_I g 770 17) + (1))))) 770 17 = qz_I g 770 17 + 1 := by rw [w6, rz_rd ⟨by omega, by omega⟩]
        rw [hmk2]
        refine ih _ _ (by rw [a9]; omega) hB5 (hm.trans mz_put) (by rw [a9]; omega) (by rw [a9]; omega) (by rw [a9]; omega) (by omega) ?_ (fun m => ?_)
        · rw [a9, he, show (qz_I h 770 18 - qz_I g 770 17).toNat = (qz_I h 770 18 - (qz_I g 770 17 + 1)).toNat + 1 by omega, me, if_pos (by omega)]
        · rw [a9, show (qz_I g 770 17 + 1 - qz_I h 770 17).toNat + m = (qz_I g 770 17 - qz_I h 770 17).toNat + (m + 1) by omega, hr (m + 1), rz_hex_mh, if_pos (by omega)]; congr 1; omega
theorem rd_code (hB : ez_B τ h) (t770 : τ 770 = 75) (hr1 : h.1 + 1 ≤ 600192) (hr2 : h.2.1 + 6 ≤ 7302232) (hfs : qz_I h 770 17 ≤ qz_I h 770 18) (hs1 : qz_I h 770 18 ≤ 4096) (k1 : ∀ g, ez_B τ g → mz h g → qz_I g 770 17 = (me (mb h) (qz_I h 770 18 - qz_I h 770 17).toNat (qz_I h 770 17)) → rz_code (mb h) (qz_I h 770 17) (me (mb h) (qz_I h 770 18 - qz_I h 770 17).toNat (qz_I h 770 17)) ≠ -1 → Q (.inl (some (ez_v (.inl (rz_code (mb h) (qz_I h 770 17) (me (mb h) (qz_I h 770 18 - qz_I h 770 17).toNat (qz_I h 770 17)))))), g)) (k0 : rz_code (mb h) (qz_I h 770 17) (me (mb h) (qz_I h 770 18 - qz_I h 770 17).toNat (qz_I h 770 17)) = -1 → ∀ g, ez_B τ g → mz h g → Q (.inr g.1, xc g 1)) : ez_W (d + 7) cm_234 0 [(0, .inr (.inr (some (770))))] [] h Q := by
  refine ez_go (n := 1) (pc' := 1) (L' := [(0, .inr (.inr (some (770))))]) (st' := [.inr (.inr (some (770)))]) rfl ?_
  refine ez_gI hB t770 rfl rfl tq_75 rfl rfl (fun (b1 : 0 ≤ qz_I h 770 17) (b1' : qz_I h 770 17 ≤ 4200) => ?_)
  refine ez_go (n := 3) (pc' := 7) (L' := [(2, .inl (0)), (1, .inl (qz_I h 770 17)), (0, .inr (.inr (some (770))))]) (st' := []) rfl ?_
  refine ez_less [(2, .inl (0)), (1, .inl (qz_I h 770 17)), (0, .inr (.inr (some (770))))] rfl ⟨rfl, rfl, rfl, trivial⟩ ?_
  exact rd_code_l t770 hr1 hr2 (by omega) hs1 k1 k0 _ 0 h rfl hB (mz.refl _) (by omega) hfs (by omega) (by omega) rfl (fun m => by rw [show (qz_I h 770 17 - qz_I h 770 17).toNat + m = m by omega])

end EzMo
/-! The model reads: fields. (Written by wip/p2/py/pv51.py.) -/
def mf (h : cz_H) (k : Int) : Int := qz_I h 789 k.toNat
def mt (h : cz_H) (k : Int) : Int := qz_I h 790 k.toNat
def nz_PF (q : Nat) : Bool := Nat.beq q 789 || Nat.beq q 790
/-- fields as they were cut -/
def mz_c (h : cz_H) (A : List (Int × Int)) : Prop := ∀ (k : Nat) (p : Int × Int), A[k]? = some p → mf h k = p.1 ∧ mt h k = p.2
theorem mb_F {h g : cz_H} (hf : ez_fr nz_PF h g) : mb g = mb h := funext fun i => hf.I rfl _
section EzMf
variable {d : Nat} {h : cz_H} {τ : Nat → Nat} {Q : cz_F → Prop}
theorem rd_fields_1 {w n : Int} (hB : ez_B τ h) (t770 : τ 770 = 75) (t771 : τ 771 = 76) (hr1 : h.1 + 1 ≤ 600192) (hr2 : h.2.1 + 6 ≤ 7302232) (n1 : n ≤ 4096) (kT : ¬ rz_plain (mb h) n → Q (.inr h.1, xc h 1)) (kx : ∀ e, rz_plain (mb h) n → rz_hash (mb h) n e → ez_W (d + 7) cm_255 78 [(3, .inl (e)), (0, .inr (.inr (some (770)))), (1, .inl (w)), (2, .inl (n))] [] h Q) : ∀ (m : Nat) (k e : Int), m = (k + 1).toNat → -1 ≤ k → k < n → k < e → e ≤ n → (∀ j, k < j → j < n → rz_pl (mb h) j) → (∀ j, k < j → j < e → mb h j ≠ 35) → (e = n ∨ mb h e = 35) → ez_W (d + 7) cm_255 7 [(4, .inl (k)), (3, .inl (e)), (0, .inr (.inr (some (770)))), (1, .inl (w)), (2, .inl (n))] [] h Q := by
  intro m
  induction m with
  | zero =>
    intro k e hm k0 k1 he0 he1 hpl hno hat
    refine ez_go (n := 1) (pc' := 9) (L' := [(4, .inl (k)), (3, .inl (e)), (0, .inr (.inr (some (770)))), (1, .inl (w)), (2, .inl (n))]) (st' := [.inl (k)]) rfl ?_
    refine ez_if rfl rfl ⟨by first | omega | exact (sz_i32 _).1, by first | omega | exact (sz_i32 _).2⟩ (fun (c1 : (k) < (0)) => ?_) (fun (c1 : ¬((k) < (0))) => ?_)
    · skip
      refine ez_less [(3, .inl (e)), (0, .inr (.inr (some (770)))), (1, .inl (w)), (2, .inl (n))] rfl ⟨rfl, rfl, rfl, rfl, trivial⟩ ?_
      exact kx e (fun j j0 j1 => hpl j (by omega) j1) ⟨by omega, by omega, fun j j0 j1 => hno j (by omega) j1, hat⟩
    · exfalso; omega
  | succ m ih =>
    intro k e hm k0 k1 he0 he1 hpl hno hat
    refine ez_go (n := 1) (pc' := 9) (L' := [(4, .inl (k)), (3, .inl (e)), (0, .inr (.inr (some (770)))), (1, .inl (w)), (2, .inl (n))]) (st' := [.inl (k)]) rfl ?_
    refine ez_if rfl rfl ⟨by first | omega | exact (sz_i32 _).1, by first | omega | exact (sz_i32 _).2⟩ (fun (c1 : (k) < (0)) => ?_) (fun (c1 : ¬((k) < (0))) => ?_)
    · exfalso; omega
    · skip
      refine ez_go (n := 2) (pc' := 14) (L' := [(4, .inl (k)), (3, .inl (e)), (0, .inr (.inr (some (770)))), (1, .inl (w)), (2, .inl (n))]) (st' := [.inr (.inr (some (770))), .inr (.inr (some (770)))]) rfl ?_
      refine ez_gC (p := 771) (tg := 76) hB t770 rfl rfl tq_75 rfl rfl (fun (t771 : _ = 76) => ?_)
      refine ez_go (n := 1) (pc' := 19) (L' := [(4, .inl (k)), (3, .inl (e)), (0, .inr (.inr (some (770)))), (1, .inl (w)), (2, .inl (n))]) (st' := [.inl (k), .inr (.inr (some (771))), .inr (.inr (some (770)))]) rfl ?_
      have n3 : 4096 ≤ qz_N h 771 ∧ qz_N h 771 ≤ 4096 := ez_len hB t771 tq_76 rfl
      refine ez_aI hB t771 rfl tq_76 rfl rfl (by omega) (by omega) (fun (b2 : -128 ≤ qz_I h 771 (k).toNat) (b2' : qz_I h 771 (k).toNat ≤ 127) => ?_)
      refine ez_go (n := 1) (pc' := 22) (L' := [(4, .inl (k)), (3, .inl (e)), (0, .inr (.inr (some (770)))), (1, .inl (w)), (2, .inl (n))]) (st' := [.inl (9), .inl (qz_I h 771 (k).toNat), .inr (.inr (some (770)))]) rfl ?_
      refine ez_icmp rfl rfl ⟨by first | omega | exact (sz_i32 _).1, by first | omega | exact (sz_i32 _).2⟩ ⟨by first | omega | exact (sz_i32 _).1, by first | omega | exact (sz_i32 _).2⟩ (fun (c4 : (qz_I h 771 (k).toNat) = (9)) => ?_) (fun (c4 : ¬((qz_I h 771 (k).toNat) = (9))) => ?_)
      · skip
        refine ez_go (n := 2) (pc' := 54) (L' := [(4, .inl (k)), (3, .inl (e)), (0, .inr (.inr (some (770)))), (1, .inl (w)), (2, .inl (n))]) (st' := [.inl (1), .inr (.inr (some (770)))]) rfl ?_
        refine ez_cv hB t770 rfl rfl rfl tq_75 rfl rfl rfl (rd_can1 (by omega) (by omega) (ez_K0 ?_))
        refine ez_go (n := 1) (pc' := 58) (L' := [(4, .inl (k)), (3, .inl (e)), (0, .inr (.inr (some (770)))), (1, .inl (w)), (2, .inl (n))]) (st' := [.inr (.inr (some (770)))]) rfl ?_
        refine ez_gC (p := 771) (tg := 76) hB t770 rfl rfl tq_75 rfl rfl (fun (t771 : _ = 76) => ?_)
        refine ez_go (n := 1) (pc' := 63) (L' := [(4, .inl (k)), (3, .inl (e)), (0, .inr (.inr (some (770)))), (1, .inl (w)), (2, .inl (n))]) (st' := [.inl (k), .inr (.inr (some (771)))]) rfl ?_
        have n6 : 4096 ≤ qz_N h 771 ∧ qz_N h 771 ≤ 4096 := ez_len hB t771 tq_76 rfl
        refine ez_aI hB t771 rfl tq_76 rfl rfl (by omega) (by omega) (fun (b5 : -128 ≤ qz_I h 771 (k).toNat) (b5' : qz_I h 771 (k).toNat ≤ 127) => ?_)
        refine ez_go (n := 1) (pc' := 66) (L' := [(4, .inl (k)), (3, .inl (e)), (0, .inr (.inr (some (770)))), (1, .inl (w)), (2, .inl (n))]) (st' := [.inl (35), .inl (qz_I h 771 (k).toNat)]) rfl ?_
        refine ez_icmp rfl rfl ⟨by first | omega | exact (sz_i32 _).1, by first | omega | exact (sz_i32 _).2⟩ ⟨by first | omega | exact (sz_i32 _).1, by first | omega | exact (sz_i32 _).2⟩ (fun (c7 : (qz_I h 771 (k).toNat) ≠ (35)) => ?_) (fun (c7 : ¬((qz_I h 771 (k).toNat) ≠ (35))) => ?_)
        · skip
          refine ez_go (n := 2) (pc' := 7) (L' := [(4, .inl (k + (-1))), (3, .inl (e)), (0, .inr (.inr (some (770)))), (1, .inl (w)), (2, .inl (n))]) (st' := []) rfl ?_
          refine ez_less [(4, .inl (k + (-1))), (3, .inl (e)), (0, .inr (.inr (some (770)))), (1, .inl (w)), (2, .inl (n))] rfl ⟨rfl, rfl, rfl, rfl, rfl, trivial⟩ ?_
          have hplk : rz_pl (mb h) k := by unfold rz_pl mb; omega
          refine ih _ _ (by omega) (by omega) (by omega) (by omega) (by omega) (fun j j0 j1 => ?_) (fun j j0 j1 => ?_) ?_
          · by_cases e9 : j = k; (· rw [e9]; exact hplk); (· exact hpl j (by omega) j1)
          · by_cases e9 : j = k; (· rw [e9]; unfold mb; omega); (· exact hno j (by omega) j1)
          · exact hat
        · skip
          refine ez_go (n := 4) (pc' := 7) (L' := [(4, .inl (k + (-1))), (3, .inl (k)), (0, .inr (.inr (some (770)))), (1, .inl (w)), (2, .inl (n))]) (st' := []) rfl ?_
          refine ez_less [(4, .inl (k + (-1))), (3, .inl (k)), (0, .inr (.inr (some (770)))), (1, .inl (w)), (2, .inl (n))] rfl ⟨rfl, rfl, rfl, rfl, rfl, trivial⟩ ?_
          have hplk : rz_pl (mb h) k := by unfold rz_pl mb; omega
          refine ih _ _ (by omega) (by omega) (by omega) (by omega) (by omega) (fun j j0 j1 => ?_) (fun j j0 j1 => ?_) ?_
          · by_cases e9 : j = k; (· rw [e9]; exact hplk); (· exact hpl j (by omega) j1)
          · omega
          · exact Or.inr (by unfold mb; omega)
      · skip
        refine ez_go (n := 1) (pc' := 26) (L' := [(4, .inl (k)), (3, .inl (e)), (0, .inr (.inr (some (770)))), (1, .inl (w)), (2, .inl (n))]) (st' := [.inr (.inr (some (770))), .inr (.inr (some (770)))]) rfl ?_
        refine ez_gC (p := 771) (tg := 76) hB t770 rfl rfl tq_75 rfl rfl (fun (t771 : _ = 76) => ?_)
        refine ez_go (n := 1) (pc' := 31) (L' := [(4, .inl (k)), (3, .inl (e)), (0, .inr (.inr (some (770)))), (1, .inl (w)), (2, .inl (n))]) (st' := [.inl (k), .inr (.inr (some (771))), .inr (.inr (some (770)))]) rfl ?_
        have n9 : 4096 ≤ qz_N h 771 ∧ qz_N h 771 ≤ 4096 := ez_len hB t771 tq_76 rfl
        refine ez_aI hB t771 rfl tq_76 rfl rfl (by omega) (by omega) (fun (b8 : -128 ≤ qz_I h 771 (k).toNat) (b8' : qz_I h 771 (k).toNat ≤ 127) => ?_)
        refine ez_go (n := 1) (pc' := 34) (L' := [(4, .inl (k)), (3, .inl (e)), (0, .inr (.inr (some (770)))), (1, .inl (w)), (2, .inl (n))]) (st' := [.inl (32), .inl (qz_I h 771 (k).toNat), .inr (.inr (some (770)))]) rfl ?_
        refine ez_icmp rfl rfl ⟨by first | omega | exact (sz_i32 _).1, by first | omega | exact (sz_i32 _).2⟩ ⟨by first | omega | exact (sz_i32 _).1, by first | omega | exact (sz_i32 _).2⟩ (fun (c10 : (qz_I h 771 (k).toNat) < (32)) => ?_) (fun (c10 : ¬((qz_I h 771 (k).toNat) < (32))) => ?_)
        · skip
          refine ez_go (n := 1) (pc' := 54) (L' := [(4, .inl (k)), (3, .inl (e)), (0, .inr (.inr (some (770)))), (1, .inl (w)), (2, .inl (n))]) (st' := [.inl (0), .inr (.inr (some (770)))]) rfl ?_
          refine ez_cv hB t770 rfl rfl rfl tq_75 rfl rfl rfl (rd_can0 (by omega) (by omega) (ez_Kp (xc_exc hB rfl) rfl (kT (fun hp => by have := hp k (by omega) (by omega); unfold rz_pl mb at this; omega))))
        · skip
          refine ez_go (n := 1) (pc' := 38) (L' := [(4, .inl (k)), (3, .inl (e)), (0, .inr (.inr (some (770)))), (1, .inl (w)), (2, .inl (n))]) (st' := [.inr (.inr (some (770))), .inr (.inr (some (770)))]) rfl ?_
          refine ez_gC (p := 771) (tg := 76) hB t770 rfl rfl tq_75 rfl rfl (fun (t771 : _ = 76) => ?_)
          refine ez_go (n := 1) (pc' := 43) (L' := [(4, .inl (k)), (3, .inl (e)), (0, .inr (.inr (some (770)))), (1, .inl (w)), (2, .inl (n))]) (st' := [.inl (k), .inr (.inr (some (771))), .inr (.inr (some (770)))]) rfl ?_
          have n12 : 4096 ≤ qz_N h 771 ∧ qz_N h 771 ≤ 4096 := ez_len hB t771 tq_76 rfl
          refine ez_aI hB t771 rfl tq_76 rfl rfl (by omega) (by omega) (fun (b11 : -128 ≤ qz_I h 771 (k).toNat) (b11' : qz_I h 771 (k).toNat ≤ 127) => ?_)
          refine ez_go (n := 1) (pc' := 46) (L' := [(4, .inl (k)), (3, .inl (e)), (0, .inr (.inr (some (770)))), (1, .inl (w)), (2, .inl (n))]) (st' := [.inl (126), .inl (qz_I h 771 (k).toNat), .inr (.inr (some (770)))]) rfl ?_
          refine ez_icmp rfl rfl ⟨by first | omega | exact (sz_i32 _).1, by first | omega | exact (sz_i32 _).2⟩ ⟨by first | omega | exact (sz_i32 _).1, by first | omega | exact (sz_i32 _).2⟩ (fun (c13 : (126) < (qz_I h 771 (k).toNat)) => ?_) (fun (c13 : ¬((126) < (qz_I h 771 (k).toNat))) => ?_)
          · skip
            refine ez_go (n := 1) (pc' := 54) (L' := [(4, .inl (k)), (3, .inl (e)), (0, .inr (.inr (some (770)))), (1, .inl (w)), (2, .inl (n))]) (st' := [.inl (0), .inr (.inr (some (770)))]) rfl ?_
            refine ez_cv hB t770 rfl rfl rfl tq_75 rfl rfl rfl (rd_can0 (by omega) (by omega) (ez_Kp (xc_exc hB rfl) rfl (kT (fun hp => by have := hp k (by omega) (by omega); unfold rz_pl mb at this; omega))))
          · skip
            refine ez_go (n := 2) (pc' := 54) (L' := [(4, .inl (k)), (3, .inl (e)), (0, .inr (.inr (some (770)))), (1, .inl (w)), (2, .inl (n))]) (st' := [.inl (1), .inr (.inr (some (770)))]) rfl ?_
            refine ez_cv hB t770 rfl rfl rfl tq_75 rfl rfl rfl (rd_can1 (by omega) (by omega) (ez_K0 ?_))
            refine ez_go (n := 1) (pc' := 58) (L' := [(4, .inl (k)), (3, .inl (e)), (0, .inr (.inr (some (770)))), (1, .inl (w)), (2, .inl (n))]) (st' := [.inr (.inr (some (770)))]) rfl ?_
            refine ez_gC (p := 771) (tg := 76) hB t770 rfl rfl tq_75 rfl rfl (fun (t771 : _ = 76) => ?_)
            refine ez_go (n := 1) (pc' := 63) (L' := [(4, .inl (k)), (3, .inl (e)), (0, .inr (.inr (some (770)))), (1, .inl (w)), (2, .inl (n))]) (st' := [.inl (k), .inr (.inr (some (771)))]) rfl ?_
            have n15 : 4096 ≤ qz_N h 771 ∧ qz_N h 771 ≤ 4096 := ez_len hB t771 tq_76 rfl
            refine ez_aI hB t771 rfl tq_76 rfl rfl (by omega) (by omega) (fun (b14 : -128 ≤ qz_I h 771 (k).toNat) (b14' : qz_I h 771 (k).toNat ≤ 127) => ?_)
            refine ez_go (n := 1) (pc' := 66) (L' := [(4, .inl (k)), (3, .inl (e)), (0, .inr (.inr (some (770)))), (1, .inl (w)), (2, .inl (n))]) (st' := [.inl (35), .inl (qz_I h 771 (k).toNat)]) rfl ?_
            refine ez_icmp rfl rfl ⟨by first | omega | exact (sz_i32 _).1, by first | omega | exact (sz_i32 _).2⟩ ⟨by first | omega | exact (sz_i32 _).1, by first | omega | exact (sz_i32 _).2⟩ (fun (c16 : (qz_I h 771 (k).toNat) ≠ (35)) => ?_) (fun (c16 : ¬((qz_I h 771 (k).toNat) ≠ (35))) => ?_)
            · skip
              refine ez_go (n := 2) (pc' := 7) (L' := [(4, .inl (k + (-1))), (3, .inl (e)), (0, .inr (.inr (some (770)))), (1, .inl (w)), (2, .inl (n))]) (st' := []) rfl ?_
              refine ez_less [(4, .inl (k + (-1))), (3, .inl (e)), (0, .inr (.inr (some (770)))), (1, .inl (w)), (2, .inl (n))] rfl ⟨rfl, rfl, rfl, rfl, rfl, trivial⟩ ?_
              have hplk : rz_pl (mb h) k := by unfold rz_pl mb; omega
              refine ih _ _ (by omega) (by omega) (by omega) (by omega) (by omega) (fun j j0 j1 => ?_) (fun j j0 j1 => ?_) ?_
              · by_cases e9 : j = k; (· rw [e9]; exact hplk); (· exact hpl j (by omega) j1)
              · by_cases e9 : j = k; (· rw [e9]; unfold mb; omega); (· exact hno j (by omega) j1)
              · exact hat
            · skip
              refine ez_go (n := 4) (pc' := 7) (L' := [(4, .inl (k + (-1))), (3, .inl (k)), (0, .inr (.inr (some (770)))), (1, .inl (w)), (2, .inl (n))]) (st' := []) rfl ?_
              refine ez_less [(4, .inl (k + (-1))), (3, .inl (k)), (0, .inr (.inr (some (770)))), (1, .inl (w)), (2, .inl (n))] rfl ⟨rfl, rfl, rfl, rfl, rfl, trivial⟩ ?_
              have hplk : rz_pl (mb h) k := by unfold rz_pl mb; omega
              refine ih _ _ (by omega) (by omega) (by omega) (by omega) (by omega) (fun j j0 j1 => ?_) (fun j j0 j1 => ?_) ?_
              · by_cases e9 : j = k; (· rw [e9]; exact hplk); (· exact hpl j (by omega) j1)
              · omega
              · exact Or.inr (by unfold mb; omega)
theorem rd_fields_2 {w n e : Int} (t770 : τ 770 = 75) (t771 : τ 771 = 76) (hr1 : h.1 + 1 ≤ 600192) (hr2 : h.2.1 + 6 ≤ 7302232) (e1 : e ≤ 4096) (w1 : w ≤ 7) (kT : (rz_seg (mb h) e.toNat 0 0).length ≠ w.toNat → ∀ g, ez_B τ g → ez_fr nz_PF h g → Q (.inr g.1, xc g 1)) (kx : ∀ g A s f, ez_B τ g → ez_fr nz_PF h g → f = (A.length : Int) → f < w → rz_seg (mb h) e.toNat 0 0 = A ++ [(s, e)] → mz_c g A → mf g f = s → ez_W (d + 7) cm_255 158 [(4, .inl (f)), (3, .inl (e)), (0, .inr (.inr (some (770)))), (1, .inl (w)), (2, .inl (n))] [] g Q) : ∀ (m : Nat) (k s f : Int) (g : cz_H) (A : List (Int × Int)), m = (e - k).toNat → 0 ≤ s → s ≤ k → k ≤ e → ez_B τ g → ez_fr nz_PF h g → f = (A.length : Int) → f < w → rz_seg (mb h) e.toNat 0 0 = A ++ rz_seg (mb h) m k s → mz_c g A → mf g f = s → ez_W (d + 7) cm_255 91 [(5, .inl (k)), (4, .inl (f)), (3, .inl (e)), (0, .inr (.inr (some (770)))), (1, .inl (w)), (2, .inl (n))] [] g Q := by
  intro m
  induction m with
  | zero =>
    intro k s f g A hm s0 s1 k1 hB hf hA fw hseg hc hs
    have c1 := hf.1
    have c2 := hf.2.1
    have bg : ∀ i, qz_I g 771 i = qz_I h 771 i := fun i => hf.I rfl i
    refine ez_go (n := 2) (pc' := 94) (L' := [(5, .inl (k)), (4, .inl (f)), (3, .inl (e)), (0, .inr (.inr (some (770)))), (1, .inl (w)), (2, .inl (n))]) (st' := [.inl (e), .inl (k)]) rfl ?_
    refine ez_icmp rfl rfl ⟨by first | omega | exact (sz_i32 _).1, by first | omega | exact (sz_i32 _).2⟩ ⟨by first | omega | exact (sz_i32 _).1, by first | omega | exact (sz_i32 _).2⟩ (fun (c1 : (e) ≤ (k)) => ?_) (fun (c1 : ¬((e) ≤ (k))) => ?_)
    · skip
      refine ez_less [(4, .inl (f)), (3, .inl (e)), (0, .inr (.inr (some (770)))), (1, .inl (w)), (2, .inl (n))] rfl ⟨rfl, rfl, rfl, rfl, rfl, trivial⟩ ?_
      have ek : k = e := by omega
      subst ek
      exact kx g A s f hB hf hA fw (by rw [hseg]; rfl) hc hs
    · exfalso; omega
  | succ m ih =>
    intro k s f g A hm s0 s1 k1 hB hf hA fw hseg hc hs
    have c1 := hf.1
    have c2 := hf.2.1
    have bg : ∀ i, qz_I g 771 i = qz_I h 771 i := fun i => hf.I rfl i
    have hk9 := bg k.toNat
    refine ez_go (n := 2) (pc' := 94) (L' := [(5, .inl (k)), (4, .inl (f)), (3, .inl (e)), (0, .inr (.inr (some (770)))), (1, .inl (w)), (2, .inl (n))]) (st' := [.inl (e), .inl (k)]) rfl ?_
    refine ez_icmp rfl rfl ⟨by first | omega | exact (sz_i32 _).1, by first | omega | exact (sz_i32 _).2⟩ ⟨by first | omega | exact (sz_i32 _).1, by first | omega | exact (sz_i32 _).2⟩ (fun (c1 : (e) ≤ (k)) => ?_) (fun (c1 : ¬((e) ≤ (k))) => ?_)
    · exfalso; omega
    · skip
      refine ez_go (n := 1) (pc' := 98) (L' := [(5, .inl (k)), (4, .inl (f)), (3, .inl (e)), (0, .inr (.inr (some (770)))), (1, .inl (w)), (2, .inl (n))]) (st' := [.inr (.inr (some (770)))]) rfl ?_
      refine ez_gC (p := 771) (tg := 76) hB t770 rfl rfl tq_75 rfl rfl (fun (t771 : _ = 76) => ?_)
      refine ez_go (n := 1) (pc' := 103) (L' := [(5, .inl (k)), (4, .inl (f)), (3, .inl (e)), (0, .inr (.inr (some (770)))), (1, .inl (w)), (2, .inl (n))]) (st' := [.inl (k), .inr (.inr (some (771)))]) rfl ?_
      have n3 : 4096 ≤ qz_N g 771 ∧ qz_N g 771 ≤ 4096 := ez_len hB t771 tq_76 rfl
      refine ez_aI hB t771 rfl tq_76 rfl rfl (by omega) (by omega) (fun (b2 : -128 ≤ qz_I g 771 (k).toNat) (b2' : qz_I g 771 (k).toNat ≤ 127) => ?_)
      refine ez_go (n := 1) (pc' := 106) (L' := [(5, .inl (k)), (4, .inl (f)), (3, .inl (e)), (0, .inr (.inr (some (770)))), (1, .inl (w)), (2, .inl (n))]) (st' := [.inl (59), .inl (qz_I g 771 (k).toNat)]) rfl ?_
      refine ez_icmp rfl rfl ⟨by first | omega | exact (sz_i32 _).1, by first | omega | exact (sz_i32 _).2⟩ ⟨by first | omega | exact (sz_i32 _).1, by first | omega | exact (sz_i32 _).2⟩ (fun (c4 : (qz_I g 771 (k).toNat) = (59)) => ?_) (fun (c4 : ¬((qz_I g 771 (k).toNat) = (59))) => ?_)
      · skip
        refine ez_go (n := 5) (pc' := 118) (L' := [(5, .inl (k)), (4, .inl (f)), (3, .inl (e)), (0, .inr (.inr (some (770)))), (1, .inl (w)), (2, .inl (n))]) (st' := [.inl (w), .inl ((f) + (1)), .inr (.inr (some (770)))]) rfl ?_
        refine ez_icmp rfl rfl ⟨by first | omega | exact (sz_i32 _).1, by first | omega | exact (sz_i32 _).2⟩ ⟨by first | omega | exact (sz_i32 _).1, by first | omega | exact (sz_i32 _).2⟩ (fun (c5 : (w) ≤ ((f) + (1))) => ?_) (fun (c5 : ¬((w) ≤ ((f) + (1)))) => ?_)
        · skip
          refine ez_go (n := 1) (pc' := 126) (L' := [(5, .inl (k)), (4, .inl (f)), (3, .inl (e)), (0, .inr (.inr (some (770)))), (1, .inl (w)), (2, .inl (n))]) (st' := [.inl (0), .inr (.inr (some (770)))]) rfl ?_
          refine ez_cv hB t770 rfl rfl rfl tq_75 rfl rfl rfl (rd_can0 (by omega) (by omega) (ez_Kp (xc_exc hB rfl) rfl (kT (by rw [hseg, List.length_append, rz_seg, if_pos (by show qz_I h 771 k.toNat = 59; omega), List.length_cons]; have := rz_seg_pos (mb h) m (k + 1) (k + 1); omega) g hB hf)))
        · skip
          refine ez_go (n := 2) (pc' := 126) (L' := [(5, .inl (k)), (4, .inl (f)), (3, .inl (e)), (0, .inr (.inr (some (770)))), (1, .inl (w)), (2, .inl (n))]) (st' := [.inl (1), .inr (.inr (some (770)))]) rfl ?_
          refine ez_cv hB t770 rfl rfl rfl tq_75 rfl rfl rfl (rd_can1 (by omega) (by omega) (ez_K0 ?_))
          refine ez_go (n := 1) (pc' := 130) (L' := [(5, .inl (k)), (4, .inl (f)), (3, .inl (e)), (0, .inr (.inr (some (770)))), (1, .inl (w)), (2, .inl (n))]) (st' := [.inr (.inr (some (770)))]) rfl ?_
          refine ez_gC (p := 790) (tg := 81) hB t770 rfl rfl tq_75 rfl rfl (fun (t790 : _ = 81) => ?_)
          refine ez_go (n := 2) (pc' := 137) (L' := [(5, .inl (k)), (4, .inl (f)), (3, .inl (e)), (0, .inr (.inr (some (770)))), (1, .inl (w)), (2, .inl (n))]) (st' := [.inl (k), .inl (f), .inr (.inr (some (790)))]) rfl ?_
          have n8 : 8 ≤ qz_N g 790 ∧ qz_N g 790 ≤ 8 := ez_len hB t790 tq_81 rfl
          refine ez_as hB t790 rfl tq_81 rfl rfl (by omega) (by omega) (ez_vdI rfl rfl (by omega) (by omega)) (fun hB6 w7 => ?_)
          refine ez_go (n := 2) (pc' := 142) (L' := [(4, .inl (f + 1)), (5, .inl (k)), (3, .inl (e)), (0, .inr (.inr (some (770)))), (1, .inl (w)), (2, .inl (n))]) (st' := [.inr (.inr (some (770)))]) rfl ?_
          refine ez_gC (p := 789) (tg := 80) hB6 t770 rfl rfl tq_75 rfl rfl (fun (t789 : _ = 80) => ?_)
          refine ez_go (n := 4) (pc' := 151) (L' := [(4, .inl (f + 1)), (5, .inl (k)), (3, .inl (e)), (0, .inr (.inr (some (770)))), (1, .inl (w)), (2, .inl (n))]) (st' := [.inl ((k) + (1)), .inl (f + 1), .inr (.inr (some (789)))]) rfl ?_
          have n11 : 8 ≤ qz_N (dz_put g 790 (f).toNat (ez_v (.inl (k)))) 789 ∧ qz_N (dz_put g 790 (f).toNat (ez_v (.inl (k)))) 789 ≤ 8 := ez_len hB6 t789 tq_80 rfl
          refine ez_as hB6 t789 rfl tq_80 rfl rfl (by omega) (by omega) (ez_vdI rfl rfl (by omega) (by omega)) (fun hB9 w10 => ?_)
          refine ez_go (n := 2) (pc' := 91) (L' := [(5, .inl (k + 1)), (4, .inl (f + 1)), (3, .inl (e)), (0, .inr (.inr (some (770)))), (1, .inl (w)), (2, .inl (n))]) (st' := []) rfl ?_
          refine ez_less [(5, .inl (k + 1)), (4, .inl (f + 1)), (3, .inl (e)), (0, .inr (.inr (some (770)))), (1, .inl (w)), (2, .inl (n))] rfl ⟨rfl, rfl, rfl, rfl, rfl, rfl, trivial⟩ ?_
          refine ih (k + 1) (k + 1) (f + 1) _ (A ++ [(s, k)]) (by omega) (by omega) (by omega) (by omega) hB9 ((hf.put (show nz_PF 790 = true from rfl) _ _).put (show nz_PF 789 = true from rfl) _ _) (by rw [List.length_append, List.length_singleton]; omega) (by omega) ?_ ?_ ?_
          · rw [hseg, rz_seg, if_pos (by show qz_I h 771 k.toNat = 59; omega), List.append_assoc]; rfl
          · intro j p hj
            by_cases e9 : j < A.length
            · rw [List.getElem?_append_left e9] at hj
              obtain ⟨q1, q2⟩ := hc j p hj
              unfold mf mt at *
              rw [ez_put_I (by omega), ez_put_I (by omega), ez_put_I (by omega), ez_put_I (by omega)]; exact ⟨q1, q2⟩
            · rw [List.getElem?_append_right (by omega)] at hj
              have e10 : j = A.length := by have := (List.getElem?_eq_some_iff.mp hj).1; simp only [List.length_singleton] at this; omega
              subst e10
              rw [Nat.sub_self] at hj
              cases hj
              unfold mf mt at *
              rw [ez_put_I (by omega), ez_put_I (by omega)]
              refine ⟨by rw [← hA]; exact hs, ?_⟩
              rw [ez_put_I (by omega), ← hA, w7, rz_rd ⟨by omega, by omega⟩]
          · unfold mf; rw [w10, rz_rd ⟨by omega, by omega⟩]
      · skip
        refine ez_go (n := 3) (pc' := 91) (L' := [(5, .inl (k + 1)), (4, .inl (f)), (3, .inl (e)), (0, .inr (.inr (some (770)))), (1, .inl (w)), (2, .inl (n))]) (st' := []) rfl ?_
        refine ez_less [(5, .inl (k + 1)), (4, .inl (f)), (3, .inl (e)), (0, .inr (.inr (some (770)))), (1, .inl (w)), (2, .inl (n))] rfl ⟨rfl, rfl, rfl, rfl, rfl, rfl, trivial⟩ ?_
        refine ih (k + 1) s f g A (by omega) s0 (by omega) (by omega) hB hf hA fw ?_ hc hs
        rw [hseg, rz_seg, if_neg (by show ¬ qz_I h 771 k.toNat = 59; omega)]
end EzMf
/-! The model reads: fields are trimmed. (Written by wip/p2/py/pv52.py.) -/
section EzMg
variable {d : Nat} {h : cz_H} {τ : Nat → Nat} {Q : cz_F → Prop}
/-- only one field's bounds have changed -/
def mz_k (h g : cz_H) (k : Int) : Prop := ez_fr nz_PF h g ∧ ∀ j : Int, 0 ≤ j → j ≠ k → mf g j = mf h j ∧ mt g j = mt h j
theorem mz_k.trans {h g g2 : cz_H} {k : Int} (a : mz_k h g k) (b : mz_k g g2 k) : mz_k h g2 k := ⟨a.1.trans b.1, fun j j0 hj => ⟨(b.2 j j0 hj).1.trans (a.2 j j0 hj).1, (b.2 j j0 hj).2.trans (a.2 j j0 hj).2⟩⟩
theorem rd_fields_L {w k : Int} (t770 : τ 770 = 75) (k0 : 0 ≤ k) (k1 : k < 8) : ∀ (m : Nat) (g : cz_H), m = (mt g k - mf g k).toNat → mf g k ≤ mt g k → ez_B τ g → mz_k h g k → (∀ g2, ez_B τ g2 → mz_k h g2 k → mf g2 k = rz_skip (mb h) m (mf g k) → mt g2 k = mt g k → ez_W (d + 7) cm_255 242 [(5, .inl (k)), (0, .inr (.inr (some (770)))), (1, .inl (w))] [] g2 Q) → ez_W (d + 7) cm_255 192 [(5, .inl (k)), (0, .inr (.inr (some (770)))), (1, .inl (w))] [] g Q := by
  intro m
  induction m with
  | zero =>
    intro g hm hle hB hk kx
    have ha9 : qz_I g 789 (k).toNat = mf g k := rfl
    have ht9 : qz_I g 790 (k).toNat = mt g k := rfl
    have bg : ∀ i, qz_I g 771 i = qz_I h 771 i := fun i => hk.1.I rfl i
    refine ez_go (n := 1) (pc' := 193) (L' := [(5, .inl (k)), (0, .inr (.inr (some (770)))), (1, .inl (w))]) (st' := [.inr (.inr (some (770)))]) rfl ?_
    refine ez_gC (p := 789) (tg := 80) hB t770 rfl rfl tq_75 rfl rfl (fun (t789 : _ = 80) => ?_)
    refine ez_go (n := 1) (pc' := 198) (L' := [(5, .inl (k)), (0, .inr (.inr (some (770)))), (1, .inl (w))]) (st' := [.inl (k), .inr (.inr (some (789)))]) rfl ?_
    have n2 : 8 ≤ qz_N g 789 ∧ qz_N g 789 ≤ 8 := ez_len hB t789 tq_80 rfl
    refine ez_aI hB t789 rfl tq_80 rfl rfl (by omega) (by omega) (fun (b1 : 0 ≤ qz_I g 789 (k).toNat) (b1' : qz_I g 789 (k).toNat ≤ 4096) => ?_)
    refine ez_go (n := 1) (pc' := 200) (L' := [(5, .inl (k)), (0, .inr (.inr (some (770)))), (1, .inl (w))]) (st' := [.inr (.inr (some (770))), .inl (qz_I g 789 (k).toNat)]) rfl ?_
    refine ez_gC (p := 790) (tg := 81) hB t770 rfl rfl tq_75 rfl rfl (fun (t790 : _ = 81) => ?_)
    refine ez_go (n := 1) (pc' := 205) (L' := [(5, .inl (k)), (0, .inr (.inr (some (770)))), (1, .inl (w))]) (st' := [.inl (k), .inr (.inr (some (790))), .inl (qz_I g 789 (k).toNat)]) rfl ?_
    have n4 : 8 ≤ qz_N g 790 ∧ qz_N g 790 ≤ 8 := ez_len hB t790 tq_81 rfl
    refine ez_aI hB t790 rfl tq_81 rfl rfl (by omega) (by omega) (fun (b3 : 0 ≤ qz_I g 790 (k).toNat) (b3' : qz_I g 790 (k).toNat ≤ 4096) => ?_)
    refine ez_icmp rfl rfl ⟨by first | omega | exact (sz_i32 _).1, by first | omega | exact (sz_i32 _).2⟩ ⟨by first | omega | exact (sz_i32 _).1, by first | omega | exact (sz_i32 _).2⟩ (fun (c5 : (qz_I g 790 (k).toNat) ≤ (qz_I g 789 (k).toNat)) => ?_) (fun (c5 : ¬((qz_I g 790 (k).toNat) ≤ (qz_I g 789 (k).toNat))) => ?_)
    · skip
      refine ez_less [(5, .inl (k)), (0, .inr (.inr (some (770)))), (1, .inl (w))] rfl ⟨rfl, rfl, rfl, trivial⟩ ?_
      exact kx g hB hk rfl rfl
    · exfalso; omega
  | succ m ih =>
    intro g hm hle hB hk kx
    have ha9 : qz_I g 789 (k).toNat = mf g k := rfl
    have ht9 : qz_I g 790 (k).toNat = mt g k := rfl
    have bg : ∀ i, qz_I g 771 i = qz_I h 771 i := fun i => hk.1.I rfl i
    refine ez_go (n := 1) (pc' := 193) (L' := [(5, .inl (k)), (0, .inr (.inr (some (770)))), (1, .inl (w))]) (st' := [.inr (.inr (some (770)))]) rfl ?_
    refine ez_gC (p := 789) (tg := 80) hB t770 rfl rfl tq_75 rfl rfl (fun (t789 : _ = 80) => ?_)
    refine ez_go (n := 1) (pc' := 198) (L' := [(5, .inl (k)), (0, .inr (.inr (some (770)))), (1, .inl (w))]) (st' := [.inl (k), .inr (.inr (some (789)))]) rfl ?_
    have n2 : 8 ≤ qz_N g 789 ∧ qz_N g 789 ≤ 8 := ez_len hB t789 tq_80 rfl
    refine ez_aI hB t789 rfl tq_80 rfl rfl (by omega) (by omega) (fun (b1 : 0 ≤ qz_I g 789 (k).toNat) (b1' : qz_I g 789 (k).toNat ≤ 4096) => ?_)
    refine ez_go (n := 1) (pc' := 200) (L' := [(5, .inl (k)), (0, .inr (.inr (some (770)))), (1, .inl (w))]) (st' := [.inr (.inr (some (770))), .inl (qz_I g 789 (k).toNat)]) rfl ?_
    refine ez_gC (p := 790) (tg := 81) hB t770 rfl rfl tq_75 rfl rfl (fun (t790 : _ = 81) => ?_)
    refine ez_go (n := 1) (pc' := 205) (L' := [(5, .inl (k)), (0, .inr (.inr (some (770)))), (1, .inl (w))]) (st' := [.inl (k), .inr (.inr (some (790))), .inl (qz_I g 789 (k).toNat)]) rfl ?_
    have n4 : 8 ≤ qz_N g 790 ∧ qz_N g 790 ≤ 8 := ez_len hB t790 tq_81 rfl
    refine ez_aI hB t790 rfl tq_81 rfl rfl (by omega) (by omega) (fun (b3 : 0 ≤ qz_I g 790 (k).toNat) (b3' : qz_I g 790 (k).toNat ≤ 4096) => ?_)
    refine ez_icmp rfl rfl ⟨by first | omega | exact (sz_i32 _).1, by first | omega | exact (sz_i32 _).2⟩ ⟨by first | omega | exact (sz_i32 _).1, by first | omega | exact (sz_i32 _).2⟩ (fun (c5 : (qz_I g 790 (k).toNat) ≤ (qz_I g 789 (k).toNat)) => ?_) (fun (c5 : ¬((qz_I g 790 (k).toNat) ≤ (qz_I g 789 (k).toNat))) => ?_)
    · exfalso; omega
    · skip
      refine ez_go (n := 2) (pc' := 211) (L' := [(5, .inl (k)), (0, .inr (.inr (some (770)))), (1, .inl (w))]) (st' := [.inr (.inr (some (770))), .inr (.inr (some (770)))]) rfl ?_
      refine ez_gC (p := 771) (tg := 76) hB t770 rfl rfl tq_75 rfl rfl (fun (t771 : _ = 76) => ?_)
      refine ez_go (n := 1) (pc' := 215) (L' := [(5, .inl (k)), (0, .inr (.inr (some (770)))), (1, .inl (w))]) (st' := [.inr (.inr (some (770))), .inr (.inr (some (771))), .inr (.inr (some (770)))]) rfl ?_
      refine ez_gC (p := 789) (tg := 80) hB t770 rfl rfl tq_75 rfl rfl (fun (t789 : _ = 80) => ?_)
      refine ez_go (n := 1) (pc' := 220) (L' := [(5, .inl (k)), (0, .inr (.inr (some (770)))), (1, .inl (w))]) (st' := [.inl (k), .inr (.inr (some (789))), .inr (.inr (some (771))), .inr (.inr (some (770)))]) rfl ?_
      have n7 : 8 ≤ qz_N g 789 ∧ qz_N g 789 ≤ 8 := ez_len hB t789 tq_80 rfl
      refine ez_aI hB t789 rfl tq_80 rfl rfl (by omega) (by omega) (fun (b6 : 0 ≤ qz_I g 789 (k).toNat) (b6' : qz_I g 789 (k).toNat ≤ 4096) => ?_)
      have n9 : 4096 ≤ qz_N g 771 ∧ qz_N g 771 ≤ 4096 := ez_len hB t771 tq_76 rfl
      refine ez_aI hB t771 rfl tq_76 rfl rfl (by omega) (by omega) (fun (b8 : -128 ≤ qz_I g 771 (qz_I g 789 (k).toNat).toNat) (b8' : qz_I g 771 (qz_I g 789 (k).toNat).toNat ≤ 127) => ?_)
      refine ez_cv hB t770 rfl rfl rfl tq_75 rfl rfl rfl (rd_mblank (by omega) (by omega) (fun e => ez_K1 ?_) (fun e => ez_K1 ?_))
      · skip
        refine ez_if rfl rfl ⟨by decide, by decide⟩ (fun (c10 : (1 : Int) = (0)) => absurd c10 (by decide)) (fun _ => ?_)
        refine ez_go (n := 1) (pc' := 229) (L' := [(5, .inl (k)), (0, .inr (.inr (some (770)))), (1, .inl (w))]) (st' := [.inr (.inr (some (770)))]) rfl ?_
        refine ez_gC (p := 789) (tg := 80) hB t770 rfl rfl tq_75 rfl rfl (fun (t789 : _ = 80) => ?_)
        refine ez_go (n := 2) (pc' := 235) (L' := [(5, .inl (k)), (0, .inr (.inr (some (770)))), (1, .inl (w))]) (st' := [.inl (k), .inr (.inr (some (789))), .inl (k), .inr (.inr (some (789)))]) rfl ?_
        have n12 : 8 ≤ qz_N g 789 ∧ qz_N g 789 ≤ 8 := ez_len hB t789 tq_80 rfl
        refine ez_aI hB t789 rfl tq_80 rfl rfl (by omega) (by omega) (fun (b11 : 0 ≤ qz_I g 789 (k).toNat) (b11' : qz_I g 789 (k).toNat ≤ 4096) => ?_)
        refine ez_go (n := 2) (pc' := 238) (L' := [(5, .inl (k)), (0, .inr (.inr (some (770)))), (1, .inl (w))]) (st' := [.inl ((qz_I g 789 (k).toNat) + (1)), .inl (k), .inr (.inr (some (789)))]) rfl ?_
        have n15 : 8 ≤ qz_N g 789 ∧ qz_N g 789 ≤ 8 := ez_len hB t789 tq_80 rfl
        refine ez_as hB t789 rfl tq_80 rfl rfl (by omega) (by omega) (ez_vdI rfl rfl (by omega) (by omega)) (fun hB13 w14 => ?_)
        refine ez_go (n := 1) (pc' := 192) (L' := [(5, .inl (k)), (0, .inr (.inr (some (770)))), (1, .inl (w))]) (st' := []) rfl ?_
        refine ez_less [(5, .inl (k)), (0, .inr (.inr (some (770)))), (1, .inl (w))] rfl ⟨rfl, rfl, rfl, trivial⟩ ?_
        have hbl : mb h (mf g k) = 9 ∨ mb h (mf g k) = 32 := by have := bg (mf g k).toNat; unfold mb; rw [← this]; exact e
        have a9 : mf (dz_put g 789 (k).toNat (ez_v (.inl ((qz_I g 789 (k).toNat) + (1))))) k = mf g k + 1 := by unfold mf; rw [w14, rz_rd ⟨by omega, by omega⟩]
        have b9 : mt (dz_put g 789 (k).toNat (ez_v (.inl ((qz_I g 789 (k).toNat) + (1))))) k = mt g k := by unfold mt; exact ez_put_I (by omega)
        have k9 : mz_k g (dz_put g 789 (k).toNat (ez_v (.inl ((qz_I g 789 (k).toNat) + (1))))) k := ⟨(ez_fr.refl nz_PF g).put (show nz_PF 789 = true from rfl) _ _, fun j j0 hj => ⟨by unfold mf; exact ez_put_I (by omega), by unfold mt; exact ez_put_I (by omega)⟩⟩
        refine ih _ (by rw [a9, b9]; omega) (by rw [a9, b9]; omega) hB13 (hk.trans k9) (fun g2 q1 q2 q3 q4 => kx g2 q1 q2 ?_ (q4.trans b9))
        rw [q3, a9, rz_skip, if_pos hbl]
      · skip
        refine ez_if rfl rfl ⟨by decide, by decide⟩ (fun _ => ?_) (fun (c16 : ¬((0 : Int) = (0))) => absurd c16 (by decide))
        refine ez_less [(5, .inl (k)), (0, .inr (.inr (some (770)))), (1, .inl (w))] rfl ⟨rfl, rfl, rfl, trivial⟩ ?_
        refine kx g hB hk ?_ rfl
        rw [rz_skip, if_neg (by have := bg (mf g k).toNat; unfold mb; rw [← this]; exact e)]
theorem rd_fields_R {w k : Int} (t770 : τ 770 = 75) (k0 : 0 ≤ k) (k1 : k < 8) : ∀ (m : Nat) (g : cz_H), m = (mt g k - mf g k).toNat → mf g k ≤ mt g k → ez_B τ g → mz_k h g k → (∀ g2, ez_B τ g2 → mz_k h g2 k → mt g2 k = rz_back (mb h) m (mt g k) → mf g2 k = mf g k → ez_W (d + 7) cm_255 294 [(5, .inl (k)), (0, .inr (.inr (some (770)))), (1, .inl (w))] [] g2 Q) → ez_W (d + 7) cm_255 242 [(5, .inl (k)), (0, .inr (.inr (some (770)))), (1, .inl (w))] [] g Q := by
  intro m
  induction m with
  | zero =>
    intro g hm hle hB hk kx
    have ha9 : qz_I g 789 (k).toNat = mf g k := rfl
    have ht9 : qz_I g 790 (k).toNat = mt g k := rfl
    have bg : ∀ i, qz_I g 771 i = qz_I h 771 i := fun i => hk.1.I rfl i
    refine ez_go (n := 1) (pc' := 243) (L' := [(5, .inl (k)), (0, .inr (.inr (some (770)))), (1, .inl (w))]) (st' := [.inr (.inr (some (770)))]) rfl ?_
    refine ez_gC (p := 789) (tg := 80) hB t770 rfl rfl tq_75 rfl rfl (fun (t789 : _ = 80) => ?_)
    refine ez_go (n := 1) (pc' := 248) (L' := [(5, .inl (k)), (0, .inr (.inr (some (770)))), (1, .inl (w))]) (st' := [.inl (k), .inr (.inr (some (789)))]) rfl ?_
    have n2 : 8 ≤ qz_N g 789 ∧ qz_N g 789 ≤ 8 := ez_len hB t789 tq_80 rfl
    refine ez_aI hB t789 rfl tq_80 rfl rfl (by omega) (by omega) (fun (b1 : 0 ≤ qz_I g 789 (k).toNat) (b1' : qz_I g 789 (k).toNat ≤ 4096) => ?_)
    refine ez_go (n := 1) (pc' := 250) (L' := [(5, .inl (k)), (0, .inr (.inr (some (770)))), (1, .inl (w))]) (st' := [.inr (.inr (some (770))), .inl (qz_I g 789 (k).toNat)]) rfl ?_
    refine ez_gC (p := 790) (tg := 81) hB t770 rfl rfl tq_75 rfl rfl (fun (t790 : _ = 81) => ?_)
    refine ez_go (n := 1) (pc' := 255) (L' := [(5, .inl (k)), (0, .inr (.inr (some (770)))), (1, .inl (w))]) (st' := [.inl (k), .inr (.inr (some (790))), .inl (qz_I g 789 (k).toNat)]) rfl ?_
    have n4 : 8 ≤ qz_N g 790 ∧ qz_N g 790 ≤ 8 := ez_len hB t790 tq_81 rfl
    refine ez_aI hB t790 rfl tq_81 rfl rfl (by omega) (by omega) (fun (b3 : 0 ≤ qz_I g 790 (k).toNat) (b3' : qz_I g 790 (k).toNat ≤ 4096) => ?_)
    refine ez_icmp rfl rfl ⟨by first | omega | exact (sz_i32 _).1, by first | omega | exact (sz_i32 _).2⟩ ⟨by first | omega | exact (sz_i32 _).1, by first | omega | exact (sz_i32 _).2⟩ (fun (c5 : (qz_I g 790 (k).toNat) ≤ (qz_I g 789 (k).toNat)) => ?_) (fun (c5 : ¬((qz_I g 790 (k).toNat) ≤ (qz_I g 789 (k).toNat))) => ?_)
    · skip
      refine ez_less [(5, .inl (k)), (0, .inr (.inr (some (770)))), (1, .inl (w))] rfl ⟨rfl, rfl, rfl, trivial⟩ ?_
      exact kx g hB hk rfl rfl
    · exfalso; omega
  | succ m ih =>
    intro g hm hle hB hk kx
    have ha9 : qz_I g 789 (k).toNat = mf g k := rfl
    have ht9 : qz_I g 790 (k).toNat = mt g k := rfl
    have bg : ∀ i, qz_I g 771 i = qz_I h 771 i := fun i => hk.1.I rfl i
    refine ez_go (n := 1) (pc' := 243) (L' := [(5, .inl (k)), (0, .inr (.inr (some (770)))), (1, .inl (w))]) (st' := [.inr (.inr (some (770)))]) rfl ?_
    refine ez_gC (p := 789) (tg := 80) hB t770 rfl rfl tq_75 rfl rfl (fun (t789 : _ = 80) => ?_)
    refine ez_go (n := 1) (pc' := 248) (L' := [(5, .inl (k)), (0, .inr (.inr (some (770)))), (1, .inl (w))]) (st' := [.inl (k), .inr (.inr (some (789)))]) rfl ?_
    have n2 : 8 ≤ qz_N g 789 ∧ qz_N g 789 ≤ 8 := ez_len hB t789 tq_80 rfl
    refine ez_aI hB t789 rfl tq_80 rfl rfl (by omega) (by omega) (fun (b1 : 0 ≤ qz_I g 789 (k).toNat) (b1' : qz_I g 789 (k).toNat ≤ 4096) => ?_)
    refine ez_go (n := 1) (pc' := 250) (L' := [(5, .inl (k)), (0, .inr (.inr (some (770)))), (1, .inl (w))]) (st' := [.inr (.inr (some (770))), .inl (qz_I g 789 (k).toNat)]) rfl ?_
    refine ez_gC (p := 790) (tg := 81) hB t770 rfl rfl tq_75 rfl rfl (fun (t790 : _ = 81) => ?_)
    refine ez_go (n := 1) (pc' := 255) (L' := [(5, .inl (k)), (0, .inr (.inr (some (770)))), (1, .inl (w))]) (st' := [.inl (k), .inr (.inr (some (790))), .inl (qz_I g 789 (k).toNat)]) rfl ?_
    have n4 : 8 ≤ qz_N g 790 ∧ qz_N g 790 ≤ 8 := ez_len hB t790 tq_81 rfl
    refine ez_aI hB t790 rfl tq_81 rfl rfl (by omega) (by omega) (fun (b3 : 0 ≤ qz_I g 790 (k).toNat) (b3' : qz_I g 790 (k).toNat ≤ 4096) => ?_)
    refine ez_icmp rfl rfl ⟨by first | omega | exact (sz_i32 _).1, by first | omega | exact (sz_i32 _).2⟩ ⟨by first | omega | exact (sz_i32 _).1, by first | omega | exact (sz_i32 _).2⟩ (fun (c5 : (qz_I g 790 (k).toNat) ≤ (qz_I g 789 (k).toNat)) => ?_) (fun (c5 : ¬((qz_I g 790 (k).toNat) ≤ (qz_I g 789 (k).toNat))) => ?_)
    · exfalso; omega
    · skip
      refine ez_go (n := 2) (pc' := 261) (L' := [(5, .inl (k)), (0, .inr (.inr (some (770)))), (1, .inl (w))]) (st' := [.inr (.inr (some (770))), .inr (.inr (some (770)))]) rfl ?_
      refine ez_gC (p := 771) (tg := 76) hB t770 rfl rfl tq_75 rfl rfl (fun (t771 : _ = 76) => ?_)
      refine ez_go (n := 1) (pc' := 265) (L' := [(5, .inl (k)), (0, .inr (.inr (some (770)))), (1, .inl (w))]) (st' := [.inr (.inr (some (770))), .inr (.inr (some (771))), .inr (.inr (some (770)))]) rfl ?_
      refine ez_gC (p := 790) (tg := 81) hB t770 rfl rfl tq_75 rfl rfl (fun (t790 : _ = 81) => ?_)
      refine ez_go (n := 1) (pc' := 270) (L' := [(5, .inl (k)), (0, .inr (.inr (some (770)))), (1, .inl (w))]) (st' := [.inl (k), .inr (.inr (some (790))), .inr (.inr (some (771))), .inr (.inr (some (770)))]) rfl ?_
      have n7 : 8 ≤ qz_N g 790 ∧ qz_N g 790 ≤ 8 := ez_len hB t790 tq_81 rfl
      refine ez_aI hB t790 rfl tq_81 rfl rfl (by omega) (by omega) (fun (b6 : 0 ≤ qz_I g 790 (k).toNat) (b6' : qz_I g 790 (k).toNat ≤ 4096) => ?_)
      refine ez_go (n := 2) (pc' := 273) (L' := [(5, .inl (k)), (0, .inr (.inr (some (770)))), (1, .inl (w))]) (st' := [.inl ((qz_I g 790 (k).toNat) - (1)), .inr (.inr (some (771))), .inr (.inr (some (770)))]) rfl ?_
      have n9 : 4096 ≤ qz_N g 771 ∧ qz_N g 771 ≤ 4096 := ez_len hB t771 tq_76 rfl
      refine ez_aI hB t771 rfl tq_76 rfl rfl (by omega) (by omega) (fun (b8 : -128 ≤ qz_I g 771 ((qz_I g 790 (k).toNat) - (1)).toNat) (b8' : qz_I g 771 ((qz_I g 790 (k).toNat) - (1)).toNat ≤ 127) => ?_)
      refine ez_cv hB t770 rfl rfl rfl tq_75 rfl rfl rfl (rd_mblank (by omega) (by omega) (fun e => ez_K1 ?_) (fun e => ez_K1 ?_))
      · skip
        refine ez_if rfl rfl ⟨by decide, by decide⟩ (fun (c10 : (1 : Int) = (0)) => absurd c10 (by decide)) (fun _ => ?_)
        refine ez_go (n := 1) (pc' := 281) (L' := [(5, .inl (k)), (0, .inr (.inr (some (770)))), (1, .inl (w))]) (st' := [.inr (.inr (some (770)))]) rfl ?_
        refine ez_gC (p := 790) (tg := 81) hB t770 rfl rfl tq_75 rfl rfl (fun (t790 : _ = 81) => ?_)
        refine ez_go (n := 2) (pc' := 287) (L' := [(5, .inl (k)), (0, .inr (.inr (some (770)))), (1, .inl (w))]) (st' := [.inl (k), .inr (.inr (some (790))), .inl (k), .inr (.inr (some (790)))]) rfl ?_
        have n12 : 8 ≤ qz_N g 790 ∧ qz_N g 790 ≤ 8 := ez_len hB t790 tq_81 rfl
        refine ez_aI hB t790 rfl tq_81 rfl rfl (by omega) (by omega) (fun (b11 : 0 ≤ qz_I g 790 (k).toNat) (b11' : qz_I g 790 (k).toNat ≤ 4096) => ?_)
        refine ez_go (n := 2) (pc' := 290) (L' := [(5, .inl (k)), (0, .inr (.inr (some (770)))), (1, .inl (w))]) (st' := [.inl ((qz_I g 790 (k).toNat) - (1)), .inl (k), .inr (.inr (some (790)))]) rfl ?_
        have n15 : 8 ≤ qz_N g 790 ∧ qz_N g 790 ≤ 8 := ez_len hB t790 tq_81 rfl
        refine ez_as hB t790 rfl tq_81 rfl rfl (by omega) (by omega) (ez_vdI rfl rfl (by omega) (by omega)) (fun hB13 w14 => ?_)
        refine ez_go (n := 1) (pc' := 242) (L' := [(5, .inl (k)), (0, .inr (.inr (some (770)))), (1, .inl (w))]) (st' := []) rfl ?_
        refine ez_less [(5, .inl (k)), (0, .inr (.inr (some (770)))), (1, .inl (w))] rfl ⟨rfl, rfl, rfl, trivial⟩ ?_
        have hbl : mb h (mt g k - 1) = 9 ∨ mb h (mt g k - 1) = 32 := by have := bg (mt g k - 1).toNat; unfold mb; rw [← this]; exact e
        have a9 : mt (dz_put g 790 (k).toNat (ez_v (.inl ((qz_I g 790 (k).toNat) - (1))))) k = mt g k - 1 := by unfold mt; rw [w14, rz_rd ⟨by omega, by omega⟩]
        have b9 : mf (dz_put g 790 (k).toNat (ez_v (.inl ((qz_I g 790 (k).toNat) - (1))))) k = mf g k := by unfold mf; exact ez_put_I (by omega)
        have k9 : mz_k g (dz_put g 790 (k).toNat (ez_v (.inl ((qz_I g 790 (k).toNat) - (1))))) k := ⟨(ez_fr.refl nz_PF g).put (show nz_PF 790 = true from rfl) _ _, fun j j0 hj => ⟨by unfold mf; exact ez_put_I (by omega), by unfold mt; exact ez_put_I (by omega)⟩⟩
        refine ih _ (by rw [a9, b9]; omega) (by rw [a9, b9]; omega) hB13 (hk.trans k9) (fun g2 q1 q2 q3 q4 => kx g2 q1 q2 ?_ (q4.trans b9))
        rw [q3, a9, rz_back, if_pos hbl]
      · skip
        refine ez_if rfl rfl ⟨by decide, by decide⟩ (fun _ => ?_) (fun (c16 : ¬((0 : Int) = (0))) => absurd c16 (by decide))
        refine ez_less [(5, .inl (k)), (0, .inr (.inr (some (770)))), (1, .inl (w))] rfl ⟨rfl, rfl, rfl, trivial⟩ ?_
        refine kx g hB hk ?_ rfl
        rw [rz_back, if_neg (by have := bg (mt g k - 1).toNat; unfold mb; rw [← this]; exact e)]
theorem rd_fields_3 {w : Int} {A : List (Int × Int)} (t770 : τ 770 = 75) (hw : w = (A.length : Int)) (w1 : w ≤ 7) (hA : ∀ p ∈ A, p.1 ≤ p.2 ∧ 0 ≤ p.1 ∧ p.2 ≤ 4096) (kx : ∀ g, ez_B τ g → ez_fr nz_PF h g → (∀ (j : Nat) (p : Int × Int), A[j]? = some p → mf g j = rz_tl (mb h) p ∧ mt g j = rz_tr (mb h) p) → Q (.inl none, g)) : ∀ (m : Nat) (k : Int) (g : cz_H), m = (w - k).toNat → 0 ≤ k → k ≤ w → ez_B τ g → ez_fr nz_PF h g → ((∀ (j : Nat) (p : Int × Int), A[j]? = some p → (j : Int) < k → mf g j = rz_tl (mb h) p ∧ mt g j = rz_tr (mb h) p) ∧ (∀ (j : Nat) (p : Int × Int), A[j]? = some p → k ≤ (j : Int) → mf g j = p.1 ∧ mt g j = p.2)) → ez_W (d + 7) cm_255 186 [(5, .inl (k)), (0, .inr (.inr (some (770)))), (1, .inl (w))] [] g Q := by
  intro m
  induction m with
  | zero =>
    intro k g hm k0 k1 hB hf hz
    refine ez_go (n := 2) (pc' := 189) (L' := [(5, .inl (k)), (0, .inr (.inr (some (770)))), (1, .inl (w))]) (st' := [.inl (w), .inl (k)]) rfl ?_
    refine ez_icmp rfl rfl ⟨by first | omega | exact (sz_i32 _).1, by first | omega | exact (sz_i32 _).2⟩ ⟨by first | omega | exact (sz_i32 _).1, by first | omega | exact (sz_i32 _).2⟩ (fun (c1 : (w) ≤ (k)) => ?_) (fun (c1 : ¬((w) ≤ (k))) => ?_)
    · skip
      exact ez_ret0 rfl rfl (kx g hB hf (fun j p hj => hz.1 j p hj (by have := (List.getElem?_eq_some_iff.mp hj).1; omega)))
    · exfalso; omega
  | succ m ih =>
    intro k g hm k0 k1 hB hf hz
    refine ez_go (n := 2) (pc' := 189) (L' := [(5, .inl (k)), (0, .inr (.inr (some (770)))), (1, .inl (w))]) (st' := [.inl (w), .inl (k)]) rfl ?_
    refine ez_icmp rfl rfl ⟨by first | omega | exact (sz_i32 _).1, by first | omega | exact (sz_i32 _).2⟩ ⟨by first | omega | exact (sz_i32 _).1, by first | omega | exact (sz_i32 _).2⟩ (fun (c1 : (w) ≤ (k)) => ?_) (fun (c1 : ¬((w) ≤ (k))) => ?_)
    · exfalso; omega
    · skip
      refine ez_less [(5, .inl (k)), (0, .inr (.inr (some (770)))), (1, .inl (w))] rfl ⟨rfl, rfl, rfl, trivial⟩ ?_
      have hlt : k.toNat < A.length := by omega
      have hp := List.getElem?_eq_getElem hlt
      obtain ⟨p, hpe⟩ : ∃ p, p = A[k.toNat] := ⟨_, rfl⟩
      rw [← hpe] at hp
      obtain ⟨z1, z2⟩ := hz.2 k.toNat p hp (by omega)
      rw [Int.toNat_of_nonneg k0] at z1 z2
      have hpl := hA p (List.mem_of_getElem? hp)
      have bgm : mb g = mb h := mb_F hf
      refine rd_fields_L (h := g) t770 k0 (by omega) _ g rfl (by omega) hB ⟨ez_fr.refl _ _, fun _ _ _ => ⟨rfl, rfl⟩⟩ (fun g1 hB1 h1 v1 v2 => ?_)
      rw [bgm, z1, z2] at v1
      have e1 : mf g1 k = rz_tl (mb h) p := v1
      have tlr := rz_tl_tr (mb h) p hpl.1
      refine rd_fields_R (h := g) t770 k0 (by omega) _ g1 rfl (by omega) hB1 h1 (fun g2 hB2 h2 v3 v4 => ?_)
      rw [bgm, v2, e1, z2] at v3
      have e2 : mt g2 k = rz_tr (mb h) p := v3
      have e3 : mf g2 k = rz_tl (mb h) p := v4.trans e1
      refine ez_go (n := 2) (pc' := 186) (L' := [(5, .inl (k + 1)), (0, .inr (.inr (some (770)))), (1, .inl (w))]) (st' := []) rfl ?_
      refine ez_less [(5, .inl (k + 1)), (0, .inr (.inr (some (770)))), (1, .inl (w))] rfl ⟨rfl, rfl, rfl, trivial⟩ ?_
      refine ih (k + 1) g2 (by omega) (by omega) (by omega) hB2 (hf.trans h2.1) ⟨fun j q hj hjk => ?_, fun j q hj hjk => ?_⟩
      · by_cases e9 : (j : Int) = k
        · have e10 : j = k.toNat := by omega
          subst e10
          rw [hp] at hj; cases hj
          rw [Int.toNat_of_nonneg k0]; exact ⟨e3, e2⟩
        · rw [(h2.2 j (by omega) e9).1, (h2.2 j (by omega) e9).2]; exact hz.1 j q hj (by omega)
      · rw [(h2.2 j (by omega) (by omega)).1, (h2.2 j (by omega) (by omega)).2]; exact hz.2 j q hj (by omega)
theorem ez_t771 (hB : ez_B τ h) (t770 : τ 770 = 75) : τ 771 = 76 := by
  have b : 772 ≤ qz_I h 770 1 ∧ qz_I h 770 1 ≤ 772 := ez_fB (cl := 11) hB t770 tq_75 rfl rfl (by decide)
  exact (ez_old (cl := 11) (k := 1) hB t770 tq_75 rfl rfl (by decide) (show qz_I h 770 1 = ((771 : Nat) : Int) + 1 by omega)).1
theorem rd_fields {w n : Int} (hB : ez_B τ h) (t770 : τ 770 = 75) (hr1 : h.1 + 1 ≤ 600192) (hr2 : h.2.1 + 6 ≤ 7302232) (n0 : 0 ≤ n) (n1 : n ≤ 4096) (w0 : 2 ≤ w) (w1 : w ≤ 7) (kT : (¬ ∃ A, rz_A (mb h) n w.toNat A) → ∀ g, ez_B τ g → ez_fr nz_PF h g → Q (.inr g.1, xc g 1)) (kx : ∀ g A, ez_B τ g → ez_fr nz_PF h g → rz_A (mb h) n w.toNat A → (∀ k, 0 ≤ k → k < w → mf g k = rz_ff (mb h) A k ∧ mt g k = rz_tt (mb h) A k) → Q (.inl none, g)) : ez_W (d + 7) cm_255 0 [(0, .inr (.inr (some (770)))), (1, .inl (w)), (2, .inl (n))] [] h Q := by
  refine ez_go (n := 6) (pc' := 7) (L' := [(4, .inl ((n) - (1))), (3, .inl (n)), (0, .inr (.inr (some (770)))), (1, .inl (w)), (2, .inl (n))]) (st' := []) rfl ?_
  refine ez_less [(4, .inl ((n) - (1))), (3, .inl (n)), (0, .inr (.inr (some (770)))), (1, .inl (w)), (2, .inl (n))] rfl ⟨rfl, rfl, rfl, rfl, rfl, trivial⟩ ?_
  refine rd_fields_1 hB t770 (ez_t771 hB t770) hr1 hr2 n1 (fun hp => kT (fun ⟨A, c, w1, _⟩ => hp w1) h hB (ez_fr.refl _ _)) (fun e hpl hha => ?_) _ (n - 1) n rfl (by omega) (by omega) (by omega) (by omega) (fun j j0 j1 => by omega) (fun j j0 j1 => by omega) (Or.inl rfl)
  have e0 := hha.1
  have e1 := hha.2.1
  refine ez_go (n := 3) (pc' := 82) (L' := [(4, .inl (0)), (3, .inl (e)), (0, .inr (.inr (some (770)))), (1, .inl (w)), (2, .inl (n))]) (st' := [.inr (.inr (some (770)))]) rfl ?_
  refine ez_gC (p := 789) (tg := 80) hB t770 rfl rfl tq_75 rfl rfl (fun (t789 : _ = 80) => ?_)
  refine ez_go (n := 2) (pc' := 87) (L' := [(4, .inl (0)), (3, .inl (e)), (0, .inr (.inr (some (770)))), (1, .inl (w)), (2, .inl (n))]) (st' := [.inl (0), .inl (0), .inr (.inr (some (789)))]) rfl ?_
  have n3 : 8 ≤ qz_N h 789 ∧ qz_N h 789 ≤ 8 := ez_len hB t789 tq_80 rfl
  refine ez_as hB t789 rfl tq_80 rfl rfl (by omega) (by omega) (ez_vdI rfl rfl (by omega) (by omega)) (fun hB1 w2 => ?_)
  refine ez_go (n := 2) (pc' := 91) (L' := [(5, .inl (0)), (4, .inl (0)), (3, .inl (e)), (0, .inr (.inr (some (770)))), (1, .inl (w)), (2, .inl (n))]) (st' := []) rfl ?_
  refine ez_less [(5, .inl (0)), (4, .inl (0)), (3, .inl (e)), (0, .inr (.inr (some (770)))), (1, .inl (w)), (2, .inl (n))] rfl ⟨rfl, rfl, rfl, rfl, rfl, rfl, trivial⟩ ?_
  have hAno : ∀ {A}, rz_A (mb h) n w.toNat A → A = rz_seg (mb h) e.toNat 0 0 := fun {A} hA => by obtain ⟨c, c1, c2, c3, c4⟩ := hA; rw [c3, rz_hash_uniq c2 hha]
  have f0 : ez_fr nz_PF h (dz_put h 789 (0 : Int).toNat (ez_v (.inl (0)))) := (ez_fr.refl nz_PF h).put (show nz_PF 789 = true from rfl) _ _
  refine rd_fields_2 (h := h) t770 (ez_t771 hB t770) hr1 hr2 (by omega) w1 (fun hl g2 hB2 f2 => kT (fun ⟨A, hA⟩ => hl (by rw [← hAno hA]; obtain ⟨c, c1, c2, c3, c4⟩ := hA; exact c4)) g2 hB2 f2) (fun g2 A s f hB2 f2 hA fw hseg hc hs => ?_) _ 0 0 0 _ [] rfl (by omega) (by omega) (by omega) hB1 f0 rfl (by omega) (by rw [show (e - 0).toNat = e.toNat by omega]; rfl) (fun k p hk => by cases hk) (by unfold mf; rw [w2]; rfl)
  have c1 := f2.1
  have c2 := f2.2.1
  refine ez_go (n := 5) (pc' := 164) (L' := [(4, .inl (f)), (3, .inl (e)), (0, .inr (.inr (some (770)))), (1, .inl (w)), (2, .inl (n))]) (st' := [.inl (w), .inl ((f) + (1)), .inr (.inr (some (770)))]) rfl ?_
  refine ez_icmp rfl rfl ⟨by first | omega | exact (sz_i32 _).1, by first | omega | exact (sz_i32 _).2⟩ ⟨by first | omega | exact (sz_i32 _).1, by first | omega | exact (sz_i32 _).2⟩ (fun (c4 : ((f) + (1)) ≠ (w)) => ?_) (fun (c4 : ¬(((f) + (1)) ≠ (w))) => ?_)
  · skip
    refine ez_go (n := 1) (pc' := 172) (L' := [(4, .inl (f)), (3, .inl (e)), (0, .inr (.inr (some (770)))), (1, .inl (w)), (2, .inl (n))]) (st' := [.inl (0), .inr (.inr (some (770)))]) rfl ?_
    refine ez_cv hB2 t770 rfl rfl rfl tq_75 rfl rfl rfl (rd_can0 (by omega) (by omega) (ez_Kp (xc_exc hB2 rfl) rfl (kT (fun ⟨A2, hA2⟩ => by have e5 := hAno hA2; rw [hseg] at e5; obtain ⟨c, c1, c2, c3, c4⟩ := hA2; rw [e5, List.length_append, List.length_singleton] at c4; omega) g2 hB2 f2)))
  · skip
    refine ez_go (n := 2) (pc' := 172) (L' := [(4, .inl (f)), (3, .inl (e)), (0, .inr (.inr (some (770)))), (1, .inl (w)), (2, .inl (n))]) (st' := [.inl (1), .inr (.inr (some (770)))]) rfl ?_
    refine ez_cv hB2 t770 rfl rfl rfl tq_75 rfl rfl rfl (rd_can1 (by omega) (by omega) (ez_K0 ?_))
    refine ez_go (n := 1) (pc' := 176) (L' := [(4, .inl (f)), (3, .inl (e)), (0, .inr (.inr (some (770)))), (1, .inl (w)), (2, .inl (n))]) (st' := [.inr (.inr (some (770)))]) rfl ?_
    refine ez_gC (p := 790) (tg := 81) hB2 t770 rfl rfl tq_75 rfl rfl (fun (t790 : _ = 81) => ?_)
    refine ez_go (n := 2) (pc' := 182) (L' := [(4, .inl (f)), (3, .inl (e)), (0, .inr (.inr (some (770)))), (1, .inl (w)), (2, .inl (n))]) (st' := [.inl (e), .inl (f), .inr (.inr (some (790)))]) rfl ?_
    have n7 : 8 ≤ qz_N g2 790 ∧ qz_N g2 790 ≤ 8 := ez_len hB2 t790 tq_81 rfl
    refine ez_as hB2 t790 rfl tq_81 rfl rfl (by omega) (by omega) (ez_vdI rfl rfl (by omega) (by omega)) (fun hB5 w6 => ?_)
    refine ez_go (n := 2) (pc' := 186) (L' := [(5, .inl (0)), (4, .inl (f)), (3, .inl (e)), (0, .inr (.inr (some (770)))), (1, .inl (w)), (2, .inl (n))]) (st' := []) rfl ?_
    refine ez_less [(5, .inl (0)), (0, .inr (.inr (some (770)))), (1, .inl (w))] rfl ⟨rfl, rfl, rfl, trivial⟩ ?_
    have hA9 : rz_A (mb h) n w.toNat (A ++ [(s, e)]) := ⟨e, hpl, hha, hseg.symm, by rw [List.length_append, List.length_singleton]; omega⟩
    have hle : ∀ p ∈ A ++ [(s, e)], p.1 ≤ p.2 ∧ 0 ≤ p.1 ∧ p.2 ≤ 4096 := fun p hp => by rw [← hseg] at hp; have := rz_seg_le (mb h) e.toNat 0 0 (Int.le_refl _) p hp; omega
    refine rd_fields_3 (h := h) (A := A ++ [(s, e)]) t770 (by rw [List.length_append, List.length_singleton]; omega) w1 hle (fun g3 hB3 f3 hz => kx g3 _ hB3 f3 hA9 (fun k k0 k1 => ?_)) _ 0 _ rfl (by omega) (by omega) hB5 (f2.put (show nz_PF 790 = true from rfl) _ _) ⟨fun j p hj hjk => by omega, fun j p hj hjk => ?_⟩
    · have hlt : k.toNat < (A ++ [(s, e)]).length := by rw [List.length_append, List.length_singleton]; omega
      have ee : (A ++ [(s, e)])[k.toNat]? = some ((A ++ [(s, e)]).getD k.toNat (0, 0)) := by rw [List.getD_eq_getElem?_getD, List.getElem?_eq_getElem hlt]; rfl
      have := hz k.toNat _ ee
      rw [Int.toNat_of_nonneg k0] at this
      exact this
    · by_cases e9 : j < A.length
      · rw [List.getElem?_append_left e9] at hj
        obtain ⟨q1, q2⟩ := hc j p hj
        unfold mf mt at *
        rw [ez_put_I (by omega), ez_put_I (by omega)]; exact ⟨q1, q2⟩
      · rw [List.getElem?_append_right (by omega)] at hj
        have e10 : j = A.length := by have := (List.getElem?_eq_some_iff.mp hj).1; simp only [List.length_singleton] at this; omega
        subst e10
        rw [Nat.sub_self] at hj
        cases hj
        unfold mf mt at *
        rw [ez_put_I (by omega)]
        refine ⟨by rw [← hA]; exact hs, ?_⟩
        rw [← hA, w6, rz_rd ⟨by omega, by omega⟩]

end EzMg
/-! The model reads: field, blanks, codes, optional. (Written by wip/p2/py/pv53.py.) -/
theorem me_dig (b : Int → Int) : ∀ (n : Nat) (i j : Int), i ≤ j → j < me b n i → 0 ≤ mh (b j)
  | 0, i, j, h1, h2 => by unfold me at h2; omega
  | n + 1, i, j, h1, h2 => by
    unfold me at h2
    split at h2
    · rename_i e
      by_cases e2 : j = i
      · rw [e2]; exact e
      · exact me_dig b n (i + 1) j (by omega) h2
    · omega
theorem me_stop (b : Int → Int) : ∀ (n : Nat) (i : Int), me b n i < i + n → ¬ 0 ≤ mh (b (me b n i))
  | 0, i, h => by unfold me at h; omega
  | n + 1, i, h => by
    unfold me at h ⊢
    split at h
    · rename_i e
      rw [if_pos e]
      exact me_stop b n (i + 1) (by push_cast at h; omega)
    · rename_i e
      rw [if_neg e]; exact e
theorem dots_ge (b : Int → Int) : ∀ (n : Nat) (i k : Int), (∀ j, i ≤ j → j < k → b j ≠ 46) → k ≤ i + n → i ≤ k → k ≤ rz_dots b n i
  | 0, i, k, _, h1, _ => by unfold rz_dots; omega
  | n + 1, i, k, h, h1, h2 => by
    unfold rz_dots
    split
    · rename_i e
      by_cases e2 : i < k
      · exact absurd e (h i (Int.le_refl _) e2)
      · omega
    · by_cases e2 : i < k
      · exact dots_ge b n (i + 1) k (fun j j0 j1 => h j (by omega) j1) (by push_cast at h1; omega) (by omega)
      · have := rz_dots_le b n (i + 1); omega
theorem dots_at (b : Int → Int) : ∀ (n : Nat) (i k : Int), (∀ j, i ≤ j → j < k → b j ≠ 46) → k < i + n → i ≤ k → b k = 46 → rz_dots b n i = k
  | 0, i, k, _, h1, _, _ => by omega
  | n + 1, i, k, h, h1, h2, h3 => by
    unfold rz_dots
    by_cases e2 : i < k
    · rw [if_neg (h i (Int.le_refl _) e2)]
      exact dots_at b n (i + 1) k (fun j j0 j1 => h j (by omega) j1) (by push_cast at h1; omega) (by omega) h3
    · have e : i = k := by omega
      rw [e, if_pos h3]
theorem mh_dot : ¬ 0 ≤ mh 46 := by decide
/-- the two ways to read CODES -/
theorem codes_eq {b : Int → Int} {f t E : Int} (hft : f ≤ t) (hE : E = me b (t - f).toNat f) :
    (rz_code b f E = -1 → ¬ (rz_first b f t ≠ -1 ∧ rz_first b f t ≤ rz_last b f t)) ∧
    (E = t → rz_first b f t = rz_code b f E ∧ rz_last b f t = rz_code b f E) ∧
    (E < t → b E ≠ 46 → rz_first b f t = -1) ∧
    (E < t → b E = 46 → rz_first b f t = rz_code b f E ∧ rz_last b f t = if E + 1 < t ∧ b (E + 1) = 46 then rz_code b (E + 2) t else -1) := by
  have hle := me_le b (t - f).toNat f
  rw [← hE] at hle
  have hnd : ∀ j, f ≤ j → j < E → b j ≠ 46 := fun j j0 j1 e => by
    have := me_dig b (t - f).toNat f j j0 (by rw [← hE]; exact j1)
    rw [e] at this; exact mh_dot this
  have hd := dots_ge b (t - f).toNat f E hnd (by omega) (by omega)
  have hdl := rz_dots_le b (t - f).toNat f
  refine ⟨fun h w => ?_, fun h => ?_, fun h1 h2 => ?_, fun h1 h2 => ?_⟩
  · apply w.1
    unfold rz_first
    by_cases e : rz_dots b (t - f).toNat f = E
    · rw [e]; exact h
    · exact rz_code_no (t := t) (t - f).toNat (Nat.le_refl _) (by rw [← hE]; omega) (by omega) (by omega)
  · have e : rz_dots b (t - f).toNat f = t := by omega
    unfold rz_last rz_first
    rw [e, if_neg (by omega), h]
    exact ⟨rfl, rfl⟩
  · unfold rz_first
    have e : rz_dots b (t - f).toNat f ≠ E := fun e => by
      have := dots_ge b (t - f).toNat f (E + 1) (fun j j0 j1 => by
        by_cases e2 : j = E
        · rw [e2]; exact h2
        · exact hnd j j0 (by omega)) (by omega) (by omega)
      omega
    exact rz_code_no (t := t) (t - f).toNat (Nat.le_refl _) (by rw [← hE]; omega) (by omega) (by omega)
  · have e := dots_at b (t - f).toNat f E hnd (by omega) (by omega) h2
    unfold rz_last rz_first
    rw [e, if_pos h1]
    exact ⟨rfl, rfl⟩
/-- place of reading and its end -/
def ms (h g : cz_H) : Prop := ez_fr (ez_one 770) h g ∧ ∀ j, j ≠ 17 → j ≠ 18 → qz_I g 770 j = qz_I h 770 j
theorem ms.trans {h g k : cz_H} (a : ms h g) (b : ms g k) : ms h k := ⟨a.1.trans b.1, fun j h1 h2 => (b.2 j h1 h2).trans (a.2 j h1 h2)⟩
theorem mz.ms {h g : cz_H} (a : mz h g) : ms h g := ⟨a.1, fun j h1 _ => a.2 j h1⟩
theorem ms.b {h g : cz_H} (a : ms h g) : mb g = mb h := funext fun i => a.1.I (by decide) _
section EzMh
variable {d : Nat} {h : cz_H} {τ : Nat → Nat} {Q : cz_F → Prop} {l : Nat}
theorem rd_field {k : Int} (hB : ez_B τ h) (t770 : τ 770 = 75) (k0 : 0 ≤ k) (k1 : k < 8) (kx : ∀ g, ez_B τ g → ms h g → qz_I g 770 17 = mf h k → qz_I g 770 18 = mt h k → Q (.inl none, g)) : ez_W d cm_254 0 [(0, .inr (.inr (some (770)))), (1, .inl (k))] [] h Q := by
  refine ez_go (n := 2) (pc' := 2) (L' := [(0, .inr (.inr (some (770)))), (1, .inl (k))]) (st' := [.inr (.inr (some (770))), .inr (.inr (some (770)))]) rfl ?_
  refine ez_gC (p := 789) (tg := 80) hB t770 rfl rfl tq_75 rfl rfl (fun (t789 : _ = 80) => ?_)
  refine ez_go (n := 1) (pc' := 6) (L' := [(0, .inr (.inr (some (770)))), (1, .inl (k))]) (st' := [.inl (k), .inr (.inr (some (789))), .inr (.inr (some (770)))]) rfl ?_
  have n2 : 8 ≤ qz_N h 789 ∧ qz_N h 789 ≤ 8 := ez_len hB t789 tq_80 rfl
  refine ez_aI hB t789 rfl tq_80 rfl rfl (by omega) (by omega) (fun (b1 : 0 ≤ qz_I h 789 (k).toNat) (b1' : qz_I h 789 (k).toNat ≤ 4096) => ?_)
  refine ez_pf hB t770 rfl rfl tq_75 rfl rfl rfl rfl (ez_vdI rfl rfl (by omega) (by omega)) (fun hB3 w4 => ?_)
  refine ez_go (n := 2) (pc' := 12) (L' := [(0, .inr (.inr (some (770)))), (1, .inl (k))]) (st' := [.inr (.inr (some (770))), .inr (.inr (some (770)))]) rfl ?_
  refine ez_gC (p := 790) (tg := 81) hB3 t770 rfl rfl tq_75 rfl rfl (fun (t790 : _ = 81) => ?_)
  refine ez_go (n := 1) (pc' := 16) (L' := [(0, .inr (.inr (some (770)))), (1, .inl (k))]) (st' := [.inl (k), .inr (.inr (some (790))), .inr (.inr (some (770)))]) rfl ?_
  have n6 : 8 ≤ qz_N (dz_put h 770 17 (ez_v (.inl (qz_I h 789 (k).toNat)))) 790 ∧ qz_N (dz_put h 770 17 (ez_v (.inl (qz_I h 789 (k).toNat)))) 790 ≤ 8 := ez_len hB3 t790 tq_81 rfl
  refine ez_aI hB3 t790 rfl tq_81 rfl rfl (by omega) (by omega) (fun (b5 : 0 ≤ qz_I (dz_put h 770 17 (ez_v (.inl (qz_I h 789 (k).toNat)))) 790 (k).toNat) (b5' : qz_I (dz_put h 770 17 (ez_v (.inl (qz_I h 789 (k).toNat)))) 790 (k).toNat ≤ 4096) => ?_)
  refine ez_pf hB3 t770 rfl rfl tq_75 rfl rfl rfl rfl (ez_vdI rfl rfl (by omega) (by omega)) (fun hB7 w8 => ?_)
  refine ez_ret0 rfl rfl (kx _ hB7 ⟨(((ez_fr.refl (ez_one 770) h).put (show Nat.beq 770 770 = true from rfl) _ _).put (show Nat.beq 770 770 = true from rfl) _ _), fun j h1 h2 => by rw [ez_put_I (by omega), ez_put_I (by omega)]⟩ ?_ ?_)
  · rw [ez_put_I (by omega), w4, rz_rd ⟨by omega, by omega⟩]; rfl
  · rw [w8, rz_rd ⟨by omega, by omega⟩, ez_put_I (by omega)]; rfl

theorem rd_blanks_l (t770 : τ 770 = 75) (kx : ∀ g, ez_B τ g → mz h g → qz_I g 770 17 = rz_skip (mb h) (qz_I h 770 18 - qz_I h 770 17).toNat (qz_I h 770 17) → Q (.inl none, g)) : ∀ (n : Nat) (g : cz_H), n = (qz_I h 770 18 - qz_I g 770 17).toNat → ez_B τ g → mz h g → qz_I g 770 17 ≤ qz_I h 770 18 → rz_skip (mb h) (qz_I h 770 18 - qz_I h 770 17).toNat (qz_I h 770 17) = rz_skip (mb h) (qz_I h 770 18 - qz_I g 770 17).toNat (qz_I g 770 17) → ez_W (d + 1) cm_224 0 [(0, .inr (.inr (some (770))))] [] g Q := by
  intro n
  induction n with
  | zero =>
    intro g hn hB hm hs hx
    have e18 : qz_I g 770 18 = qz_I h 770 18 := hm.2 18 (by decide)
    have b18 : 0 ≤ qz_I g 770 18 ∧ qz_I g 770 18 ≤ 4096 := ez_fB (cl := 11) hB t770 tq_75 rfl rfl (by decide)
    refine ez_go (n := 2) (pc' := 2) (L' := [(0, .inr (.inr (some (770))))]) (st' := [.inr (.inr (some (770))), .inr (.inr (some (770)))]) rfl ?_
    refine ez_cv hB t770 rfl rfl rfl tq_75 rfl rfl rfl (rd_peek hB t770 (fun p1 p2 => ez_K1 ?_))
    refine ez_cv hB t770 rfl rfl rfl tq_75 rfl rfl rfl (rd_mblank p1 p2 (fun e => ez_K1 ?_) (fun e => ez_K1 ?_))
    · skip
      refine ez_if rfl rfl ⟨by decide, by decide⟩ (fun (c1 : (1 : Int) = (0)) => absurd c1 (by decide)) (fun _ => ?_)
      refine ez_go (n := 2) (pc' := 13) (L' := [(0, .inr (.inr (some (770))))]) (st' := [.inr (.inr (some (770))), .inr (.inr (some (770)))]) rfl ?_
      refine ez_gI hB t770 rfl rfl tq_75 rfl rfl (fun (b2 : 0 ≤ qz_I g 770 17) (b2' : qz_I g 770 17 ≤ 4200) => ?_)
      refine ez_go (n := 2) (pc' := 18) (L' := [(0, .inr (.inr (some (770))))]) (st' := [.inl ((qz_I g 770 17) + (1)), .inr (.inr (some (770)))]) rfl ?_
      refine ez_pf hB t770 rfl rfl tq_75 rfl rfl rfl rfl (ez_vdI rfl rfl (by omega) (by omega)) (fun hB3 w4 => ?_)
      refine ez_go (n := 1) (pc' := 0) (L' := [(0, .inr (.inr (some (770))))]) (st' := []) rfl ?_
      have hlt : qz_I g 770 17 < qz_I g 770 18 := by by_cases e9 : qz_I g 770 17 < qz_I g 770 18; (· exact e9); (· exfalso; have : mk (mb g) (qz_I g 770 17) (qz_I g 770 18) = -1 := (by unfold mk; rw [if_neg e9]); omega)
      exfalso; omega
    · skip
      refine ez_if rfl rfl ⟨by decide, by decide⟩ (fun _ => ?_) (fun (c5 : ¬((0 : Int) = (0))) => absurd c5 (by decide))
      refine ez_ret0 rfl rfl (kx g hB hm ?_)
      rw [hx]
      by_cases e9 : qz_I g 770 17 < qz_I g 770 18
      · have hnb : ¬ (mb h (qz_I g 770 17) = 9 ∨ mb h (qz_I g 770 17) = 32) := by have : mk (mb g) (qz_I g 770 17) (qz_I g 770 18) = mb g (qz_I g 770 17) := (by unfold mk; rw [if_pos e9]); rw [this, hm.b] at e; exact e
        rw [show (qz_I h 770 18 - qz_I g 770 17).toNat = (qz_I h 770 18 - (qz_I g 770 17 + 1)).toNat + 1 by omega, rz_skip, if_neg hnb]
      · rw [show (qz_I h 770 18 - qz_I g 770 17).toNat = 0 by omega, rz_skip]
  | succ n ih =>
    intro g hn hB hm hs hx
    have e18 : qz_I g 770 18 = qz_I h 770 18 := hm.2 18 (by decide)
    have b18 : 0 ≤ qz_I g 770 18 ∧ qz_I g 770 18 ≤ 4096 := ez_fB (cl := 11) hB t770 tq_75 rfl rfl (by decide)
    refine ez_go (n := 2) (pc' := 2) (L' := [(0, .inr (.inr (some (770))))]) (st' := [.inr (.inr (some (770))), .inr (.inr (some (770)))]) rfl ?_
    refine ez_cv hB t770 rfl rfl rfl tq_75 rfl rfl rfl (rd_peek hB t770 (fun p1 p2 => ez_K1 ?_))
    refine ez_cv hB t770 rfl rfl rfl tq_75 rfl rfl rfl (rd_mblank p1 p2 (fun e => ez_K1 ?_) (fun e => ez_K1 ?_))
    · skip
      refine ez_if rfl rfl ⟨by decide, by decide⟩ (fun (c1 : (1 : Int) = (0)) => absurd c1 (by decide)) (fun _ => ?_)
      refine ez_go (n := 2) (pc' := 13) (L' := [(0, .inr (.inr (some (770))))]) (st' := [.inr (.inr (some (770))), .inr (.inr (some (770)))]) rfl ?_
      refine ez_gI hB t770 rfl rfl tq_75 rfl rfl (fun (b2 : 0 ≤ qz_I g 770 17) (b2' : qz_I g 770 17 ≤ 4200) => ?_)
      refine ez_go (n := 2) (pc' := 18) (L' := [(0, .inr (.inr (some (770))))]) (st' := [.inl ((qz_I g 770 17) + (1)), .inr (.inr (some (770)))]) rfl ?_
      refine ez_pf hB t770 rfl rfl tq_75 rfl rfl rfl rfl (ez_vdI rfl rfl (by omega) (by omega)) (fun hB3 w4 => ?_)
      refine ez_go (n := 1) (pc' := 0) (L' := [(0, .inr (.inr (some (770))))]) (st' := []) rfl ?_
      have hlt : qz_I g 770 17 < qz_I g 770 18 := by by_cases e9 : qz_I g 770 17 < qz_I g 770 18; (· exact e9); (· exfalso; have : mk (mb g) (qz_I g 770 17) (qz_I g 770 18) = -1 := (by unfold mk; rw [if_neg e9]); omega)
      have hbl : mb h (qz_I g 770 17) = 9 ∨ mb h (qz_I g 770 17) = 32 := by have : mk (mb g) (qz_I g 770 17) (qz_I g 770 18) = mb g (qz_I g 770 17) := (by unfold mk; rw [if_pos hlt]); rw [this, hm.b] at e; exact e
      have a9 : qz_I (dz_put g 770 17 (ez_v (.inl ((qz_I g 770 17) + (1))))) 770 17 = qz_I g 770 17 + 1 := by rw [w4, rz_rd ⟨by omega, by omega⟩]
      refine ez_less [(0, .inr (.inr (some (770))))] rfl ⟨rfl, trivial⟩ ?_
      refine ih _ (by rw [a9]; omega) hB3 (hm.trans mz_put) (by rw [a9]; omega) ?_
      rw [a9, hx, show (qz_I h 770 18 - qz_I g 770 17).toNat = (qz_I h 770 18 - (qz_I g 770 17 + 1)).toNat + 1 by omega, rz_skip, if_pos hbl]
    · skip
      refine ez_if rfl rfl ⟨by decide, by decide⟩ (fun _ => ?_) (fun (c5 : ¬((0 : Int) = (0))) => absurd c5 (by decide))
      refine ez_ret0 rfl rfl (kx g hB hm ?_)
      rw [hx]
      by_cases e9 : qz_I g 770 17 < qz_I g 770 18
      · have hnb : ¬ (mb h (qz_I g 770 17) = 9 ∨ mb h (qz_I g 770 17) = 32) := by have : mk (mb g) (qz_I g 770 17) (qz_I g 770 18) = mb g (qz_I g 770 17) := (by unfold mk; rw [if_pos e9]); rw [this, hm.b] at e; exact e
        rw [show (qz_I h 770 18 - qz_I g 770 17).toNat = (qz_I h 770 18 - (qz_I g 770 17 + 1)).toNat + 1 by omega, rz_skip, if_neg hnb]
      · rw [show (qz_I h 770 18 - qz_I g 770 17).toNat = 0 by omega, rz_skip]
theorem rd_blanks (hB : ez_B τ h) (t770 : τ 770 = 75) (hs : qz_I h 770 17 ≤ qz_I h 770 18) (kx : ∀ g, ez_B τ g → mz h g → qz_I g 770 17 = rz_skip (mb h) (qz_I h 770 18 - qz_I h 770 17).toNat (qz_I h 770 17) → Q (.inl none, g)) : ez_W (d + 1) cm_224 0 [(0, .inr (.inr (some (770))))] [] h Q := rd_blanks_l t770 kx _ h rfl hB (mz.refl _) hs rfl
end EzMh
/-! The model reads: codes, optional. (Written by wip/p2/py/pv54.py.) -/
def nz_PL (l q : Nat) : Bool := Nat.beq q 770 || Nat.beq q l
/-- the place of reading, and a line -/
def ml (h g : cz_H) (l : Nat) : Prop := ez_fr (nz_PL l) h g ∧ ∀ j, j ≠ 17 → qz_I g 770 j = qz_I h 770 j
theorem ml.trans {h g k : cz_H} {l : Nat} (a : ml h g l) (b : ml g k l) : ml h k l := ⟨a.1.trans b.1, fun j hj => (b.2 j hj).trans (a.2 j hj)⟩
theorem mz.ml {h g : cz_H} {l : Nat} (a : mz h g) : ml h g l := ⟨⟨a.1.1, a.1.2.1, fun q hq => a.1.2.2 q (by unfold nz_PL at hq; exact (Bool.or_eq_false_iff.mp hq).1)⟩, a.2⟩
theorem ml.b {h g : cz_H} {l : Nat} (a : ml h g l) (hl : l ≠ 771) : mb g = mb h := funext fun i => a.1.I (by unfold nz_PL; rw [dz_beq_ne (Ne.symm hl)]; rfl) _
theorem ml_put {h : cz_H} {l i : Nat} {v : cz_V} (hl : l ≠ 770) : ml h (dz_put h l i v) l := ⟨(ez_fr.refl (nz_PL l) h).put (by unfold nz_PL; rw [Nat.beq_refl, Bool.or_true]) _ _, fun j _ => ez_put_I (fun w => hl w.1.symm)⟩
theorem mz.l {h g : cz_H} {l : Nat} (a : mz h g) (hl : l ≠ 770) (j : Nat) : qz_I g l j = qz_I h l j := a.I hl j
section EzMi
variable {d : Nat} {h : cz_H} {τ : Nat → Nat} {Q : cz_F → Prop} {l : Nat}
theorem rd_codes (hB : ez_B τ h) (t770 : τ 770 = 75) (tl : τ l = 13) (hr1 : h.1 + 1 ≤ 600192) (hr2 : h.2.1 + 6 ≤ 7302232) (hfs : qz_I h 770 17 ≤ qz_I h 770 18) (hs1 : qz_I h 770 18 ≤ 4096) (k1 : ∀ g, ez_B τ g → ml h g l → qz_I g 770 17 = qz_I h 770 18 → qz_I g l 1 = (rz_first (mb h) (qz_I h 770 17) (qz_I h 770 18)) → qz_I g l 2 = (rz_last (mb h) (qz_I h 770 17) (qz_I h 770 18)) → (rz_first (mb h) (qz_I h 770 17) (qz_I h 770 18)) ≠ -1 → (rz_first (mb h) (qz_I h 770 17) (qz_I h 770 18)) ≤ (rz_last (mb h) (qz_I h 770 17) (qz_I h 770 18)) → (∀ j, j ≠ 1 → j ≠ 2 → qz_I g l j = qz_I h l j) → Q (.inl none, g)) (k0 : ¬ ((rz_first (mb h) (qz_I h 770 17) (qz_I h 770 18)) ≠ -1 ∧ (rz_first (mb h) (qz_I h 770 17) (qz_I h 770 18)) ≤ (rz_last (mb h) (qz_I h 770 17) (qz_I h 770 18))) → ∀ g, ez_B τ g → ml h g l → (∀ j, j ≠ 1 → j ≠ 2 → qz_I g l j = qz_I h l j) → Q (.inr g.1, xc g 1)) : ez_W (d + 8) cm_235 0 [(0, .inr (.inr (some (770)))), (1, .inr (.inr (some (l))))] [] h Q := by
  have n770 : l ≠ 770 := fun e => by rw [e, t770] at tl; cases tl
  have n771 : l ≠ 771 := fun e => by rw [e, ez_t771 hB t770] at tl; cases tl
  refine ez_go (n := 2) (pc' := 2) (L' := [(0, .inr (.inr (some (770)))), (1, .inr (.inr (some (l))))]) (st' := [.inr (.inr (some (770))), .inr (.inr (some (l)))]) rfl ?_
  refine ez_cv hB t770 rfl rfl rfl tq_75 rfl rfl rfl (rd_code hB t770 (by omega) (by omega) hfs hs1 (fun g1 hB1 m1 a1 v1 => ez_K1 ?_) (fun hno g1 hB1 m1 => ez_Kp (xc_exc hB1 rfl) rfl (k0 ((codes_eq hfs rfl).1 hno) g1 hB1 m1.ml (fun j _ _ => m1.l n770 j))))
  have ce := codes_eq hfs (rfl : (me (mb h) (qz_I h 770 18 - qz_I h 770 17).toNat (qz_I h 770 17)) = (me (mb h) (qz_I h 770 18 - qz_I h 770 17).toNat (qz_I h 770 17)))
  have cb := rz_code_bd (mb h) (qz_I h 770 17) (me (mb h) (qz_I h 770 18 - qz_I h 770 17).toNat (qz_I h 770 17))
  have cc1 := m1.1.1
  have cc2 := m1.1.2.1
  have e18 : qz_I g1 770 18 = qz_I h 770 18 := m1.2 18 (by decide)
  have hEl := me_le (mb h) (qz_I h 770 18 - qz_I h 770 17).toNat (qz_I h 770 17)
  generalize hv9 : rz_code (mb h) (qz_I h 770 17) (me (mb h) (qz_I h 770 18 - qz_I h 770 17).toNat (qz_I h 770 17)) = v at *
  generalize (me (mb h) (qz_I h 770 18 - qz_I h 770 17).toNat (qz_I h 770 17)) = E at *
  refine ez_pf hB1 tl rfl rfl tq_13 rfl rfl rfl rfl (ez_vdI rfl rfl (by omega) (by omega)) (fun hB1 w2 => ?_)
  refine ez_go (n := 2) (pc' := 10) (L' := [(0, .inr (.inr (some (770)))), (1, .inr (.inr (some (l))))]) (st' := [.inr (.inr (some (l))), .inr (.inr (some (l)))]) rfl ?_
  refine ez_gI hB1 tl rfl rfl tq_13 rfl rfl (fun (b3 : -2147483648 ≤ qz_I (dz_put g1 l 1 (ez_v (.inl (v)))) l 1) (b3' : qz_I (dz_put g1 l 1 (ez_v (.inl (v)))) l 1 ≤ 2147483647) => ?_)
  refine ez_pf hB1 tl rfl rfl tq_13 rfl rfl rfl rfl (ez_vdI rfl rfl (by omega) (by omega)) (fun hB4 w5 => ?_)
  have M2 : ml h (dz_put (dz_put g1 l 1 (ez_v (.inl (v)))) l 2 (ez_v (.inl (qz_I (dz_put g1 l 1 (ez_v (.inl (v)))) l 1)))) l := (m1.ml.trans (ml_put n770)).trans (ml_put n770)
  have f1 : qz_I (dz_put (dz_put g1 l 1 (ez_v (.inl (v)))) l 2 (ez_v (.inl (qz_I (dz_put g1 l 1 (ez_v (.inl (v)))) l 1)))) l 1 = v := by rw [ez_put_I (by omega), w2, rz_rd ⟨by omega, by omega⟩]
  have f2 : qz_I (dz_put (dz_put g1 l 1 (ez_v (.inl (v)))) l 2 (ez_v (.inl (qz_I (dz_put g1 l 1 (ez_v (.inl (v)))) l 1)))) l 2 = v := by rw [w5, rz_rd ⟨by omega, by omega⟩, w2, rz_rd ⟨by omega, by omega⟩]
  have J2 : ∀ j, j ≠ 1 → j ≠ 2 → qz_I (dz_put (dz_put g1 l 1 (ez_v (.inl (v)))) l 2 (ez_v (.inl (qz_I (dz_put g1 l 1 (ez_v (.inl (v)))) l 1)))) l j = qz_I h l j := fun j j1 j2 => by rw [ez_put_I (fun w => j2 w.2), ez_put_I (fun w => j1 w.2)]; exact m1.l n770 j
  have at2 : qz_I (dz_put (dz_put g1 l 1 (ez_v (.inl (v)))) l 2 (ez_v (.inl (qz_I (dz_put g1 l 1 (ez_v (.inl (v)))) l 1)))) 770 17 = E := by rw [ez_put_I (by omega), ez_put_I (by omega)]; exact a1
  have st2 : qz_I (dz_put (dz_put g1 l 1 (ez_v (.inl (v)))) l 2 (ez_v (.inl (qz_I (dz_put g1 l 1 (ez_v (.inl (v)))) l 1)))) 770 18 = qz_I h 770 18 := M2.2 18 (by decide)
  have c2a : ((dz_put (dz_put g1 l 1 (ez_v (.inl (v)))) l 2 (ez_v (.inl (qz_I (dz_put g1 l 1 (ez_v (.inl (v)))) l 1))))).1 = h.1 := M2.1.1
  have c2b : ((dz_put (dz_put g1 l 1 (ez_v (.inl (v)))) l 2 (ez_v (.inl (qz_I (dz_put g1 l 1 (ez_v (.inl (v)))) l 1))))).2.1 = h.2.1 := M2.1.2.1
  have hB2 := hB4
  generalize (dz_put (dz_put g1 l 1 (ez_v (.inl (v)))) l 2 (ez_v (.inl (qz_I (dz_put g1 l 1 (ez_v (.inl (v)))) l 1)))) = g2 at *
  refine ez_go (n := 1) (pc' := 17) (L' := [(0, .inr (.inr (some (770)))), (1, .inr (.inr (some (l))))]) (st' := [.inr (.inr (some (770)))]) rfl ?_
  refine ez_cv hB2 t770 rfl rfl rfl tq_75 rfl rfl rfl (rd_peek hB2 t770 (fun p1 p2 => ez_K1 ?_))
  rw [at2, st2, M2.b n771] at p1 p2 ⊢
  refine ez_go (n := 1) (pc' := 22) (L' := [(0, .inr (.inr (some (770)))), (1, .inr (.inr (some (l))))]) (st' := [.inl (46), .inl (mk (mb h) E (qz_I h 770 18))]) rfl ?_
  refine ez_icmp rfl rfl ⟨by first | omega | exact (sz_i32 _).1, by first | omega | exact (sz_i32 _).2⟩ ⟨by first | omega | exact (sz_i32 _).1, by first | omega | exact (sz_i32 _).2⟩ (fun (c6 : (mk (mb h) E (qz_I h 770 18)) ≠ (46)) => ?_) (fun (c6 : ¬((mk (mb h) E (qz_I h 770 18)) ≠ (46))) => ?_)
  · skip
    refine ez_go (n := 1) (pc' := 92) (L' := [(0, .inr (.inr (some (770)))), (1, .inr (.inr (some (l))))]) (st' := [.inr (.inr (some (770)))]) rfl ?_
    refine ez_cv hB2 t770 rfl rfl rfl tq_75 rfl rfl rfl (rd_mend hB2 t770 (by omega) (by omega) (fun e9 => ez_K0 ?_) (fun e9 => ez_Kp (xc_exc hB2 rfl) rfl (k0 (fun w => w.1 (ce.2.2.1 (by omega) (fun q => by have : mk (mb h) E (qz_I h 770 18) = mb h E := (by unfold mk; rw [if_pos (by omega)]); omega))) g2 hB2 M2 J2)))
    obtain ⟨q1, q2⟩ := ce.2.1 (by omega)
    exact ez_ret0 rfl rfl (k1 g2 hB2 M2 (e9.trans st2) (f1.trans q1.symm) (f2.trans q2.symm) (by rw [q1]; exact v1) (by rw [q1, q2]; exact Int.le_refl _) J2)
  · skip
    have hltE : E < qz_I h 770 18 := by by_cases e9 : E < qz_I h 770 18; (· exact e9); (· exfalso; have : mk (mb h) E (qz_I h 770 18) = -1 := (by unfold mk; rw [if_neg e9]); omega)
    have dotE : mb h E = 46 := by have : mk (mb h) E (qz_I h 770 18) = mb h E := (by unfold mk; rw [if_pos hltE]); omega
    refine ez_go (n := 2) (pc' := 27) (L' := [(0, .inr (.inr (some (770)))), (1, .inr (.inr (some (l))))]) (st' := [.inr (.inr (some (770))), .inr (.inr (some (770)))]) rfl ?_
    refine ez_gI hB2 t770 rfl rfl tq_75 rfl rfl (fun (b7 : 0 ≤ qz_I g2 770 17) (b7' : qz_I g2 770 17 ≤ 4200) => ?_)
    refine ez_go (n := 2) (pc' := 32) (L' := [(0, .inr (.inr (some (770)))), (1, .inr (.inr (some (l))))]) (st' := [.inl ((qz_I g2 770 17) + (1)), .inr (.inr (some (770)))]) rfl ?_
    refine ez_pf hB2 t770 rfl rfl tq_75 rfl rfl rfl rfl (ez_vdI rfl rfl (by omega) (by omega)) (fun hB8 w9 => ?_)
    refine ez_go (n := 2) (pc' := 37) (L' := [(0, .inr (.inr (some (770)))), (1, .inr (.inr (some (l))))]) (st' := [.inr (.inr (some (770))), .inr (.inr (some (770)))]) rfl ?_
    have at3 : qz_I (dz_put g2 770 17 (ez_v (.inl ((qz_I g2 770 17) + (1))))) 770 17 = E + 1 := by rw [w9, rz_rd ⟨by omega, by omega⟩]; omega
    have M3 : ml h (dz_put g2 770 17 (ez_v (.inl ((qz_I g2 770 17) + (1))))) l := M2.trans mz_put.ml
    have st3 : qz_I (dz_put g2 770 17 (ez_v (.inl ((qz_I g2 770 17) + (1))))) 770 18 = qz_I h 770 18 := M3.2 18 (by decide)
    have J3 : ∀ j, qz_I (dz_put g2 770 17 (ez_v (.inl ((qz_I g2 770 17) + (1))))) l j = qz_I g2 l j := fun j => mz_put.l n770 j
    have c3a : ((dz_put g2 770 17 (ez_v (.inl ((qz_I g2 770 17) + (1)))))).1 = h.1 := M3.1.1
    have c3b : ((dz_put g2 770 17 (ez_v (.inl ((qz_I g2 770 17) + (1)))))).2.1 = h.2.1 := M3.1.2.1
    have hB3 := hB8
    generalize (dz_put g2 770 17 (ez_v (.inl ((qz_I g2 770 17) + (1))))) = g3 at *
    refine ez_cv hB3 t770 rfl rfl rfl tq_75 rfl rfl rfl (rd_peek hB3 t770 (fun p3 p4 => ez_K1 ?_))
    rw [at3, st3, M3.b n771] at p3 p4 ⊢
    refine ez_go (n := 1) (pc' := 42) (L' := [(0, .inr (.inr (some (770)))), (1, .inr (.inr (some (l))))]) (st' := [.inl (46), .inl (mk (mb h) (E + 1) (qz_I h 770 18)), .inr (.inr (some (770)))]) rfl ?_
    refine ez_icmp rfl rfl ⟨by first | omega | exact (sz_i32 _).1, by first | omega | exact (sz_i32 _).2⟩ ⟨by first | omega | exact (sz_i32 _).1, by first | omega | exact (sz_i32 _).2⟩ (fun (c10 : (mk (mb h) (E + 1) (qz_I h 770 18)) ≠ (46)) => ?_) (fun (c10 : ¬((mk (mb h) (E + 1) (qz_I h 770 18)) ≠ (46))) => ?_)
    · skip
      refine ez_go (n := 1) (pc' := 50) (L' := [(0, .inr (.inr (some (770)))), (1, .inr (.inr (some (l))))]) (st' := [.inl (0), .inr (.inr (some (770)))]) rfl ?_
      refine ez_cv hB3 t770 rfl rfl rfl tq_75 rfl rfl rfl (rd_can0 (by omega) (by omega) (ez_Kp (xc_exc hB3 rfl) rfl (k0 (fun w => by obtain ⟨q1, q2⟩ := ce.2.2.2 (by omega) dotE; rw [q1, q2, if_neg (fun q => by have : mk (mb h) (E + 1) (qz_I h 770 18) = mb h (E + 1) := (by unfold mk; rw [if_pos q.1]); omega)] at w; omega) g3 hB3 M3 (fun j j1 j2 => (J3 j).trans (J2 j j1 j2)))))
    · skip
      refine ez_go (n := 2) (pc' := 50) (L' := [(0, .inr (.inr (some (770)))), (1, .inr (.inr (some (l))))]) (st' := [.inl (1), .inr (.inr (some (770)))]) rfl ?_
      refine ez_cv hB3 t770 rfl rfl rfl tq_75 rfl rfl rfl (rd_can1 (by omega) (by omega) (ez_K0 ?_))
      refine ez_go (n := 2) (pc' := 55) (L' := [(0, .inr (.inr (some (770)))), (1, .inr (.inr (some (l))))]) (st' := [.inr (.inr (some (770))), .inr (.inr (some (770)))]) rfl ?_
      refine ez_gI hB3 t770 rfl rfl tq_75 rfl rfl (fun (b11 : 0 ≤ qz_I g3 770 17) (b11' : qz_I g3 770 17 ≤ 4200) => ?_)
      refine ez_go (n := 2) (pc' := 60) (L' := [(0, .inr (.inr (some (770)))), (1, .inr (.inr (some (l))))]) (st' := [.inl ((qz_I g3 770 17) + (1)), .inr (.inr (some (770)))]) rfl ?_
      refine ez_pf hB3 t770 rfl rfl tq_75 rfl rfl rfl rfl (ez_vdI rfl rfl (by omega) (by omega)) (fun hB12 w13 => ?_)
      have hlt2 : E + 1 < qz_I h 770 18 := by by_cases e9 : E + 1 < qz_I h 770 18; (· exact e9); (· exfalso; have : mk (mb h) (E + 1) (qz_I h 770 18) = -1 := (by unfold mk; rw [if_neg e9]); omega)
      have dot2 : mb h (E + 1) = 46 := by have : mk (mb h) (E + 1) (qz_I h 770 18) = mb h (E + 1) := (by unfold mk; rw [if_pos hlt2]); omega
      have at4 : qz_I (dz_put g3 770 17 (ez_v (.inl ((qz_I g3 770 17) + (1))))) 770 17 = E + 2 := by rw [w13, rz_rd ⟨by omega, by omega⟩]; omega
      have M4 : ml h (dz_put g3 770 17 (ez_v (.inl ((qz_I g3 770 17) + (1))))) l := M3.trans mz_put.ml
      have st4 : qz_I (dz_put g3 770 17 (ez_v (.inl ((qz_I g3 770 17) + (1))))) 770 18 = qz_I h 770 18 := M4.2 18 (by decide)
      have J4 : ∀ j, j ≠ 1 → j ≠ 2 → qz_I (dz_put g3 770 17 (ez_v (.inl ((qz_I g3 770 17) + (1))))) l j = qz_I h l j := fun j j1 j2 => (mz_put.l n770 j).trans ((J3 j).trans (J2 j j1 j2))
      have V4 : qz_I (dz_put g3 770 17 (ez_v (.inl ((qz_I g3 770 17) + (1))))) l 1 = v := (mz_put.l n770 1).trans ((J3 1).trans f1)
      have c4a : ((dz_put g3 770 17 (ez_v (.inl ((qz_I g3 770 17) + (1)))))).1 = h.1 := M4.1.1
      have c4b : ((dz_put g3 770 17 (ez_v (.inl ((qz_I g3 770 17) + (1)))))).2.1 = h.2.1 := M4.1.2.1
      have hB4 := hB12
      generalize (dz_put g3 770 17 (ez_v (.inl ((qz_I g3 770 17) + (1))))) = g4 at *
      refine ez_go (n := 2) (pc' := 65) (L' := [(0, .inr (.inr (some (770)))), (1, .inr (.inr (some (l))))]) (st' := [.inr (.inr (some (770))), .inr (.inr (some (l)))]) rfl ?_
      refine ez_cv hB4 t770 rfl rfl rfl tq_75 rfl rfl rfl (rd_code hB4 t770 (by omega) (by omega) (by rw [at4, st4]; omega) (by rw [st4]; exact hs1) (fun g5 hB5 m5 a5 v5 => ez_K1 ?_) (fun hno g5 hB5 m5 => ez_Kp (xc_exc hB5 rfl) rfl (k0 ?_ g5 hB5 (M4.trans m5.ml) (fun j j1 j2 => (m5.l n770 j).trans (J4 j j1 j2)))))
      · rw [at4, st4, M4.b n771] at a5 v5 ⊢
        have cb5 := rz_code_bd (mb h) (E + 2) (me (mb h) (qz_I h 770 18 - (E + 2)).toNat (E + 2))
        have hE5 := me_le (mb h) (qz_I h 770 18 - (E + 2)).toNat (E + 2)
        have c5a := m5.1.1
        have c5b := m5.1.2.1
        have s5 : qz_I g5 770 18 = qz_I h 770 18 := (m5.2 18 (by decide)).trans st4
        have x5 : ∀ j, qz_I g5 l j = qz_I g4 l j := fun j => m5.l n770 j
        have hcode2 : qz_I g5 770 17 ≠ qz_I h 770 18 → rz_code (mb h) (E + 2) (qz_I h 770 18) = -1 := fun hne => rz_code_no (t := qz_I h 770 18) (qz_I h 770 18 - (E + 2)).toNat (Nat.le_refl _) (by omega) (by omega) (by omega)
        generalize hv5 : rz_code (mb h) (E + 2) (me (mb h) (qz_I h 770 18 - (E + 2)).toNat (E + 2)) = v2 at *
        refine ez_pf hB5 tl rfl rfl tq_13 rfl rfl rfl rfl (ez_vdI rfl rfl (by omega) (by omega)) (fun hB14 w15 => ?_)
        have M6 : ml h (dz_put g5 l 2 (ez_v (.inl (v2)))) l := (M4.trans m5.ml).trans (ml_put n770)
        have e61 : qz_I (dz_put g5 l 2 (ez_v (.inl (v2)))) l 1 = v := by rw [ez_put_I (by omega), x5]; exact V4
        have e62 : qz_I (dz_put g5 l 2 (ez_v (.inl (v2)))) l 2 = v2 := by rw [w15, rz_rd ⟨by omega, by omega⟩]
        have J6 : ∀ j, j ≠ 1 → j ≠ 2 → qz_I (dz_put g5 l 2 (ez_v (.inl (v2)))) l j = qz_I h l j := fun j j1 j2 => by rw [ez_put_I (fun w => j2 w.2), x5]; exact J4 j j1 j2
        have at6 : qz_I (dz_put g5 l 2 (ez_v (.inl (v2)))) 770 17 = qz_I g5 770 17 := ez_put_I (fun w => n770 w.1.symm)
        have st6 : qz_I (dz_put g5 l 2 (ez_v (.inl (v2)))) 770 18 = qz_I h 770 18 := M6.2 18 (by decide)
        have c6a : ((dz_put g5 l 2 (ez_v (.inl (v2))))).1 = h.1 := M6.1.1
        have c6b : ((dz_put g5 l 2 (ez_v (.inl (v2))))).2.1 = h.2.1 := M6.1.2.1
        have hB6 := hB14
        generalize (dz_put g5 l 2 (ez_v (.inl (v2)))) = g6 at *
        refine ez_go (n := 2) (pc' := 73) (L' := [(0, .inr (.inr (some (770)))), (1, .inr (.inr (some (l))))]) (st' := [.inr (.inr (some (l))), .inr (.inr (some (770)))]) rfl ?_
        refine ez_gI hB6 tl rfl rfl tq_13 rfl rfl (fun (b16 : -2147483648 ≤ qz_I g6 l 2) (b16' : qz_I g6 l 2 ≤ 2147483647) => ?_)
        refine ez_go (n := 1) (pc' := 77) (L' := [(0, .inr (.inr (some (770)))), (1, .inr (.inr (some (l))))]) (st' := [.inr (.inr (some (l))), .inl (qz_I g6 l 2), .inr (.inr (some (770)))]) rfl ?_
        refine ez_gI hB6 tl rfl rfl tq_13 rfl rfl (fun (b17 : -2147483648 ≤ qz_I g6 l 1) (b17' : qz_I g6 l 1 ≤ 2147483647) => ?_)
        refine ez_icmp rfl rfl ⟨by first | omega | exact (sz_i32 _).1, by first | omega | exact (sz_i32 _).2⟩ ⟨by first | omega | exact (sz_i32 _).1, by first | omega | exact (sz_i32 _).2⟩ (fun (c18 : (qz_I g6 l 2) < (qz_I g6 l 1)) => ?_) (fun (c18 : ¬((qz_I g6 l 2) < (qz_I g6 l 1))) => ?_)
        · skip
          refine ez_go (n := 1) (pc' := 88) (L' := [(0, .inr (.inr (some (770)))), (1, .inr (.inr (some (l))))]) (st' := [.inl (0), .inr (.inr (some (770)))]) rfl ?_
          refine ez_cv hB6 t770 rfl rfl rfl tq_75 rfl rfl rfl (rd_can0 (by omega) (by omega) (ez_Kp (xc_exc hB6 rfl) rfl (k0 (fun w => by obtain ⟨q1, q2⟩ := ce.2.2.2 (by omega) dotE; rw [q1, q2, if_pos ⟨by omega, dot2⟩] at w; by_cases e9 : qz_I g5 770 17 = qz_I h 770 18; (· have e10 : rz_code (mb h) (E + 2) (qz_I h 770 18) = v2 := (by rw [← e9, a5]; exact hv5); omega); (· rw [hcode2 e9] at w; omega)) g6 hB6 M6 J6)))
        · skip
          refine ez_go (n := 2) (pc' := 88) (L' := [(0, .inr (.inr (some (770)))), (1, .inr (.inr (some (l))))]) (st' := [.inl (1), .inr (.inr (some (770)))]) rfl ?_
          refine ez_cv hB6 t770 rfl rfl rfl tq_75 rfl rfl rfl (rd_can1 (by omega) (by omega) (ez_K0 ?_))
          refine ez_go (n := 1) (pc' := 92) (L' := [(0, .inr (.inr (some (770)))), (1, .inr (.inr (some (l))))]) (st' := [.inr (.inr (some (770)))]) rfl ?_
          refine ez_cv hB6 t770 rfl rfl rfl tq_75 rfl rfl rfl (rd_mend hB6 t770 (by omega) (by omega) (fun e9 => ez_K0 ?_) (fun e9 => ez_Kp (xc_exc hB6 rfl) rfl (k0 (fun w => by obtain ⟨q1, q2⟩ := ce.2.2.2 (by omega) dotE; rw [q1, q2, if_pos ⟨by omega, dot2⟩, hcode2 (by omega)] at w; omega) g6 hB6 M6 J6)))
          obtain ⟨q1, q2⟩ := ce.2.2.2 (by omega) dotE
          rw [if_pos ⟨by omega, dot2⟩] at q2
          have e10 : rz_code (mb h) (E + 2) (qz_I h 770 18) = v2 := by rw [← st6, ← e9, at6, a5]; exact hv5
          rw [e10] at q2
          exact ez_ret0 rfl rfl (k1 g6 hB6 M6 (e9.trans st6) (e61.trans q1.symm) (e62.trans q2.symm) (by rw [q1]; exact v1) (by rw [q1, q2]; omega) J6)
      · rw [at4, st4, M4.b n771] at hno
        intro w
        obtain ⟨q1, q2⟩ := ce.2.2.2 (by omega) dotE
        rw [q1, q2, if_pos ⟨by omega, dot2⟩] at w
        have hE5 := me_le (mb h) (qz_I h 770 18 - (E + 2)).toNat (E + 2)
        by_cases e9 : me (mb h) (qz_I h 770 18 - (E + 2)).toNat (E + 2) = qz_I h 770 18
        · rw [e9] at hno; omega
        · rw [rz_code_no (t := qz_I h 770 18) (qz_I h 770 18 - (E + 2)).toNat (Nat.le_refl _) (by omega) (by omega) (by omega)] at w; omega

end EzMi
