/-! The model reads: peek, hex, code. (Written by wip/p2/py/pv50.py.) -/
def mb (h : cz_H) (i : Int) : Int := qz_I h 771 i.toNat
/-- only the place of reading has changed -/
def mz (h g : cz_H) : Prop := ez_fr (ez_one 770) h g ∧ ∀ j, j ≠ 17 → qz_I g 770 j = qz_I h 770 j
theorem mz.refl (h : cz_H) : mz h h := ⟨ez_fr.refl _ _, fun _ _ => rfl⟩
theorem mz.trans {h g k : cz_H} (a : mz h g) (b : mz g k) : mz h k := ⟨a.1.trans b.1, fun j hj => (b.2 j hj).trans (a.2 j hj)⟩
theorem mz.b {h g : cz_H} (a : mz h g) : mb g = mb h := funext fun i => a.1.I (by decide) _
theorem mz.I {h g : cz_H} (a : mz h g) {q : Nat} (hq : q ≠ 770) (j : Nat) : qz_I g q j = qz_I h q j := a.1.I (dz_beq_ne hq) j
theorem mz.N {h g : cz_H} (a : mz h g) {q : Nat} (hq : q ≠ 770) : qz_N g q = qz_N h q := a.1.N (dz_beq_ne hq)
theorem mz_put {h : cz_H} {v : cz_V} : mz h (dz_put h 770 17 v) := ⟨(ez_fr.refl (ez_one 770) h).put (show Nat.beq 770 770 = true from rfl) _ _, fun j hj => ez_put_I (fun w => hj w.2)⟩
/-- the byte at a, or -1 -/
def mk (b : Int → Int) (a s : Int) : Int := if a < s then b a else -1
/-- a digit's value, or -1 -/
def mh (c : Int) : Int := if 48 ≤ c ∧ c ≤ 57 then c - 48 else if 65 ≤ c ∧ c ≤ 70 then c - 55 else -1
/-- behind the digits: at most n -/
def me (b : Int → Int) : Nat → Int → Int
  | 0, i => i
  | n + 1, i => if 0 ≤ mh (b i) then me b n (i + 1) else i
theorem me_le (b : Int → Int) : ∀ n i, i ≤ me b n i ∧ me b n i ≤ i + n
  | 0, i => by unfold me; omega
  | n + 1, i => by
    have := me_le b n (i + 1)
    unfold me
    split <;> omega
theorem mh_rg (c : Int) : -1 ≤ mh c ∧ mh c ≤ 15 := by
  unfold mh
  split
  · omega
  · split <;> omega
theorem mk_pos {b : Int → Int} {a s : Int} (h : 0 ≤ mh (mk b a s)) : a < s ∧ 0 ≤ mh (b a) ∧ mk b a s = b a := by
  by_cases e : a < s
  · have e2 : mk b a s = b a := by unfold mk; rw [if_pos e]
    exact ⟨e, by rw [← e2]; exact h, e2⟩
  · have e2 : mk b a s = -1 := by unfold mk; rw [if_neg e]
    rw [e2] at h
    exact absurd h (by decide)
theorem mk_neg {b : Int → Int} {a s : Int} (h : ¬ 0 ≤ mh (mk b a s)) (e : a < s) : ¬ 0 ≤ mh (b a) := by
  have e2 : mk b a s = b a := by unfold mk; rw [if_pos e]
  rw [← e2]; exact h
theorem rz_hex_mh (b : Int → Int) (n : Nat) (i v : Int) : rz_hex b (n + 1) i v = if 0 ≤ mh (b i) then rz_hex b n (i + 1) (v * 16 + mh (b i)) else -1 := by
  unfold mh
  show (if 48 ≤ b i ∧ b i ≤ 57 then rz_hex b n (i + 1) (v * 16 + b i - 48) else if 65 ≤ b i ∧ b i ≤ 70 then rz_hex b n (i + 1) (v * 16 + b i - 65 + 10) else -1) = _
  by_cases e : 48 ≤ b i ∧ b i ≤ 57
  · rw [if_pos e, if_pos e, if_pos (by omega)]; congr 1; omega
  · rw [if_neg e, if_neg e]
    by_cases e2 : 65 ≤ b i ∧ b i ≤ 70
    · rw [if_pos e2, if_pos e2, if_pos (by omega)]; congr 1; omega
    · rw [if_neg e2, if_neg e2, if_neg (by omega)]
/-- digits alone up to there -/
theorem rz_hex_me (b : Int → Int) : ∀ (n : Nat) (i v : Int) (k : Nat), k ≤ n → i + (k : Int) ≤ me b n i → 0 ≤ v → ∃ w, rz_hex b k i v = w ∧ 0 ≤ w
  | n, i, v, 0, _, _, hv => ⟨v, rfl, hv⟩
  | 0, i, v, k + 1, hk, _, _ => by omega
  | n + 1, i, v, k + 1, hk, he, hv => by
    unfold me at he
    split at he
    · rename_i e
      rw [rz_hex_mh, if_pos e]
      exact rz_hex_me b n (i + 1) _ k (by omega) (by push_cast at he; omega) (by omega)
    · push_cast at he; omega
/-- beyond there is none -/
theorem rz_hex_no (b : Int → Int) : ∀ (n : Nat) (i v : Int) (k : Nat), k ≤ n → me b n i < i + (k : Int) → rz_hex b k i v = -1
  | n, i, v, 0, _, h => by have := me_le b n i; push_cast at h; omega
  | 0, i, v, k + 1, hk, _ => by omega
  | n + 1, i, v, k + 1, hk, he => by
    unfold me at he
    rw [rz_hex_mh]
    split at he
    · rename_i e
      rw [if_pos e]
      exact rz_hex_no b n (i + 1) _ k (by omega) (by push_cast at he; omega)
    · rename_i e
      rw [if_neg e]
/-- a CODE that ends elsewhere than its digits is none -/
theorem rz_code_no {b : Int → Int} {s t e : Int} (n : Nat) (hn : (t - s).toNat ≤ n) (he : me b n s < e) (h1 : s ≤ e) (h2 : e ≤ t) : rz_code b s e = -1 := by
  unfold rz_code
  have := rz_hex_no b n s 0 (e - s).toNat (by omega) (by omega)
  split
  · rfl
  · rw [this]; rfl
section EzMo
variable {d : Nat} {h : cz_H} {τ : Nat → Nat} {Q : cz_F → Prop}
theorem rd_can1 (hr1 : h.1 + 1 ≤ 600192) (hr2 : h.2.1 + 6 ≤ 7302232) (k : Q (.inl none, h)) : ez_W (d + 6) cm_227 0 [(0, .inr (.inr (some (770)))), (1, .inl (1))] [] h Q := by
  refine ez_go (n := 1) (pc' := 1) (L' := [(0, .inr (.inr (some (770)))), (1, .inl (1))]) (st' := [.inl (1)]) rfl ?_
  refine ez_if rfl rfl ⟨by decide, by decide⟩ (fun _ => ?_) (fun (c1 : ¬((1 : Int) ≠ (0))) => absurd c1 (by decide))
  exact ez_ret0 rfl rfl k

theorem rd_can0 (hr1 : h.1 + 1 ≤ 600192) (hr2 : h.2.1 + 6 ≤ 7302232) (k : Q (.inr h.1, xc h 1)) : ez_W (d + 6) cm_227 0 [(0, .inr (.inr (some (770)))), (1, .inl (0))] [] h Q := by
  refine ez_go (n := 1) (pc' := 1) (L' := [(0, .inr (.inr (some (770)))), (1, .inl (0))]) (st' := [.inl (0)]) rfl ?_
  refine ez_if rfl rfl ⟨by decide, by decide⟩ (fun (c1 : (0 : Int) ≠ (0)) => absurd c1 (by decide)) (fun _ => ?_)
  exact ez_th rfl rfl (by omega) (by omega) (by omega) rfl (k)

theorem rd_mblank {c : Int} (c0 : -128 ≤ c) (c1 : c ≤ 127) (k1 : c = 9 ∨ c = 32 → Q (.inl (some (ez_v (.inl 1))), h)) (k0 : ¬ (c = 9 ∨ c = 32) → Q (.inl (some (ez_v (.inl 0))), h)) : ez_W d cm_223 0 [(0, .inr (.inr (some (770)))), (1, .inl (c))] [] h Q := by
  refine ez_go (n := 2) (pc' := 3) (L' := [(0, .inr (.inr (some (770)))), (1, .inl (c))]) (st' := [.inl (9), .inl (c)]) rfl ?_
  refine ez_icmp rfl rfl ⟨by first | omega | exact (sz_i32 _).1, by first | omega | exact (sz_i32 _).2⟩ ⟨by first | omega | exact (sz_i32 _).1, by first | omega | exact (sz_i32 _).2⟩ (fun (c1 : (c) = (9)) => ?_) (fun (c1 : ¬((c) = (9))) => ?_)
  · skip
    refine ez_go (n := 2) (pc' := 17) (L' := [(0, .inr (.inr (some (770)))), (1, .inl (c))]) (st' := [.inl (1)]) rfl ?_
    exact ez_retZ rfl rfl (by decide) (k1 (by omega))
  · skip
    refine ez_go (n := 2) (pc' := 9) (L' := [(0, .inr (.inr (some (770)))), (1, .inl (c))]) (st' := [.inl (32), .inl (c)]) rfl ?_
    refine ez_icmp rfl rfl ⟨by first | omega | exact (sz_i32 _).1, by first | omega | exact (sz_i32 _).2⟩ ⟨by first | omega | exact (sz_i32 _).1, by first | omega | exact (sz_i32 _).2⟩ (fun (c2 : (c) ≠ (32)) => ?_) (fun (c2 : ¬((c) ≠ (32))) => ?_)
    · skip
      refine ez_go (n := 1) (pc' := 17) (L' := [(0, .inr (.inr (some (770)))), (1, .inl (c))]) (st' := [.inl (0)]) rfl ?_
      exact ez_retZ rfl rfl (by decide) (k0 (by omega))
    · skip
      refine ez_go (n := 2) (pc' := 17) (L' := [(0, .inr (.inr (some (770)))), (1, .inl (c))]) (st' := [.inl (1)]) rfl ?_
      exact ez_retZ rfl rfl (by decide) (k1 (by omega))

theorem rd_peek (hB : ez_B τ h) (t770 : τ 770 = 75) (k : -128 ≤ (mk (mb h) (qz_I h 770 17) (qz_I h 770 18)) → (mk (mb h) (qz_I h 770 17) (qz_I h 770 18)) ≤ 127 → Q (.inl (some (ez_v (.inl (mk (mb h) (qz_I h 770 17) (qz_I h 770 18))))), h)) : ez_W d cm_289 0 [(0, .inr (.inr (some (770))))] [] h Q := by
  refine ez_go (n := 1) (pc' := 1) (L' := [(0, .inr (.inr (some (770))))]) (st' := [.inr (.inr (some (770)))]) rfl ?_
  refine ez_gI hB t770 rfl rfl tq_75 rfl rfl (fun (b1 : 0 ≤ qz_I h 770 17) (b1' : qz_I h 770 17 ≤ 4200) => ?_)
  refine ez_go (n := 1) (pc' := 5) (L' := [(0, .inr (.inr (some (770))))]) (st' := [.inr (.inr (some (770))), .inl (qz_I h 770 17)]) rfl ?_
  refine ez_gI hB t770 rfl rfl tq_75 rfl rfl (fun (b2 : 0 ≤ qz_I h 770 18) (b2' : qz_I h 770 18 ≤ 4096) => ?_)
  refine ez_icmp rfl rfl ⟨by first | omega | exact (sz_i32 _).1, by first | omega | exact (sz_i32 _).2⟩ ⟨by first | omega | exact (sz_i32 _).1, by first | omega | exact (sz_i32 _).2⟩ (fun (c3 : (qz_I h 770 18) ≤ (qz_I h 770 17)) => ?_) (fun (c3 : ¬((qz_I h 770 18) ≤ (qz_I h 770 17))) => ?_)
  · skip
    refine ez_go (n := 1) (pc' := 24) (L' := [(0, .inr (.inr (some (770))))]) (st' := [.inl (-1)]) rfl ?_
    have e : (mk (mb h) (qz_I h 770 17) (qz_I h 770 18)) = -1 := by unfold mk; rw [if_neg (by omega)]
    rw [e] at k
    exact ez_retI rfl rfl (k (by omega) (by omega))
  · skip
    refine ez_go (n := 1) (pc' := 12) (L' := [(0, .inr (.inr (some (770))))]) (st' := [.inr (.inr (some (770)))]) rfl ?_
    refine ez_gC (p := 771) (tg := 76) hB t770 rfl rfl tq_75 rfl rfl (fun (t771 : _ = 76) => ?_)
    refine ez_go (n := 1) (pc' := 16) (L' := [(0, .inr (.inr (some (770))))]) (st' := [.inr (.inr (some (770))), .inr (.inr (some (771)))]) rfl ?_
    refine ez_gI hB t770 rfl rfl tq_75 rfl rfl (fun (b4 : 0 ≤ qz_I h 770 17) (b4' : qz_I h 770 17 ≤ 4200) => ?_)
    have n6 : 4096 ≤ qz_N h 771 ∧ qz_N h 771 ≤ 4096 := ez_len hB t771 tq_76 rfl
    refine ez_aI hB t771 rfl tq_76 rfl rfl (by omega) (by omega) (fun (b5 : -128 ≤ qz_I h 771 (qz_I h 770 17).toNat) (b5' : qz_I h 771 (qz_I h 770 17).toNat ≤ 127) => ?_)
    refine ez_go (n := 1) (pc' := 24) (L' := [(0, .inr (.inr (some (770))))]) (st' := [.inl (qz_I h 771 (qz_I h 770 17).toNat)]) rfl ?_
    have e : (mk (mb h) (qz_I h 770 17) (qz_I h 770 18)) = qz_I h 771 (qz_I h 770 17).toNat := by unfold mk; rw [if_pos (by omega)]; rfl
    rw [e] at k
    exact ez_retI rfl rfl (k (by omega) (by omega))

theorem rd_hex (hB : ez_B τ h) (t770 : τ 770 = 75) (k : Q (.inl (some (ez_v (.inl (mh (mk (mb h) (qz_I h 770 17) (qz_I h 770 18)))))), h)) : ez_W (d + 1) cm_265 0 [(0, .inr (.inr (some (770))))] [] h Q := by
  refine ez_go (n := 1) (pc' := 1) (L' := [(0, .inr (.inr (some (770))))]) (st' := [.inr (.inr (some (770)))]) rfl ?_
  refine ez_cv hB t770 rfl rfl rfl tq_75 rfl rfl rfl (rd_peek hB t770 (fun p1 p2 => ez_K1 ?_))
  generalize (mk (mb h) (qz_I h 770 17) (qz_I h 770 18)) = c at *
  refine ez_go (n := 3) (pc' := 8) (L' := [(1, .inl (c)), (0, .inr (.inr (some (770))))]) (st' := [.inl (48), .inl (c)]) rfl ?_
  refine ez_icmp rfl rfl ⟨by first | omega | exact (sz_i32 _).1, by first | omega | exact (sz_i32 _).2⟩ ⟨by first | omega | exact (sz_i32 _).1, by first | omega | exact (sz_i32 _).2⟩ (fun (c1 : (c) < (48)) => ?_) (fun (c1 : ¬((c) < (48))) => ?_)
  · skip
    refine ez_go (n := 2) (pc' := 27) (L' := [(1, .inl (c)), (0, .inr (.inr (some (770))))]) (st' := [.inl (65), .inl (c)]) rfl ?_
    refine ez_icmp rfl rfl ⟨by first | omega | exact (sz_i32 _).1, by first | omega | exact (sz_i32 _).2⟩ ⟨by first | omega | exact (sz_i32 _).1, by first | omega | exact (sz_i32 _).2⟩ (fun (c2 : (c) < (65)) => ?_) (fun (c2 : ¬((c) < (65))) => ?_)
    · skip
      refine ez_go (n := 1) (pc' := 47) (L' := [(1, .inl (c)), (0, .inr (.inr (some (770))))]) (st' := [.inl (-1)]) rfl ?_
      have e : mh c = -1 := by unfold mh; split <;> (try split) <;> omega
      rw [e] at k
      exact ez_retI rfl rfl k
    · skip
      refine ez_go (n := 2) (pc' := 33) (L' := [(1, .inl (c)), (0, .inr (.inr (some (770))))]) (st' := [.inl (70), .inl (c)]) rfl ?_
      refine ez_icmp rfl rfl ⟨by first | omega | exact (sz_i32 _).1, by first | omega | exact (sz_i32 _).2⟩ ⟨by first | omega | exact (sz_i32 _).1, by first | omega | exact (sz_i32 _).2⟩ (fun (c3 : (70) < (c)) => ?_) (fun (c3 : ¬((70) < (c))) => ?_)
      · skip
        refine ez_go (n := 1) (pc' := 47) (L' := [(1, .inl (c)), (0, .inr (.inr (some (770))))]) (st' := [.inl (-1)]) rfl ?_
        have e : mh c = -1 := by unfold mh; split <;> (try split) <;> omega
        rw [e] at k
        exact ez_retI rfl rfl k
      · skip
        refine ez_go (n := 6) (pc' := 47) (L' := [(1, .inl (c)), (0, .inr (.inr (some (770))))]) (st' := [.inl (((c) - (65)) + (10))]) rfl ?_
        have e : mh c = ((c) - (65)) + (10) := by unfold mh; split <;> (try split) <;> omega
        rw [e] at k
        exact ez_retI rfl rfl k
  · skip
    refine ez_go (n := 2) (pc' := 14) (L' := [(1, .inl (c)), (0, .inr (.inr (some (770))))]) (st' := [.inl (57), .inl (c)]) rfl ?_
    refine ez_icmp rfl rfl ⟨by first | omega | exact (sz_i32 _).1, by first | omega | exact (sz_i32 _).2⟩ ⟨by first | omega | exact (sz_i32 _).1, by first | omega | exact (sz_i32 _).2⟩ (fun (c4 : (57) < (c)) => ?_) (fun (c4 : ¬((57) < (c))) => ?_)
    · skip
      refine ez_go (n := 2) (pc' := 27) (L' := [(1, .inl (c)), (0, .inr (.inr (some (770))))]) (st' := [.inl (65), .inl (c)]) rfl ?_
      refine ez_icmp rfl rfl ⟨by first | omega | exact (sz_i32 _).1, by first | omega | exact (sz_i32 _).2⟩ ⟨by first | omega | exact (sz_i32 _).1, by first | omega | exact (sz_i32 _).2⟩ (fun (c5 : (c) < (65)) => ?_) (fun (c5 : ¬((c) < (65))) => ?_)
      · skip
        refine ez_go (n := 1) (pc' := 47) (L' := [(1, .inl (c)), (0, .inr (.inr (some (770))))]) (st' := [.inl (-1)]) rfl ?_
        have e : mh c = -1 := by unfold mh; split <;> (try split) <;> omega
        rw [e] at k
        exact ez_retI rfl rfl k
      · skip
        refine ez_go (n := 2) (pc' := 33) (L' := [(1, .inl (c)), (0, .inr (.inr (some (770))))]) (st' := [.inl (70), .inl (c)]) rfl ?_
        refine ez_icmp rfl rfl ⟨by first | omega | exact (sz_i32 _).1, by first | omega | exact (sz_i32 _).2⟩ ⟨by first | omega | exact (sz_i32 _).1, by first | omega | exact (sz_i32 _).2⟩ (fun (c6 : (70) < (c)) => ?_) (fun (c6 : ¬((70) < (c))) => ?_)
        · skip
          refine ez_go (n := 1) (pc' := 47) (L' := [(1, .inl (c)), (0, .inr (.inr (some (770))))]) (st' := [.inl (-1)]) rfl ?_
          have e : mh c = -1 := by unfold mh; split <;> (try split) <;> omega
          rw [e] at k
          exact ez_retI rfl rfl k
        · skip
          refine ez_go (n := 6) (pc' := 47) (L' := [(1, .inl (c)), (0, .inr (.inr (some (770))))]) (st' := [.inl (((c) - (65)) + (10))]) rfl ?_
          have e : mh c = ((c) - (65)) + (10) := by unfold mh; split <;> (try split) <;> omega
          rw [e] at k
          exact ez_retI rfl rfl k
    · skip
      refine ez_go (n := 4) (pc' := 47) (L' := [(1, .inl (c)), (0, .inr (.inr (some (770))))]) (st' := [.inl ((c) - (48))]) rfl ?_
      have e : mh c = (c) - (48) := by unfold mh; split <;> (try split) <;> omega
      rw [e] at k
      exact ez_retI rfl rfl k

theorem rd_mend (hB : ez_B τ h) (t770 : τ 770 = 75) (hr1 : h.1 + 1 ≤ 600192) (hr2 : h.2.1 + 6 ≤ 7302232) (k1 : qz_I h 770 17 = qz_I h 770 18 → Q (.inl none, h)) (k0 : qz_I h 770 17 ≠ qz_I h 770 18 → Q (.inr h.1, xc h 1)) : ez_W (d + 7) cm_248 0 [(0, .inr (.inr (some (770))))] [] h Q := by
  refine ez_go (n := 2) (pc' := 2) (L' := [(0, .inr (.inr (some (770))))]) (st' := [.inr (.inr (some (770))), .inr (.inr (some (770)))]) rfl ?_
  refine ez_gI hB t770 rfl rfl tq_75 rfl rfl (fun (b1 : 0 ≤ qz_I h 770 17) (b1' : qz_I h 770 17 ≤ 4200) => ?_)
  refine ez_go (n := 1) (pc' := 6) (L' := [(0, .inr (.inr (some (770))))]) (st' := [.inr (.inr (some (770))), .inl (qz_I h 770 17), .inr (.inr (some (770)))]) rfl ?_
  refine ez_gI hB t770 rfl rfl tq_75 rfl rfl (fun (b2 : 0 ≤ qz_I h 770 18) (b2' : qz_I h 770 18 ≤ 4096) => ?_)
  refine ez_icmp rfl rfl ⟨by first | omega | exact (sz_i32 _).1, by first | omega | exact (sz_i32 _).2⟩ ⟨by first | omega | exact (sz_i32 _).1, by first | omega | exact (sz_i32 _).2⟩ (fun (c3 : (qz_I h 770 17) ≠ (qz_I h 770 18)) => ?_) (fun (c3 : ¬((qz_I h 770 17) ≠ (qz_I h 770 18))) => ?_)
  · skip
    refine ez_go (n := 1) (pc' := 17) (L' := [(0, .inr (.inr (some (770))))]) (st' := [.inl (0), .inr (.inr (some (770)))]) rfl ?_
    refine ez_cv hB t770 rfl rfl rfl tq_75 rfl rfl rfl (rd_can0 (by omega) (by omega) (ez_Kp (xc_exc hB rfl) rfl (k0 (by omega))))
  · skip
    refine ez_go (n := 2) (pc' := 17) (L' := [(0, .inr (.inr (some (770))))]) (st' := [.inl (1), .inr (.inr (some (770)))]) rfl ?_
    refine ez_cv hB t770 rfl rfl rfl tq_75 rfl rfl rfl (rd_can1 (by omega) (by omega) (ez_K0 ?_))
    exact ez_ret0 rfl rfl (k1 (by omega))

theorem rd_code_x {v : Int} {g : cz_H} (t770 : τ 770 = 75) (hr1 : h.1 + 1 ≤ 600192) (hr2 : h.2.1 + 6 ≤ 7302232) (k1 : ∀ g, ez_B τ g → mz h g → qz_I g 770 17 = (me (mb h) (qz_I h 770 18 - qz_I h 770 17).toNat (qz_I h 770 17)) → rz_code (mb h) (qz_I h 770 17) (me (mb h) (qz_I h 770 18 - qz_I h 770 17).toNat (qz_I h 770 17)) ≠ -1 → Q (.inl (some (ez_v (.inl (rz_code (mb h) (qz_I h 770 17) (me (mb h) (qz_I h 770 18 - qz_I h 770 17).toNat (qz_I h 770 17)))))), g)) (k0 : rz_code (mb h) (qz_I h 770 17) (me (mb h) (qz_I h 770 18 - qz_I h 770 17).toNat (qz_I h 770 17)) = -1 → ∀ g, ez_B τ g → mz h g → Q (.inr g.1, xc g 1)) (hB : ez_B τ g) (hm : mz h g) (hf : qz_I h 770 17 ≤ qz_I g 770 17) (hf0 : 0 ≤ qz_I h 770 17) (hs : qz_I g 770 17 ≤ qz_I h 770 18) (hs1 : qz_I h 770 18 ≤ 4096) (h6 : qz_I g 770 17 - qz_I h 770 17 ≤ 6) (v0 : 0 ≤ v) (v1 : v ≤ 16777215) (he : qz_I g 770 17 = (me (mb h) (qz_I h 770 18 - qz_I h 770 17).toNat (qz_I h 770 17))) (hr : rz_hex (mb h) (qz_I g 770 17 - qz_I h 770 17).toNat (qz_I h 770 17) 0 = v) : ez_W (d + 7) cm_234 57 [(2, .inl (v)), (1, .inl ((qz_I h 770 17))), (0, .inr (.inr (some (770))))] [] g Q := by
  have c1 := hm.1.1
  have c2 := hm.1.2.1
  have bb : qz_I g 771 (qz_I h 770 17).toNat = qz_I h 771 (qz_I h 770 17).toNat := hm.I (by decide) _
  refine ez_go (n := 1) (pc' := 58) (L' := [(2, .inl (v)), (1, .inl ((qz_I h 770 17))), (0, .inr (.inr (some (770))))]) (st' := [.inr (.inr (some (770)))]) rfl ?_
  refine ez_gI hB t770 rfl rfl tq_75 rfl rfl (fun (b1 : 0 ≤ qz_I g 770 17) (b1' : qz_I g 770 17 ≤ 4200) => ?_)
  refine ez_go (n := 6) (pc' := 67) (L' := [(3, .inl ((qz_I g 770 17) - ((qz_I h 770 17)))), (2, .inl (v)), (1, .inl ((qz_I h 770 17))), (0, .inr (.inr (some (770))))]) (st' := [.inl (4), .inl ((qz_I g 770 17) - ((qz_I h 770 17))), .inr (.inr (some (770)))]) rfl ?_
  refine ez_icmp rfl rfl ⟨by first | omega | exact (sz_i32 _).1, by first | omega | exact (sz_i32 _).2⟩ ⟨by first | omega | exact (sz_i32 _).1, by first | omega | exact (sz_i32 _).2⟩ (fun (c2 : ((qz_I g 770 17) - ((qz_I h 770 17))) < (4)) => ?_) (fun (c2 : ¬(((qz_I g 770 17) - ((qz_I h 770 17))) < (4))) => ?_)
  · skip
    refine ez_go (n := 1) (pc' := 97) (L' := [(3, .inl ((qz_I g 770 17) - ((qz_I h 770 17)))), (2, .inl (v)), (1, .inl ((qz_I h 770 17))), (0, .inr (.inr (some (770))))]) (st' := [.inl (0), .inr (.inr (some (770)))]) rfl ?_
    refine ez_cv hB t770 rfl rfl rfl tq_75 rfl rfl rfl (rd_can0 (by omega) (by omega) (ez_Kp (xc_exc hB rfl) rfl (k0 (by unfold rz_code; rw [← he, hr]; first | (rw [if_pos (by omega)]) | (rw [if_pos (by show _ ∨ _ ∨ (_ ∧ qz_I h 771 _ = 48); rw [← bb]; omega)]) | (split; (· rfl); (· rw [if_neg (by omega)]))) g hB hm)))
  · skip
    refine ez_go (n := 1) (pc' := 71) (L' := [(3, .inl ((qz_I g 770 17) - ((qz_I h 770 17)))), (2, .inl (v)), (1, .inl ((qz_I h 770 17))), (0, .inr (.inr (some (770))))]) (st' := [.inl (v), .inr (.inr (some (770)))]) rfl ?_
    refine ez_ldc (1114111) rfl rfl rfl ?_
    refine ez_icmp rfl rfl ⟨by first | omega | exact (sz_i32 _).1, by first | omega | exact (sz_i32 _).2⟩ ⟨by first | omega | exact (sz_i32 _).1, by first | omega | exact (sz_i32 _).2⟩ (fun (c3 : (1114111) < (v)) => ?_) (fun (c3 : ¬((1114111) < (v))) => ?_)
    · skip
      refine ez_go (n := 1) (pc' := 97) (L' := [(3, .inl ((qz_I g 770 17) - ((qz_I h 770 17)))), (2, .inl (v)), (1, .inl ((qz_I h 770 17))), (0, .inr (.inr (some (770))))]) (st' := [.inl (0), .inr (.inr (some (770)))]) rfl ?_
      refine ez_cv hB t770 rfl rfl rfl tq_75 rfl rfl rfl (rd_can0 (by omega) (by omega) (ez_Kp (xc_exc hB rfl) rfl (k0 (by unfold rz_code; rw [← he, hr]; first | (rw [if_pos (by omega)]) | (rw [if_pos (by show _ ∨ _ ∨ (_ ∧ qz_I h 771 _ = 48); rw [← bb]; omega)]) | (split; (· rfl); (· rw [if_neg (by omega)]))) g hB hm)))
    · skip
      refine ez_go (n := 2) (pc' := 78) (L' := [(3, .inl ((qz_I g 770 17) - ((qz_I h 770 17)))), (2, .inl (v)), (1, .inl ((qz_I h 770 17))), (0, .inr (.inr (some (770))))]) (st' := [.inl (4), .inl ((qz_I g 770 17) - ((qz_I h 770 17))), .inr (.inr (some (770)))]) rfl ?_
      refine ez_icmp rfl rfl ⟨by first | omega | exact (sz_i32 _).1, by first | omega | exact (sz_i32 _).2⟩ ⟨by first | omega | exact (sz_i32 _).1, by first | omega | exact (sz_i32 _).2⟩ (fun (c4 : ((qz_I g 770 17) - ((qz_I h 770 17))) = (4)) => ?_) (fun (c4 : ¬(((qz_I g 770 17) - ((qz_I h 770 17))) = (4))) => ?_)
      · skip
        refine ez_go (n := 2) (pc' := 97) (L' := [(3, .inl ((qz_I g 770 17) - ((qz_I h 770 17)))), (2, .inl (v)), (1, .inl ((qz_I h 770 17))), (0, .inr (.inr (some (770))))]) (st' := [.inl (1), .inr (.inr (some (770)))]) rfl ?_
        refine ez_cv hB t770 rfl rfl rfl tq_75 rfl rfl rfl (rd_can1 (by omega) (by omega) (ez_K0 ?_))
        refine ez_go (n := 1) (pc' := 101) (L' := [(3, .inl ((qz_I g 770 17) - ((qz_I h 770 17)))), (2, .inl (v)), (1, .inl ((qz_I h 770 17))), (0, .inr (.inr (some (770))))]) (st' := [.inl (v)]) rfl ?_
        have e : rz_code (mb h) (qz_I h 770 17) (me (mb h) (qz_I h 770 18 - qz_I h 770 17).toNat (qz_I h 770 17)) = v := by unfold rz_code; rw [← he, hr, if_neg (by first | omega | (show ¬(_ ∨ _ ∨ (_ ∧ qz_I h 771 _ = 48)); rw [← bb]; omega)), if_pos (by omega)]
        rw [e] at k1
        exact ez_retI rfl rfl (k1 g hB hm he (by omega))
      · skip
        refine ez_go (n := 1) (pc' := 82) (L' := [(3, .inl ((qz_I g 770 17) - ((qz_I h 770 17)))), (2, .inl (v)), (1, .inl ((qz_I h 770 17))), (0, .inr (.inr (some (770))))]) (st' := [.inr (.inr (some (770))), .inr (.inr (some (770)))]) rfl ?_
        refine ez_gC (p := 771) (tg := 76) hB t770 rfl rfl tq_75 rfl rfl (fun (t771 : _ = 76) => ?_)
        refine ez_go (n := 1) (pc' := 86) (L' := [(3, .inl ((qz_I g 770 17) - ((qz_I h 770 17)))), (2, .inl (v)), (1, .inl ((qz_I h 770 17))), (0, .inr (.inr (some (770))))]) (st' := [.inl ((qz_I h 770 17)), .inr (.inr (some (771))), .inr (.inr (some (770)))]) rfl ?_
        have n6 : 4096 ≤ qz_N g 771 ∧ qz_N g 771 ≤ 4096 := ez_len hB t771 tq_76 rfl
        refine ez_aI hB t771 rfl tq_76 rfl rfl (by omega) (by omega) (fun (b5 : -128 ≤ qz_I g 771 ((qz_I h 770 17)).toNat) (b5' : qz_I g 771 ((qz_I h 770 17)).toNat ≤ 127) => ?_)
        refine ez_go (n := 1) (pc' := 89) (L' := [(3, .inl ((qz_I g 770 17) - ((qz_I h 770 17)))), (2, .inl (v)), (1, .inl ((qz_I h 770 17))), (0, .inr (.inr (some (770))))]) (st' := [.inl (48), .inl (qz_I g 771 ((qz_I h 770 17)).toNat), .inr (.inr (some (770)))]) rfl ?_
        refine ez_icmp rfl rfl ⟨by first | omega | exact (sz_i32 _).1, by first | omega | exact (sz_i32 _).2⟩ ⟨by first | omega | exact (sz_i32 _).1, by first | omega | exact (sz_i32 _).2⟩ (fun (c7 : (qz_I g 771 ((qz_I h 770 17)).toNat) = (48)) => ?_) (fun (c7 : ¬((qz_I g 771 ((qz_I h 770 17)).toNat) = (48))) => ?_)
        · skip
          refine ez_go (n := 1) (pc' := 97) (L' := [(3, .inl ((qz_I g 770 17) - ((qz_I h 770 17)))), (2, .inl (v)), (1, .inl ((qz_I h 770 17))), (0, .inr (.inr (some (770))))]) (st' := [.inl (0), .inr (.inr (some (770)))]) rfl ?_
          refine ez_cv hB t770 rfl rfl rfl tq_75 rfl rfl rfl (rd_can0 (by omega) (by omega) (ez_Kp (xc_exc hB rfl) rfl (k0 (by unfold rz_code; rw [← he, hr]; first | (rw [if_pos (by omega)]) | (rw [if_pos (by show _ ∨ _ ∨ (_ ∧ qz_I h 771 _ = 48); rw [← bb]; omega)]) | (split; (· rfl); (· rw [if_neg (by omega)]))) g hB hm)))
        · skip
          refine ez_go (n := 2) (pc' := 97) (L' := [(3, .inl ((qz_I g 770 17) - ((qz_I h 770 17)))), (2, .inl (v)), (1, .inl ((qz_I h 770 17))), (0, .inr (.inr (some (770))))]) (st' := [.inl (1), .inr (.inr (some (770)))]) rfl ?_
          refine ez_cv hB t770 rfl rfl rfl tq_75 rfl rfl rfl (rd_can1 (by omega) (by omega) (ez_K0 ?_))
          refine ez_go (n := 1) (pc' := 101) (L' := [(3, .inl ((qz_I g 770 17) - ((qz_I h 770 17)))), (2, .inl (v)), (1, .inl ((qz_I h 770 17))), (0, .inr (.inr (some (770))))]) (st' := [.inl (v)]) rfl ?_
          have e : rz_code (mb h) (qz_I h 770 17) (me (mb h) (qz_I h 770 18 - qz_I h 770 17).toNat (qz_I h 770 17)) = v := by unfold rz_code; rw [← he, hr, if_neg (by first | omega | (show ¬(_ ∨ _ ∨ (_ ∧ qz_I h 771 _ = 48)); rw [← bb]; omega)), if_pos (by omega)]
          rw [e] at k1
          exact ez_retI rfl rfl (k1 g hB hm he (by omega))

theorem rd_code_l (t770 : τ 770 = 75) (hr1 : h.1 + 1 ≤ 600192) (hr2 : h.2.1 + 6 ≤ 7302232) (hf0 : 0 ≤ qz_I h 770 17) (hs1 : qz_I h 770 18 ≤ 4096) (k1 : ∀ g, ez_B τ g → mz h g → qz_I g 770 17 = (me (mb h) (qz_I h 770 18 - qz_I h 770 17).toNat (qz_I h 770 17)) → rz_code (mb h) (qz_I h 770 17) (me (mb h) (qz_I h 770 18 - qz_I h 770 17).toNat (qz_I h 770 17)) ≠ -1 → Q (.inl (some (ez_v (.inl (rz_code (mb h) (qz_I h 770 17) (me (mb h) (qz_I h 770 18 - qz_I h 770 17).toNat (qz_I h 770 17)))))), g)) (k0 : rz_code (mb h) (qz_I h 770 17) (me (mb h) (qz_I h 770 18 - qz_I h 770 17).toNat (qz_I h 770 17)) = -1 → ∀ g, ez_B τ g → mz h g → Q (.inr g.1, xc g 1)) : ∀ (n : Nat) (v : Int) (g : cz_H), n = (qz_I h 770 18 - qz_I g 770 17).toNat → ez_B τ g → mz h g → qz_I h 770 17 ≤ qz_I g 770 17 → qz_I g 770 17 ≤ qz_I h 770 18 → qz_I g 770 17 - qz_I h 770 17 ≤ 6 → 0 ≤ v → (me (mb h) (qz_I h 770 18 - qz_I h 770 17).toNat (qz_I h 770 17)) = me (mb h) (qz_I h 770 18 - qz_I g 770 17).toNat (qz_I g 770 17) → (∀ m : Nat, rz_hex (mb h) ((qz_I g 770 17 - qz_I h 770 17).toNat + m) (qz_I h 770 17) 0 = rz_hex (mb h) m (qz_I g 770 17) v) → ez_W (d + 7) cm_234 7 [(2, .inl (v)), (1, .inl ((qz_I h 770 17))), (0, .inr (.inr (some (770))))] [] g Q := by
  intro n
  induction n with
  | zero =>
    intro v g hn hB hm hf hs h6 v0 he hr
    have hmr := mh_rg (mk (mb g) (qz_I g 770 17) (qz_I g 770 18))
    have e18 : qz_I g 770 18 = qz_I h 770 18 := hm.2 18 (by decide)
    have c1 := hm.1.1
    have c2 := hm.1.2.1
    have hr0 := hr 0
    rw [Nat.add_zero] at hr0
    have hr0 : rz_hex (mb h) (qz_I g 770 17 - qz_I h 770 17).toNat (qz_I h 770 17) 0 = v := hr0
    have hbd := rz_hex_bd (mb h) (qz_I g 770 17 - qz_I h 770 17).toNat (qz_I h 770 17) 0 1 (by omega) (by omega) (by omega)
    have hp6 := rz_pow6 (show (qz_I g 770 17 - qz_I h 770 17).toNat ≤ 6 by omega)
    rw [hr0] at hbd
    have v1 : v ≤ 16777215 := by omega
    refine ez_go (n := 1) (pc' := 8) (L' := [(2, .inl (v)), (1, .inl ((qz_I h 770 17))), (0, .inr (.inr (some (770))))]) (st' := [.inr (.inr (some (770)))]) rfl ?_
    refine ez_cv hB t770 rfl rfl rfl tq_75 rfl rfl rfl (rd_hex hB t770 (ez_K1 ?_))
    refine ez_if rfl rfl ⟨by first | omega | exact (sz_i32 _).1, by first | omega | exact (sz_i32 _).2⟩ (fun (c1 : (mh (mk (mb g) (qz_I g 770 17) (qz_I g 770 18))) < (0)) => ?_) (fun (c1 : ¬((mh (mk (mb g) (qz_I g 770 17) (qz_I g 770 18))) < (0))) => ?_)
    · skip
      refine ez_less [(2, .inl (v)), (1, .inl ((qz_I h 770 17))), (0, .inr (.inr (some (770))))] rfl ⟨rfl, rfl, rfl, trivial⟩ ?_
      refine rd_code_x t770 hr1 hr2 k1 k0 hB hm hf hf0 hs hs1 h6 v0 v1 ?_ hr0
      rw [he]
      by_cases e : qz_I g 770 17 < qz_I h 770 18
      · have hc9 := mk_neg (b := mb g) (a := qz_I g 770 17) (s := qz_I g 770 18) (by omega) (by omega)
        rw [hm.b] at hc9
        rw [show (qz_I h 770 18 - qz_I g 770 17).toNat = (qz_I h 770 18 - (qz_I g 770 17 + 1)).toNat + 1 by omega, me, if_neg hc9]
      · rw [show (qz_I h 770 18 - qz_I g 770 17).toNat = 0 by omega, me]
    · skip
      refine ez_go (n := 2) (pc' := 16) (L' := [(2, .inl (v)), (1, .inl ((qz_I h 770 17))), (0, .inr (.inr (some (770))))]) (st' := [.inr (.inr (some (770))), .inr (.inr (some (770)))]) rfl ?_
      refine ez_gI hB t770 rfl rfl tq_75 rfl rfl (fun (b2 : 0 ≤ qz_I g 770 17) (b2' : qz_I g 770 17 ≤ 4200) => ?_)
      refine ez_go (n := 3) (pc' := 23) (L' := [(2, .inl (v)), (1, .inl ((qz_I h 770 17))), (0, .inr (.inr (some (770))))]) (st' := [.inl (6), .inl ((qz_I g 770 17) - ((qz_I h 770 17))), .inr (.inr (some (770)))]) rfl ?_
      refine ez_icmp rfl rfl ⟨by first | omega | exact (sz_i32 _).1, by first | omega | exact (sz_i32 _).2⟩ ⟨by first | omega | exact (sz_i32 _).1, by first | omega | exact (sz_i32 _).2⟩ (fun (c3 : (6) ≤ ((qz_I g 770 17) - ((qz_I h 770 17)))) => ?_) (fun (c3 : ¬((6) ≤ ((qz_I g 770 17) - ((qz_I h 770 17))))) => ?_)
      · skip
        refine ez_go (n := 1) (pc' := 31) (L' := [(2, .inl (v)), (1, .inl ((qz_I h 770 17))), (0, .inr (.inr (some (770))))]) (st' := [.inl (0), .inr (.inr (some (770)))]) rfl ?_
        refine ez_cv hB t770 rfl rfl rfl tq_75 rfl rfl rfl (rd_can0 (by omega) (by omega) (ez_Kp (xc_exc hB rfl) rfl (k0 (by obtain ⟨hlt9, hc9, hmk⟩ := mk_pos (b := mb g) (a := qz_I g 770 17) (s := qz_I g 770 18) (by omega); rw [hm.b] at hc9; have q1 := me_le (mb h) (qz_I h 770 18 - (qz_I g 770 17 + 1)).toNat (qz_I g 770 17 + 1); unfold rz_code; rw [if_pos (Or.inr (Or.inl (by rw [he, show (qz_I h 770 18 - qz_I g 770 17).toNat = (qz_I h 770 18 - (qz_I g 770 17 + 1)).toNat + 1 by omega, me, if_pos hc9]; omega)))]) g hB hm)))
      · skip
        refine ez_go (n := 2) (pc' := 31) (L' := [(2, .inl (v)), (1, .inl ((qz_I h 770 17))), (0, .inr (.inr (some (770))))]) (st' := [.inl (1), .inr (.inr (some (770)))]) rfl ?_
        refine ez_cv hB t770 rfl rfl rfl tq_75 rfl rfl rfl (rd_can1 (by omega) (by omega) (ez_K0 ?_))
        refine ez_go (n := 4) (pc' := 39) (L' := [(2, .inl (v)), (1, .inl ((qz_I h 770 17))), (0, .inr (.inr (some (770))))]) (st' := [.inr (.inr (some (770))), .inl ((16) * (v))]) rfl ?_
        refine ez_cv hB t770 rfl rfl rfl tq_75 rfl rfl rfl (rd_hex hB t770 (ez_K1 ?_))
        refine ez_go (n := 4) (pc' := 46) (L' := [(2, .inl (((16) * (v)) + (mh (mk (mb g) (qz_I g 770 17) (qz_I g 770 18))))), (1, .inl ((qz_I h 770 17))), (0, .inr (.inr (some (770))))]) (st' := [.inr (.inr (some (770))), .inr (.inr (some (770)))]) rfl ?_
        refine ez_gI hB t770 rfl rfl tq_75 rfl rfl (fun (b4 : 0 ≤ qz_I g 770 17) (b4' : qz_I g 770 17 ≤ 4200) => ?_)
        refine ez_go (n := 2) (pc' := 51) (L' := [(2, .inl (((16) * (v)) + (mh (mk (mb g) (qz_I g 770 17) (qz_I g 770 18))))), (1, .inl ((qz_I h 770 17))), (0, .inr (.inr (some (770))))]) (st' := [.inl ((qz_I g 770 17) + (1)), .inr (.inr (some (770)))]) rfl ?_
        refine ez_pf hB t770 rfl rfl tq_75 rfl rfl rfl rfl (ez_vdI rfl rfl (by omega) (by omega)) (fun hB5 w6 => ?_)
        refine ez_go (n := 1) (pc' := 7) (L' := [(2, .inl (((16) * (v)) + (mh (mk (mb g) (qz_I g 770 17) (qz_I g 770 18))))), (1, .inl ((qz_I h 770 17))), (0, .inr (.inr (some (770))))]) (st' := []) rfl ?_
        refine ez_less [(2, .inl (((16) * (v)) + (mh (mk (mb g) (qz_I g 770 17) (qz_I g 770 18))))), (1, .inl ((qz_I h 770 17))), (0, .inr (.inr (some (770))))] rfl ⟨rfl, rfl, rfl, trivial⟩ ?_
        exfalso
        have := (mk_pos (b := mb g) (a := qz_I g 770 17) (s := qz_I g 770 18) (by omega)).1
        omega
  | succ n ih =>
    intro v g hn hB hm hf hs h6 v0 he hr
    have hmr := mh_rg (mk (mb g) (qz_I g 770 17) (qz_I g 770 18))
    have e18 : qz_I g 770 18 = qz_I h 770 18 := hm.2 18 (by decide)
    have c1 := hm.1.1
    have c2 := hm.1.2.1
    have hr0 := hr 0
    rw [Nat.add_zero] at hr0
    have hr0 : rz_hex (mb h) (qz_I g 770 17 - qz_I h 770 17).toNat (qz_I h 770 17) 0 = v := hr0
    have hbd := rz_hex_bd (mb h) (qz_I g 770 17 - qz_I h 770 17).toNat (qz_I h 770 17) 0 1 (by omega) (by omega) (by omega)
    have hp6 := rz_pow6 (show (qz_I g 770 17 - qz_I h 770 17).toNat ≤ 6 by omega)
    rw [hr0] at hbd
    have v1 : v ≤ 16777215 := by omega
    refine ez_go (n := 1) (pc' := 8) (L' := [(2, .inl (v)), (1, .inl ((qz_I h 770 17))), (0, .inr (.inr (some (770))))]) (st' := [.inr (.inr (some (770)))]) rfl ?_
    refine ez_cv hB t770 rfl rfl rfl tq_75 rfl rfl rfl (rd_hex hB t770 (ez_K1 ?_))
    refine ez_if rfl rfl ⟨by first | omega | exact (sz_i32 _).1, by first | omega | exact (sz_i32 _).2⟩ (fun (c1 : (mh (mk (mb g) (qz_I g 770 17) (qz_I g 770 18))) < (0)) => ?_) (fun (c1 : ¬((mh (mk (mb g) (qz_I g 770 17) (qz_I g 770 18))) < (0))) => ?_)
    · skip
      refine ez_less [(2, .inl (v)), (1, .inl ((qz_I h 770 17))), (0, .inr (.inr (some (770))))] rfl ⟨rfl, rfl, rfl, trivial⟩ ?_
      refine rd_code_x t770 hr1 hr2 k1 k0 hB hm hf hf0 hs hs1 h6 v0 v1 ?_ hr0
      rw [he]
      by_cases e : qz_I g 770 17 < qz_I h 770 18
      · have hc9 := mk_neg (b := mb g) (a := qz_I g 770 17) (s := qz_I g 770 18) (by omega) (by omega)
        rw [hm.b] at hc9
        rw [show (qz_I h 770 18 - qz_I g 770 17).toNat = (qz_I h 770 18 - (qz_I g 770 17 + 1)).toNat + 1 by omega, me, if_neg hc9]
      · rw [show (qz_I h 770 18 - qz_I g 770 17).toNat = 0 by omega, me]
    · skip
      refine ez_go (n := 2) (pc' := 16) (L' := [(2, .inl (v)), (1, .inl ((qz_I h 770 17))), (0, .inr (.inr (some (770))))]) (st' := [.inr (.inr (some (770))), .inr (.inr (some (770)))]) rfl ?_
      refine ez_gI hB t770 rfl rfl tq_75 rfl rfl (fun (b2 : 0 ≤ qz_I g 770 17) (b2' : qz_I g 770 17 ≤ 4200) => ?_)
      refine ez_go (n := 3) (pc' := 23) (L' := [(2, .inl (v)), (1, .inl ((qz_I h 770 17))), (0, .inr (.inr (some (770))))]) (st' := [.inl (6), .inl ((qz_I g 770 17) - ((qz_I h 770 17))), .inr (.inr (some (770)))]) rfl ?_
      refine ez_icmp rfl rfl ⟨by first | omega | exact (sz_i32 _).1, by first | omega | exact (sz_i32 _).2⟩ ⟨by first | omega | exact (sz_i32 _).1, by first | omega | exact (sz_i32 _).2⟩ (fun (c3 : (6) ≤ ((qz_I g 770 17) - ((qz_I h 770 17)))) => ?_) (fun (c3 : ¬((6) ≤ ((qz_I g 770 17) - ((qz_I h 770 17))))) => ?_)
      · skip
        refine ez_go (n := 1) (pc' := 31) (L' := [(2, .inl (v)), (1, .inl ((qz_I h 770 17))), (0, .inr (.inr (some (770))))]) (st' := [.inl (0), .inr (.inr (some (770)))]) rfl ?_
        refine ez_cv hB t770 rfl rfl rfl tq_75 rfl rfl rfl (rd_can0 (by omega) (by omega) (ez_Kp (xc_exc hB rfl) rfl (k0 (by obtain ⟨hlt9, hc9, hmk⟩ := mk_pos (b := mb g) (a := qz_I g 770 17) (s := qz_I g 770 18) (by omega); rw [hm.b] at hc9; have q1 := me_le (mb h) (qz_I h 770 18 - (qz_I g 770 17 + 1)).toNat (qz_I g 770 17 + 1); unfold rz_code; rw [if_pos (Or.inr (Or.inl (by rw [he, show (qz_I h 770 18 - qz_I g 770 17).toNat = (qz_I h 770 18 - (qz_I g 770 17 + 1)).toNat + 1 by omega, me, if_pos hc9]; omega)))]) g hB hm)))
      · skip
        refine ez_go (n := 2) (pc' := 31) (L' := [(2, .inl (v)), (1, .inl ((qz_I h 770 17))), (0, .inr (.inr (some (770))))]) (st' := [.inl (1), .inr (.inr (some (770)))]) rfl ?_
        refine ez_cv hB t770 rfl rfl rfl tq_75 rfl rfl rfl (rd_can1 (by omega) (by omega) (ez_K0 ?_))
        refine ez_go (n := 4) (pc' := 39) (L' := [(2, .inl (v)), (1, .inl ((qz_I h 770 17))), (0, .inr (.inr (some (770))))]) (st' := [.inr (.inr (some (770))), .inl ((16) * (v))]) rfl ?_
        refine ez_cv hB t770 rfl rfl rfl tq_75 rfl rfl rfl (rd_hex hB t770 (ez_K1 ?_))
        refine ez_go (n := 4) (pc' := 46) (L' := [(2, .inl (((16) * (v)) + (mh (mk (mb g) (qz_I g 770 17) (qz_I g 770 18))))), (1, .inl ((qz_I h 770 17))), (0, .inr (.inr (some (770))))]) (st' := [.inr (.inr (some (770))), .inr (.inr (some (770)))]) rfl ?_
        refine ez_gI hB t770 rfl rfl tq_75 rfl rfl (fun (b4 : 0 ≤ qz_I g 770 17) (b4' : qz_I g 770 17 ≤ 4200) => ?_)
        refine ez_go (n := 2) (pc' := 51) (L' := [(2, .inl (((16) * (v)) + (mh (mk (mb g) (qz_I g 770 17) (qz_I g 770 18))))), (1, .inl ((qz_I h 770 17))), (0, .inr (.inr (some (770))))]) (st' := [.inl ((qz_I g 770 17) + (1)), .inr (.inr (some (770)))]) rfl ?_
        refine ez_pf hB t770 rfl rfl tq_75 rfl rfl rfl rfl (ez_vdI rfl rfl (by omega) (by omega)) (fun hB5 w6 => ?_)
        refine ez_go (n := 1) (pc' := 7) (L' := [(2, .inl (((16) * (v)) + (mh (mk (mb g) (qz_I g 770 17) (qz_I g 770 18))))), (1, .inl ((qz_I h 770 17))), (0, .inr (.inr (some (770))))]) (st' := []) rfl ?_
        refine ez_less [(2, .inl (((16) * (v)) + (mh (mk (mb g) (qz_I g 770 17) (qz_I g 770 18))))), (1, .inl ((qz_I h 770 17))), (0, .inr (.inr (some (770))))] rfl ⟨rfl, rfl, rfl, trivial⟩ ?_
        obtain ⟨hlt9, hc9, hmk⟩ := mk_pos (b := mb g) (a := qz_I g 770 17) (s := qz_I g 770 18) (by omega)
        rw [hm.b] at hc9 hmk
        have hmr2 := mh_rg (mb h (qz_I g 770 17))
        have hmk2 : mk (mb g) (qz_I g 770 17) (qz_I g 770 18) = mb h (qz_I g 770 17) := by rw [hm.b]; exact hmk
        have a9 : qz_I (dz_put g 770 17 (ez_v (.inl ((qz_I g 770 17) + (1))))) 770 17 = qz_I g 770 17 + 1 := by rw [w6, rz_rd ⟨by omega, by omega⟩]
        rw [hmk2]
        refine ih _ _ (by rw [a9]; omega) hB5 (hm.trans mz_put) (by rw [a9]; omega) (by rw [a9]; omega) (by rw [a9]; omega) (by omega) ?_ (fun m => ?_)
        · rw [a9, he, show (qz_I h 770 18 - qz_I g 770 17).toNat = (qz_I h 770 18 - (qz_I g 770 17 + 1)).toNat + 1 by omega, me, if_pos (by omega)]
        · rw [a9, show (qz_I g 770 17 + 1 - qz_I h 770 17).toNat + m = (qz_I g 770 17 - qz_I h 770 17).toNat + (m + 1) by omega, hr (m + 1), rz_hex_mh, if_pos (by omega)]; congr 1; omega
theorem rd_code (hB : ez_B τ h) (t770 : τ 770 = 75) (hr1 : h.1 + 1 ≤ 600192) (hr2 : h.2.1 + 6 ≤ 7302232) (hfs : qz_I h 770 17 ≤ qz_I h 770 18) (hs1 : qz_I h 770 18 ≤ 4096) (k1 : ∀ g, ez_B τ g → mz h g → qz_I g 770 17 = (me (mb h) (qz_I h 770 18 - qz_I h 770 17).toNat (qz_I h 770 17)) → rz_code (mb h) (qz_I h 770 17) (me (mb h) (qz_I h 770 18 - qz_I h 770 17).toNat (qz_I h 770 17)) ≠ -1 → Q (.inl (some (ez_v (.inl (rz_code (mb h) (qz_I h 770 17) (me (mb h) (qz_I h 770 18 - qz_I h 770 17).toNat (qz_I h 770 17)))))), g)) (k0 : rz_code (mb h) (qz_I h 770 17) (me (mb h) (qz_I h 770 18 - qz_I h 770 17).toNat (qz_I h 770 17)) = -1 → ∀ g, ez_B τ g → mz h g → Q (.inr g.1, xc g 1)) : ez_W (d + 7) cm_234 0 [(0, .inr (.inr (some (770))))] [] h Q := by
  refine ez_go (n := 1) (pc' := 1) (L' := [(0, .inr (.inr (some (770))))]) (st' := [.inr (.inr (some (770)))]) rfl ?_
  refine ez_gI hB t770 rfl rfl tq_75 rfl rfl (fun (b1 : 0 ≤ qz_I h 770 17) (b1' : qz_I h 770 17 ≤ 4200) => ?_)
  refine ez_go (n := 3) (pc' := 7) (L' := [(2, .inl (0)), (1, .inl (qz_I h 770 17)), (0, .inr (.inr (some (770))))]) (st' := []) rfl ?_
  refine ez_less [(2, .inl (0)), (1, .inl (qz_I h 770 17)), (0, .inr (.inr (some (770))))] rfl ⟨rfl, rfl, rfl, trivial⟩ ?_
  exact rd_code_l t770 hr1 hr2 (by omega) hs1 k1 k0 _ 0 h rfl hB (mz.refl _) (by omega) hfs (by omega) (by omega) rfl (fun m => by rw [show (qz_I h 770 17 - qz_I h 770 17).toNat + m = m by omega])

end EzMo
