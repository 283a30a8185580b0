/-! L3, part 6: by hand: constants, switches, what is thrown. -/
section EzX
variable {d : Nat} {M : cz_M} {pc : Nat} {L : List (Nat × ez_V)} {st : List ez_V} {h : cz_H} {Q : cz_F → Prop} {τ : Nat → Nat}
theorem ez_ldc {x a b z : Nat} (n : Int) (hc : cz_code M pc = some (.ldc x, 2)) (hq : cz_lk M x = some (11, a, b, z)) (hn : (a : Int) - (b : Int) = n) (kk : ez_W d M (pc + 2) L (.inl n :: st) h Q) : ez_W d M pc L st h Q := by
  refine dz_wp_hp (q := (pc + 2, ez_v (.inl n) :: st.map ez_v, h)) hc rfl rfl rfl rfl rfl ?_ kk
  show cz_hldc 2 M x pc (st.map ez_v) h = _
  unfold cz_hldc
  simp only [hq, show Nat.beq 11 11 = true from rfl, cond_true]
  rw [hn]
  rfl
theorem ez_ldcS {x a b z : Nat} (hc : cz_code M pc = some (.ldc x, 2)) (hq : cz_lk M x = some (12, a, b, z)) (kk : ez_W d M (pc + 2) L (.inr (.inr (some a)) :: st) h Q) : ez_W d M pc L st h Q := by
  refine dz_wp_hp (q := (pc + 2, ez_v (.inr (.inr (some a))) :: st.map ez_v, h)) hc rfl rfl rfl rfl rfl ?_ kk
  show cz_hldc 2 M x pc (st.map ez_v) h = _
  unfold cz_hldc
  simp only [hq, show Nat.beq 12 11 = false from rfl, show Nat.beq 12 12 = true from rfl, cond_true, cond_false]
  rfl
/-- new, dup, constructor, athrow -/
theorem ez_th {x kx : Nat} (hc : cz_code M pc = some (.new x, 3)) (ht : cz_throw M pc (.new x) = some kx) (h1 : h.1 + 1 ≤ 600192) (h2 : h.2.1 + 6 ≤ 7302232) (hd : 6 ≤ d) (hs : Nat.ble (ez_cat st) 20 = true) (k : Q (.inr h.1, cz_push h 6 (.inr (.inr kx)))) : ez_W d M pc L st h Q := by
  refine dz_wp_throw hc rfl rfl rfl rfl ht ?_ k
  rw [(ez_roomp (c := .inr (.inr kx)) h1 h2).1]
  rw [Nat.ble_eq.mpr hd]
  exact hs
/-- a switch -/
theorem ez_sw {dflt lo hi : Int} {offs : Array Int} {len : Nat} {a : Int} (hc : cz_code M pc = some (.tableswitch dflt lo hi offs, len)) (ha : ez_rg a) {t : Nat} (ho : ∃ o, cz_tab dflt lo hi offs a = some o ∧ cz_to pc o = some t) (kk : ez_W d M t L st h Q) : ez_W d M pc L (.inl a :: st) h Q := by
  obtain ⟨o, o1, o2⟩ := ho
  refine dz_wp_br (q := (t, st.map ez_v)) hc (by show (_ || true) = true; rw [Bool.or_true]) rfl ?_ kk
  show (match cz_tab dflt lo hi offs (Int32.ofInt a).toInt with
    | some o => (match cz_to pc o with
      | some t => some (t, st.map ez_v)
      | none => none)
    | none => none) = _
  rw [ha.v, o1]
  dsimp only
  rw [o2]
end EzX
