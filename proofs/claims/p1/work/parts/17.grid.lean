/-! Soundness, part 9: a grid of ints is made. -/
section PxGrid
variable {p : Program} {l : Launch} {e : Env} {R : Room} {s : State} {m : MethodId} {args : Array Value} {below : List Frame} {meth : Method} {c : Code} {H : Heap} {locs : List Loc} {cells slots : Nat} {Q : State → Prop}
variable {K : px_K} {E : px_E} {M : px_M} {d C0 S0 pc : Nat} {ls : Array Slot} {h : px_H} {g : px_G} {st : List px_V} {S : px_N}
theorem px_mul_ok (X : px_Cx p e R s m meth c K E M d C0 S0) (hM : px_okM M) {x y : Nat} (hd : decode M.2.1.1 pc = .ok (.multianewarray x y, 4)) (hf : px_hmul M x y pc st h g = some S)
    (hP : px_HP px_cl K E h H) (hG : px_Gok E.1 g) (hL : ∀ y ∈ locs, E.2.2 ≤ y.base) (hc : C0 + cells = h.1) (hs : S0 + slots = h.2.1) (k : px_Go p l e R s m args below meth c Q K E C0 S0 ls S) :
    W p l e R s m args below meth c H locs cells slots Q (F0 m pc ls (st.map (px_v E))) := by
  sorry
end PxGrid
