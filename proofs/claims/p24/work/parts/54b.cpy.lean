/-! L1's soundness: arraycopy. -/
section CzCpy
variable {p : Program} {l : Launch} {e : Env} {R : Room} {s : State} {m : MethodId} {args : Array Value} {below : List Frame} {meth : Method} {c : Code} {H : Heap} {locs : List Loc} {cells slots : Nat} {Q : State → Prop}
variable {K : cz_K} {E : cz_E} {M : cz_M} {d C0 S0 pc : Nat} {ls : Array Slot} {h : cz_H} {st : List cz_V} {S : cz_N}
theorem cz_cpy_ok (X : cz_Cx p e R s m meth c K E M d C0 S0) (hM : cz_okM M) {x : Nat} (hsz : ls.size = M.2.1.2.1) (hd : decode M.2.1.1 pc = .ok (.invokestatic x, 3)) (hf : cz_hcpy M d x pc st h = some S)
    (hP : cz_HP cz_cl K E h H) (hL : ∀ y ∈ locs, E.2 ≤ y.base) (hc : C0 + cells = h.1) (hs : S0 + slots = h.2.1) (k : cz_Go p l e R s m args below meth c Q K E C0 S0 ls S) :
    W p l e R s m args below meth c H locs cells slots Q (F0 m pc ls (st.map (cz_v E))) := by
  obtain ⟨hx, -, hb, hml, -, -, hnm, hown, -, hW, hRc, hRs, hRf, hRl, -⟩ := X
  unfold cz_hcpy at hf
  split at hf
  · rename_i n dp r2 sp r1 rest
    cases hq : cz_lk M x with
    | none => rw [hq] at hf; cases hf
    | some q =>
      rw [hq] at hf
      have hl := hM.2 x q hq
      obtain ⟨tag, v, kf, c3⟩ := q
      cases ht : (Nat.beq tag 13 && (Nat.blt 0 d && Nat.ble rest.length 20)) with
      | false => simp only [ht, cond_false] at hf; cases hf
      | true =>
        simp only [ht, cond_true] at hf
        simp only [Bool.and_eq_true, Nat.blt_eq, Nat.ble_eq] at ht
        obtain ⟨ht, hd0, hlen⟩ := ht
        have := Nat.eq_of_beq_eq_true ht
        subst this
        obtain ⟨a1, a2, a3, a4⟩ := hl
        split at hf
        · rename_i c1 c2 hc1 hc2
          cases hz : ((Nat.beq c1.1 c2.1 && Nat.ble c1.1 1 && Nat.ble 192 r2) && (decide (0 ≤ n.toInt) && decide (0 ≤ dp.toInt) && decide (0 ≤ sp.toInt)) && (Nat.ble (sp.toNatClampNeg + n.toNatClampNeg) c1.2.1 && Nat.ble (dp.toNatClampNeg + n.toNatClampNeg) c2.2.1) && (List.range n.toNatClampNeg).all (fun i => cz_fitc (bif Nat.beq c1.1 0 then 4 else 0) (c1.2.2 (sp.toNatClampNeg + i)))) with
          | false => rw [hz] at hf; cases hf
          | true =>
            rw [hz] at hf
            cases hf
            simp only [Bool.and_eq_true, decide_eq_true_eq, Nat.ble_eq] at hz
            obtain ⟨⟨⟨⟨⟨z1, z2⟩, z3⟩, ⟨z4, z5⟩, z6⟩, z7, z8⟩, z9⟩ := hz
            have z1 := Nat.eq_of_beq_eq_true z1
            obtain ⟨u1, u2, ⟨sc, u3, v2, v3, v4, v5⟩, -⟩ := cz_arr_ok hW hP hc1
            obtain ⟨w1, w2, -, w3⟩ := cz_arr_ok hW hP hc2
            have w3 := w3 z3
            have hty : ∃ ty : FieldType, cz_ty[c1.1]? = some ty ∧ cz_tcode ty = (bif Nat.beq c1.1 0 then 4 else 0) ∧ ((refKind ty != refKind ty) || (!refKind ty && ty != ty)) = false := by
              have h01 : c1.1 = 0 ∨ c1.1 = 1 := by omega
              rcases h01 with h01 | h01
              · exact ⟨.byte, by rw [h01]; rfl, by rw [h01]; rfl, by decide⟩
              · exact ⟨.int, by rw [h01]; rfl, by rw [h01]; rfl, by decide⟩
            obtain ⟨ty, t1, tc, tr⟩ := hty
            have t2 : cz_ty[c2.1]? = some ty := by rw [← z1]; exact t1
            have nn : ∀ z : Int32, 0 ≤ z.toInt → z.toInt = (z.toNatClampNeg : Int) := fun z hz => by
              show z.toInt = ((z.toInt.toNat : Nat) : Int)
              omega
            have n0 : ∀ z : Int32, 0 ≤ z.toInt → ¬ z < 0 := fun z hz => by
              rw [Int32.lt_iff_toInt_lt]
              show ¬ z.toInt < 0
              omega
            intro T hT X0
            obtain ⟨v6, k0, hk0, cm0, hkk0⟩ := v2 ty t1
            obtain ⟨-, k1, hk1, cm1, hkk1⟩ := (hW.2.2.1 c2.1 _ t2).1 c2.2.1 (fun j => cz_v E (c2.2.2 j))
            obtain ⟨vm', X', step⟩ := X0.arraycopy hx hown (hW.1 _ a1 args) (hW.1 _ a2 args) (hW.1 _ a3 args) (hW.1 _ a4 args) (src := cz_ad E r1) (dst := cz_ad E r2) (srcPos := sp) (destPos := dp) (n := n) (by rw [hT]; exact u3) (by rw [hT]; exact w3)
              v6 (fun _ h => by cases h) v3 (fun h => by cases h) hk0 hk1 hkk0 hkk1 tr (n0 sp z6) (n0 dp z5) (n0 n z4)
              (by rw [nn sp z6, nn n z4, v4]; omega) (by rw [nn dp z5, nn n z4, arrV_size]; omega)
              (fun vm₁ _ i hi => by
                have e1 : sc.slots.getD (sp.toNatClampNeg + i) .null = cz_v E (c1.2.2 (sp.toNatClampNeg + i)) := by
                  rw [Array.getD_eq_getD_getElem?, v5 _ (by omega)]
                  rfl
                have e2 := List.all_eq_true.mp z9 i (List.mem_range.mpr hi)
                rw [← tc] at e2
                refine ⟨?_, ?_⟩
                · rw [e1]; exact (cz_fit_ok E e2).2
                · rw [e1]
                  have h01 : ty = .byte ∨ ty = .int := by
                    have h01 : c1.1 = 0 ∨ c1.1 = 1 := by omega
                    rcases h01 with h01 | h01
                    · exact Or.inl (Option.some.inj (t1.symm.trans (by rw [h01]; rfl)))
                    · exact Or.inr (Option.some.inj (t1.symm.trans (by rw [h01]; rfl)))
                  rcases h01 with rfl | rfl
                  all_goals
                    cases hv : c1.2.2 (sp.toNatClampNeg + i) with
                    | inl a => exact trivial
                    | inr a => rw [hv] at e2; cases a <;> cases e2)
              (g := F0 m pc ls ((.inl n :: .inl dp :: .inr (.inr (some r2)) :: .inl sp :: .inr (.inr (some r1)) :: rest : List cz_V).map (cz_v E))) rfl (hsz.trans hml.symm) (rest := rest.map (cz_v E)) rfl (by rw [hb]; exact hd) (by omega)
              (by show 2 * 0 + _ + _ ≤ _
                  rw [cz_cat2_ok]
                  have := cz_cat2_le rest
                  have : d * 100 ≥ 100 := Nat.mul_le_mul_right 100 hd0
                  have : nativeFrameWords "java/lang/System" "arraycopy" 5 + 11 ≤ 50 := by decide
                  omega)
            have e1 : copied sc (arrV (K.2.1 c2.1) c2.2.1 (fun j => cz_v E (c2.2.2 j))) sp dp n = arrV (K.2.1 c2.1) c2.2.1 (fun j => cz_v E (va_cpy c1.2.2 c2.2.2 sp.toNatClampNeg dp.toNatClampNeg n.toNatClampNeg j)) :=
              va_copiedX (fun z : cz_V => cz_v E z) sc (K.2.1 c2.1) c1.2.2 c2.2.2 v5 z7
            rw [e1] at X' step
            have hlt : cz_ad E r2 < H.size := (Array.getElem?_eq_some_iff.mp w3).1
            have hheap : ((T.setVm vm').setCell (cz_ad E r2) (arrV (K.2.1 c2.1) c2.2.1 (fun j => cz_v E (va_cpy c1.2.2 c2.2.2 sp.toNatClampNeg dp.toNatClampNeg n.toNatClampNeg j)))).heap = H.setIfInBounds (cz_ad E r2) (arrV (K.2.1 c2.1) c2.2.1 (fun j => cz_v E (va_cpy c1.2.2 c2.2.2 sp.toNatClampNeg dp.toNatClampNeg n.toNatClampNeg j))) := by
              rw [← hT]; rfl
            have hP' : cz_HP cz_cl K E (cz_setc h r2 (.inl (c2.1, c2.2.1, va_cpy c1.2.2 c2.2.2 sp.toNatClampNeg dp.toNatClampNeg n.toNatClampNeg))) (H.setIfInBounds (cz_ad E r2) (arrV (K.2.1 c2.1) c2.2.1 (fun j => cz_v E (va_cpy c1.2.2 c2.2.2 sp.toNatClampNeg dp.toNatClampNeg n.toNatClampNeg j)))) := by
              refine hP.set z3 w1.1 ?_ (Array.size_setIfInBounds ..) (fun q hq => ?_)
              · show (H.setIfInBounds _ _)[cz_ad E r2]? = _
                rw [Array.getElem?_setIfInBounds, if_pos rfl, if_pos hlt]
              · rw [Array.getElem?_setIfInBounds, if_neg (fun w => hq w.symm)]
            obtain ⟨t, a1, b1⟩ := k _ _ cells slots hP' (by
              intro y hy
              rcases List.mem_append.mp hy with hy | hy
              · exact hL y hy
              · obtain ⟨z, -, rfl⟩ := List.mem_map.mp hy
                show E.2 ≤ cz_ad E r2
                rw [cz_ad_new E z3]; omega) hc hs _ hheap X'
            exact ⟨t, step t a1, b1⟩
        · cases hf
  · cases hf
end CzCpy
