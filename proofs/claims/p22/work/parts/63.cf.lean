/-! Tags of the cells, and tags of fixed places. (Written by wip/p2/py/gen63.py.) -/
def tz_I : List dz_I := [(9, 0, 0, (0, 0), []), (0, 1, 1, (0, 0), [(3, 1, 1000000, 2, 3), (0, 0, 2000, 0, 0)]), (1, 1, 1, (2000, 2000), [(0, (-2147483648), 2147483647, 0, 0)]), (0, 3, 1, (0, 0), [(0, (-2147483648), 2147483647, 0, 0), (0, (-2147483648), 2147483647, 0, 0), (0, (-2147483648), 2147483647, 0, 0), (3, 0, 1000000, 5, 0), (1, 0, 1, 0, 0), (0, (-2147483648), 2147483647, 0, 0), (0, (-2147483648), 2147483647, 0, 0), (0, (-2147483648), 2147483647, 0, 0), (0, 0, 2, 0, 0), (0, 0, 20480, 0, 0), (0, 0, 20480, 0, 0), (0, 0, 20480, 0, 0), (0, 0, 20480, 0, 0)]), (0, 4, 1, (0, 0), [(0, (-2147483648), 2147483647, 0, 0), (3, 1, 1000000, 3, 0), (0, (-2147483648), 2147483647, 0, 0), (0, (-2147483648), 2147483647, 0, 0), (0, (-2147483648), 2147483647, 0, 0), (3, 0, 1000000, 5, 0), (3, 0, 1000000, 5, 0), (3, 0, 1000000, 5, 0), (3, 0, 1000000, 6, 0)]), (1, 1, 1, (0, 18), [(0, (-2147483648), 2147483647, 0, 0)]), (0, 13, 1, (0, 0), [(0, (-2147483648), 2147483647, 0, 0), (3, 0, 1000000, 5, 0), (3, 0, 1000000, 5, 0), (3, 0, 1000000, 5, 0), (3, 0, 1000000, 6, 1)]), (0, 14, 1, (0, 0), [(0, 0, 3, 0, 0), (3, 1, 1000000, 9, 0)]), (0, 14, 1, (0, 0), [(0, 0, 3, 0, 0), (3, 0, 1000000, 9, 0)]), (1, 2, 1, (1, 18), [(2, 0, 0, 0, 0)]), (0, 10, 1, (0, 0), [(3, 203, 203, 48, 0), (3, 730, 730, 61, 0), (3, 1, 1000000, 1, 0), (3, 1, 1000000, 11, 0), (3, 1, 1000000, 12, 0), (0, 0, 36000, 0, 0), (1, 0, 1, 0, 0), (1, 0, 1, 0, 0)]), (1, 1, 1, (2000, 2000), [(0, (-2147483648), 2147483647, 0, 0)]), (1, 2, 1, (36000, 36000), [(2, 0, 0, 0, 0)]), (0, 12, 1, (0, 0), [(0, 0, 4, 0, 0), (0, (-2147483648), 2147483647, 0, 0), (0, (-2147483648), 2147483647, 0, 0), (0, (-2147483648), 2147483647, 0, 0), (0, (-2147483648), 2147483647, 0, 0), (0, (-2147483648), 2147483647, 0, 0), (0, (-2147483648), 2147483647, 0, 0), (3, 1, 1000000, 15, 3), (3, 1, 1000000, 16, 4), (0, (-2147483648), 2147483647, 0, 0), (0, (-2147483648), 2147483647, 0, 0), (0, (-2147483648), 2147483647, 0, 0), (0, (-2147483648), 2147483647, 0, 0)]), (0, 12, 1, (0, 0), [(0, 0, 4, 0, 0), (0, (-2147483648), 2147483647, 0, 0), (0, (-2147483648), 2147483647, 0, 0), (0, (-2147483648), 2147483647, 0, 0), (0, (-2147483648), 2147483647, 0, 0), (0, (-2147483648), 2147483647, 0, 0), (0, (-2147483648), 2147483647, 0, 0), (3, 0, 1000000, 15, 0), (3, 0, 1000000, 16, 0), (0, (-2147483648), 2147483647, 0, 0), (0, (-2147483648), 2147483647, 0, 0), (0, (-2147483648), 2147483647, 0, 0), (0, (-2147483648), 2147483647, 0, 0)]), (1, 1, 1, (3, 3), [(0, 0, 38500, 0, 0)]), (1, 1, 1, (3, 3), [(0, 0, 18, 0, 0)]), (1, 1, 1, (1024, 77100), [(0, (-2147483648), 2147483647, 0, 0)]), (1, 8, 1, (64, 4096), [(3, 0, 1000000, 13, 0)]), (1, 1, 1, (64, 4096), [(0, (-2147483648), 2147483647, 0, 0)]), (1, 8, 1, (64, 4096), [(3, 0, 1000000, 13, 0)]), (1, 1, 1, (64, 18700), [(0, (-2147483648), 2147483647, 0, 0)]), (1, 1, 1, (0, 512), [(0, 0, 511, 0, 0)]), (1, 1, 1, (1024, 300000), [(0, (-2147483648), 2147483647, 0, 0)]), (1, 1, 1, (1024, 200000), [(0, (-2147483648), 2147483647, 0, 0)]), (1, 0, 1, (1024, 600100), [(4, (-128), 127, 0, 0)]), (1, 9, 1, (6, 19), [(3, 1, 1000000, 27, 0)]), (0, 15, 0, (0, 0), [(3, 1, 1000000, 28, 0), (4, 0, 0, 0, 0), (0, (-2147483648), 2147483647, 0, 0), (1, 0, 1, 0, 0)]), (1, 0, 0, (0, 200), [(4, (-128), 127, 0, 0)]), (0, 16, 1, (0, 0), [(3, 0, 1000000, 31, 0), (4, 0, 0, 0, 0), (1, 0, 1, 0, 0), (0, 0, 70000, 0, 0)]), (0, 16, 1, (0, 0), [(3, 1, 1000000, 31, 0), (4, 0, 0, 0, 0), (1, 0, 1, 0, 0), (0, 0, 70000, 0, 0)]), (1, 0, 1, (0, 200000), [(4, (-128), 127, 0, 0)]), (0, 15, 1, (0, 0), [(3, 0, 1000000, 31, 0), (4, 0, 0, 0, 0), (0, (-2147483648), 2147483647, 0, 0), (1, 0, 1, 0, 0)]), (0, 15, 1, (0, 0), [(3, 1, 1000000, 31, 0), (4, 0, 0, 0, 0), (0, (-2147483648), 2147483647, 0, 0), (1, 0, 1, 0, 0)]), (1, 1, 0, (0, 3072), [(0, (-2147483648), 2147483647, 0, 0)]), (1, 2, 1, (1, 1), [(2, 0, 0, 0, 0)]), (1, 3, 1, (0, 512), [(1, 0, 1, 0, 0)]), (1, 1, 1, (2000, 2000), [(0, (-2147483648), 2147483647, 0, 0)]), (1, 1, 1, (0, 0), [(0, (-2147483648), 2147483647, 0, 0)]), (2, 0, 1, (0, 0), []), (2, 1, 1, (0, 0), []), (2, 2, 1, (0, 0), []), (2, 3, 1, (0, 0), []), (2, 4, 1, (0, 0), []), (0, 0, 1, (0, 0), [(3, 194, 194, 45, 0), (0, 0, 4096, 0, 0), (3, 195, 195, 46, 0), (0, 0, 65536, 0, 0), (3, 196, 196, 47, 0), (3, 197, 197, 1, 0), (3, 199, 199, 1, 0), (3, 201, 201, 1, 0), (3, 203, 203, 48, 0), (3, 721, 721, 52, 0), (3, 724, 724, 55, 0), (3, 730, 730, 61, 0), (3, 734, 734, 65, 0), (3, 739, 739, 70, 0), (3, 745, 745, 10, 0), (3, 750, 750, 10, 0)]), (1, 0, 1, (4096, 4096), [(4, (-128), 127, 0, 0)]), (1, 0, 1, (65536, 65536), [(4, (-128), 127, 0, 0)]), (1, 4, 1, (8, 8), [(3, 1, 1000000, 88, 0)]), (0, 2, 1, (0, 0), [(3, 204, 204, 49, 0), (0, 1, 513, 0, 0), (3, 205, 205, 50, 0), (3, 206, 206, 51, 0), (0, 0, 256, 0, 0), (0, 0, 256, 0, 0), (1, 0, 1, 0, 0), (3, 207, 207, 3, 0)]), (1, 5, 1, (513, 513), [(3, 1, 1000000, 4, 0)]), (1, 2, 1, (256, 256), [(2, 0, 0, 0, 0)]), (1, 6, 1, (256, 256), [(3, 0, 1000000, 7, 0)]), (0, 5, 1, (0, 0), [(3, 194, 194, 45, 0), (3, 203, 203, 48, 0), (3, 722, 722, 53, 0), (3, 723, 723, 54, 0), (0, (-2147483648), 2147483647, 0, 0), (0, (-2147483648), 2147483647, 0, 0)]), (1, 1, 1, (7, 7), [(0, 0, 4096, 0, 0)]), (1, 1, 1, (7, 7), [(0, 0, 4096, 0, 0)]), (0, 6, 1, (0, 0), [(3, 203, 203, 48, 0), (3, 725, 725, 56, 0), (0, 0, 20480, 0, 0), (3, 726, 726, 57, 0), (3, 727, 727, 58, 0), (0, 0, 256, 0, 0), (3, 728, 728, 59, 0), (3, 729, 729, 60, 0), (0, 0, 256, 0, 0)]), (1, 1, 1, (20480, 20480), [(0, (-2147483648), 2147483647, 0, 0)]), (1, 7, 1, (256, 256), [(3, 0, 1000000, 3, 0)]), (1, 1, 1, (256, 256), [(0, 0, 18, 0, 0)]), (1, 2, 1, (256, 256), [(2, 0, 0, 0, 0)]), (1, 1, 1, (256, 256), [(0, (-2147483648), 2147483647, 0, 0)]), (0, 7, 1, (0, 0), [(3, 203, 203, 48, 0), (3, 724, 724, 55, 0), (3, 731, 731, 62, 0), (3, 732, 732, 63, 0), (3, 733, 733, 64, 0)]), (1, 1, 1, (2000, 2000), [(0, (-2147483648), 2147483647, 0, 0)]), (1, 1, 1, (2000, 2000), [(0, (-2147483648), 2147483647, 0, 0)]), (1, 1, 1, (2000, 2000), [(0, (-2147483648), 2147483647, 0, 0)]), (0, 8, 1, (0, 0), [(3, 203, 203, 48, 0), (3, 735, 735, 66, 0), (3, 736, 736, 67, 0), (3, 737, 737, 68, 0), (3, 738, 738, 69, 0), (0, 0, 2000, 0, 0), (1, 0, 1, 0, 0)]), (1, 1, 1, (2000, 2000), [(0, (-2147483648), 2147483647, 0, 0)]), (1, 3, 1, (2000, 2000), [(1, 0, 1, 0, 0)]), (1, 1, 1, (2000, 2000), [(0, 0, 1999, 0, 0)]), (1, 3, 1, (2000, 2000), [(1, 0, 1, 0, 0)]), (0, 9, 1, (0, 0), [(3, 203, 203, 48, 0), (3, 734, 734, 65, 0), (3, 740, 740, 71, 0), (3, 741, 741, 72, 0), (3, 742, 742, 73, 0), (3, 743, 743, 74, 0), (3, 1, 1000000, 0, 2), (0, 0, 2000, 0, 0), (0, (-2147483648), 2147483647, 0, 0), (1, 0, 1, 0, 0)]), (1, 1, 1, (2000, 2000), [(0, 0, 512, 0, 0)]), (1, 1, 1, (2000, 2000), [(0, (-2147483648), 2147483647, 0, 0)]), (1, 1, 1, (2000, 2000), [(0, (-2147483648), 2147483647, 0, 0)]), (1, 3, 1, (2000, 2000), [(1, 0, 1, 0, 0)]), (0, 11, 1, (0, 0), [(0, 0, 3, 0, 0), (3, 772, 772, 76, 0), (0, 0, 4096, 0, 0), (3, 773, 773, 77, 0), (0, 0, 65536, 0, 0), (3, 774, 774, 78, 0), (3, 783, 783, 79, 0), (1, 0, 1, 0, 0), (0, (-2147483648), 2147483647, 0, 0), (3, 1, 1000000, 17, 0), (0, 0, 38500, 0, 0), (3, 1, 1000000, 18, 0), (0, 0, 512, 0, 0), (3, 786, 786, 26, 0), (3, 787, 787, 26, 0), (3, 788, 788, 26, 0), (3, 789, 789, 26, 0), (0, 0, 4200, 0, 0), (0, 0, 4096, 0, 0), (3, 790, 790, 80, 0), (3, 791, 791, 81, 0), (3, 1, 1000000, 19, 0), (3, 1, 1000000, 20, 0), (0, 0, 512, 0, 0), (3, 1, 1000000, 21, 0), (0, 0, 9300, 0, 0), (3, 795, 795, 82, 0), (3, 1, 1000000, 22, 0), (0, 0, 512, 0, 0), (3, 797, 797, 83, 0), (0, 0, 2000, 0, 0), (3, 798, 798, 84, 0), (3, 799, 799, 85, 0), (0, 0, 2000, 0, 0), (3, 800, 800, 86, 0), (3, 1, 1000000, 23, 0), (0, 0, 36000, 0, 0), (3, 802, 802, 87, 0), (3, 1, 1000000, 24, 0), (3, 1, 1000000, 25, 0), (3, 1, 1000000, 25, 0), (0, 0, 300000, 0, 0)]), (1, 0, 1, (4096, 4096), [(4, (-128), 127, 0, 0)]), (1, 0, 1, (65536, 65536), [(4, (-128), 127, 0, 0)]), (1, 10, 1, (8, 8), [(3, 1, 1000000, 37, 0)]), (1, 1, 1, (8, 8), [(0, 0, 2000, 0, 0)]), (1, 1, 1, (8, 8), [(0, 0, 4096, 0, 0)]), (1, 1, 1, (8, 8), [(0, 0, 4096, 0, 0)]), (1, 1, 1, (64, 64), [(0, (-2147483648), 2147483647, 0, 0)]), (1, 1, 1, (2000, 2000), [(0, (-2147483648), 2147483647, 0, 0)]), (1, 1, 1, (2000, 2000), [(0, (-2147483648), 2147483647, 0, 0)]), (1, 1, 1, (2000, 2000), [(0, (-2147483648), 2147483647, 0, 0)]), (1, 1, 1, (2000, 2000), [(0, (-2147483648), 2147483647, 0, 0)]), (1, 1, 1, (4, 4), [(0, (-2147483648), 2147483647, 0, 0)]), (0, 1, 1, (0, 0), [(3, 1, 1000000, 89, 3), (0, 0, 2000, 0, 0)]), (1, 1, 1, (2000, 2000), [(0, (-2147483648), 2147483647, 0, 0)])]
noncomputable def tz_T : dz_TT := fun t => dz_nth tz_I t
def tz_ex (r : Nat) : Nat := bif Nat.ble 207 r && Nat.ble r 719 then 4 else (match ([(0, 34), (1, 27), (2, 27), (3, 27), (4, 27), (5, 27), (6, 27), (7, 27), (8, 27), (9, 27), (10, 27), (11, 27), (12, 27), (13, 27), (14, 27), (15, 27), (16, 27), (17, 27), (18, 27), (19, 27), (20, 27), (21, 27), (22, 27), (23, 27), (24, 27), (25, 27), (26, 27), (27, 27), (28, 27), (29, 27), (30, 27), (31, 27), (32, 27), (33, 27), (34, 27), (35, 27), (36, 27), (37, 27), (38, 27), (39, 27), (40, 27), (41, 27), (42, 27), (43, 27), (44, 27), (45, 27), (46, 27), (47, 27), (48, 27), (49, 27), (50, 27), (64, 28), (65, 28), (66, 28), (67, 28), (68, 28), (69, 28), (70, 28), (71, 28), (72, 28), (73, 28), (74, 28), (75, 28), (76, 28), (77, 28), (78, 28), (79, 28), (80, 28), (81, 28), (82, 28), (83, 28), (84, 28), (85, 28), (86, 28), (87, 28), (88, 28), (89, 28), (90, 28), (91, 28), (92, 28), (93, 28), (94, 28), (95, 28), (96, 28), (97, 28), (98, 28), (99, 28), (100, 28), (101, 28), (102, 28), (103, 28), (104, 28), (105, 28), (106, 28), (107, 28), (108, 28), (109, 28), (110, 28), (111, 28), (112, 28), (113, 28), (192, 44), (193, 45), (194, 46), (195, 47), (196, 1), (197, 2), (198, 1), (199, 2), (200, 1), (201, 2), (202, 48), (203, 49), (204, 50), (205, 51), (206, 3), (720, 52), (721, 53), (722, 54), (723, 55), (724, 56), (725, 57), (726, 58), (727, 59), (728, 60), (729, 61), (730, 62), (731, 63), (732, 64), (733, 65), (734, 66), (735, 67), (736, 68), (737, 69), (738, 70), (739, 71), (740, 72), (741, 73), (742, 74), (743, 38), (744, 10), (745, 1), (746, 2), (747, 11), (748, 12), (749, 10), (750, 1), (751, 2), (752, 11), (753, 12), (754, 88), (755, 89), (756, 88), (757, 89), (758, 88), (759, 89), (760, 88), (761, 89), (762, 88), (763, 89), (764, 88), (765, 89), (766, 88), (767, 89), (768, 88), (769, 89), (770, 75), (771, 76), (772, 77), (773, 78), (774, 37), (775, 37), (776, 37), (777, 37), (778, 37), (779, 37), (780, 37), (781, 37), (782, 79), (783, 17), (784, 18), (785, 26), (786, 26), (787, 26), (788, 26), (789, 80), (790, 81), (791, 19), (792, 20), (793, 21), (794, 82), (795, 22), (796, 83), (797, 84), (798, 85), (799, 86), (800, 23), (801, 87), (802, 24), (803, 25), (804, 25), (805, 35)] : List (Nat × Nat)).find? (fun q => Nat.beq q.1 r) with
  | some q => q.2
  | none => 0)
/-! What the checker is given: the invariant beside the tags (for the methods that write neither DATA nor LINES), what it teaches and asks. -/
def qz_I (h : cz_H) (r i : Nat) : Int := match dz_get (h.2.2 r) i with
  | some v => dz_n v
  | none => 0
def qz_P (h : cz_H) (r i : Nat) : Nat := (qz_I h r i - 1).toNat
def qz_N (h : cz_H) (r : Nat) : Int := match h.2.2 r with
  | .inl q => (q.2.1 : Int)
  | _ => 0
/-- tags whose cells are kept as they are: Fact Span Row Special Entry Els Line Starts Counts MPool MLines MDec MBy MPairs Data and its arrays, Decompositions and its arrays -/
def qz_pr0 (t : Nat) : Bool := Nat.beq (Nat.land (Nat.shiftRight 929437283966684488999609080 t) 1) 1
/-- fields of the model that are kept: sealed taken pool pooled lines lineCount decomposed by decomposedCount pairs pairCount -/
def qz_fm (i : Nat) : Bool := Nat.beq (Nat.land (Nat.shiftRight 417341312 i) 1) 1
def qz_pr (t : Nat) : Bool := Nat.beq t 75 || qz_pr0 t
def qz_pt (t i : Nat) : Bool := bif Nat.beq t 75 then qz_fm i else qz_pr0 t
theorem qz_pr_of {t : Nat} (h : qz_pr0 t = true) : qz_pr t = true := by unfold qz_pr; rw [h, Bool.or_true]
theorem qz_pt_of {t : Nat} (h : qz_pr0 t = true) (i : Nat) : qz_pt t i = true := by
  unfold qz_pt
  cases h1 : Nat.beq t 75 with
  | true => rw [Nat.eq_of_beq_eq_true h1] at h; cases h
  | false => exact h
/-- what is kept is the same -/
def qz_sm (τ : Nat → Nat) (h : cz_H) (τ' : Nat → Nat) (h' : cz_H) : Prop := (∀ r, qz_pr (τ r) = true → τ' r = τ r ∧ dz_al (h'.2.2 r) = dz_al (h.2.2 r) ∧ ∀ i, qz_pt (τ r) i = true → dz_get (h'.2.2 r) i = dz_get (h.2.2 r) i) ∧ (∀ r, qz_pr (τ' r) = true → τ' r = τ r) ∧ ∀ r, qz_pr0 (τ r) = true → h'.2.2 r = h.2.2 r
def qz_st (R : dz_X) : Prop := ∀ τ h τ' h', qz_sm τ h τ' h' → R τ h → R τ' h'
theorem qz_I_of {h : cz_H} {r i : Nat} {v : cz_V} (e : dz_get (h.2.2 r) i = some v) : qz_I h r i = dz_n v := by unfold qz_I; rw [e]
theorem qz_I_eq {h h' : cz_H} {r i : Nat} (e : dz_get (h'.2.2 r) i = dz_get (h.2.2 r) i) : qz_I h' r i = qz_I h r i := by unfold qz_I; rw [e]
theorem qz_N_eq {h h' : cz_H} {r : Nat} (e : dz_al (h'.2.2 r) = dz_al (h.2.2 r)) : qz_N h' r = qz_N h r := by
  unfold qz_N
  revert e
  obtain q | q | k := h.2.2 r <;> obtain q' | q' | k' := h'.2.2 r <;> intro e <;> simp only [dz_al, reduceCtorEq, Sum.inl.injEq, Sum.inr.injEq, Prod.mk.injEq] at e
  · simp only [e.2]
  · rfl
  · rfl
theorem qz_N_nn (h : cz_H) (r : Nat) : 0 ≤ qz_N h r := by
  unfold qz_N
  split
  · exact Int.natCast_nonneg _
  · exact Int.le_refl 0
theorem qz_put_at (h : cz_H) (r i : Nat) (v : cz_V) {q : Nat} (e : q ≠ r) : (dz_put h r i v).2.2 q = h.2.2 q := by rw [dz_put_at, if_neg e]
theorem qz_put_al (h : cz_H) (r i : Nat) (v : cz_V) (q : Nat) : dz_al ((dz_put h r i v).2.2 q) = dz_al (h.2.2 q) := by
  rw [dz_put_at]
  by_cases e : q = r
  · subst e; rw [if_pos rfl]; exact dz_al_set _ _ _
  · rw [if_neg e]
theorem qz_put_get {h : cz_H} {r i : Nat} {v old : cz_V} (hg : dz_get (h.2.2 r) i = some old) (q j : Nat) : dz_get ((dz_put h r i v).2.2 q) j = if q = r ∧ j = i then some v else dz_get (h.2.2 q) j := by
  rw [dz_put_at]
  by_cases e : q = r
  · subst e
    rw [if_pos rfl, dz_get_set hg]
    by_cases e2 : j = i
    · rw [if_pos e2, if_pos ⟨rfl, e2⟩]
    · rw [if_neg e2, if_neg (fun w => e2 w.2)]
  · rw [if_neg e, if_neg (fun w => e w.1)]
theorem qz_sm_put {τ : Nat → Nat} {h : cz_H} {r i : Nat} {v old : cz_V} (hg : dz_get (h.2.2 r) i = some old) (hp : qz_pt (τ r) i = false) : qz_sm τ h τ (dz_put h r i v) := by
  refine ⟨fun q _ => ⟨rfl, qz_put_al _ _ _ _ _, fun j hj => ?_⟩, fun _ _ => rfl, fun q hq => qz_put_at _ _ _ _ (fun e => by rw [e] at hq; rw [qz_pt_of hq] at hp; cases hp)⟩
  rw [qz_put_get hg]
  by_cases e : q = r ∧ j = i
  · obtain ⟨rfl, rfl⟩ := e
    rw [hp] at hj
    cases hj
  · rw [if_neg e]
theorem qz_sm_setc {τ : Nat → Nat} {h : cz_H} {r : Nat} {c : cz_C} (hp : qz_pr (τ r) = false) : qz_sm τ h τ (cz_setc h r c) := by
  have key : ∀ q, qz_pr (τ q) = true → (cz_setc h r c).2.2 q = h.2.2 q := fun q hq => by
    have e : q ≠ r := fun e => by rw [e, hp] at hq; cases hq
    show (if q = r then c else h.2.2 q) = _; rw [if_neg e]
  refine ⟨fun q hq => ?_, fun _ _ => rfl, fun q hq => key q (qz_pr_of hq)⟩
  rw [key q hq]
  exact ⟨rfl, rfl, fun _ _ => rfl⟩
theorem qz_sm_push {τ : Nat → Nat} {h : cz_H} {n t : Nat} {c : cz_C} (hlt : ∀ r, τ r ≠ 0 → r < h.1) (ht : qz_pr t = false) : qz_sm τ h (dz_tn τ h.1 t) (cz_push h n c) := by
  have h0 : qz_pr 0 = false := rfl
  have ne : ∀ q, qz_pr (τ q) = true → q ≠ h.1 := fun q hq e => by
    have : τ q ≠ 0 := fun z => by rw [z, h0] at hq; cases hq
    have := hlt q this
    omega
  have key : ∀ q, qz_pr (τ q) = true → (cz_push h n c).2.2 q = h.2.2 q := fun q hq => by show (if q = h.1 then c else h.2.2 q) = _; rw [if_neg (ne q hq)]
  refine ⟨fun q hq => ?_, fun q hq => ?_, fun q hq => key q (qz_pr_of hq)⟩
  · have e := ne q hq
    rw [key q hq]
    exact ⟨by unfold dz_tn; rw [if_neg e], rfl, fun _ _ => rfl⟩
  · by_cases e : q = h.1
    · have : dz_tn τ h.1 t q = t := by unfold dz_tn; rw [if_pos e]
      rw [this, ht] at hq
      cases hq
    · unfold dz_tn
      rw [if_neg e]
theorem qz_sm.I {τ τ' : Nat → Nat} {h h' : cz_H} (hs : qz_sm τ h τ' h') {r t i : Nat} (ht : τ r = t) (hp : qz_pr t = true) (hi : qz_pt t i = true) : qz_I h' r i = qz_I h r i := by
  subst ht
  exact qz_I_eq ((hs.1 r hp).2.2 i hi)
theorem qz_sm.P {τ τ' : Nat → Nat} {h h' : cz_H} (hs : qz_sm τ h τ' h') {r t i : Nat} (ht : τ r = t) (hp : qz_pr t = true) (hi : qz_pt t i = true) : qz_P h' r i = qz_P h r i := by
  unfold qz_P
  rw [hs.I ht hp hi]
theorem qz_sm.N {τ τ' : Nat → Nat} {h h' : cz_H} (hs : qz_sm τ h τ' h') {r t : Nat} (ht : τ r = t) (hp : qz_pr t = true) : qz_N h' r = qz_N h r := by
  subst ht
  exact qz_N_eq (hs.1 r hp).2.1
theorem qz_sm.T {τ τ' : Nat → Nat} {h h' : cz_H} (hs : qz_sm τ h τ' h') {r t : Nat} (ht : τ r = t) (hp : qz_pr t = true) : τ' r = t := by
  subst ht
  exact (hs.1 r hp).1
theorem qz_sm.B {τ τ' : Nat → Nat} {h h' : cz_H} (hs : qz_sm τ h τ' h') {r t : Nat} (ht : τ' r = t) (hp : qz_pr t = true) : τ r = t := by
  subst ht
  exact (hs.2.1 r hp).symm
theorem qz_sm.C {τ τ' : Nat → Nat} {h h' : cz_H} (hs : qz_sm τ h τ' h') {r t : Nat} (ht : τ r = t) (hp : qz_pr0 t = true) : h'.2.2 r = h.2.2 r := by
  subst ht
  exact hs.2.2 r hp
/-- of DATA and LINES -/
def qz_XP : dz_X := fun τ h =>
  (τ 770 = 75 ∧ τ 202 = 48 ∧ τ 205 = 51) ∧
  (τ (qz_P h 770 11) = 18 ∧ τ (qz_P h 770 9) = 17 ∧ τ (qz_P h 770 21) = 19 ∧ τ (qz_P h 770 22) = 20) ∧
  (∀ i : Nat, (i : Int) < qz_I h 202 4 → 1 ≤ qz_I h 205 i) ∧
  (∀ i : Nat, (i : Int) < qz_I h 770 12 → 1 ≤ qz_I h (qz_P h 770 11) i) ∧
  (∀ i : Nat, (i : Int) < qz_I h 770 23 → 1 ≤ qz_I h (qz_P h 770 22) i) ∧
  (qz_I h 770 12 ≤ qz_N h (qz_P h 770 11) ∧ qz_I h 770 23 ≤ qz_N h (qz_P h 770 22) ∧ qz_I h 770 23 ≤ qz_N h (qz_P h 770 21) ∧ qz_N h (qz_P h 770 22) ≤ qz_N h (qz_P h 770 21) ∧ qz_I h 770 10 ≤ qz_N h (qz_P h 770 9)) ∧
  (∀ r, τ r = 15 → τ (r + 1) = 16 ∧ ∀ j, qz_I h r j + qz_I h (r + 1) j ≤ qz_N h (qz_P h 770 9)) ∧
  ∀ r, τ r = 13 → τ (r + 1) = 15 ∧ τ (r + 2) = 16 ∧ (qz_I h r 0 = 4 → qz_I h (r + 1) 1 + 4 * qz_I h (r + 2) 1 ≤ qz_N h (qz_P h 770 9))
theorem qz_XP_st : qz_st qz_XP := by
  intro τ h τ' h' hs ⟨⟨a1, a2, a3⟩, ⟨b1, b2, b3, b4⟩, c1, c2, c3, ⟨d1, d2, d3, d4, d5⟩, e1, e2⟩
  have p11 := hs.P (i := 11) a1 rfl rfl
  have p9 := hs.P (i := 9) a1 rfl rfl
  have p21 := hs.P (i := 21) a1 rfl rfl
  have p22 := hs.P (i := 22) a1 rfl rfl
  have i12 := hs.I (i := 12) a1 rfl rfl
  have i23 := hs.I (i := 23) a1 rfl rfl
  have i4 := hs.I (i := 4) a2 rfl rfl
  refine ⟨⟨hs.T a1 rfl, hs.T a2 rfl, hs.T a3 rfl⟩, ⟨?_, ?_, ?_, ?_⟩, ?_, ?_, ?_, ⟨?_, ?_, ?_, ?_, ?_⟩, ?_, ?_⟩
  · rw [p11]; exact hs.T b1 rfl
  · rw [p9]; exact hs.T b2 rfl
  · rw [p21]; exact hs.T b3 rfl
  · rw [p22]; exact hs.T b4 rfl
  · intro i hi
    rw [i4] at hi
    rw [hs.I a3 rfl rfl]
    exact c1 i hi
  · intro i hi
    rw [i12] at hi
    rw [p11, hs.I b1 rfl rfl]
    exact c2 i hi
  · intro i hi
    rw [i23] at hi
    rw [p22, hs.I b4 rfl rfl]
    exact c3 i hi
  · rw [i12, p11, hs.N b1 rfl]; exact d1
  · rw [i23, p22, hs.N b4 rfl]; exact d2
  · rw [i23, p21, hs.N b3 rfl]; exact d3
  · rw [p21, p22, hs.N b3 rfl, hs.N b4 rfl]; exact d4
  · rw [hs.I (i := 10) a1 rfl rfl, p9, hs.N b2 rfl]; exact d5
  · intro r hr
    have hr := hs.B hr rfl
    obtain ⟨f1, f2⟩ := e1 r hr
    refine ⟨hs.T f1 rfl, fun j => ?_⟩
    rw [hs.I hr rfl rfl, hs.I f1 rfl rfl, p9, hs.N b2 rfl]
    exact f2 j
  · intro r hr
    have hr := hs.B hr rfl
    obtain ⟨f1, f2, f3⟩ := e2 r hr
    refine ⟨hs.T f1 rfl, hs.T f2 rfl, fun w => ?_⟩
    rw [hs.I hr rfl rfl] at w
    rw [hs.I f1 rfl rfl, hs.I f2 rfl rfl, p9, hs.N b2 rfl]
    exact f3 w
/-- the counts of the arrays that grow -/
def qz_X2 : dz_X := fun τ h =>
  (τ (qz_P h 770 24) = 21 ∧ qz_I h 770 25 ≤ qz_N h (qz_P h 770 24)) ∧ (τ (qz_P h 770 35) = 23 ∧ 4 * qz_I h 770 36 ≤ qz_N h (qz_P h 770 35))
def qz_X (R : dz_X) : dz_X := fun τ h => (∀ r, tz_ex r ≠ 0 → τ r = tz_ex r) ∧ cz_room h 0 0 = true ∧ qz_X2 τ h ∧ qz_XP τ h ∧ R τ h
/-- a known slot at a fixed place -/
noncomputable def qz_ms (S : dz_S) (j p t i : Nat) : Option dz_A := match dz_nth S.2.2.2.2.1 j with
  | some m => bif dz_same m.1 (dz_cst (Int.ofNat p)) && (Nat.beq m.2.1 t && dz_same m.2.2.1 (dz_cst (Int.ofNat i))) then some m.2.2.2 else none
  | none => none
noncomputable def qz_ks (S : dz_S) (j : Nat) (e : dz_E) (t : Nat) : Option dz_E := match dz_nth S.2.2.2.2.2.1 j with
  | some k => bif dz_same k.1 e && Nat.beq k.2.1 t then some k.2.2.1 else none
  | none => none
section QzCf
variable {T : dz_TT} {X : dz_X} {S : dz_S} {ρ : Nat → Int} {τ : Nat → Nat} {h : cz_H} {L : List (Nat × cz_V)} {st : List cz_V}
theorem qz_ms_ok (hG : dz_G T X S ρ τ h L st) {j p t i : Nat} {a : dz_A} (hm : qz_ms S j (p + 1) t i = some a) : τ p = t ∧ (∃ v, dz_get (h.2.2 p) i = some v ∧ dz_vo S.1 ρ τ a v) ∧ dz_ok S.1 ρ a.2.1 (qz_I h p i) := by
  unfold qz_ms at hm
  split at hm
  · rename_i m hj
    cases hb : (dz_same m.1 (dz_cst (Int.ofNat (p + 1))) && (Nat.beq m.2.1 t && dz_same m.2.2.1 (dz_cst (Int.ofNat i)))) with
    | false => rw [hb] at hm; cases hm
    | true =>
      rw [hb] at hm
      cases hm
      simp only [Bool.and_eq_true] at hb
      obtain ⟨b1, b2, b3⟩ := hb
      obtain ⟨r, i', v, h1, h2, h3, h4, h5⟩ := hG.2.2.2.1 m (dz_nth_mem hj)
      have e1 := dz_same_ok h1 (dz_ok_cst _) b1
      have e3 := dz_same_ok h3 (dz_ok_cst _) b3
      have e1 : (r : Int) + 1 = ((p + 1 : Nat) : Int) := e1
      have e3 : (i' : Int) = (i : Int) := e3
      have e1 : r = p := by omega
      have e3 : i' = i := by omega
      subst e1
      subst e3
      have e2 := Nat.eq_of_beq_eq_true b2
      exact ⟨h2.1.trans e2, ⟨v, h4, h5⟩, by rw [qz_I_of h4]; exact h5.2.1⟩
  · cases hm
theorem qz_ks_ok (hG : dz_G T X S ρ τ h L st) {j t : Nat} {e l : dz_E} {x : Int} (hk : qz_ks S j e t = some l) (he : dz_ok S.1 ρ e x) : ∃ r : Nat, x = (r : Int) + 1 ∧ τ r = t ∧ dz_ok S.1 ρ l (qz_N h r) := by
  unfold qz_ks at hk
  split at hk
  · rename_i k hj
    cases hb : (dz_same k.1 e && Nat.beq k.2.1 t) with
    | false => rw [hb] at hk; cases hk
    | true =>
      rw [hb] at hk
      cases hk
      simp only [Bool.and_eq_true] at hb
      obtain ⟨r, q, s, u, lo, hi, h1, h2, h3, h4, -⟩ := hG.2.2.2.2.1 k (dz_nth_mem hj)
      have e1 := dz_same_ok h1 he hb.1
      refine ⟨r, e1.symm, h2.1.trans (Nat.eq_of_beq_eq_true hb.2), ?_⟩
      have : qz_N h r = (q.2.1 : Int) := by unfold qz_N; rw [h3]
      rw [this]
      exact h4
  · cases hk
/-- an array that a field of the model holds -/
theorem qz_mk_ok (hG : dz_G T X S ρ τ h L st) {m f k t : Nat} {a : dz_A} {l : dz_E} (hm : qz_ms S m 771 75 f = some a) (hk : qz_ks S k a.2.1 t = some l) : dz_ok S.1 ρ l (qz_N h (qz_P h 770 f)) := by
  obtain ⟨-, -, h1⟩ := qz_ms_ok (p := 770) hG hm
  obtain ⟨r, e, -, h2⟩ := qz_ks_ok hG hk h1
  have : qz_P h 770 f = r := by unfold qz_P; rw [e]; omega
  rw [this]
  exact h2
end QzCf
/-- arrays of the model and their counts: field, tag, field of the count, how much for each -/
def qz_xl (w : Nat) : Option (Nat × Nat × Nat × Int) := bif Nat.beq w 0 then some (11, 18, 12, 1) else bif Nat.beq w 1 then some (22, 20, 23, 1) else bif Nat.beq w 2 then some (21, 19, 23, 1) else bif Nat.beq w 3 then some (9, 17, 10, 1) else bif Nat.beq w 4 then some (24, 21, 25, 1) else bif Nat.beq w 5 then some (35, 23, 36, 4) else none
theorem qz_xl_ok {R : dz_X} {τ : Nat → Nat} {h : cz_H} (hX : qz_X R τ h) {w : Nat} {q : Nat × Nat × Nat × Int} (hw : qz_xl w = some q) : q.2.2.2 * qz_I h 770 q.2.2.1 ≤ qz_N h (qz_P h 770 q.1) := by
  obtain ⟨-, -, ⟨⟨-, k1⟩, -, k2⟩, ⟨-, -, -, -, -, ⟨d1, d2, d3, -, d5⟩, -⟩, -⟩ := hX
  unfold qz_xl at hw
  cases h0 : Nat.beq w 0 with
  | true => rw [h0] at hw; cases hw; show 1 * _ ≤ _; rw [Int.one_mul]; exact d1
  | false =>
    cases h1 : Nat.beq w 1 with
    | true => rw [h0, h1] at hw; cases hw; show 1 * _ ≤ _; rw [Int.one_mul]; exact d2
    | false =>
      cases h2 : Nat.beq w 2 with
      | true => rw [h0, h1, h2] at hw; cases hw; show 1 * _ ≤ _; rw [Int.one_mul]; exact d3
      | false =>
        cases h3 : Nat.beq w 3 with
        | true => rw [h0, h1, h2, h3] at hw; cases hw; show 1 * _ ≤ _; rw [Int.one_mul]; exact d5
        | false =>
          cases h4 : Nat.beq w 4 with
          | true => rw [h0, h1, h2, h3, h4] at hw; cases hw; show 1 * _ ≤ _; rw [Int.one_mul]; exact k1
          | false =>
            cases h5 : Nat.beq w 5 with
            | true => rw [h0, h1, h2, h3, h4, h5] at hw; cases hw; exact k2
            | false => rw [h0, h1, h2, h3, h4, h5] at hw; cases hw
/-- 102 -/
noncomputable def qz_lr1 (S : dz_S) (hn : dz_Hn) : Option (List dz_E) := match dz_nth S.2.2.2.2.1 (dz_num hn 1) with
  | some m => (match tz_T m.2.1, m.2.2.1 with
    | some ti, (.ofNat i, []) => (match dz_ds ti i with
      | some D => bif Nat.beq D.2.2.2.2 1 && dz_pf S.2.1 (dz_ct hn 0) (dz_plus m.2.2.2.2.1 (-1)) then some [dz_plus (dz_sub m.2.2.2.2.1 m.1) (-1)] else none
      | none => none)
    | _, _ => none)
  | none => none
noncomputable def qz_lr2 (S : dz_S) (hn : dz_Hn) : Option (List dz_E) := match qz_xl (dz_num hn 1) with
  | some q => (match qz_ms S (dz_num hn 2) 771 75 q.1, qz_ms S (dz_num hn 3) 771 75 q.2.2.1 with
    | some a, some c => (match qz_ks S (dz_num hn 4) a.2.1 q.2.1 with
      | some l => some [dz_sub l (dz_mul q.2.2.2 c.2.1)]
      | none => none)
    | _, _ => none)
  | none => none
noncomputable def qz_lr3 (S : dz_S) (hn : dz_Hn) : Option (List dz_E) := match dz_nth S.2.2.2.2.1 (dz_num hn 1), dz_nth S.2.2.2.2.1 (dz_num hn 2), qz_ms S (dz_num hn 4) 771 75 9 with
  | some x, some y, some a => bif (Nat.beq x.2.1 15 && Nat.beq y.2.1 16) && (dz_same (dz_plus x.1 1) y.1 && dz_same x.2.2.1 y.2.2.1) then (match qz_ks S (dz_num hn 3) a.2.1 17 with
    | some l => some [dz_sub (dz_sub l x.2.2.2.2.1) y.2.2.2.2.1]
    | none => none) else none
  | _, _, _ => none
noncomputable def qz_lr4 (S : dz_S) (hn : dz_Hn) : Option (List dz_E) := match dz_nth S.2.2.2.2.1 (dz_num hn 1), dz_nth S.2.2.2.2.1 (dz_num hn 2), qz_ms S (dz_num hn 4) 771 75 9, dz_nth S.2.2.2.2.1 (dz_num hn 5) with
  | some x, some y, some a, some z => bif ((Nat.beq x.2.1 15 && Nat.beq y.2.1 16) && (dz_same (dz_plus x.1 1) y.1 && (dz_same x.2.2.1 (dz_cst 1) && dz_same y.2.2.1 (dz_cst 1)))) && ((Nat.beq z.2.1 13 && dz_same (dz_plus z.1 1) x.1) && (dz_same z.2.2.1 (dz_cst 0) && (dz_pf S.2.1 (dz_ct hn 0) (dz_plus z.2.2.2.2.1 (-4)) && dz_pf S.2.1 (dz_ct hn 1) (dz_sub (dz_cst 4) z.2.2.2.2.1)))) then (match qz_ks S (dz_num hn 3) a.2.1 17 with
    | some l => some [dz_sub (dz_sub l x.2.2.2.2.1) (dz_mul 4 y.2.2.2.2.1)]
    | none => none) else none
  | _, _, _, _ => none
noncomputable def qz_lr6 (S : dz_S) (hn : dz_Hn) : Option (List dz_E) := match qz_ms S (dz_num hn 1) 771 75 21, qz_ms S (dz_num hn 2) 771 75 22 with
  | some a, some b => (match qz_ks S (dz_num hn 3) a.2.1 19, qz_ks S (dz_num hn 4) b.2.1 20 with
    | some l, some k => some [dz_sub l k]
    | _, _ => none)
  | _, _ => none
noncomputable def qz_lr (S : dz_S) (hn : dz_Hn) : Option (List dz_E) := bif Nat.beq (dz_num hn 0) 1 then qz_lr1 S hn else bif Nat.beq (dz_num hn 0) 2 then qz_lr2 S hn else bif Nat.beq (dz_num hn 0) 3 then qz_lr3 S hn else bif Nat.beq (dz_num hn 0) 4 then qz_lr4 S hn else bif Nat.beq (dz_num hn 0) 6 then qz_lr6 S hn else none
section QzLr
variable {R : dz_X} {S : dz_S} {ρ : Nat → Int} {τ : Nat → Nat} {h : cz_H} {L : List (Nat × cz_V)} {st : List cz_V} {hn : dz_Hn} {es : List dz_E}
theorem qz_lr1_ok (hG : dz_G tz_T (qz_X R) S ρ τ h L st) (hl : qz_lr1 S hn = some es) : dz_all S.1 ρ es := by
  unfold qz_lr1 at hl
  split at hl
  · rename_i m hm
    split at hl
    · rename_i ti i hti hix
      split at hl
      · rename_i D hD
        cases hb : (Nat.beq D.2.2.2.2 1 && dz_pf S.2.1 (dz_ct hn 0) (dz_plus m.2.2.2.2.1 (-1))) with
        | false => rw [hb] at hl; cases hl
        | true =>
          rw [hb] at hl
          cases hl
          simp only [Bool.and_eq_true] at hb
          obtain ⟨r, i', v, h1, ⟨h2, h20⟩, h3, h4, h5⟩ := hG.2.2.2.1 m (dz_nth_mem hm)
          rw [hix] at h3
          have e3 : (i' : Int) = (i : Int) := by have := h3.2; simp only [dz_ev] at this; have q : (Int.ofNat i) = (i : Int) := rfl; omega
          have e3 : i' = i := by omega
          subst e3
          have b2 := dz_pf_ok hG.1 (dz_ok_plus (-1) h5.2.1) hb.2
          have hH := hG.2.2.2.2.2.2.2.1 r (by rw [h2]; exact h20)
          obtain ⟨ti', t1, t2, t3, t4⟩ := hH.2
          rw [h2, hti] at t1
          cases t1
          obtain ⟨D', d1, d2⟩ := t4 i' v h4
          rw [hD] at d1
          cases d1
          have d3 := d2.2.2.2.1
          have d4 := Nat.eq_of_beq_eq_true hb.1
          have : (r : Int) + 1 < dz_n v := by
            rcases d3 with d3 | d3 | d3
            · exact absurd d4 d3
            · omega
            · exact d3
          exact dz_one (dz_ok_plus (-1) (dz_ok_sub h5.2.1 h1)) (by omega)
      · cases hl
    · cases hl
  · cases hl
theorem qz_lr2_ok (hG : dz_G tz_T (qz_X R) S ρ τ h L st) (hl : qz_lr2 S hn = some es) : dz_all S.1 ρ es := by
  unfold qz_lr2 at hl
  split at hl
  · rename_i q hq
    split at hl
    · rename_i a c ha hc
      split at hl
      · rename_i l hk
        cases hl
        have h1 := qz_xl_ok hG.2.2.2.2.2.2.2.2.1 hq
        have h2 := qz_mk_ok hG ha hk
        have h3 := (qz_ms_ok (p := 770) hG hc).2.2
        exact dz_one (dz_ok_sub h2 (dz_ok_mul _ h3)) (by omega)
      · cases hl
    · cases hl
  · cases hl
theorem qz_lr3_ok (hG : dz_G tz_T (qz_X R) S ρ τ h L st) (hl : qz_lr3 S hn = some es) : dz_all S.1 ρ es := by
  unfold qz_lr3 at hl
  split at hl
  · rename_i x y a hx hy ha
    cases hb : ((Nat.beq x.2.1 15 && Nat.beq y.2.1 16) && (dz_same (dz_plus x.1 1) y.1 && dz_same x.2.2.1 y.2.2.1)) with
    | false => rw [hb] at hl; cases hl
    | true =>
      rw [hb] at hl
      simp only [cond_true] at hl
      split at hl
      · rename_i l hk
        cases hl
        simp only [Bool.and_eq_true] at hb
        obtain ⟨⟨b1, b2⟩, b3, b4⟩ := hb
        obtain ⟨r, i, v, h1, ⟨h2, -⟩, h3, h4, h5⟩ := hG.2.2.2.1 x (dz_nth_mem hx)
        obtain ⟨r', i', w, g1, ⟨g2, -⟩, g3, g4, g5⟩ := hG.2.2.2.1 y (dz_nth_mem hy)
        have e1 := dz_same_ok (dz_ok_plus 1 h1) g1 b3
        have e2 := dz_same_ok h3 g3 b4
        have e1 : r' = r + 1 := by omega
        have e2 : i' = i := by omega
        subst e1
        subst e2
        obtain ⟨-, -, -, -, -, -, hrow, -⟩ := hG.2.2.2.2.2.2.2.2.1.2.2.2.1
        have f := (hrow r (h2.trans (Nat.eq_of_beq_eq_true b1))).2 i'
        rw [qz_I_of h4, qz_I_of g4] at f
        have hN := qz_mk_ok hG ha hk
        exact dz_one (dz_ok_sub (dz_ok_sub hN h5.2.1) g5.2.1) (by omega)
      · cases hl
  · cases hl
theorem qz_lr4_ok (hG : dz_G tz_T (qz_X R) S ρ τ h L st) (hl : qz_lr4 S hn = some es) : dz_all S.1 ρ es := by
  unfold qz_lr4 at hl
  split at hl
  · rename_i x y a z hx hy ha hz
    cases hb : (((Nat.beq x.2.1 15 && Nat.beq y.2.1 16) && (dz_same (dz_plus x.1 1) y.1 && (dz_same x.2.2.1 (dz_cst 1) && dz_same y.2.2.1 (dz_cst 1)))) && ((Nat.beq z.2.1 13 && dz_same (dz_plus z.1 1) x.1) && (dz_same z.2.2.1 (dz_cst 0) && (dz_pf S.2.1 (dz_ct hn 0) (dz_plus z.2.2.2.2.1 (-4)) && dz_pf S.2.1 (dz_ct hn 1) (dz_sub (dz_cst 4) z.2.2.2.2.1))))) with
    | false => rw [hb] at hl; cases hl
    | true =>
      rw [hb] at hl
      simp only [cond_true] at hl
      split at hl
      · rename_i l hk
        cases hl
        simp only [Bool.and_eq_true] at hb
        obtain ⟨⟨⟨b1, b2⟩, b3, b4, b5⟩, ⟨b6, b7⟩, b8, b9, b10⟩ := hb
        obtain ⟨r, i, v, h1, ⟨h2, -⟩, h3, h4, h5⟩ := hG.2.2.2.1 x (dz_nth_mem hx)
        obtain ⟨r', i', w, g1, ⟨g2, -⟩, g3, g4, g5⟩ := hG.2.2.2.1 y (dz_nth_mem hy)
        obtain ⟨r0, i0, u, k1, ⟨k2, -⟩, k3, k4, k5⟩ := hG.2.2.2.1 z (dz_nth_mem hz)
        have e1 := dz_same_ok (dz_ok_plus 1 h1) g1 b3
        have e2 := dz_same_ok h3 (dz_ok_cst 1) b4
        have e3 := dz_same_ok g3 (dz_ok_cst 1) b5
        have e4 := dz_same_ok (dz_ok_plus 1 k1) h1 b7
        have e5 := dz_same_ok k3 (dz_ok_cst 0) b8
        have e6 : dz_n u = 4 := by have w1 := dz_pf_ok hG.1 (dz_ok_plus (-4) k5.2.1) b9; have w2 := dz_pf_ok hG.1 (dz_ok_sub (dz_ok_cst 4) k5.2.1) b10; omega
        have f4 : r = r0 + 1 := by omega
        have f1 : r' = r0 + 2 := by omega
        have f2 : i = 1 := by omega
        have f3 : i' = 1 := by omega
        have f5 : i0 = 0 := by omega
        clear e1 e2 e3 e4 e5
        subst f4
        subst f1
        subst f2
        subst f3
        subst f5
        obtain ⟨-, -, -, -, -, -, -, hrow⟩ := hG.2.2.2.2.2.2.2.2.1.2.2.2.1
        have f := (hrow r0 (k2.trans (Nat.eq_of_beq_eq_true b6))).2.2 (by rw [qz_I_of k4]; exact e6)
        rw [qz_I_of h4, qz_I_of g4] at f
        have hN := qz_mk_ok hG ha hk
        exact dz_one (dz_ok_sub (dz_ok_sub hN h5.2.1) (dz_ok_mul 4 g5.2.1)) (by omega)
      · cases hl
  · cases hl
theorem qz_lr6_ok (hG : dz_G tz_T (qz_X R) S ρ τ h L st) (hl : qz_lr6 S hn = some es) : dz_all S.1 ρ es := by
  unfold qz_lr6 at hl
  split at hl
  · rename_i a b ha hb
    split at hl
    · rename_i l k hl1 hk1
      cases hl
      have h1 := qz_mk_ok hG ha hl1
      have h2 := qz_mk_ok hG hb hk1
      obtain ⟨-, -, -, -, -, ⟨-, -, -, d4, -⟩, -⟩ := hG.2.2.2.2.2.2.2.2.1.2.2.2.1
      exact dz_one (dz_ok_sub h1 h2) (by omega)
    · cases hl
  · cases hl
end QzLr
theorem qz_XL (R : dz_X) : dz_XL tz_T (qz_X R) qz_lr := by
  intro S ρ τ h L st hn es hG hl
  unfold qz_lr at hl
  cases h1 : Nat.beq (dz_num hn 0) 1 with
  | true => rw [h1] at hl; exact qz_lr1_ok hG hl
  | false =>
    cases h2 : Nat.beq (dz_num hn 0) 2 with
    | true => rw [h1, h2] at hl; exact qz_lr2_ok hG hl
    | false =>
      cases h3 : Nat.beq (dz_num hn 0) 3 with
      | true => rw [h1, h2, h3] at hl; exact qz_lr3_ok hG hl
      | false =>
        cases h4 : Nat.beq (dz_num hn 0) 4 with
        | true => rw [h1, h2, h3, h4] at hl; exact qz_lr4_ok hG hl
        | false =>
          cases h6 : Nat.beq (dz_num hn 0) 6 with
          | true => rw [h1, h2, h3, h4, h6] at hl; exact qz_lr6_ok hG hl
          | false => rw [h1, h2, h3, h4, h6] at hl; cases hl
/-- 108 -/
noncomputable def qz_xk0 (S : dz_S) (hn : dz_Hn) : Option dz_K := match qz_ms S (dz_num hn 1) 203 48 4 with
  | some c => some (dz_cst 206, 51, dz_cst 256, dz_cst 0, c.2.1, dz_cst 1, dz_cst 1000000)
  | none => none
noncomputable def qz_xk1 (S : dz_S) (hn : dz_Hn) (f t n : Nat) : Option dz_K := match qz_ms S (dz_num hn 1) 771 75 n, qz_ms S (dz_num hn 3) 771 75 f with
  | some c, some a => (match qz_ks S (Nat.pred (dz_num hn 2)) a.2.1 t with
    | some l => some (a.2.1, t, l, dz_cst 0, c.2.1, dz_cst 1, dz_cst 1000000)
    | none => none)
  | _, _ => none
noncomputable def qz_xk (S : dz_S) (hn : dz_Hn) : Option dz_K := bif Nat.beq (dz_num hn 0) 0 then qz_xk0 S hn else bif Nat.beq (dz_num hn 0) 1 then qz_xk1 S hn 11 18 12 else bif Nat.beq (dz_num hn 0) 2 then qz_xk1 S hn 22 20 23 else none
section QzXk
variable {R : dz_X} {S : dz_S} {ρ : Nat → Int} {τ : Nat → Nat} {h : cz_H} {L : List (Nat × cz_V)} {st : List cz_V} {hn : dz_Hn} {k : dz_K}
/-- a tag's array of references: what lies there -/
theorem qz_arr {X : dz_X} (hB : dz_B tz_T X τ h) {r t : Nat} (ht : τ r = t) (h0 : t ≠ 0) {ti : dz_I} (hti : tz_T t = some ti) (hk : Nat.beq ti.1 1 = true) (hl : Nat.blt ti.2.1 11 = true) {D : dz_D} (hD : dz_nth ti.2.2.2.2 0 = some D) (h2 : D.1 ≠ 2) (hhi : D.2.2.1 = 1000000) : ∃ q : Nat × Nat × (Nat → cz_V), h.2.2 r = .inl q ∧ qz_N h r = (q.2.1 : Int) ∧ (∀ i, i < q.2.1 → qz_I h r i = dz_n (q.2.2 i) ∧ dz_n (q.2.2 i) ≤ 1000000) ∧ (ti.2.2.2.1.1 ≤ (q.2.1 : Int) ∧ (q.2.1 : Int) ≤ ti.2.2.2.1.2) := by
  subst ht
  obtain ⟨n, f, -, o2, o3, -, o5⟩ := dz_arr_at hB h0 hti hk hl
  refine ⟨(ti.2.1, n, f), o2, by unfold qz_N; rw [o2], fun i hi => ?_, o3⟩
  obtain ⟨D', d1, d2⟩ := o5 i hi
  rw [hD] at d1
  cases d1
  have hi : i < n := hi
  refine ⟨qz_I_of (by rw [o2]; show (if i < n then some (f i) else none) = _; rw [if_pos hi]), ?_⟩
  rcases d2.2.1 with w | w
  · exact absurd w h2
  · rw [hhi] at w; exact w.2
theorem qz_xk0_ok (hG : dz_G tz_T (qz_X R) S ρ τ h L st) (hl : qz_xk0 S hn = some k) : dz_ko S.1 ρ τ h k := by
  unfold qz_xk0 at hl
  split at hl
  · rename_i c hc
    cases hl
    have hB := hG.2.2.2.2.2.2.2
    obtain ⟨⟨-, -, a3⟩, -, c1, -⟩ := hB.2.1.2.2.2.1
    have hcn := (qz_ms_ok (p := 202) hG hc).2.2
    obtain ⟨q, q1, q2, q3, q4⟩ := qz_arr hB a3 (by decide) (ti := (1, 6, 1, (256, 256), [(3, 0, 1000000, 7, 0)])) rfl rfl rfl (D := (3, 0, 1000000, 7, 0)) rfl (by decide) rfl
    have q4 : (256 : Int) ≤ (q.2.1 : Int) ∧ (q.2.1 : Int) ≤ 256 := q4
    refine ⟨205, q, 0, qz_I h 202 4, 1, 1000000, dz_ok_cst _, ⟨a3, by show (51 : Nat) ≠ 0; decide⟩, q1, ?_, dz_ok_cst 0, hcn, dz_ok_cst _, dz_ok_cst _, fun i _ h2 h3 => ?_⟩
    · have : (q.2.1 : Int) = 256 := by omega
      rw [this]; exact dz_ok_cst _
    · obtain ⟨g1, g2⟩ := q3 i h3
      have := c1 i h2
      rw [g1] at this
      exact ⟨this, g2⟩
  · cases hl
theorem qz_xk1_ok (hG : dz_G tz_T (qz_X R) S ρ τ h L st) {f t n : Nat} (hft : τ (qz_P h 770 f) = t) (h0 : t ≠ 0) {ti : dz_I} (hti : tz_T t = some ti) (hk : Nat.beq ti.1 1 = true) (hbl : Nat.blt ti.2.1 11 = true) {D : dz_D} (hD : dz_nth ti.2.2.2.2 0 = some D) (h2 : D.1 ≠ 2) (hhi : D.2.2.1 = 1000000) (hc : ∀ i : Nat, (i : Int) < qz_I h 770 n → 1 ≤ qz_I h (qz_P h 770 f) i) (hl : qz_xk1 S hn f t n = some k) : dz_ko S.1 ρ τ h k := by
  unfold qz_xk1 at hl
  split at hl
  · rename_i c a ha hc'
    rename_i hcs
    split at hl
    · rename_i l hls
      cases hl
      have hB := hG.2.2.2.2.2.2.2
      have hcn := (qz_ms_ok (p := 770) hG ha).2.2
      obtain ⟨-, -, has⟩ := qz_ms_ok (p := 770) hG hc'
      obtain ⟨r, e1, e2, e3⟩ := qz_ks_ok hG hls has
      have er : qz_P h 770 f = r := by unfold qz_P; rw [e1]; omega
      rw [er] at hft hc
      obtain ⟨q, q1, q2, q3, q4⟩ := qz_arr hB hft h0 hti hk hbl hD h2 hhi
      refine ⟨r, q, 0, qz_I h 770 n, 1, 1000000, by rw [← e1]; exact has, ⟨hft, h0⟩, q1, by rw [← q2]; exact e3, dz_ok_cst 0, hcn, dz_ok_cst _, dz_ok_cst _, fun i _ h2 h3 => ?_⟩
      obtain ⟨g1, g2⟩ := q3 i h3
      have := hc i h2
      rw [g1] at this
      exact ⟨this, g2⟩
    · cases hl
  · cases hl
end QzXk
theorem qz_XK (R : dz_X) : dz_XK tz_T (qz_X R) qz_xk := by
  intro S ρ τ h L st hn k hG hl
  unfold qz_xk at hl
  obtain ⟨-, ⟨b1, -, -, b4⟩, -, c2, c3, -⟩ := hG.2.2.2.2.2.2.2.2.1.2.2.2.1
  cases h0 : Nat.beq (dz_num hn 0) 0 with
  | true => rw [h0] at hl; exact qz_xk0_ok hG hl
  | false =>
    cases h1 : Nat.beq (dz_num hn 0) 1 with
    | true => rw [h0, h1] at hl; exact qz_xk1_ok hG b1 (by decide) (ti := (1, 8, 1, (64, 4096), [(3, 0, 1000000, 13, 0)])) rfl rfl rfl (D := (3, 0, 1000000, 13, 0)) rfl (by decide) rfl c2 hl
    | false =>
      cases h2 : Nat.beq (dz_num hn 0) 2 with
      | true => rw [h0, h1, h2] at hl; exact qz_xk1_ok hG b4 (by decide) (ti := (1, 8, 1, (64, 4096), [(3, 0, 1000000, 13, 0)])) rfl rfl rfl (D := (3, 0, 1000000, 13, 0)) rfl (by decide) rfl c3 hl
      | false => rw [h0, h1, h2] at hl; cases hl
/-- writes: counts and arrays that grow: field of the array, tag, field of the count, how much for each -/
noncomputable def qz_sc1 (S : dz_S) (a : dz_A) (hn : dz_Hn) (f t n : Nat) (m : Int) (b : Nat) : Bool :=
  bif Nat.beq (dz_num hn b) 1 then (match qz_ms S (dz_num hn (Nat.succ b)) 771 75 f with
    | some x => (match qz_ks S (dz_num hn (Nat.succ (Nat.succ b))) x.2.1 t with
      | some l => dz_pf S.2.1 (dz_ct hn 6) (dz_sub l (dz_mul m a.2.1))
      | none => false)
    | none => false)
  else bif Nat.beq (dz_num hn b) 2 then (match qz_ms S (dz_num hn (Nat.succ b)) 771 75 n with
    | some c => dz_pf S.2.1 (dz_ct hn 6) (dz_sub c.2.1 a.2.1)
    | none => false)
  else dz_pf S.2.1 (dz_ct hn 6) (dz_mul (-1) a.2.1)
noncomputable def qz_sc2 (S : dz_S) (a : dz_A) (hn : dz_Hn) (t n : Nat) (m : Int) (b : Nat) : Bool := match qz_ks S (dz_num hn (Nat.succ b)) a.2.1 t, qz_ms S (dz_num hn (Nat.succ (Nat.succ b))) 771 75 n with
  | some l, some c => (Nat.beq a.1 3 && Nat.beq a.2.2 t) && dz_pf S.2.1 (dz_ct hn 6) (dz_sub l (dz_mul m c.2.1))
  | _, _ => false
noncomputable def qz_sd (S : dz_S) (t : Nat) (p ix : dz_E) (a : dz_A) (hn : dz_Hn) : Bool :=
  bif Nat.beq t 75 then dz_same p (dz_cst 771) && (match ix with
    | (.ofNat i, []) => bif Nat.beq i 25 then qz_sc1 S a hn 24 21 25 1 0 else bif Nat.beq i 36 then qz_sc1 S a hn 35 23 36 4 0 else bif Nat.beq i 24 then qz_sc2 S a hn 21 25 1 0 else bif Nat.beq i 35 then qz_sc2 S a hn 23 36 4 0 else !(qz_fm i)
    | _ => false)
  else !(qz_pr0 t)
section QzSd
variable {R : dz_X} {S : dz_S} {ρ : Nat → Int} {τ : Nat → Nat} {h : cz_H} {L : List (Nat × cz_V)} {st : List cz_V} {hn : dz_Hn} {a : dz_A} {v old : cz_V}
theorem qz_sc1_ok {X : dz_X} (hG : dz_G tz_T X S ρ τ h L st) {f t n b : Nat} {m : Int} (hm : 0 ≤ m) (hX : m * qz_I h 770 n ≤ qz_N h (qz_P h 770 f)) (ha : dz_vo S.1 ρ τ a v) (hs : qz_sc1 S a hn f t n m b = true) : m * dz_n v ≤ qz_N h (qz_P h 770 f) := by
  unfold qz_sc1 at hs
  cases h1 : Nat.beq (dz_num hn b) 1 with
  | true =>
    rw [h1] at hs
    simp only [cond_true] at hs
    split at hs
    · rename_i x hx
      split at hs
      · rename_i l hk
        have := dz_pf_ok hG.1 (dz_ok_sub (qz_mk_ok hG hx hk) (dz_ok_mul m ha.2.1)) hs
        omega
      · cases hs
    · cases hs
  | false =>
    rw [h1] at hs
    simp only [cond_false] at hs
    cases h2 : Nat.beq (dz_num hn b) 2 with
    | true =>
      rw [h2] at hs
      simp only [cond_true] at hs
      split at hs
      · rename_i c hc
        have := dz_pf_ok hG.1 (dz_ok_sub (qz_ms_ok (p := 770) hG hc).2.2 ha.2.1) hs
        have h3 : dz_n v ≤ qz_I h 770 n := by omega
        exact Int.le_trans (Int.mul_le_mul_of_nonneg_left h3 hm) hX
      · cases hs
    | false =>
      rw [h2] at hs
      simp only [cond_false] at hs
      have := dz_pf_ok hG.1 (dz_ok_mul (-1) ha.2.1) hs
      have h3 : dz_n v ≤ 0 := by omega
      have h4 := Int.mul_le_mul_of_nonneg_left h3 hm
      have := qz_N_nn h (qz_P h 770 f)
      omega
theorem qz_sc2_ok {X : dz_X} (hG : dz_G tz_T X S ρ τ h L st) {t n b : Nat} {m : Int} (ha : dz_vo S.1 ρ τ a v) (hs : qz_sc2 S a hn t n m b = true) : τ (dz_n v - 1).toNat = t ∧ m * qz_I h 770 n ≤ qz_N h (dz_n v - 1).toNat := by
  unfold qz_sc2 at hs
  split at hs
  · rename_i l c hl hc
    simp only [Bool.and_eq_true] at hs
    obtain ⟨r, e1, e2, e3⟩ := qz_ks_ok hG hl ha.2.1
    have er : (dz_n v - 1).toNat = r := by rw [e1]; omega
    rw [er]
    have := dz_pf_ok hG.1 (dz_ok_sub e3 (dz_ok_mul m (qz_ms_ok (p := 770) hG hc).2.2)) hs.2
    exact ⟨e2, by omega⟩
  · cases hs
theorem qz_put_I {r i : Nat} (hg : dz_get (h.2.2 r) i = some old) {q j : Nat} (e : ¬(q = r ∧ j = i)) : qz_I (dz_put h r i v) q j = qz_I h q j := qz_I_eq (by rw [qz_put_get hg, if_neg e])
theorem qz_put_I0 {r i : Nat} (hg : dz_get (h.2.2 r) i = some old) : qz_I (dz_put h r i v) r i = dz_n v := qz_I_of (by rw [qz_put_get hg, if_pos ⟨rfl, rfl⟩])
theorem qz_put_N {r i : Nat} (q : Nat) : qz_N (dz_put h r i v) q = qz_N h q := qz_N_eq (qz_put_al _ _ _ _ _)
/-- the counts stay as they are where none of their fields is written -/
theorem qz_X2_put (hX : qz_X2 τ h) {r i : Nat} (hg : dz_get (h.2.2 r) i = some old) (hne : r ≠ 770 ∨ (i ≠ 24 ∧ i ≠ 25 ∧ i ≠ 35 ∧ i ≠ 36)) : qz_X2 τ (dz_put h r i v) := by
  have e : ∀ j, (j = 24 ∨ j = 25 ∨ j = 35 ∨ j = 36) → qz_I (dz_put h r i v) 770 j = qz_I h 770 j := fun j hj => qz_put_I hg (fun w => by
    rcases hne with n | n
    · exact n w.1.symm
    · omega)
  have e24 := e 24 (Or.inl rfl)
  have e25 := e 25 (Or.inr (Or.inl rfl))
  have e35 := e 35 (Or.inr (Or.inr (Or.inl rfl)))
  have e36 := e 36 (Or.inr (Or.inr (Or.inr rfl)))
  unfold qz_X2 qz_P at hX ⊢
  rw [e24, e25, e35, e36, qz_put_N, qz_put_N]
  exact hX
end QzSd
theorem qz_XW {R : dz_X} (hR : qz_st R) : dz_XW tz_T (qz_X R) qz_sd := by
  intro S ρ τ h L st r i t v old a p ix hn hG hp ht h0 hix hg ha hs
  obtain ⟨x1, x2, x3, x4, x5⟩ := hG.2.2.2.2.2.2.2.2.1
  unfold qz_sd at hs
  cases h1 : Nat.beq t 75 with
  | false =>
    rw [h1] at hs
    simp only [cond_false, Bool.not_eq_true'] at hs
    have hpt : qz_pt (τ r) i = false := by unfold qz_pt; rw [ht, h1]; exact hs
    have hr : r ≠ 770 := fun e => by
      rw [e, x4.1.1] at ht
      rw [← ht] at h1
      cases h1
    have hsm := qz_sm_put (v := v) hg hpt
    exact ⟨x1, x2, qz_X2_put x3 hg (Or.inl hr), qz_XP_st _ _ _ _ hsm x4, hR _ _ _ _ hsm x5⟩
  | true =>
    rw [h1] at hs
    simp only [cond_true, Bool.and_eq_true] at hs
    obtain ⟨hpp, hs⟩ := hs
    have ht75 := Nat.eq_of_beq_eq_true h1
    split at hs
    · rename_i j
      have hj : (j : Int) = (i : Int) := by have := hix.2; simp only [dz_ev] at this; have q : (Int.ofNat j) = (j : Int) := rfl; omega
      have hj : j = i := by omega
      subst hj
      have hM : r = 770 := by have := dz_same_ok hp (dz_ok_cst _) hpp; omega
      subst hM
      have hpt : qz_fm j = false → qz_pt (τ 770) j = false := fun w => by unfold qz_pt; rw [ht, h1]; exact w
      have fin : qz_fm j = false → qz_X2 τ (dz_put h 770 j v) → qz_X R τ (dz_put h 770 j v) := fun w x => by
        have hsm := qz_sm_put (v := v) hg (hpt w)
        exact ⟨x1, x2, x, qz_XP_st _ _ _ _ hsm x4, hR _ _ _ _ hsm x5⟩
      obtain ⟨⟨s1, s2⟩, s3, s4⟩ := x3
      cases c25 : Nat.beq j 25 with
      | true =>
        rw [c25] at hs
        have e := Nat.eq_of_beq_eq_true c25
        subst e
        have f := qz_sc1_ok hG (by decide) (by rw [Int.one_mul]; exact s2) ha hs
        refine fin rfl ?_
        unfold qz_P at s1 s2 s3 s4 f
        unfold qz_X2 qz_P
        rw [qz_put_I hg (by decide), qz_put_I0 hg, qz_put_I hg (by decide), qz_put_I hg (by decide), qz_put_N, qz_put_N]
        exact ⟨⟨s1, by omega⟩, s3, s4⟩
      | false =>
        rw [c25] at hs
        simp only [cond_false] at hs
        cases c36 : Nat.beq j 36 with
        | true =>
          rw [c36] at hs
          have e := Nat.eq_of_beq_eq_true c36
          subst e
          have f := qz_sc1_ok hG (by decide) s4 ha hs
          refine fin rfl ?_
          unfold qz_P at s1 s2 s3 s4 f
          unfold qz_X2 qz_P
          rw [qz_put_I hg (by decide), qz_put_I hg (by decide), qz_put_I hg (by decide), qz_put_I0 hg, qz_put_N, qz_put_N]
          exact ⟨⟨s1, s2⟩, s3, f⟩
        | false =>
          rw [c36] at hs
          simp only [cond_false] at hs
          cases c24 : Nat.beq j 24 with
          | true =>
            rw [c24] at hs
            have e := Nat.eq_of_beq_eq_true c24
            subst e
            have f := qz_sc2_ok hG ha hs
            refine fin rfl ?_
            unfold qz_P at s1 s2 s3 s4
            unfold qz_X2 qz_P
            rw [qz_put_I0 hg, qz_put_I hg (by decide), qz_put_I hg (by decide), qz_put_I hg (by decide), qz_put_N, qz_put_N]
            exact ⟨⟨f.1, by have := f.2; omega⟩, s3, s4⟩
          | false =>
            rw [c24] at hs
            simp only [cond_false] at hs
            cases c35 : Nat.beq j 35 with
            | true =>
              rw [c35] at hs
              have e := Nat.eq_of_beq_eq_true c35
              subst e
              have f := qz_sc2_ok hG ha hs
              refine fin rfl ?_
              unfold qz_P at s1 s2 s3 s4
              unfold qz_X2 qz_P
              rw [qz_put_I hg (by decide), qz_put_I hg (by decide), qz_put_I0 hg, qz_put_I hg (by decide), qz_put_N, qz_put_N]
              exact ⟨⟨s1, s2⟩, f.1, f.2⟩
            | false =>
              rw [c35] at hs
              simp only [cond_false, Bool.not_eq_true'] at hs
              have n1 : j ≠ 25 := fun e => by rw [e] at c25; cases c25
              have n2 : j ≠ 36 := fun e => by rw [e] at c36; cases c36
              have n3 : j ≠ 24 := fun e => by rw [e] at c24; cases c24
              have n4 : j ≠ 35 := fun e => by rw [e] at c35; cases c35
              exact fin hs (qz_X2_put ⟨⟨s1, s2⟩, s3, s4⟩ hg (Or.inr ⟨n3, n1, n4, n2⟩))
    · cases hs
/-- new cells -/
noncomputable def qz_sa (_S : dz_S) (t : Nat) (_hn : dz_Hn) : Bool := !(qz_pr t)
theorem qz_XA {R : dz_X} (hR : qz_st R) : dz_XA tz_T (qz_X R) qz_sa := by
  intro S ρ τ h L st n t c hn hG h0 hroom _ hs
  obtain ⟨x1, x2, x3, x4, x5⟩ := hG.2.2.2.2.2.2.2.2.1
  have hlt : ∀ r, τ r ≠ 0 → r < h.1 := fun r hr => dz_here_lt (hG.2.2.2.2.2.2.2.1 r hr).1
  have hs : qz_pr t = false := by unfold qz_sa at hs; simpa using hs
  have hsm := qz_sm_push (n := n) (c := c) hlt hs
  have hc : ∀ r, τ r ≠ 0 → dz_tn τ h.1 t r = τ r ∧ (cz_push h n c).2.2 r = h.2.2 r := fun r hr => by
    have e : r ≠ h.1 := by have := hlt r hr; omega
    exact ⟨by unfold dz_tn; rw [if_neg e], by show (if r = h.1 then c else h.2.2 r) = _; rw [if_neg e]⟩
  have hI : ∀ r i, τ r ≠ 0 → qz_I (cz_push h n c) r i = qz_I h r i := fun r i hr => by unfold qz_I; rw [(hc r hr).2]
  have hN : ∀ r, τ r ≠ 0 → qz_N (cz_push h n c) r = qz_N h r := fun r hr => by unfold qz_N; rw [(hc r hr).2]
  have h770 : τ 770 ≠ 0 := by rw [x4.1.1]; decide
  refine ⟨fun r hr => ?_, ?_, ?_, qz_XP_st _ _ _ _ hsm x4, hR _ _ _ _ hsm x5⟩
  · have := x1 r hr
    rw [(hc r (by rw [this]; exact hr)).1]
    exact this
  · unfold cz_room at hroom ⊢
    simp only [Bool.and_eq_true, Nat.ble_eq] at hroom ⊢
    exact ⟨by show h.1 + 1 + 0 ≤ _; omega, by show h.2.1 + n + 0 ≤ _; omega⟩
  · obtain ⟨⟨s1, s2⟩, s3, s4⟩ := x3
    have t1 : τ (qz_P h 770 24) ≠ 0 := by rw [s1]; decide
    have t2 : τ (qz_P h 770 35) ≠ 0 := by rw [s3]; decide
    have p1 : qz_P (cz_push h n c) 770 24 = qz_P h 770 24 := by unfold qz_P; rw [hI _ _ h770]
    have p2 : qz_P (cz_push h n c) 770 35 = qz_P h 770 35 := by unfold qz_P; rw [hI _ _ h770]
    refine ⟨⟨?_, ?_⟩, ?_, ?_⟩
    · rw [p1, (hc _ t1).1]; exact s1
    · rw [p1, hN _ t1, hI _ _ h770]; exact s2
    · rw [p2, (hc _ t2).1]; exact s3
    · rw [p2, hN _ t2, hI _ _ h770]; exact s4
/-- copies -/
def qz_sc (t : Nat) : Bool := !(qz_pr t)
theorem qz_XC {R : dz_X} (hR : qz_st R) : dz_XC (qz_X R) qz_sc := by
  intro τ h r q f ⟨x1, x2, x3, x4, x5⟩ hq hs
  have hs : qz_pr (τ r) = false := by unfold qz_sc at hs; simpa using hs
  have hsm := qz_sm_setc (h := h) (c := .inl (q.1, q.2.1, f)) hs
  refine ⟨x1, x2, ?_, qz_XP_st _ _ _ _ hsm x4, hR _ _ _ _ hsm x5⟩
  have hr : (770 : Nat) ≠ r := fun e => by rw [← e, x4.1.1] at hs; cases hs
  have hI : ∀ i, qz_I (cz_setc h r (.inl (q.1, q.2.1, f))) 770 i = qz_I h 770 i := fun i => by
    unfold qz_I
    have : (cz_setc h r (.inl (q.1, q.2.1, f))).2.2 770 = h.2.2 770 := by show (if (770 : Nat) = r then _ else h.2.2 770) = _; rw [if_neg hr]
    rw [this]
  have hN : ∀ p, qz_N (cz_setc h r (.inl (q.1, q.2.1, f))) p = qz_N h p := fun p => by
    unfold qz_N
    by_cases e : p = r
    · subst e
      have : (cz_setc h p (.inl (q.1, q.2.1, f))).2.2 p = .inl (q.1, q.2.1, f) := by show (if p = p then _ else h.2.2 p) = _; rw [if_pos rfl]
      rw [this, hq]
    · have : (cz_setc h r (.inl (q.1, q.2.1, f))).2.2 p = h.2.2 p := by show (if p = r then _ else h.2.2 p) = _; rw [if_neg e]
      rw [this]
  unfold qz_X2 qz_P at x3 ⊢
  rw [hI, hI, hI, hI, hN, hN]
  exact x3
noncomputable def tz_cf : dz_Cf := (tz_ex, qz_lr, qz_sd, qz_sa, qz_sc, fun k => k + 39, fun _ => false, qz_xk)
theorem qz_okC {R : dz_X} (hR : qz_st R) : dz_okC tz_T (qz_X R) tz_cf :=
  ⟨fun _ _ hX r hr => hX.1 r hr, qz_XL R, qz_XW hR, qz_XA hR, qz_XC hR, fun _ _ hX => hX.2.1, ⟨fun _ _ _ _ _ _ => rfl, fun _ _ _ _ _ h => (by cases h)⟩, qz_XK R⟩
theorem qz_at {n k : Nat} {M : cz_M} (h : Nat.beq n k = true) (hM : cz_pg.1[k]? = some M) : cz_pg.1[n]? = some M := by
  rw [Nat.eq_of_beq_eq_true h]
  exact hM
