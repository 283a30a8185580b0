/-! Tags as rows, and the reader of the class: the small ones. (Written by wip/p2/py/pv1.py.) -/
theorem tq_88 : tz_T 88 = some (0, 1, 1, (0, 0), [(3, 1, 1000000, 89, 3), (0, 0, 2000, 0, 0)]) := rfl
theorem tq_89 : tz_T 89 = some (1, 1, 1, (2000, 2000), [(0, (-2147483648), 2147483647, 0, 0)]) := rfl
theorem tq_1 : tz_T 1 = some (0, 1, 1, (0, 0), [(3, 1, 1000000, 2, 3), (0, 0, 2000, 0, 0)]) := rfl
theorem tq_2 : tz_T 2 = some (1, 1, 1, (2000, 2000), [(0, (-2147483648), 2147483647, 0, 0)]) := rfl
theorem tq_3 : tz_T 3 = some (0, 3, 1, (0, 0), [(0, (-2147483648), 2147483647, 0, 0), (0, (-2147483648), 2147483647, 0, 0), (0, (-2147483648), 2147483647, 0, 0), (3, 0, 1000000, 5, 0), (1, 0, 1, 0, 0), (0, (-2147483648), 2147483647, 0, 0), (0, (-2147483648), 2147483647, 0, 0), (0, (-2147483648), 2147483647, 0, 0), (0, 0, 2, 0, 0), (0, 0, 20480, 0, 0), (0, 0, 20480, 0, 0), (0, 0, 20480, 0, 0), (0, 0, 20480, 0, 0)]) := rfl
theorem tq_4 : tz_T 4 = some (0, 4, 1, (0, 0), [(0, (-2147483648), 2147483647, 0, 0), (3, 1, 1000000, 3, 0), (0, (-2147483648), 2147483647, 0, 0), (0, (-2147483648), 2147483647, 0, 0), (0, (-2147483648), 2147483647, 0, 0), (3, 0, 1000000, 5, 0), (3, 0, 1000000, 5, 0), (3, 0, 1000000, 5, 0), (3, 0, 1000000, 6, 0)]) := rfl
theorem tq_5 : tz_T 5 = some (1, 1, 1, (0, 18), [(0, (-2147483648), 2147483647, 0, 0)]) := rfl
theorem tq_6 : tz_T 6 = some (0, 13, 1, (0, 0), [(0, (-2147483648), 2147483647, 0, 0), (3, 0, 1000000, 5, 0), (3, 0, 1000000, 5, 0), (3, 0, 1000000, 5, 0), (3, 0, 1000000, 6, 1)]) := rfl
theorem tq_7 : tz_T 7 = some (0, 14, 1, (0, 0), [(0, 0, 3, 0, 0), (3, 1, 1000000, 9, 0)]) := rfl
theorem tq_8 : tz_T 8 = some (0, 14, 1, (0, 0), [(0, 0, 3, 0, 0), (3, 0, 1000000, 9, 0)]) := rfl
theorem tq_9 : tz_T 9 = some (1, 2, 1, (1, 18), [(2, 0, 0, 0, 0)]) := rfl
theorem tq_10 : tz_T 10 = some (0, 10, 1, (0, 0), [(3, 203, 203, 48, 0), (3, 730, 730, 61, 0), (3, 1, 1000000, 1, 0), (3, 1, 1000000, 11, 0), (3, 1, 1000000, 12, 0), (0, 0, 36000, 0, 0), (1, 0, 1, 0, 0), (1, 0, 1, 0, 0)]) := rfl
theorem tq_11 : tz_T 11 = some (1, 1, 1, (2000, 2000), [(0, (-2147483648), 2147483647, 0, 0)]) := rfl
theorem tq_12 : tz_T 12 = some (1, 2, 1, (36000, 36000), [(2, 0, 0, 0, 0)]) := rfl
theorem tq_13 : tz_T 13 = some (0, 12, 1, (0, 0), [(0, 0, 4, 0, 0), (0, (-2147483648), 2147483647, 0, 0), (0, (-2147483648), 2147483647, 0, 0), (0, (-2147483648), 2147483647, 0, 0), (0, (-2147483648), 2147483647, 0, 0), (0, (-2147483648), 2147483647, 0, 0), (0, (-2147483648), 2147483647, 0, 0), (3, 1, 1000000, 15, 3), (3, 1, 1000000, 16, 4), (0, (-2147483648), 2147483647, 0, 0), (0, (-2147483648), 2147483647, 0, 0), (0, (-2147483648), 2147483647, 0, 0), (0, (-2147483648), 2147483647, 0, 0)]) := rfl
theorem tq_14 : tz_T 14 = some (0, 12, 1, (0, 0), [(0, 0, 4, 0, 0), (0, (-2147483648), 2147483647, 0, 0), (0, (-2147483648), 2147483647, 0, 0), (0, (-2147483648), 2147483647, 0, 0), (0, (-2147483648), 2147483647, 0, 0), (0, (-2147483648), 2147483647, 0, 0), (0, (-2147483648), 2147483647, 0, 0), (3, 0, 1000000, 15, 0), (3, 0, 1000000, 16, 0), (0, (-2147483648), 2147483647, 0, 0), (0, (-2147483648), 2147483647, 0, 0), (0, (-2147483648), 2147483647, 0, 0), (0, (-2147483648), 2147483647, 0, 0)]) := rfl
theorem tq_15 : tz_T 15 = some (1, 1, 1, (3, 3), [(0, 0, 38500, 0, 0)]) := rfl
theorem tq_16 : tz_T 16 = some (1, 1, 1, (3, 3), [(0, 0, 18, 0, 0)]) := rfl
theorem tq_17 : tz_T 17 = some (1, 1, 1, (1024, 77100), [(0, (-2147483648), 2147483647, 0, 0)]) := rfl
theorem tq_18 : tz_T 18 = some (1, 8, 1, (64, 4096), [(3, 0, 1000000, 13, 0)]) := rfl
theorem tq_19 : tz_T 19 = some (1, 1, 1, (64, 4096), [(0, (-2147483648), 2147483647, 0, 0)]) := rfl
theorem tq_20 : tz_T 20 = some (1, 8, 1, (64, 4096), [(3, 0, 1000000, 13, 0)]) := rfl
theorem tq_21 : tz_T 21 = some (1, 1, 1, (64, 18700), [(0, (-2147483648), 2147483647, 0, 0)]) := rfl
theorem tq_22 : tz_T 22 = some (1, 1, 1, (0, 512), [(0, 0, 511, 0, 0)]) := rfl
theorem tq_23 : tz_T 23 = some (1, 1, 1, (1024, 300000), [(0, (-2147483648), 2147483647, 0, 0)]) := rfl
theorem tq_24 : tz_T 24 = some (1, 1, 1, (1024, 200000), [(0, (-2147483648), 2147483647, 0, 0)]) := rfl
theorem tq_25 : tz_T 25 = some (1, 0, 1, (1024, 600100), [(4, (-128), 127, 0, 0)]) := rfl
theorem tq_26 : tz_T 26 = some (1, 9, 1, (6, 19), [(3, 1, 1000000, 27, 0)]) := rfl
theorem tq_27 : tz_T 27 = some (0, 15, 0, (0, 0), [(3, 1, 1000000, 28, 0), (4, 0, 0, 0, 0), (0, (-2147483648), 2147483647, 0, 0), (1, 0, 1, 0, 0)]) := rfl
theorem tq_28 : tz_T 28 = some (1, 0, 0, (0, 200), [(4, (-128), 127, 0, 0)]) := rfl
theorem tq_29 : tz_T 29 = some (0, 16, 1, (0, 0), [(3, 0, 1000000, 31, 0), (4, 0, 0, 0, 0), (1, 0, 1, 0, 0), (0, 0, 70000, 0, 0)]) := rfl
theorem tq_30 : tz_T 30 = some (0, 16, 1, (0, 0), [(3, 1, 1000000, 31, 0), (4, 0, 0, 0, 0), (1, 0, 1, 0, 0), (0, 0, 70000, 0, 0)]) := rfl
theorem tq_31 : tz_T 31 = some (1, 0, 1, (0, 200000), [(4, (-128), 127, 0, 0)]) := rfl
theorem tq_32 : tz_T 32 = some (0, 15, 1, (0, 0), [(3, 0, 1000000, 31, 0), (4, 0, 0, 0, 0), (0, (-2147483648), 2147483647, 0, 0), (1, 0, 1, 0, 0)]) := rfl
theorem tq_33 : tz_T 33 = some (0, 15, 1, (0, 0), [(3, 1, 1000000, 31, 0), (4, 0, 0, 0, 0), (0, (-2147483648), 2147483647, 0, 0), (1, 0, 1, 0, 0)]) := rfl
theorem tq_34 : tz_T 34 = some (1, 1, 0, (0, 3072), [(0, (-2147483648), 2147483647, 0, 0)]) := rfl
theorem tq_35 : tz_T 35 = some (1, 2, 1, (1, 1), [(2, 0, 0, 0, 0)]) := rfl
theorem tq_36 : tz_T 36 = some (1, 3, 1, (0, 512), [(1, 0, 1, 0, 0)]) := rfl
theorem tq_37 : tz_T 37 = some (1, 1, 1, (2000, 2000), [(0, (-2147483648), 2147483647, 0, 0)]) := rfl
theorem tq_38 : tz_T 38 = some (1, 1, 1, (0, 0), [(0, (-2147483648), 2147483647, 0, 0)]) := rfl
theorem tq_39 : tz_T 39 = some (2, 0, 1, (0, 0), []) := rfl
theorem tq_40 : tz_T 40 = some (2, 1, 1, (0, 0), []) := rfl
theorem tq_41 : tz_T 41 = some (2, 2, 1, (0, 0), []) := rfl
theorem tq_42 : tz_T 42 = some (2, 3, 1, (0, 0), []) := rfl
theorem tq_43 : tz_T 43 = some (2, 4, 1, (0, 0), []) := rfl
theorem tq_44 : tz_T 44 = some (0, 0, 1, (0, 0), [(3, 194, 194, 45, 0), (0, 0, 4096, 0, 0), (3, 195, 195, 46, 0), (0, 0, 65536, 0, 0), (3, 196, 196, 47, 0), (3, 197, 197, 1, 0), (3, 199, 199, 1, 0), (3, 201, 201, 1, 0), (3, 203, 203, 48, 0), (3, 721, 721, 52, 0), (3, 724, 724, 55, 0), (3, 730, 730, 61, 0), (3, 734, 734, 65, 0), (3, 739, 739, 70, 0), (3, 745, 745, 10, 0), (3, 750, 750, 10, 0)]) := rfl
theorem tq_45 : tz_T 45 = some (1, 0, 1, (4096, 4096), [(4, (-128), 127, 0, 0)]) := rfl
theorem tq_46 : tz_T 46 = some (1, 0, 1, (65536, 65536), [(4, (-128), 127, 0, 0)]) := rfl
theorem tq_47 : tz_T 47 = some (1, 4, 1, (8, 8), [(3, 1, 1000000, 88, 0)]) := rfl
theorem tq_48 : tz_T 48 = some (0, 2, 1, (0, 0), [(3, 204, 204, 49, 0), (0, 1, 513, 0, 0), (3, 205, 205, 50, 0), (3, 206, 206, 51, 0), (0, 0, 256, 0, 0), (0, 0, 256, 0, 0), (1, 0, 1, 0, 0), (3, 207, 207, 3, 0)]) := rfl
theorem tq_49 : tz_T 49 = some (1, 5, 1, (513, 513), [(3, 1, 1000000, 4, 0)]) := rfl
theorem tq_50 : tz_T 50 = some (1, 2, 1, (256, 256), [(2, 0, 0, 0, 0)]) := rfl
theorem tq_51 : tz_T 51 = some (1, 6, 1, (256, 256), [(3, 0, 1000000, 7, 0)]) := rfl
theorem tq_52 : tz_T 52 = some (0, 5, 1, (0, 0), [(3, 194, 194, 45, 0), (3, 203, 203, 48, 0), (3, 722, 722, 53, 0), (3, 723, 723, 54, 0), (0, (-2147483648), 2147483647, 0, 0), (0, (-2147483648), 2147483647, 0, 0)]) := rfl
theorem tq_53 : tz_T 53 = some (1, 1, 1, (7, 7), [(0, 0, 4096, 0, 0)]) := rfl
theorem tq_54 : tz_T 54 = some (1, 1, 1, (7, 7), [(0, 0, 4096, 0, 0)]) := rfl
theorem tq_55 : tz_T 55 = some (0, 6, 1, (0, 0), [(3, 203, 203, 48, 0), (3, 725, 725, 56, 0), (0, 0, 20480, 0, 0), (3, 726, 726, 57, 0), (3, 727, 727, 58, 0), (0, 0, 256, 0, 0), (3, 728, 728, 59, 0), (3, 729, 729, 60, 0), (0, 0, 256, 0, 0)]) := rfl
theorem tq_56 : tz_T 56 = some (1, 1, 1, (20480, 20480), [(0, (-2147483648), 2147483647, 0, 0)]) := rfl
theorem tq_57 : tz_T 57 = some (1, 7, 1, (256, 256), [(3, 0, 1000000, 3, 0)]) := rfl
theorem tq_58 : tz_T 58 = some (1, 1, 1, (256, 256), [(0, 0, 18, 0, 0)]) := rfl
theorem tq_59 : tz_T 59 = some (1, 2, 1, (256, 256), [(2, 0, 0, 0, 0)]) := rfl
theorem tq_60 : tz_T 60 = some (1, 1, 1, (256, 256), [(0, (-2147483648), 2147483647, 0, 0)]) := rfl
theorem tq_61 : tz_T 61 = some (0, 7, 1, (0, 0), [(3, 203, 203, 48, 0), (3, 724, 724, 55, 0), (3, 731, 731, 62, 0), (3, 732, 732, 63, 0), (3, 733, 733, 64, 0)]) := rfl
theorem tq_62 : tz_T 62 = some (1, 1, 1, (2000, 2000), [(0, (-2147483648), 2147483647, 0, 0)]) := rfl
theorem tq_63 : tz_T 63 = some (1, 1, 1, (2000, 2000), [(0, (-2147483648), 2147483647, 0, 0)]) := rfl
theorem tq_64 : tz_T 64 = some (1, 1, 1, (2000, 2000), [(0, (-2147483648), 2147483647, 0, 0)]) := rfl
theorem tq_65 : tz_T 65 = some (0, 8, 1, (0, 0), [(3, 203, 203, 48, 0), (3, 735, 735, 66, 0), (3, 736, 736, 67, 0), (3, 737, 737, 68, 0), (3, 738, 738, 69, 0), (0, 0, 2000, 0, 0), (1, 0, 1, 0, 0)]) := rfl
theorem tq_66 : tz_T 66 = some (1, 1, 1, (2000, 2000), [(0, (-2147483648), 2147483647, 0, 0)]) := rfl
theorem tq_67 : tz_T 67 = some (1, 3, 1, (2000, 2000), [(1, 0, 1, 0, 0)]) := rfl
theorem tq_68 : tz_T 68 = some (1, 1, 1, (2000, 2000), [(0, 0, 1999, 0, 0)]) := rfl
theorem tq_69 : tz_T 69 = some (1, 3, 1, (2000, 2000), [(1, 0, 1, 0, 0)]) := rfl
theorem tq_70 : tz_T 70 = some (0, 9, 1, (0, 0), [(3, 203, 203, 48, 0), (3, 734, 734, 65, 0), (3, 740, 740, 71, 0), (3, 741, 741, 72, 0), (3, 742, 742, 73, 0), (3, 743, 743, 74, 0), (3, 1, 1000000, 0, 2), (0, 0, 2000, 0, 0), (0, (-2147483648), 2147483647, 0, 0), (1, 0, 1, 0, 0)]) := rfl
theorem tq_71 : tz_T 71 = some (1, 1, 1, (2000, 2000), [(0, 0, 512, 0, 0)]) := rfl
theorem tq_72 : tz_T 72 = some (1, 1, 1, (2000, 2000), [(0, (-2147483648), 2147483647, 0, 0)]) := rfl
theorem tq_73 : tz_T 73 = some (1, 1, 1, (2000, 2000), [(0, (-2147483648), 2147483647, 0, 0)]) := rfl
theorem tq_74 : tz_T 74 = some (1, 3, 1, (2000, 2000), [(1, 0, 1, 0, 0)]) := rfl
theorem tq_75 : tz_T 75 = some (0, 11, 1, (0, 0), [(0, 0, 3, 0, 0), (3, 772, 772, 76, 0), (0, 0, 4096, 0, 0), (3, 773, 773, 77, 0), (0, 0, 65536, 0, 0), (3, 774, 774, 78, 0), (3, 783, 783, 79, 0), (1, 0, 1, 0, 0), (0, (-2147483648), 2147483647, 0, 0), (3, 1, 1000000, 17, 0), (0, 0, 38500, 0, 0), (3, 1, 1000000, 18, 0), (0, 0, 512, 0, 0), (3, 786, 786, 26, 0), (3, 787, 787, 26, 0), (3, 788, 788, 26, 0), (3, 789, 789, 26, 0), (0, 0, 4200, 0, 0), (0, 0, 4096, 0, 0), (3, 790, 790, 80, 0), (3, 791, 791, 81, 0), (3, 1, 1000000, 19, 0), (3, 1, 1000000, 20, 0), (0, 0, 512, 0, 0), (3, 1, 1000000, 21, 0), (0, 0, 9300, 0, 0), (3, 795, 795, 82, 0), (3, 1, 1000000, 22, 0), (0, 0, 512, 0, 0), (3, 797, 797, 83, 0), (0, 0, 2000, 0, 0), (3, 798, 798, 84, 0), (3, 799, 799, 85, 0), (0, 0, 2000, 0, 0), (3, 800, 800, 86, 0), (3, 1, 1000000, 23, 0), (0, 0, 36000, 0, 0), (3, 802, 802, 87, 0), (3, 1, 1000000, 24, 0), (3, 1, 1000000, 25, 0), (3, 1, 1000000, 25, 0), (0, 0, 300000, 0, 0)]) := rfl
theorem tq_76 : tz_T 76 = some (1, 0, 1, (4096, 4096), [(4, (-128), 127, 0, 0)]) := rfl
theorem tq_77 : tz_T 77 = some (1, 0, 1, (65536, 65536), [(4, (-128), 127, 0, 0)]) := rfl
theorem tq_78 : tz_T 78 = some (1, 10, 1, (8, 8), [(3, 1, 1000000, 37, 0)]) := rfl
theorem tq_79 : tz_T 79 = some (1, 1, 1, (8, 8), [(0, 0, 2000, 0, 0)]) := rfl
theorem tq_80 : tz_T 80 = some (1, 1, 1, (8, 8), [(0, 0, 4096, 0, 0)]) := rfl
theorem tq_81 : tz_T 81 = some (1, 1, 1, (8, 8), [(0, 0, 4096, 0, 0)]) := rfl
theorem tq_82 : tz_T 82 = some (1, 1, 1, (64, 64), [(0, (-2147483648), 2147483647, 0, 0)]) := rfl
theorem tq_83 : tz_T 83 = some (1, 1, 1, (2000, 2000), [(0, (-2147483648), 2147483647, 0, 0)]) := rfl
theorem tq_84 : tz_T 84 = some (1, 1, 1, (2000, 2000), [(0, (-2147483648), 2147483647, 0, 0)]) := rfl
theorem tq_85 : tz_T 85 = some (1, 1, 1, (2000, 2000), [(0, (-2147483648), 2147483647, 0, 0)]) := rfl
theorem tq_86 : tz_T 86 = some (1, 1, 1, (2000, 2000), [(0, (-2147483648), 2147483647, 0, 0)]) := rfl
theorem tq_87 : tz_T 87 = some (1, 1, 1, (4, 4), [(0, (-2147483648), 2147483647, 0, 0)]) := rfl

section EzRd
variable {d : Nat} {h : cz_H} {τ : Nat → Nat} {Q : cz_F → Prop}
/-- a byte of the tape -/
def rz_b (h : cz_H) (i : Int) : Int := qz_I h 193 i.toNat
def rz_bl (h : cz_H) (i : Int) : Prop := rz_b h i = 9 ∨ rz_b h i = 32
theorem rd_isBlank {a : Int} (hB : ez_B τ h) (t720 : τ 720 = 52) (h0 : 0 ≤ a) (h1 : a < 4096) (k1 : rz_bl h a → Q (.inl (some (ez_v (.inl 1))), h)) (k0 : ¬ rz_bl h a → Q (.inl (some (ez_v (.inl 0))), h)) : ez_W d cm_151 0 [(0, .inr (.inr (some 720))), (1, .inl a)] [] h Q := by
  refine ez_go (n := 1) (pc' := 1) (L' := [(0, .inr (.inr (some (720)))), (1, .inl (a))]) (st' := [.inr (.inr (some (720)))]) rfl ?_
  refine ez_gC (p := 193) (tg := 45) hB t720 rfl rfl tq_52 rfl rfl (fun (t193 : _ = 45) => ?_)
  refine ez_go (n := 1) (pc' := 5) (L' := [(0, .inr (.inr (some (720)))), (1, .inl (a))]) (st' := [.inl (a), .inr (.inr (some (193)))]) rfl ?_
  have n2 : 4096 ≤ qz_N h 193 ∧ qz_N h 193 ≤ 4096 := ez_len hB t193 tq_45 rfl
  refine ez_aI hB t193 rfl tq_45 rfl rfl (by omega) (by omega) (fun (b1 : -128 ≤ qz_I h 193 (a).toNat) (b1' : qz_I h 193 (a).toNat ≤ 127) => ?_)
  refine ez_go (n := 1) (pc' := 8) (L' := [(0, .inr (.inr (some (720)))), (1, .inl (a))]) (st' := [.inl (9), .inl (qz_I h 193 (a).toNat)]) rfl ?_
  refine ez_icmp rfl rfl ⟨by omega, by omega⟩ ⟨by omega, by omega⟩ (fun (c3 : (qz_I h 193 (a).toNat) = (9)) => ?_) (fun (c3 : ¬((qz_I h 193 (a).toNat) = (9))) => ?_)
  · skip
    refine ez_go (n := 2) (pc' := 27) (L' := [(0, .inr (.inr (some (720)))), (1, .inl (a))]) (st' := [.inl (1)]) rfl ?_
    exact ez_retZ rfl rfl (by decide) (k1 (by unfold rz_bl rz_b; omega))
  · skip
    refine ez_go (n := 1) (pc' := 12) (L' := [(0, .inr (.inr (some (720)))), (1, .inl (a))]) (st' := [.inr (.inr (some (720)))]) rfl ?_
    refine ez_gC (p := 193) (tg := 45) hB t720 rfl rfl tq_52 rfl rfl (fun (t193 : _ = 45) => ?_)
    refine ez_go (n := 1) (pc' := 16) (L' := [(0, .inr (.inr (some (720)))), (1, .inl (a))]) (st' := [.inl (a), .inr (.inr (some (193)))]) rfl ?_
    have n5 : 4096 ≤ qz_N h 193 ∧ qz_N h 193 ≤ 4096 := ez_len hB t193 tq_45 rfl
    refine ez_aI hB t193 rfl tq_45 rfl rfl (by omega) (by omega) (fun (b4 : -128 ≤ qz_I h 193 (a).toNat) (b4' : qz_I h 193 (a).toNat ≤ 127) => ?_)
    refine ez_go (n := 1) (pc' := 19) (L' := [(0, .inr (.inr (some (720)))), (1, .inl (a))]) (st' := [.inl (32), .inl (qz_I h 193 (a).toNat)]) rfl ?_
    refine ez_icmp rfl rfl ⟨by omega, by omega⟩ ⟨by omega, by omega⟩ (fun (c6 : (qz_I h 193 (a).toNat) ≠ (32)) => ?_) (fun (c6 : ¬((qz_I h 193 (a).toNat) ≠ (32))) => ?_)
    · skip
      refine ez_go (n := 1) (pc' := 27) (L' := [(0, .inr (.inr (some (720)))), (1, .inl (a))]) (st' := [.inl (0)]) rfl ?_
      exact ez_retZ rfl rfl (by decide) (k0 (by unfold rz_bl rz_b; omega))
    · skip
      refine ez_go (n := 2) (pc' := 27) (L' := [(0, .inr (.inr (some (720)))), (1, .inl (a))]) (st' := [.inl (1)]) rfl ?_
      exact ez_retZ rfl rfl (by decide) (k1 (by unfold rz_bl rz_b; omega))
end EzRd
/-! The reader of the class, functionally. (Written by wip/p2/py/pv2.py.) -/
/-- runs over bytes: at most n of them from i on -/
def rz_skip (b : Int → Int) : Nat → Int → Int
  | 0, i => i
  | n + 1, i => if b i = 9 ∨ b i = 32 then rz_skip b n (i + 1) else i
def rz_tok (b : Int → Int) : Nat → Int → Int
  | 0, i => i
  | n + 1, i => if b i = 9 ∨ b i = 32 then i else rz_tok b n (i + 1)
def rz_hex (b : Int → Int) : Nat → Int → Int → Int
  | 0, _, v => v
  | n + 1, i, v => if 48 ≤ b i ∧ b i ≤ 57 then rz_hex b n (i + 1) (v * 16 + b i - 48) else if 65 ≤ b i ∧ b i ≤ 70 then rz_hex b n (i + 1) (v * 16 + b i - 65 + 10) else -1
theorem rz_skip_le (b : Int → Int) : ∀ n i, i ≤ rz_skip b n i ∧ rz_skip b n i ≤ i + n
  | 0, i => ⟨Int.le_refl i, by show i ≤ i + 0; omega⟩
  | n + 1, i => by
    unfold rz_skip
    split
    · have := rz_skip_le b n (i + 1); omega
    · omega
theorem rz_tok_le (b : Int → Int) : ∀ n i, i ≤ rz_tok b n i ∧ rz_tok b n i ≤ i + n
  | 0, i => ⟨Int.le_refl i, by show i ≤ i + 0; omega⟩
  | n + 1, i => by
    unfold rz_tok
    split
    · omega
    · have := rz_tok_le b n (i + 1); omega
section EzRd2
variable {d : Nat} {h : cz_H} {τ : Nat → Nat} {Q : cz_F → Prop}
theorem rd_skipBlanks_l {begin stop : Int} (hB : ez_B τ h) (t720 : τ 720 = 52) (h0 : 0 ≤ begin) (h1 : stop ≤ 4096) : ∀ (n : Nat) (i : Int), begin ≤ i → i ≤ stop → n = (stop - i).toNat → Q (.inl (some (ez_v (.inl (rz_skip (rz_b h) n i)))), h) → ez_W (d + 1) cm_169 2 [(3, .inl (i)), (0, .inr (.inr (some (720)))), (1, .inl (begin)), (2, .inl (stop))] [] h Q := by
  intro n
  induction n with
  | zero =>
    intro i hi1 hi2 hn k
    refine ez_go (n := 2) (pc' := 4) (L' := [(3, .inl (i)), (0, .inr (.inr (some (720)))), (1, .inl (begin)), (2, .inl (stop))]) (st' := [.inl (stop), .inl (i)]) rfl ?_
    refine ez_icmp rfl rfl ⟨by omega, by omega⟩ ⟨by omega, by omega⟩ (fun (c1 : (stop) ≤ (i)) => ?_) (fun (c1 : ¬((stop) ≤ (i))) => ?_)
    · skip
      refine ez_go (n := 1) (pc' := 22) (L' := [(3, .inl (i)), (0, .inr (.inr (some (720)))), (1, .inl (begin)), (2, .inl (stop))]) (st' := [.inl (i)]) rfl ?_
      exact ez_retI rfl rfl k
    · skip
      refine ez_go (n := 2) (pc' := 9) (L' := [(3, .inl (i)), (0, .inr (.inr (some (720)))), (1, .inl (begin)), (2, .inl (stop))]) (st' := [.inl (i), .inr (.inr (some (720)))]) rfl ?_
      exfalso; omega
  | succ n ih =>
    intro i hi1 hi2 hn k
    unfold rz_skip at k
    refine ez_go (n := 2) (pc' := 4) (L' := [(3, .inl (i)), (0, .inr (.inr (some (720)))), (1, .inl (begin)), (2, .inl (stop))]) (st' := [.inl (stop), .inl (i)]) rfl ?_
    refine ez_icmp rfl rfl ⟨by omega, by omega⟩ ⟨by omega, by omega⟩ (fun (c1 : (stop) ≤ (i)) => ?_) (fun (c1 : ¬((stop) ≤ (i))) => ?_)
    · skip
      refine ez_go (n := 1) (pc' := 22) (L' := [(3, .inl (i)), (0, .inr (.inr (some (720)))), (1, .inl (begin)), (2, .inl (stop))]) (st' := [.inl (i)]) rfl ?_
      first | (exfalso; omega) | (rw [if_neg (show ¬(rz_b h i = 9 ∨ rz_b h i = 32) from ‹_›)] at k; exact ez_retI rfl rfl k)
    · skip
      refine ez_go (n := 2) (pc' := 9) (L' := [(3, .inl (i)), (0, .inr (.inr (some (720)))), (1, .inl (begin)), (2, .inl (stop))]) (st' := [.inl (i), .inr (.inr (some (720)))]) rfl ?_
      refine ez_cv hB t720 rfl rfl rfl tq_52 rfl rfl rfl (rd_isBlank hB t720 (by omega) (by omega) (fun (e2 : rz_bl h (i)) => ez_K1 ?_) (fun (e2 : ¬ rz_bl h (i)) => ez_K1 ?_))
      · skip
        refine ez_if rfl rfl ⟨by decide, by decide⟩ (fun (c3 : (1 : Int) = (0)) => absurd c3 (by decide)) (fun _ => ?_)
        refine ez_go (n := 2) (pc' := 2) (L' := [(3, .inl (i + 1)), (0, .inr (.inr (some (720)))), (1, .inl (begin)), (2, .inl (stop))]) (st' := []) rfl ?_
        rw [if_pos (show rz_b h i = 9 ∨ rz_b h i = 32 from ‹_›)] at k
        exact ih _ (by omega) (by omega) (by omega) k
      · skip
        refine ez_if rfl rfl ⟨by decide, by decide⟩ (fun _ => ?_) (fun (c4 : ¬((0 : Int) = (0))) => absurd c4 (by decide))
        refine ez_go (n := 1) (pc' := 22) (L' := [(3, .inl (i)), (0, .inr (.inr (some (720)))), (1, .inl (begin)), (2, .inl (stop))]) (st' := [.inl (i)]) rfl ?_
        first | (exfalso; omega) | (rw [if_neg (show ¬(rz_b h i = 9 ∨ rz_b h i = 32) from ‹_›)] at k; exact ez_retI rfl rfl k)
theorem rd_skipBlanks {begin stop : Int} (hB : ez_B τ h) (t720 : τ 720 = 52) (h0 : 0 ≤ begin) (hbs : begin ≤ stop) (h1 : stop ≤ 4096) (k : Q (.inl (some (ez_v (.inl (rz_skip (rz_b h) (stop - begin).toNat begin)))), h)) : ez_W (d + 1) cm_169 0 [(0, .inr (.inr (some (720)))), (1, .inl (begin)), (2, .inl (stop))] [] h Q := by
  refine ez_go (n := 2) (pc' := 2) (L' := [(3, .inl (begin)), (0, .inr (.inr (some (720)))), (1, .inl (begin)), (2, .inl (stop))]) (st' := []) rfl ?_
  exact rd_skipBlanks_l hB t720 h0 h1 _ _ (by omega) (by omega) rfl k

theorem rd_skipToken_l {begin stop : Int} (hB : ez_B τ h) (t720 : τ 720 = 52) (h0 : 0 ≤ begin) (h1 : stop ≤ 4096) : ∀ (n : Nat) (i : Int), begin ≤ i → i ≤ stop → n = (stop - i).toNat → Q (.inl (some (ez_v (.inl (rz_tok (rz_b h) n i)))), h) → ez_W (d + 1) cm_171 2 [(3, .inl (i)), (0, .inr (.inr (some (720)))), (1, .inl (begin)), (2, .inl (stop))] [] h Q := by
  intro n
  induction n with
  | zero =>
    intro i hi1 hi2 hn k
    refine ez_go (n := 2) (pc' := 4) (L' := [(3, .inl (i)), (0, .inr (.inr (some (720)))), (1, .inl (begin)), (2, .inl (stop))]) (st' := [.inl (stop), .inl (i)]) rfl ?_
    refine ez_icmp rfl rfl ⟨by omega, by omega⟩ ⟨by omega, by omega⟩ (fun (c1 : (stop) ≤ (i)) => ?_) (fun (c1 : ¬((stop) ≤ (i))) => ?_)
    · skip
      refine ez_go (n := 1) (pc' := 22) (L' := [(3, .inl (i)), (0, .inr (.inr (some (720)))), (1, .inl (begin)), (2, .inl (stop))]) (st' := [.inl (i)]) rfl ?_
      exact ez_retI rfl rfl k
    · skip
      refine ez_go (n := 2) (pc' := 9) (L' := [(3, .inl (i)), (0, .inr (.inr (some (720)))), (1, .inl (begin)), (2, .inl (stop))]) (st' := [.inl (i), .inr (.inr (some (720)))]) rfl ?_
      exfalso; omega
  | succ n ih =>
    intro i hi1 hi2 hn k
    unfold rz_tok at k
    refine ez_go (n := 2) (pc' := 4) (L' := [(3, .inl (i)), (0, .inr (.inr (some (720)))), (1, .inl (begin)), (2, .inl (stop))]) (st' := [.inl (stop), .inl (i)]) rfl ?_
    refine ez_icmp rfl rfl ⟨by omega, by omega⟩ ⟨by omega, by omega⟩ (fun (c1 : (stop) ≤ (i)) => ?_) (fun (c1 : ¬((stop) ≤ (i))) => ?_)
    · skip
      refine ez_go (n := 1) (pc' := 22) (L' := [(3, .inl (i)), (0, .inr (.inr (some (720)))), (1, .inl (begin)), (2, .inl (stop))]) (st' := [.inl (i)]) rfl ?_
      first | (exfalso; omega) | (rw [if_pos (show rz_b h i = 9 ∨ rz_b h i = 32 from ‹_›)] at k; exact ez_retI rfl rfl k)
    · skip
      refine ez_go (n := 2) (pc' := 9) (L' := [(3, .inl (i)), (0, .inr (.inr (some (720)))), (1, .inl (begin)), (2, .inl (stop))]) (st' := [.inl (i), .inr (.inr (some (720)))]) rfl ?_
      refine ez_cv hB t720 rfl rfl rfl tq_52 rfl rfl rfl (rd_isBlank hB t720 (by omega) (by omega) (fun (e2 : rz_bl h (i)) => ez_K1 ?_) (fun (e2 : ¬ rz_bl h (i)) => ez_K1 ?_))
      · skip
        refine ez_if rfl rfl ⟨by decide, by decide⟩ (fun _ => ?_) (fun (c3 : ¬((1 : Int) ≠ (0))) => absurd c3 (by decide))
        refine ez_go (n := 1) (pc' := 22) (L' := [(3, .inl (i)), (0, .inr (.inr (some (720)))), (1, .inl (begin)), (2, .inl (stop))]) (st' := [.inl (i)]) rfl ?_
        first | (exfalso; omega) | (rw [if_pos (show rz_b h i = 9 ∨ rz_b h i = 32 from ‹_›)] at k; exact ez_retI rfl rfl k)
      · skip
        refine ez_if rfl rfl ⟨by decide, by decide⟩ (fun (c4 : (0 : Int) ≠ (0)) => absurd c4 (by decide)) (fun _ => ?_)
        refine ez_go (n := 2) (pc' := 2) (L' := [(3, .inl (i + 1)), (0, .inr (.inr (some (720)))), (1, .inl (begin)), (2, .inl (stop))]) (st' := []) rfl ?_
        rw [if_neg (show ¬(rz_b h i = 9 ∨ rz_b h i = 32) from ‹_›)] at k
        exact ih _ (by omega) (by omega) (by omega) k
theorem rd_skipToken {begin stop : Int} (hB : ez_B τ h) (t720 : τ 720 = 52) (h0 : 0 ≤ begin) (hbs : begin ≤ stop) (h1 : stop ≤ 4096) (k : Q (.inl (some (ez_v (.inl (rz_tok (rz_b h) (stop - begin).toNat begin)))), h)) : ez_W (d + 1) cm_171 0 [(0, .inr (.inr (some (720)))), (1, .inl (begin)), (2, .inl (stop))] [] h Q := by
  refine ez_go (n := 2) (pc' := 2) (L' := [(3, .inl (begin)), (0, .inr (.inr (some (720)))), (1, .inl (begin)), (2, .inl (stop))]) (st' := []) rfl ?_
  exact rd_skipToken_l hB t720 h0 h1 _ _ (by omega) (by omega) rfl k

theorem rd_readHex_l {begin stop : Int} (hB : ez_B τ h) (t720 : τ 720 = 52) (h0 : 0 ≤ begin) (h1 : stop ≤ 4096) : ∀ (n : Nat) (i v : Int), begin ≤ i → i ≤ stop → n = (stop - i).toNat → Q (.inl (some (ez_v (.inl (rz_hex (rz_b h) n i v)))), h) → ez_W d cm_165 5 [(4, .inl (i)), (3, .inl (v)), (0, .inr (.inr (some (720)))), (1, .inl (begin)), (2, .inl (stop))] [] h Q := by
  intro n
  induction n with
  | zero =>
    intro i v hi1 hi2 hn k
    refine ez_go (n := 2) (pc' := 8) (L' := [(4, .inl (i)), (3, .inl (v)), (0, .inr (.inr (some (720)))), (1, .inl (begin)), (2, .inl (stop))]) (st' := [.inl (stop), .inl (i)]) rfl ?_
    refine ez_icmp rfl rfl ⟨by omega, by omega⟩ ⟨by omega, by omega⟩ (fun (c1 : (stop) ≤ (i)) => ?_) (fun (c1 : ¬((stop) ≤ (i))) => ?_)
    · skip
      refine ez_go (n := 1) (pc' := 88) (L' := [(4, .inl (i)), (3, .inl (v)), (0, .inr (.inr (some (720)))), (1, .inl (begin)), (2, .inl (stop))]) (st' := [.inl (v)]) rfl ?_
      exact ez_retI rfl rfl k
    · skip
      exfalso; omega
  | succ n ih =>
    intro i v hi1 hi2 hn k
    unfold rz_hex rz_b at k
    refine ez_go (n := 2) (pc' := 8) (L' := [(4, .inl (i)), (3, .inl (v)), (0, .inr (.inr (some (720)))), (1, .inl (begin)), (2, .inl (stop))]) (st' := [.inl (stop), .inl (i)]) rfl ?_
    refine ez_icmp rfl rfl ⟨by omega, by omega⟩ ⟨by omega, by omega⟩ (fun (c1 : (stop) ≤ (i)) => ?_) (fun (c1 : ¬((stop) ≤ (i))) => ?_)
    · skip
      refine ez_go (n := 1) (pc' := 88) (L' := [(4, .inl (i)), (3, .inl (v)), (0, .inr (.inr (some (720)))), (1, .inl (begin)), (2, .inl (stop))]) (st' := [.inl (v)]) rfl ?_
      first | (exfalso; omega) | (rw [if_neg (by omega), if_neg (by omega)] at k; exact ez_retI rfl rfl k)
    · skip
      refine ez_go (n := 1) (pc' := 12) (L' := [(4, .inl (i)), (3, .inl (v)), (0, .inr (.inr (some (720)))), (1, .inl (begin)), (2, .inl (stop))]) (st' := [.inr (.inr (some (720)))]) rfl ?_
      refine ez_gC (p := 193) (tg := 45) hB t720 rfl rfl tq_52 rfl rfl (fun (t193 : _ = 45) => ?_)
      refine ez_go (n := 1) (pc' := 17) (L' := [(4, .inl (i)), (3, .inl (v)), (0, .inr (.inr (some (720)))), (1, .inl (begin)), (2, .inl (stop))]) (st' := [.inl (i), .inr (.inr (some (193)))]) rfl ?_
      have n3 : 4096 ≤ qz_N h 193 ∧ qz_N h 193 ≤ 4096 := ez_len hB t193 tq_45 rfl
      refine ez_aI hB t193 rfl tq_45 rfl rfl (by omega) (by omega) (fun (b2 : -128 ≤ qz_I h 193 (i).toNat) (b2' : qz_I h 193 (i).toNat ≤ 127) => ?_)
      refine ez_go (n := 3) (pc' := 24) (L' := [(5, .inl (qz_I h 193 (i).toNat)), (4, .inl (i)), (3, .inl (v)), (0, .inr (.inr (some (720)))), (1, .inl (begin)), (2, .inl (stop))]) (st' := [.inl (48), .inl (qz_I h 193 (i).toNat)]) rfl ?_
      refine ez_icmp rfl rfl ⟨by omega, by omega⟩ ⟨by omega, by omega⟩ (fun (c4 : (qz_I h 193 (i).toNat) < (48)) => ?_) (fun (c4 : ¬((qz_I h 193 (i).toNat) < (48))) => ?_)
      · skip
        refine ez_go (n := 2) (pc' := 52) (L' := [(5, .inl (qz_I h 193 (i).toNat)), (4, .inl (i)), (3, .inl (v)), (0, .inr (.inr (some (720)))), (1, .inl (begin)), (2, .inl (stop))]) (st' := [.inl (65), .inl (qz_I h 193 (i).toNat)]) rfl ?_
        refine ez_icmp rfl rfl ⟨by omega, by omega⟩ ⟨by omega, by omega⟩ (fun (c5 : (qz_I h 193 (i).toNat) < (65)) => ?_) (fun (c5 : ¬((qz_I h 193 (i).toNat) < (65))) => ?_)
        · skip
          refine ez_go (n := 1) (pc' := 80) (L' := [(5, .inl (qz_I h 193 (i).toNat)), (4, .inl (i)), (3, .inl (v)), (0, .inr (.inr (some (720)))), (1, .inl (begin)), (2, .inl (stop))]) (st' := [.inl (-1)]) rfl ?_
          first | (exfalso; omega) | (rw [if_neg (by omega), if_neg (by omega)] at k; exact ez_retI rfl rfl k)
        · skip
          refine ez_go (n := 2) (pc' := 59) (L' := [(5, .inl (qz_I h 193 (i).toNat)), (4, .inl (i)), (3, .inl (v)), (0, .inr (.inr (some (720)))), (1, .inl (begin)), (2, .inl (stop))]) (st' := [.inl (70), .inl (qz_I h 193 (i).toNat)]) rfl ?_
          refine ez_icmp rfl rfl ⟨by omega, by omega⟩ ⟨by omega, by omega⟩ (fun (c6 : (70) < (qz_I h 193 (i).toNat)) => ?_) (fun (c6 : ¬((70) < (qz_I h 193 (i).toNat))) => ?_)
          · skip
            refine ez_go (n := 1) (pc' := 80) (L' := [(5, .inl (qz_I h 193 (i).toNat)), (4, .inl (i)), (3, .inl (v)), (0, .inr (.inr (some (720)))), (1, .inl (begin)), (2, .inl (stop))]) (st' := [.inl (-1)]) rfl ?_
            first | (exfalso; omega) | (rw [if_neg (by omega), if_neg (by omega)] at k; exact ez_retI rfl rfl k)
          · skip
            refine ez_go (n := 13) (pc' := 5) (L' := [(4, .inl (i + 1)), (3, .inl (((((v) * (16)) + (qz_I h 193 (i).toNat)) - (65)) + (10))), (5, .inl (qz_I h 193 (i).toNat)), (0, .inr (.inr (some (720)))), (1, .inl (begin)), (2, .inl (stop))]) (st' := []) rfl ?_
            refine ez_less [(4, .inl (i + 1)), (3, .inl (((((v) * (16)) + (qz_I h 193 (i).toNat)) - (65)) + (10))), (0, .inr (.inr (some (720)))), (1, .inl (begin)), (2, .inl (stop))] rfl ⟨rfl, rfl, rfl, rfl, rfl, trivial⟩ ?_
            first | (rw [if_pos (by omega)] at k; exact ih _ _ (by omega) (by omega) (by omega) k) | (rw [if_neg (by omega), if_pos (by omega)] at k; exact ih _ _ (by omega) (by omega) (by omega) k)
      · skip
        refine ez_go (n := 2) (pc' := 31) (L' := [(5, .inl (qz_I h 193 (i).toNat)), (4, .inl (i)), (3, .inl (v)), (0, .inr (.inr (some (720)))), (1, .inl (begin)), (2, .inl (stop))]) (st' := [.inl (57), .inl (qz_I h 193 (i).toNat)]) rfl ?_
        refine ez_icmp rfl rfl ⟨by omega, by omega⟩ ⟨by omega, by omega⟩ (fun (c7 : (57) < (qz_I h 193 (i).toNat)) => ?_) (fun (c7 : ¬((57) < (qz_I h 193 (i).toNat))) => ?_)
        · skip
          refine ez_go (n := 2) (pc' := 52) (L' := [(5, .inl (qz_I h 193 (i).toNat)), (4, .inl (i)), (3, .inl (v)), (0, .inr (.inr (some (720)))), (1, .inl (begin)), (2, .inl (stop))]) (st' := [.inl (65), .inl (qz_I h 193 (i).toNat)]) rfl ?_
          refine ez_icmp rfl rfl ⟨by omega, by omega⟩ ⟨by omega, by omega⟩ (fun (c8 : (qz_I h 193 (i).toNat) < (65)) => ?_) (fun (c8 : ¬((qz_I h 193 (i).toNat) < (65))) => ?_)
          · skip
            refine ez_go (n := 1) (pc' := 80) (L' := [(5, .inl (qz_I h 193 (i).toNat)), (4, .inl (i)), (3, .inl (v)), (0, .inr (.inr (some (720)))), (1, .inl (begin)), (2, .inl (stop))]) (st' := [.inl (-1)]) rfl ?_
            first | (exfalso; omega) | (rw [if_neg (by omega), if_neg (by omega)] at k; exact ez_retI rfl rfl k)
          · skip
            refine ez_go (n := 2) (pc' := 59) (L' := [(5, .inl (qz_I h 193 (i).toNat)), (4, .inl (i)), (3, .inl (v)), (0, .inr (.inr (some (720)))), (1, .inl (begin)), (2, .inl (stop))]) (st' := [.inl (70), .inl (qz_I h 193 (i).toNat)]) rfl ?_
            refine ez_icmp rfl rfl ⟨by omega, by omega⟩ ⟨by omega, by omega⟩ (fun (c9 : (70) < (qz_I h 193 (i).toNat)) => ?_) (fun (c9 : ¬((70) < (qz_I h 193 (i).toNat))) => ?_)
            · skip
              refine ez_go (n := 1) (pc' := 80) (L' := [(5, .inl (qz_I h 193 (i).toNat)), (4, .inl (i)), (3, .inl (v)), (0, .inr (.inr (some (720)))), (1, .inl (begin)), (2, .inl (stop))]) (st' := [.inl (-1)]) rfl ?_
              first | (exfalso; omega) | (rw [if_neg (by omega), if_neg (by omega)] at k; exact ez_retI rfl rfl k)
            · skip
              refine ez_go (n := 13) (pc' := 5) (L' := [(4, .inl (i + 1)), (3, .inl (((((v) * (16)) + (qz_I h 193 (i).toNat)) - (65)) + (10))), (5, .inl (qz_I h 193 (i).toNat)), (0, .inr (.inr (some (720)))), (1, .inl (begin)), (2, .inl (stop))]) (st' := []) rfl ?_
              refine ez_less [(4, .inl (i + 1)), (3, .inl (((((v) * (16)) + (qz_I h 193 (i).toNat)) - (65)) + (10))), (0, .inr (.inr (some (720)))), (1, .inl (begin)), (2, .inl (stop))] rfl ⟨rfl, rfl, rfl, rfl, rfl, trivial⟩ ?_
              first | (rw [if_pos (by omega)] at k; exact ih _ _ (by omega) (by omega) (by omega) k) | (rw [if_neg (by omega), if_pos (by omega)] at k; exact ih _ _ (by omega) (by omega) (by omega) k)
        · skip
          refine ez_go (n := 11) (pc' := 5) (L' := [(4, .inl (i + 1)), (3, .inl ((((v) * (16)) + (qz_I h 193 (i).toNat)) - (48))), (5, .inl (qz_I h 193 (i).toNat)), (0, .inr (.inr (some (720)))), (1, .inl (begin)), (2, .inl (stop))]) (st' := []) rfl ?_
          refine ez_less [(4, .inl (i + 1)), (3, .inl ((((v) * (16)) + (qz_I h 193 (i).toNat)) - (48))), (0, .inr (.inr (some (720)))), (1, .inl (begin)), (2, .inl (stop))] rfl ⟨rfl, rfl, rfl, rfl, rfl, trivial⟩ ?_
          first | (rw [if_pos (by omega)] at k; exact ih _ _ (by omega) (by omega) (by omega) k) | (rw [if_neg (by omega), if_pos (by omega)] at k; exact ih _ _ (by omega) (by omega) (by omega) k)
theorem rd_readHex {begin stop : Int} (hB : ez_B τ h) (t720 : τ 720 = 52) (h0 : 0 ≤ begin) (hbs : begin ≤ stop) (h1 : stop ≤ 4096) (k : Q (.inl (some (ez_v (.inl (rz_hex (rz_b h) (stop - begin).toNat begin 0)))), h)) : ez_W d cm_165 0 [(0, .inr (.inr (some (720)))), (1, .inl (begin)), (2, .inl (stop))] [] h Q := by
  refine ez_go (n := 4) (pc' := 5) (L' := [(4, .inl (begin)), (3, .inl (0)), (0, .inr (.inr (some (720)))), (1, .inl (begin)), (2, .inl (stop))]) (st' := []) rfl ?_
  exact rd_readHex_l hB t720 h0 h1 _ _ _ (by omega) (by omega) rfl k

end EzRd2
/-! The reader of the class, functionally, II. (Written by wip/p2/py/pv3.py.) -/
def rz_pl (b : Int → Int) (i : Int) : Prop := b i = 9 ∨ (32 ≤ b i ∧ b i ≤ 126)
def rz_plain (b : Int → Int) (n : Int) : Prop := ∀ i, 0 ≤ i → i < n → rz_pl b i
/-- a CODE from s to e, or -1 -/
def rz_code (b : Int → Int) (s e : Int) : Int := if e - s < 4 ∨ 6 < e - s ∨ (4 < e - s ∧ b s = 48) then -1 else if rz_hex b (e - s).toNat s 0 ≤ 1114111 then rz_hex b (e - s).toNat s 0 else -1
/-- six digits at most: no more than 16777215 -/
theorem rz_hex_bd (b : Int → Int) : ∀ (n : Nat) (i v m : Int), 0 ≤ v → v < m → 0 < m → -1 ≤ rz_hex b n i v ∧ rz_hex b n i v < m * 16 ^ n
  | 0, i, v, m, h0, h1, h2 => by unfold rz_hex; simp; omega
  | n + 1, i, v, m, h0, h1, h2 => by
    have e : m * 16 ^ (n + 1) = (m * 16) * 16 ^ n := by rw [Int.pow_succ, Int.mul_comm (16 ^ n) 16, Int.mul_assoc]
    unfold rz_hex
    rw [e]
    split
    · exact rz_hex_bd b n _ _ _ (by omega) (by omega) (by omega)
    · split
      · exact rz_hex_bd b n _ _ _ (by omega) (by omega) (by omega)
      · refine ⟨by omega, ?_⟩
        have : 0 < (16 : Int) ^ n := Int.pow_pos (by decide)
        have : 0 < (m * 16) * 16 ^ n := Int.mul_pos (by omega) this
        omega
section EzRd3
variable {d : Nat} {h : cz_H} {τ : Nat → Nat} {Q : cz_F → Prop}
/-- where a field begins, where it ends -/
def rz_f (h : cz_H) (k : Int) : Int := qz_I h 721 k.toNat
def rz_t (h : cz_H) (k : Int) : Int := qz_I h 722 k.toNat
theorem rd_isPlain_l {n : Int} (hB : ez_B τ h) (t720 : τ 720 = 52) (h1 : n ≤ 4096) (k1 : rz_plain (rz_b h) n → Q (.inl (some (ez_v (.inl 1))), h)) (k0 : ¬ rz_plain (rz_b h) n → Q (.inl (some (ez_v (.inl 0))), h)) : ∀ (m : Nat) (i : Int), 0 ≤ i → i ≤ n → m = (n - i).toNat → (∀ j, 0 ≤ j → j < i → rz_pl (rz_b h) j) → ez_W d cm_155 2 [(2, .inl (i)), (0, .inr (.inr (some (720)))), (1, .inl (n))] [] h Q := by
  intro m
  induction m with
  | zero =>
    intro i hi1 hi2 hn hp
    refine ez_go (n := 2) (pc' := 4) (L' := [(2, .inl (i)), (0, .inr (.inr (some (720)))), (1, .inl (n))]) (st' := [.inl (n), .inl (i)]) rfl ?_
    refine ez_icmp rfl rfl ⟨by omega, by omega⟩ ⟨by omega, by omega⟩ (fun (c1 : (n) ≤ (i)) => ?_) (fun (c1 : ¬((n) ≤ (i))) => ?_)
    · skip
      refine ez_go (n := 1) (pc' := 49) (L' := [(2, .inl (i)), (0, .inr (.inr (some (720)))), (1, .inl (n))]) (st' := [.inl (1)]) rfl ?_
      exact ez_retZ rfl rfl (by decide) (k1 (fun j j1 j2 => hp j j1 (by omega)))
    · skip
      exfalso; omega
  | succ m ih =>
    intro i hi1 hi2 hn hp
    refine ez_go (n := 2) (pc' := 4) (L' := [(2, .inl (i)), (0, .inr (.inr (some (720)))), (1, .inl (n))]) (st' := [.inl (n), .inl (i)]) rfl ?_
    refine ez_icmp rfl rfl ⟨by omega, by omega⟩ ⟨by omega, by omega⟩ (fun (c1 : (n) ≤ (i)) => ?_) (fun (c1 : ¬((n) ≤ (i))) => ?_)
    · skip
      refine ez_go (n := 1) (pc' := 49) (L' := [(2, .inl (i)), (0, .inr (.inr (some (720)))), (1, .inl (n))]) (st' := [.inl (1)]) rfl ?_
      exfalso; omega
    · skip
      refine ez_go (n := 1) (pc' := 8) (L' := [(2, .inl (i)), (0, .inr (.inr (some (720)))), (1, .inl (n))]) (st' := [.inr (.inr (some (720)))]) rfl ?_
      refine ez_gC (p := 193) (tg := 45) hB t720 rfl rfl tq_52 rfl rfl (fun (t193 : _ = 45) => ?_)
      refine ez_go (n := 1) (pc' := 12) (L' := [(2, .inl (i)), (0, .inr (.inr (some (720)))), (1, .inl (n))]) (st' := [.inl (i), .inr (.inr (some (193)))]) rfl ?_
      have n3 : 4096 ≤ qz_N h 193 ∧ qz_N h 193 ≤ 4096 := ez_len hB t193 tq_45 rfl
      refine ez_aI hB t193 rfl tq_45 rfl rfl (by omega) (by omega) (fun (b2 : -128 ≤ qz_I h 193 (i).toNat) (b2' : qz_I h 193 (i).toNat ≤ 127) => ?_)
      refine ez_go (n := 1) (pc' := 15) (L' := [(2, .inl (i)), (0, .inr (.inr (some (720)))), (1, .inl (n))]) (st' := [.inl (9), .inl (qz_I h 193 (i).toNat)]) rfl ?_
      refine ez_icmp rfl rfl ⟨by omega, by omega⟩ ⟨by omega, by omega⟩ (fun (c4 : (qz_I h 193 (i).toNat) = (9)) => ?_) (fun (c4 : ¬((qz_I h 193 (i).toNat) = (9))) => ?_)
      · skip
        refine ez_go (n := 2) (pc' := 2) (L' := [(2, .inl (i + 1)), (0, .inr (.inr (some (720)))), (1, .inl (n))]) (st' := []) rfl ?_
        refine ez_less [(2, .inl (i + 1)), (0, .inr (.inr (some (720)))), (1, .inl (n))] rfl ⟨rfl, rfl, rfl, trivial⟩ ?_
        exact ih _ (by omega) (by omega) (by omega) (fun j j1 j2 => by by_cases e : j = i; (· subst e; unfold rz_pl rz_b; omega); (· exact hp j j1 (by omega)))
      · skip
        refine ez_go (n := 1) (pc' := 19) (L' := [(2, .inl (i)), (0, .inr (.inr (some (720)))), (1, .inl (n))]) (st' := [.inr (.inr (some (720)))]) rfl ?_
        refine ez_gC (p := 193) (tg := 45) hB t720 rfl rfl tq_52 rfl rfl (fun (t193 : _ = 45) => ?_)
        refine ez_go (n := 1) (pc' := 23) (L' := [(2, .inl (i)), (0, .inr (.inr (some (720)))), (1, .inl (n))]) (st' := [.inl (i), .inr (.inr (some (193)))]) rfl ?_
        have n6 : 4096 ≤ qz_N h 193 ∧ qz_N h 193 ≤ 4096 := ez_len hB t193 tq_45 rfl
        refine ez_aI hB t193 rfl tq_45 rfl rfl (by omega) (by omega) (fun (b5 : -128 ≤ qz_I h 193 (i).toNat) (b5' : qz_I h 193 (i).toNat ≤ 127) => ?_)
        refine ez_go (n := 1) (pc' := 26) (L' := [(2, .inl (i)), (0, .inr (.inr (some (720)))), (1, .inl (n))]) (st' := [.inl (32), .inl (qz_I h 193 (i).toNat)]) rfl ?_
        refine ez_icmp rfl rfl ⟨by omega, by omega⟩ ⟨by omega, by omega⟩ (fun (c7 : (qz_I h 193 (i).toNat) < (32)) => ?_) (fun (c7 : ¬((qz_I h 193 (i).toNat) < (32))) => ?_)
        · skip
          refine ez_go (n := 1) (pc' := 41) (L' := [(2, .inl (i)), (0, .inr (.inr (some (720)))), (1, .inl (n))]) (st' := [.inl (0)]) rfl ?_
          exact ez_retZ rfl rfl (by decide) (k0 (fun w => by have := w i hi1 (by omega); unfold rz_pl rz_b at this; omega))
        · skip
          refine ez_go (n := 1) (pc' := 30) (L' := [(2, .inl (i)), (0, .inr (.inr (some (720)))), (1, .inl (n))]) (st' := [.inr (.inr (some (720)))]) rfl ?_
          refine ez_gC (p := 193) (tg := 45) hB t720 rfl rfl tq_52 rfl rfl (fun (t193 : _ = 45) => ?_)
          refine ez_go (n := 1) (pc' := 34) (L' := [(2, .inl (i)), (0, .inr (.inr (some (720)))), (1, .inl (n))]) (st' := [.inl (i), .inr (.inr (some (193)))]) rfl ?_
          have n9 : 4096 ≤ qz_N h 193 ∧ qz_N h 193 ≤ 4096 := ez_len hB t193 tq_45 rfl
          refine ez_aI hB t193 rfl tq_45 rfl rfl (by omega) (by omega) (fun (b8 : -128 ≤ qz_I h 193 (i).toNat) (b8' : qz_I h 193 (i).toNat ≤ 127) => ?_)
          refine ez_go (n := 1) (pc' := 37) (L' := [(2, .inl (i)), (0, .inr (.inr (some (720)))), (1, .inl (n))]) (st' := [.inl (126), .inl (qz_I h 193 (i).toNat)]) rfl ?_
          refine ez_icmp rfl rfl ⟨by omega, by omega⟩ ⟨by omega, by omega⟩ (fun (c10 : (qz_I h 193 (i).toNat) ≤ (126)) => ?_) (fun (c10 : ¬((qz_I h 193 (i).toNat) ≤ (126))) => ?_)
          · skip
            refine ez_go (n := 2) (pc' := 2) (L' := [(2, .inl (i + 1)), (0, .inr (.inr (some (720)))), (1, .inl (n))]) (st' := []) rfl ?_
            refine ez_less [(2, .inl (i + 1)), (0, .inr (.inr (some (720)))), (1, .inl (n))] rfl ⟨rfl, rfl, rfl, trivial⟩ ?_
            exact ih _ (by omega) (by omega) (by omega) (fun j j1 j2 => by by_cases e : j = i; (· subst e; unfold rz_pl rz_b; omega); (· exact hp j j1 (by omega)))
          · skip
            refine ez_go (n := 1) (pc' := 41) (L' := [(2, .inl (i)), (0, .inr (.inr (some (720)))), (1, .inl (n))]) (st' := [.inl (0)]) rfl ?_
            exact ez_retZ rfl rfl (by decide) (k0 (fun w => by have := w i hi1 (by omega); unfold rz_pl rz_b at this; omega))
theorem rd_isPlain {n : Int} (hB : ez_B τ h) (t720 : τ 720 = 52) (h0 : 0 ≤ n) (h1 : n ≤ 4096) (k1 : rz_plain (rz_b h) n → Q (.inl (some (ez_v (.inl 1))), h)) (k0 : ¬ rz_plain (rz_b h) n → Q (.inl (some (ez_v (.inl 0))), h)) : ez_W d cm_155 0 [(0, .inr (.inr (some (720)))), (1, .inl (n))] [] h Q := by
  refine ez_go (n := 2) (pc' := 2) (L' := [(2, .inl (0)), (0, .inr (.inr (some (720)))), (1, .inl (n))]) (st' := []) rfl ?_
  exact rd_isPlain_l hB t720 h1 k1 k0 _ _ (by omega) (by omega) rfl (fun j j1 j2 => (by omega))

theorem rd_commentStart_l {n : Int} (hB : ez_B τ h) (t720 : τ 720 = 52) (h1 : n ≤ 4096) (k : ∀ c, 0 ≤ c → c ≤ n → (∀ j, 0 ≤ j → j < c → rz_b h j ≠ 35) → (c = n ∨ rz_b h c = 35) → Q (.inl (some (ez_v (.inl c))), h)) : ∀ (m : Nat) (i : Int), 0 ≤ i → i ≤ n → m = (n - i).toNat → (∀ j, 0 ≤ j → j < i → rz_b h j ≠ 35) → ez_W d cm_147 2 [(2, .inl (i)), (0, .inr (.inr (some (720)))), (1, .inl (n))] [] h Q := by
  intro m
  induction m with
  | zero =>
    intro i hi1 hi2 hn hp
    refine ez_go (n := 2) (pc' := 4) (L' := [(2, .inl (i)), (0, .inr (.inr (some (720)))), (1, .inl (n))]) (st' := [.inl (n), .inl (i)]) rfl ?_
    refine ez_icmp rfl rfl ⟨by omega, by omega⟩ ⟨by omega, by omega⟩ (fun (c1 : (n) ≤ (i)) => ?_) (fun (c1 : ¬((n) ≤ (i))) => ?_)
    · skip
      refine ez_go (n := 1) (pc' := 27) (L' := [(2, .inl (i)), (0, .inr (.inr (some (720)))), (1, .inl (n))]) (st' := [.inl (n)]) rfl ?_
      exact ez_retI rfl rfl (k n (by omega) (by omega) (fun j j1 j2 => hp j j1 (by omega)) (Or.inl rfl))
    · skip
      exfalso; omega
  | succ m ih =>
    intro i hi1 hi2 hn hp
    refine ez_go (n := 2) (pc' := 4) (L' := [(2, .inl (i)), (0, .inr (.inr (some (720)))), (1, .inl (n))]) (st' := [.inl (n), .inl (i)]) rfl ?_
    refine ez_icmp rfl rfl ⟨by omega, by omega⟩ ⟨by omega, by omega⟩ (fun (c1 : (n) ≤ (i)) => ?_) (fun (c1 : ¬((n) ≤ (i))) => ?_)
    · skip
      refine ez_go (n := 1) (pc' := 27) (L' := [(2, .inl (i)), (0, .inr (.inr (some (720)))), (1, .inl (n))]) (st' := [.inl (n)]) rfl ?_
      exfalso; omega
    · skip
      refine ez_go (n := 1) (pc' := 8) (L' := [(2, .inl (i)), (0, .inr (.inr (some (720)))), (1, .inl (n))]) (st' := [.inr (.inr (some (720)))]) rfl ?_
      refine ez_gC (p := 193) (tg := 45) hB t720 rfl rfl tq_52 rfl rfl (fun (t193 : _ = 45) => ?_)
      refine ez_go (n := 1) (pc' := 12) (L' := [(2, .inl (i)), (0, .inr (.inr (some (720)))), (1, .inl (n))]) (st' := [.inl (i), .inr (.inr (some (193)))]) rfl ?_
      have n3 : 4096 ≤ qz_N h 193 ∧ qz_N h 193 ≤ 4096 := ez_len hB t193 tq_45 rfl
      refine ez_aI hB t193 rfl tq_45 rfl rfl (by omega) (by omega) (fun (b2 : -128 ≤ qz_I h 193 (i).toNat) (b2' : qz_I h 193 (i).toNat ≤ 127) => ?_)
      refine ez_go (n := 1) (pc' := 15) (L' := [(2, .inl (i)), (0, .inr (.inr (some (720)))), (1, .inl (n))]) (st' := [.inl (35), .inl (qz_I h 193 (i).toNat)]) rfl ?_
      refine ez_icmp rfl rfl ⟨by omega, by omega⟩ ⟨by omega, by omega⟩ (fun (c4 : (qz_I h 193 (i).toNat) ≠ (35)) => ?_) (fun (c4 : ¬((qz_I h 193 (i).toNat) ≠ (35))) => ?_)
      · skip
        refine ez_go (n := 2) (pc' := 2) (L' := [(2, .inl (i + 1)), (0, .inr (.inr (some (720)))), (1, .inl (n))]) (st' := []) rfl ?_
        refine ez_less [(2, .inl (i + 1)), (0, .inr (.inr (some (720)))), (1, .inl (n))] rfl ⟨rfl, rfl, rfl, trivial⟩ ?_
        exact ih _ (by omega) (by omega) (by omega) (fun j j1 j2 => by by_cases e : j = i; (· subst e; unfold rz_b; omega); (· exact hp j j1 (by omega)))
      · skip
        refine ez_go (n := 1) (pc' := 19) (L' := [(2, .inl (i)), (0, .inr (.inr (some (720)))), (1, .inl (n))]) (st' := [.inl (i)]) rfl ?_
        exact ez_retI rfl rfl (k i (by omega) (by omega) hp (Or.inr (by unfold rz_b; omega)))
theorem rd_commentStart {n : Int} (hB : ez_B τ h) (t720 : τ 720 = 52) (h0 : 0 ≤ n) (h1 : n ≤ 4096) (k : ∀ c, 0 ≤ c → c ≤ n → (∀ j, 0 ≤ j → j < c → rz_b h j ≠ 35) → (c = n ∨ rz_b h c = 35) → Q (.inl (some (ez_v (.inl c))), h)) : ez_W d cm_147 0 [(0, .inr (.inr (some (720)))), (1, .inl (n))] [] h Q := by
  refine ez_go (n := 2) (pc' := 2) (L' := [(2, .inl (0)), (0, .inr (.inr (some (720)))), (1, .inl (n))]) (st' := []) rfl ?_
  exact rd_commentStart_l hB t720 h1 k _ _ (by omega) (by omega) rfl (fun j j1 j2 => (by omega))

theorem rz_pow6 {n : Nat} (h : n ≤ 6) : (16 : Int) ^ n ≤ 16777216 := by
  have : n = 0 ∨ n = 1 ∨ n = 2 ∨ n = 3 ∨ n = 4 ∨ n = 5 ∨ n = 6 := by omega
  rcases this with rfl | rfl | rfl | rfl | rfl | rfl | rfl <;> decide
theorem rd_readCode {s e : Int} (hB : ez_B τ h) (t720 : τ 720 = 52) (h0 : 0 ≤ s) (hbs : s ≤ e) (h1 : e ≤ 4096) (k : Q (.inl (some (ez_v (.inl (rz_code (rz_b h) s e)))), h)) : ez_W (d + 1) cm_159 0 [(0, .inr (.inr (some (720)))), (1, .inl (s)), (2, .inl (e))] [] h Q := by
  refine ez_go (n := 6) (pc' := 6) (L' := [(3, .inl ((e) - (s))), (0, .inr (.inr (some (720)))), (1, .inl (s)), (2, .inl (e))]) (st' := [.inl (4), .inl ((e) - (s))]) rfl ?_
  refine ez_icmp rfl rfl ⟨by omega, by omega⟩ ⟨by omega, by omega⟩ (fun (c1 : ((e) - (s)) < (4)) => ?_) (fun (c1 : ¬(((e) - (s)) < (4))) => ?_)
  · skip
    refine ez_go (n := 1) (pc' := 32) (L' := [(3, .inl ((e) - (s))), (0, .inr (.inr (some (720)))), (1, .inl (s)), (2, .inl (e))]) (st' := [.inl (-1)]) rfl ?_
    first | (unfold rz_code at k; rw [if_pos (by unfold rz_b; omega)] at k; exact ez_retI rfl rfl k) | (unfold rz_code at k; rw [if_neg (by unfold rz_b; omega), if_neg (by omega)] at k; exact ez_retI rfl rfl k)
  · skip
    refine ez_go (n := 2) (pc' := 12) (L' := [(3, .inl ((e) - (s))), (0, .inr (.inr (some (720)))), (1, .inl (s)), (2, .inl (e))]) (st' := [.inl (6), .inl ((e) - (s))]) rfl ?_
    refine ez_icmp rfl rfl ⟨by omega, by omega⟩ ⟨by omega, by omega⟩ (fun (c2 : (6) < ((e) - (s))) => ?_) (fun (c2 : ¬((6) < ((e) - (s)))) => ?_)
    · skip
      refine ez_go (n := 1) (pc' := 32) (L' := [(3, .inl ((e) - (s))), (0, .inr (.inr (some (720)))), (1, .inl (s)), (2, .inl (e))]) (st' := [.inl (-1)]) rfl ?_
      first | (unfold rz_code at k; rw [if_pos (by unfold rz_b; omega)] at k; exact ez_retI rfl rfl k) | (unfold rz_code at k; rw [if_neg (by unfold rz_b; omega), if_neg (by omega)] at k; exact ez_retI rfl rfl k)
    · skip
      refine ez_go (n := 2) (pc' := 17) (L' := [(3, .inl ((e) - (s))), (0, .inr (.inr (some (720)))), (1, .inl (s)), (2, .inl (e))]) (st' := [.inl (4), .inl ((e) - (s))]) rfl ?_
      refine ez_icmp rfl rfl ⟨by omega, by omega⟩ ⟨by omega, by omega⟩ (fun (c3 : ((e) - (s)) ≤ (4)) => ?_) (fun (c3 : ¬(((e) - (s)) ≤ (4))) => ?_)
      · skip
        refine ez_go (n := 3) (pc' := 36) (L' := [(3, .inl ((e) - (s))), (0, .inr (.inr (some (720)))), (1, .inl (s)), (2, .inl (e))]) (st' := [.inl (e), .inl (s), .inr (.inr (some (720)))]) rfl ?_
        refine ez_cv hB t720 rfl rfl rfl tq_52 rfl rfl rfl (rd_readHex hB t720 (by omega) (by omega) (by omega) (ez_K1 ?_))
        have x4 := rz_hex_bd (rz_b h) ((e) - (s)).toNat (s) 0 1 (by omega) (by omega) (by omega)
        have x4' : (16 : Int) ^ ((e) - (s)).toNat ≤ 16777216 := rz_pow6 (by omega)
        refine ez_go (n := 2) (pc' := 43) (L' := [(4, .inl (rz_hex (rz_b h) ((e) - (s)).toNat (s) 0)), (3, .inl ((e) - (s))), (0, .inr (.inr (some (720)))), (1, .inl (s)), (2, .inl (e))]) (st' := [.inl (rz_hex (rz_b h) ((e) - (s)).toNat (s) 0)]) rfl ?_
        refine ez_ldc (1114111) rfl rfl rfl ?_
        refine ez_icmp rfl rfl ⟨by omega, by omega⟩ ⟨by omega, by omega⟩ (fun (c5 : (1114111) < (rz_hex (rz_b h) ((e) - (s)).toNat (s) 0)) => ?_) (fun (c5 : ¬((1114111) < (rz_hex (rz_b h) ((e) - (s)).toNat (s) 0))) => ?_)
        · skip
          refine ez_go (n := 1) (pc' := 54) (L' := [(4, .inl (rz_hex (rz_b h) ((e) - (s)).toNat (s) 0)), (3, .inl ((e) - (s))), (0, .inr (.inr (some (720)))), (1, .inl (s)), (2, .inl (e))]) (st' := [.inl (-1)]) rfl ?_
          first | (unfold rz_code at k; rw [if_pos (by unfold rz_b; omega)] at k; exact ez_retI rfl rfl k) | (unfold rz_code at k; rw [if_neg (by unfold rz_b; omega), if_neg (by omega)] at k; exact ez_retI rfl rfl k)
        · skip
          refine ez_go (n := 2) (pc' := 54) (L' := [(4, .inl (rz_hex (rz_b h) ((e) - (s)).toNat (s) 0)), (3, .inl ((e) - (s))), (0, .inr (.inr (some (720)))), (1, .inl (s)), (2, .inl (e))]) (st' := [.inl (rz_hex (rz_b h) ((e) - (s)).toNat (s) 0)]) rfl ?_
          unfold rz_code at k; rw [if_neg (by unfold rz_b; omega), if_pos (by omega)] at k; exact ez_retI rfl rfl k
      · skip
        refine ez_go (n := 1) (pc' := 21) (L' := [(3, .inl ((e) - (s))), (0, .inr (.inr (some (720)))), (1, .inl (s)), (2, .inl (e))]) (st' := [.inr (.inr (some (720)))]) rfl ?_
        refine ez_gC (p := 193) (tg := 45) hB t720 rfl rfl tq_52 rfl rfl (fun (t193 : _ = 45) => ?_)
        refine ez_go (n := 1) (pc' := 25) (L' := [(3, .inl ((e) - (s))), (0, .inr (.inr (some (720)))), (1, .inl (s)), (2, .inl (e))]) (st' := [.inl (s), .inr (.inr (some (193)))]) rfl ?_
        have n7 : 4096 ≤ qz_N h 193 ∧ qz_N h 193 ≤ 4096 := ez_len hB t193 tq_45 rfl
        refine ez_aI hB t193 rfl tq_45 rfl rfl (by omega) (by omega) (fun (b6 : -128 ≤ qz_I h 193 (s).toNat) (b6' : qz_I h 193 (s).toNat ≤ 127) => ?_)
        refine ez_go (n := 1) (pc' := 28) (L' := [(3, .inl ((e) - (s))), (0, .inr (.inr (some (720)))), (1, .inl (s)), (2, .inl (e))]) (st' := [.inl (48), .inl (qz_I h 193 (s).toNat)]) rfl ?_
        refine ez_icmp rfl rfl ⟨by omega, by omega⟩ ⟨by omega, by omega⟩ (fun (c8 : (qz_I h 193 (s).toNat) ≠ (48)) => ?_) (fun (c8 : ¬((qz_I h 193 (s).toNat) ≠ (48))) => ?_)
        · skip
          refine ez_go (n := 3) (pc' := 36) (L' := [(3, .inl ((e) - (s))), (0, .inr (.inr (some (720)))), (1, .inl (s)), (2, .inl (e))]) (st' := [.inl (e), .inl (s), .inr (.inr (some (720)))]) rfl ?_
          refine ez_cv hB t720 rfl rfl rfl tq_52 rfl rfl rfl (rd_readHex hB t720 (by omega) (by omega) (by omega) (ez_K1 ?_))
          have x9 := rz_hex_bd (rz_b h) ((e) - (s)).toNat (s) 0 1 (by omega) (by omega) (by omega)
          have x9' : (16 : Int) ^ ((e) - (s)).toNat ≤ 16777216 := rz_pow6 (by omega)
          refine ez_go (n := 2) (pc' := 43) (L' := [(4, .inl (rz_hex (rz_b h) ((e) - (s)).toNat (s) 0)), (3, .inl ((e) - (s))), (0, .inr (.inr (some (720)))), (1, .inl (s)), (2, .inl (e))]) (st' := [.inl (rz_hex (rz_b h) ((e) - (s)).toNat (s) 0)]) rfl ?_
          refine ez_ldc (1114111) rfl rfl rfl ?_
          refine ez_icmp rfl rfl ⟨by omega, by omega⟩ ⟨by omega, by omega⟩ (fun (c10 : (1114111) < (rz_hex (rz_b h) ((e) - (s)).toNat (s) 0)) => ?_) (fun (c10 : ¬((1114111) < (rz_hex (rz_b h) ((e) - (s)).toNat (s) 0))) => ?_)
          · skip
            refine ez_go (n := 1) (pc' := 54) (L' := [(4, .inl (rz_hex (rz_b h) ((e) - (s)).toNat (s) 0)), (3, .inl ((e) - (s))), (0, .inr (.inr (some (720)))), (1, .inl (s)), (2, .inl (e))]) (st' := [.inl (-1)]) rfl ?_
            first | (unfold rz_code at k; rw [if_pos (by unfold rz_b; omega)] at k; exact ez_retI rfl rfl k) | (unfold rz_code at k; rw [if_neg (by unfold rz_b; omega), if_neg (by omega)] at k; exact ez_retI rfl rfl k)
          · skip
            refine ez_go (n := 2) (pc' := 54) (L' := [(4, .inl (rz_hex (rz_b h) ((e) - (s)).toNat (s) 0)), (3, .inl ((e) - (s))), (0, .inr (.inr (some (720)))), (1, .inl (s)), (2, .inl (e))]) (st' := [.inl (rz_hex (rz_b h) ((e) - (s)).toNat (s) 0)]) rfl ?_
            unfold rz_code at k; rw [if_neg (by unfold rz_b; omega), if_pos (by omega)] at k; exact ez_retI rfl rfl k
        · skip
          refine ez_go (n := 1) (pc' := 32) (L' := [(3, .inl ((e) - (s))), (0, .inr (.inr (some (720)))), (1, .inl (s)), (2, .inl (e))]) (st' := [.inl (-1)]) rfl ?_
          first | (unfold rz_code at k; rw [if_pos (by unfold rz_b; omega)] at k; exact ez_retI rfl rfl k) | (unfold rz_code at k; rw [if_neg (by unfold rz_b; omega), if_neg (by omega)] at k; exact ez_retI rfl rfl k)

end EzRd3
/-! The reader of the class, functionally, III: fields. (Written by wip/p2/py/pv4.py.) -/
/-- from the end back over blanks: at most n -/
def rz_back (b : Int → Int) : Nat → Int → Int
  | 0, e => e
  | n + 1, e => if b (e - 1) = 9 ∨ b (e - 1) = 32 then rz_back b n (e - 1) else e
theorem rz_back_le (b : Int → Int) : ∀ n e, e - n ≤ rz_back b n e ∧ rz_back b n e ≤ e
  | 0, e => ⟨by show e - 0 ≤ e; omega, Int.le_refl e⟩
  | n + 1, e => by
    unfold rz_back
    split
    · have := rz_back_le b n (e - 1); omega
    · omega
/-- a piece without the blanks around it -/
def rz_tl (b : Int → Int) (p : Int × Int) : Int := rz_skip b (p.2 - p.1).toNat p.1
def rz_tr (b : Int → Int) (p : Int × Int) : Int := rz_back b (p.2 - rz_tl b p).toNat p.2
/-- the pieces between semicolons: n bytes from i on, the piece began at s -/
def rz_seg (b : Int → Int) : Nat → Int → Int → List (Int × Int)
  | 0, i, s => [(s, i)]
  | n + 1, i, s => if b i = 59 then (s, i) :: rz_seg b n (i + 1) (i + 1) else rz_seg b n (i + 1) s
theorem rz_seg_pos (b : Int → Int) : ∀ n i s, 1 ≤ (rz_seg b n i s).length
  | 0, i, s => Nat.le_refl 1
  | n + 1, i, s => by
    unfold rz_seg
    split
    · exact Nat.succ_le_succ (Nat.zero_le _)
    · exact rz_seg_pos b n _ _
/-- other places are as they were -/
def ez_fr (P : Nat → Bool) (h h' : cz_H) : Prop := h'.1 = h.1 ∧ h'.2.1 = h.2.1 ∧ ∀ q, P q = false → h'.2.2 q = h.2.2 q
theorem ez_fr.refl (P : Nat → Bool) (h : cz_H) : ez_fr P h h := ⟨rfl, rfl, fun _ _ => rfl⟩
theorem ez_fr.put {P : Nat → Bool} {h h1 : cz_H} (hf : ez_fr P h h1) {r : Nat} (hr : P r = true) (i : Nat) (v : cz_V) : ez_fr P h (dz_put h1 r i v) := by
  refine ⟨hf.1, hf.2.1, fun q hq => ?_⟩
  rw [dz_put_at, if_neg (fun e => by rw [e, hr] at hq; cases hq)]
  exact hf.2.2 q hq
theorem ez_fr.trans {P : Nat → Bool} {h h1 h2 : cz_H} (a : ez_fr P h h1) (b : ez_fr P h1 h2) : ez_fr P h h2 := ⟨b.1.trans a.1, b.2.1.trans a.2.1, fun q hq => (b.2.2 q hq).trans (a.2.2 q hq)⟩
theorem ez_fr.I {P : Nat → Bool} {h h' : cz_H} (hf : ez_fr P h h') {q : Nat} (hq : P q = false) (j : Nat) : qz_I h' q j = qz_I h q j := by unfold qz_I; rw [hf.2.2 q hq]
theorem ez_fr.N {P : Nat → Bool} {h h' : cz_H} (hf : ez_fr P h h') {q : Nat} (hq : P q = false) : qz_N h' q = qz_N h q := by unfold qz_N; rw [hf.2.2 q hq]
def rz_ft (q : Nat) : Bool := Nat.beq q 721 || Nat.beq q 722
theorem rz_b_fr {P : Nat → Bool} {h h' : cz_H} (hf : ez_fr P h h') (hp : P 193 = false) : rz_b h' = rz_b h := funext fun i => hf.I hp _
section EzRd4
variable {d : Nat} {h : cz_H} {τ : Nat → Nat} {Q : cz_F → Prop}
theorem rd_trim_l {f s low stop : Int} (hB : ez_B τ h) (t720 : τ 720 = 52) (t721 : τ 721 = 53) (t722 : τ 722 = 54) (f0 : 0 ≤ f) (f1 : f < 7) (h0 : 0 ≤ low) (h1 : stop ≤ 4096) : ∀ (n : Nat) (e : Int), low ≤ e → e ≤ stop → n = (e - low).toNat → (∀ g, ez_B τ g → ez_fr rz_ft h g → (∀ k : Int, 0 ≤ k → k ≠ f → rz_f g k = rz_f h k ∧ rz_t g k = rz_t h k) → rz_f g f = low → rz_t g f = rz_back (rz_b h) n e → Q (.inl none, g)) → ez_W (d + 1) cm_180 11 [(5, .inl (e)), (4, .inl (low)), (0, .inr (.inr (some (720)))), (1, .inl (f)), (2, .inl (s)), (3, .inl (stop))] [] h Q := by
  intro n
  induction n with
  | zero =>
    intro e he1 he2 hn k
    unfold rz_back at k
    refine ez_go (n := 2) (pc' := 15) (L' := [(5, .inl (e)), (4, .inl (low)), (0, .inr (.inr (some (720)))), (1, .inl (f)), (2, .inl (s)), (3, .inl (stop))]) (st' := [.inl (low), .inl (e)]) rfl ?_
    refine ez_icmp rfl rfl ⟨by omega, by omega⟩ ⟨by omega, by omega⟩ (fun (c1 : (e) ≤ (low)) => ?_) (fun (c1 : ¬((e) ≤ (low))) => ?_)
    · skip
      refine ez_go (n := 1) (pc' := 36) (L' := [(5, .inl (e)), (4, .inl (low)), (0, .inr (.inr (some (720)))), (1, .inl (f)), (2, .inl (s)), (3, .inl (stop))]) (st' := [.inr (.inr (some (720)))]) rfl ?_
      refine ez_gC (p := 721) (tg := 53) hB t720 rfl rfl tq_52 rfl rfl (fun (t721 : _ = 53) => ?_)
      refine ez_go (n := 2) (pc' := 42) (L' := [(5, .inl (e)), (4, .inl (low)), (0, .inr (.inr (some (720)))), (1, .inl (f)), (2, .inl (s)), (3, .inl (stop))]) (st' := [.inl (low), .inl (f), .inr (.inr (some (721)))]) rfl ?_
      have n4 : 7 ≤ qz_N h 721 ∧ qz_N h 721 ≤ 7 := ez_len hB t721 tq_53 rfl
      refine ez_as hB t721 rfl tq_53 rfl rfl (by omega) (by omega) (ez_vdI rfl rfl (by omega) (by omega)) (fun hB2 w3 => ?_)
      refine ez_go (n := 1) (pc' := 44) (L' := [(5, .inl (e)), (4, .inl (low)), (0, .inr (.inr (some (720)))), (1, .inl (f)), (2, .inl (s)), (3, .inl (stop))]) (st' := [.inr (.inr (some (720)))]) rfl ?_
      refine ez_gC (p := 722) (tg := 54) hB2 t720 rfl rfl tq_52 rfl rfl (fun (t722 : _ = 54) => ?_)
      refine ez_go (n := 2) (pc' := 50) (L' := [(5, .inl (e)), (4, .inl (low)), (0, .inr (.inr (some (720)))), (1, .inl (f)), (2, .inl (s)), (3, .inl (stop))]) (st' := [.inl (e), .inl (f), .inr (.inr (some (722)))]) rfl ?_
      have n7 : 7 ≤ qz_N (dz_put h 721 (f).toNat (ez_v (.inl (low)))) 722 ∧ qz_N (dz_put h 721 (f).toNat (ez_v (.inl (low)))) 722 ≤ 7 := ez_len hB2 t722 tq_54 rfl
      refine ez_as hB2 t722 rfl tq_54 rfl rfl (by omega) (by omega) (ez_vdI rfl rfl (by omega) (by omega)) (fun hB5 w6 => ?_)
      refine ez_ret0 rfl rfl (k _ hB5 ((ez_fr.refl rz_ft h).put rfl _ _ |>.put rfl _ _) (fun j j0 j1 => ⟨?_, ?_⟩) ?_ ?_)
      · unfold rz_f; rw [ez_put_I (by omega), ez_put_I (by omega)]
      · unfold rz_t; rw [ez_put_I (by omega), ez_put_I (by omega)]
      · unfold rz_f; rw [ez_put_I (by omega), w3]; exact (show ez_rg low from ⟨by omega, by omega⟩).v
      · unfold rz_t; rw [w6]; exact (show ez_rg e from ⟨by omega, by omega⟩).v
    · skip
      refine ez_go (n := 4) (pc' := 23) (L' := [(5, .inl (e)), (4, .inl (low)), (0, .inr (.inr (some (720)))), (1, .inl (f)), (2, .inl (s)), (3, .inl (stop))]) (st' := [.inl ((e) - (1)), .inr (.inr (some (720)))]) rfl ?_
      exfalso; omega
  | succ n ih =>
    intro e he1 he2 hn k
    unfold rz_back at k
    refine ez_go (n := 2) (pc' := 15) (L' := [(5, .inl (e)), (4, .inl (low)), (0, .inr (.inr (some (720)))), (1, .inl (f)), (2, .inl (s)), (3, .inl (stop))]) (st' := [.inl (low), .inl (e)]) rfl ?_
    refine ez_icmp rfl rfl ⟨by omega, by omega⟩ ⟨by omega, by omega⟩ (fun (c1 : (e) ≤ (low)) => ?_) (fun (c1 : ¬((e) ≤ (low))) => ?_)
    · exfalso; omega
    · skip
      refine ez_go (n := 4) (pc' := 23) (L' := [(5, .inl (e)), (4, .inl (low)), (0, .inr (.inr (some (720)))), (1, .inl (f)), (2, .inl (s)), (3, .inl (stop))]) (st' := [.inl ((e) - (1)), .inr (.inr (some (720)))]) rfl ?_
      refine ez_cv hB t720 rfl rfl rfl tq_52 rfl rfl rfl (rd_isBlank hB t720 (by omega) (by omega) (fun (e2 : rz_bl h ((e) - (1))) => ez_K1 ?_) (fun (e2 : ¬ rz_bl h ((e) - (1))) => ez_K1 ?_))
      · skip
        rw [if_pos (show (rz_b h (e - 1) = 9 ∨ rz_b h (e - 1) = 32) from e2)] at k
        refine ez_if rfl rfl ⟨by decide, by decide⟩ (fun (c3 : (1 : Int) = (0)) => absurd c3 (by decide)) (fun _ => ?_)
        refine ez_go (n := 2) (pc' := 11) (L' := [(5, .inl (e + (-1))), (4, .inl (low)), (0, .inr (.inr (some (720)))), (1, .inl (f)), (2, .inl (s)), (3, .inl (stop))]) (st' := []) rfl ?_
        refine ez_less [(5, .inl (e + (-1))), (4, .inl (low)), (0, .inr (.inr (some (720)))), (1, .inl (f)), (2, .inl (s)), (3, .inl (stop))] rfl ⟨rfl, rfl, rfl, rfl, rfl, rfl, trivial⟩ ?_
        exact ih _ (by omega) (by omega) (by omega) k
      · skip
        rw [if_neg (show ¬(rz_b h (e - 1) = 9 ∨ rz_b h (e - 1) = 32) from e2)] at k
        refine ez_if rfl rfl ⟨by decide, by decide⟩ (fun _ => ?_) (fun (c4 : ¬((0 : Int) = (0))) => absurd c4 (by decide))
        refine ez_go (n := 1) (pc' := 36) (L' := [(5, .inl (e)), (4, .inl (low)), (0, .inr (.inr (some (720)))), (1, .inl (f)), (2, .inl (s)), (3, .inl (stop))]) (st' := [.inr (.inr (some (720)))]) rfl ?_
        refine ez_gC (p := 721) (tg := 53) hB t720 rfl rfl tq_52 rfl rfl (fun (t721 : _ = 53) => ?_)
        refine ez_go (n := 2) (pc' := 42) (L' := [(5, .inl (e)), (4, .inl (low)), (0, .inr (.inr (some (720)))), (1, .inl (f)), (2, .inl (s)), (3, .inl (stop))]) (st' := [.inl (low), .inl (f), .inr (.inr (some (721)))]) rfl ?_
        have n7 : 7 ≤ qz_N h 721 ∧ qz_N h 721 ≤ 7 := ez_len hB t721 tq_53 rfl
        refine ez_as hB t721 rfl tq_53 rfl rfl (by omega) (by omega) (ez_vdI rfl rfl (by omega) (by omega)) (fun hB5 w6 => ?_)
        refine ez_go (n := 1) (pc' := 44) (L' := [(5, .inl (e)), (4, .inl (low)), (0, .inr (.inr (some (720)))), (1, .inl (f)), (2, .inl (s)), (3, .inl (stop))]) (st' := [.inr (.inr (some (720)))]) rfl ?_
        refine ez_gC (p := 722) (tg := 54) hB5 t720 rfl rfl tq_52 rfl rfl (fun (t722 : _ = 54) => ?_)
        refine ez_go (n := 2) (pc' := 50) (L' := [(5, .inl (e)), (4, .inl (low)), (0, .inr (.inr (some (720)))), (1, .inl (f)), (2, .inl (s)), (3, .inl (stop))]) (st' := [.inl (e), .inl (f), .inr (.inr (some (722)))]) rfl ?_
        have n10 : 7 ≤ qz_N (dz_put h 721 (f).toNat (ez_v (.inl (low)))) 722 ∧ qz_N (dz_put h 721 (f).toNat (ez_v (.inl (low)))) 722 ≤ 7 := ez_len hB5 t722 tq_54 rfl
        refine ez_as hB5 t722 rfl tq_54 rfl rfl (by omega) (by omega) (ez_vdI rfl rfl (by omega) (by omega)) (fun hB8 w9 => ?_)
        refine ez_ret0 rfl rfl (k _ hB8 ((ez_fr.refl rz_ft h).put rfl _ _ |>.put rfl _ _) (fun j j0 j1 => ⟨?_, ?_⟩) ?_ ?_)
        · unfold rz_f; rw [ez_put_I (by omega), ez_put_I (by omega)]
        · unfold rz_t; rw [ez_put_I (by omega), ez_put_I (by omega)]
        · unfold rz_f; rw [ez_put_I (by omega), w6]; exact (show ez_rg low from ⟨by omega, by omega⟩).v
        · unfold rz_t; rw [w9]; exact (show ez_rg e from ⟨by omega, by omega⟩).v
theorem rd_trim {f s stop : Int} (hB : ez_B τ h) (t720 : τ 720 = 52) (t721 : τ 721 = 53) (t722 : τ 722 = 54) (f0 : 0 ≤ f) (f1 : f < 7) (h0 : 0 ≤ s) (hs : s ≤ stop) (h1 : stop ≤ 4096) (k : ∀ g, ez_B τ g → ez_fr rz_ft h g → (∀ k : Int, 0 ≤ k → k ≠ f → rz_f g k = rz_f h k ∧ rz_t g k = rz_t h k) → rz_f g f = rz_tl (rz_b h) (s, stop) → rz_t g f = rz_tr (rz_b h) (s, stop) → Q (.inl none, g)) : ez_W (d + 2) cm_180 0 [(0, .inr (.inr (some (720)))), (1, .inl (f)), (2, .inl (s)), (3, .inl (stop))] [] h Q := by
  refine ez_go (n := 3) (pc' := 3) (L' := [(0, .inr (.inr (some (720)))), (1, .inl (f)), (2, .inl (s)), (3, .inl (stop))]) (st' := [.inl (stop), .inl (s), .inr (.inr (some (720)))]) rfl ?_
  refine ez_cv hB t720 rfl rfl rfl tq_52 rfl rfl rfl (rd_skipBlanks hB t720 (by omega) (by omega) (by omega) (ez_K1 ?_))
  have x1 := rz_skip_le (rz_b h) ((stop) - (s)).toNat (s)
  refine ez_go (n := 3) (pc' := 11) (L' := [(5, .inl (stop)), (4, .inl (rz_skip (rz_b h) ((stop) - (s)).toNat (s))), (0, .inr (.inr (some (720)))), (1, .inl (f)), (2, .inl (s)), (3, .inl (stop))]) (st' := []) rfl ?_
  exact rd_trim_l hB t720 t721 t722 f0 f1 (by omega) h1 _ _ (by omega) (by omega) rfl k

/-- the fields as split leaves them -/
def rz_flds (b : Int → Int) (h : cz_H) (A : List (Int × Int)) : Prop := ∀ (k : Nat) (p : Int × Int), A[k]? = some p → rz_f h k = rz_tl b p ∧ rz_t h k = rz_tr b p
theorem rz_flds_app {b : Int → Int} {h g : cz_H} {A : List (Int × Int)} {p : Int × Int} (hA : rz_flds b h A) (hk : ∀ k : Int, 0 ≤ k → k ≠ (A.length : Int) → rz_f g k = rz_f h k ∧ rz_t g k = rz_t h k) (h1 : rz_f g (A.length : Int) = rz_tl b p) (h2 : rz_t g (A.length : Int) = rz_tr b p) : rz_flds b g (A ++ [p]) := by
  intro k q hq
  by_cases e : k < A.length
  · rw [List.getElem?_append_left e] at hq
    obtain ⟨a1, a2⟩ := hk (k : Int) (by omega) (by omega)
    rw [a1, a2]
    exact hA k q hq
  · have hl := (List.getElem?_eq_some_iff.mp hq).1
    rw [List.length_append] at hl
    have e : k = A.length := by simp at hl; omega
    subst e
    rw [List.getElem?_append_right (Nat.le_refl _), Nat.sub_self] at hq
    cases hq
    exact ⟨h1, h2⟩
theorem rd_split_e {n w stop i s f : Int} {g : cz_H} (t720 : τ 720 = 52) (w0 : 0 ≤ w) (w1 : w ≤ 7) (s0 : 0 ≤ stop) (s1 : stop ≤ 4096) (hi : i = stop + 1) (k0 : ∀ g, ez_B τ g → ez_fr rz_ft h g → (rz_seg (rz_b h) stop.toNat 0 0).length ≠ w.toNat → Q (.inl (some (ez_v (.inl 0))), g)) (k1 : ∀ g, ez_B τ g → ez_fr rz_ft h g → (rz_seg (rz_b h) stop.toNat 0 0).length = w.toNat → rz_flds (rz_b h) g (rz_seg (rz_b h) stop.toNat 0 0) → Q (.inl (some (ez_v (.inl 1))), g)) (hB : ez_B τ g) (hf : ez_fr rz_ft h g) (hA : f = ((rz_seg (rz_b h) stop.toNat 0 0).length : Int)) (hfl : rz_flds (rz_b h) g (rz_seg (rz_b h) stop.toNat 0 0)) (hfb : f ≤ 100) : ez_W (d + 3) cm_172 25 [(6, .inl (i)), (5, .inl (s)), (4, .inl (f)), (3, .inl (stop)), (0, .inr (.inr (some (720)))), (1, .inl (n)), (2, .inl (w))] [] g Q := by
  refine ez_go (n := 2) (pc' := 28) (L' := [(6, .inl (i)), (5, .inl (s)), (4, .inl (f)), (3, .inl (stop)), (0, .inr (.inr (some (720)))), (1, .inl (n)), (2, .inl (w))]) (st' := [.inl (stop), .inl (i)]) rfl ?_
  refine ez_icmp rfl rfl ⟨by omega, by omega⟩ ⟨by omega, by omega⟩ (fun (c1 : (stop) < (i)) => ?_) (fun (c1 : ¬((stop) < (i))) => ?_)
  · skip
    refine ez_go (n := 2) (pc' := 85) (L' := [(6, .inl (i)), (5, .inl (s)), (4, .inl (f)), (3, .inl (stop)), (0, .inr (.inr (some (720)))), (1, .inl (n)), (2, .inl (w))]) (st' := [.inl (w), .inl (f)]) rfl ?_
    refine ez_icmp rfl rfl ⟨by omega, by omega⟩ ⟨by omega, by omega⟩ (fun (c2 : (f) ≠ (w)) => ?_) (fun (c2 : ¬((f) ≠ (w))) => ?_)
    · skip
      refine ez_go (n := 1) (pc' := 93) (L' := [(6, .inl (i)), (5, .inl (s)), (4, .inl (f)), (3, .inl (stop)), (0, .inr (.inr (some (720)))), (1, .inl (n)), (2, .inl (w))]) (st' := [.inl (0)]) rfl ?_
      exact ez_retZ rfl rfl (by decide) (k0 g hB hf (by omega))
    · skip
      refine ez_go (n := 2) (pc' := 93) (L' := [(6, .inl (i)), (5, .inl (s)), (4, .inl (f)), (3, .inl (stop)), (0, .inr (.inr (some (720)))), (1, .inl (n)), (2, .inl (w))]) (st' := [.inl (1)]) rfl ?_
      exact ez_retZ rfl rfl (by decide) (k1 g hB hf (by omega) hfl)
  · exfalso; omega

theorem rd_split_l {n w stop : Int} (t720 : τ 720 = 52) (t721 : τ 721 = 53) (t722 : τ 722 = 54) (w0 : 0 ≤ w) (w1 : w ≤ 7) (s0 : 0 ≤ stop) (s1 : stop ≤ 4096) (k0 : ∀ g, ez_B τ g → ez_fr rz_ft h g → (rz_seg (rz_b h) stop.toNat 0 0).length ≠ w.toNat → Q (.inl (some (ez_v (.inl 0))), g)) (k1 : ∀ g, ez_B τ g → ez_fr rz_ft h g → (rz_seg (rz_b h) stop.toNat 0 0).length = w.toNat → rz_flds (rz_b h) g (rz_seg (rz_b h) stop.toNat 0 0) → Q (.inl (some (ez_v (.inl 1))), g)) : ∀ (m : Nat) (i s f : Int) (g : cz_H) (A : List (Int × Int)), 0 ≤ s → s ≤ i → i ≤ stop → m = (stop - i).toNat → ez_B τ g → ez_fr rz_ft h g → f = (A.length : Int) → f ≤ w → rz_seg (rz_b h) stop.toNat 0 0 = A ++ rz_seg (rz_b h) m i s → rz_flds (rz_b h) g A → ez_W (d + 3) cm_172 25 [(6, .inl (i)), (5, .inl (s)), (4, .inl (f)), (3, .inl (stop)), (0, .inr (.inr (some (720)))), (1, .inl (n)), (2, .inl (w))] [] g Q := by
  intro m
  induction m with
  | zero =>
    intro i s f g A a1 a2 a3 hm hB hf hA hw hseg hfl
    have hbg : rz_b g = rz_b h := rz_b_fr hf rfl
    have hseg : rz_seg (rz_b h) stop.toNat 0 0 = A ++ [(s, i)] := hseg
    refine ez_go (n := 2) (pc' := 28) (L' := [(6, .inl (i)), (5, .inl (s)), (4, .inl (f)), (3, .inl (stop)), (0, .inr (.inr (some (720)))), (1, .inl (n)), (2, .inl (w))]) (st' := [.inl (stop), .inl (i)]) rfl ?_
    refine ez_icmp rfl rfl ⟨by omega, by omega⟩ ⟨by omega, by omega⟩ (fun (c1 : (stop) < (i)) => ?_) (fun (c1 : ¬((stop) < (i))) => ?_)
    · exfalso; omega
    · skip
      refine ez_go (n := 2) (pc' := 34) (L' := [(6, .inl (i)), (5, .inl (s)), (4, .inl (f)), (3, .inl (stop)), (0, .inr (.inr (some (720)))), (1, .inl (n)), (2, .inl (w))]) (st' := [.inl (stop), .inl (i)]) rfl ?_
      refine ez_icmp rfl rfl ⟨by omega, by omega⟩ ⟨by omega, by omega⟩ (fun (c2 : (i) = (stop)) => ?_) (fun (c2 : ¬((i) = (stop))) => ?_)
      · skip
        refine ez_go (n := 2) (pc' := 52) (L' := [(6, .inl (i)), (5, .inl (s)), (4, .inl (f)), (3, .inl (stop)), (0, .inr (.inr (some (720)))), (1, .inl (n)), (2, .inl (w))]) (st' := [.inl (w), .inl (f)]) rfl ?_
        refine ez_icmp rfl rfl ⟨by omega, by omega⟩ ⟨by omega, by omega⟩ (fun (c3 : (f) < (w)) => ?_) (fun (c3 : ¬((f) < (w))) => ?_)
        · skip
          refine ez_go (n := 4) (pc' := 64) (L' := [(6, .inl (i)), (5, .inl (s)), (4, .inl (f)), (3, .inl (stop)), (0, .inr (.inr (some (720)))), (1, .inl (n)), (2, .inl (w))]) (st' := [.inl (i), .inl (s), .inl (f), .inr (.inr (some (720)))]) rfl ?_
          refine ez_cv hB t720 rfl rfl rfl tq_52 rfl rfl rfl (rd_trim hB t720 t721 t722 (by omega) (by omega) (by omega) (by omega) (by omega) (fun g2 hB2 hf2 hk2 hx hy => ez_K0 ?_))
          rw [hbg] at hx hy
          have hfl2 : rz_flds (rz_b h) g2 (A ++ [(s, i)]) := rz_flds_app hfl (fun k e1 e2 => hk2 k e1 (by omega)) (by rw [← hA]; exact hx) (by rw [← hA]; exact hy)
          refine ez_go (n := 7) (pc' := 25) (L' := [(6, .inl (i + 1)), (5, .inl ((i) + (1))), (4, .inl (f + 1)), (3, .inl (stop)), (0, .inr (.inr (some (720)))), (1, .inl (n)), (2, .inl (w))]) (st' := []) rfl ?_
          refine ez_less [(6, .inl (i + 1)), (5, .inl ((i) + (1))), (4, .inl (f + 1)), (3, .inl (stop)), (0, .inr (.inr (some (720)))), (1, .inl (n)), (2, .inl (w))] rfl ⟨rfl, rfl, rfl, rfl, rfl, rfl, rfl, trivial⟩ ?_
          refine rd_split_e t720 (i := i + 1) (s := i + 1) (f := f + 1) w0 w1 s0 s1 (by omega) k0 k1 hB2 (hf.trans hf2) (by rw [hseg, List.length_append]; show f + 1 = ((A.length + 1 : Nat) : Int); omega) (by rw [hseg]; exact hfl2) (by omega)
        · skip
          refine ez_go (n := 1) (pc' := 56) (L' := [(6, .inl (i)), (5, .inl (s)), (4, .inl (f)), (3, .inl (stop)), (0, .inr (.inr (some (720)))), (1, .inl (n)), (2, .inl (w))]) (st' := [.inl (0)]) rfl ?_
          exact ez_retZ rfl rfl (by decide) (k0 g hB hf (by rw [hseg, List.length_append]; show A.length + 1 ≠ _; omega))
      · exfalso; omega
  | succ m ih =>
    intro i s f g A a1 a2 a3 hm hB hf hA hw hseg hfl
    have hbg : rz_b g = rz_b h := rz_b_fr hf rfl
    have hseg : rz_seg (rz_b h) stop.toNat 0 0 = A ++ (if rz_b h i = 59 then (s, i) :: rz_seg (rz_b h) m (i + 1) (i + 1) else rz_seg (rz_b h) m (i + 1) s) := hseg
    refine ez_go (n := 2) (pc' := 28) (L' := [(6, .inl (i)), (5, .inl (s)), (4, .inl (f)), (3, .inl (stop)), (0, .inr (.inr (some (720)))), (1, .inl (n)), (2, .inl (w))]) (st' := [.inl (stop), .inl (i)]) rfl ?_
    refine ez_icmp rfl rfl ⟨by omega, by omega⟩ ⟨by omega, by omega⟩ (fun (c1 : (stop) < (i)) => ?_) (fun (c1 : ¬((stop) < (i))) => ?_)
    · exfalso; omega
    · skip
      refine ez_go (n := 2) (pc' := 34) (L' := [(6, .inl (i)), (5, .inl (s)), (4, .inl (f)), (3, .inl (stop)), (0, .inr (.inr (some (720)))), (1, .inl (n)), (2, .inl (w))]) (st' := [.inl (stop), .inl (i)]) rfl ?_
      refine ez_icmp rfl rfl ⟨by omega, by omega⟩ ⟨by omega, by omega⟩ (fun (c2 : (i) = (stop)) => ?_) (fun (c2 : ¬((i) = (stop))) => ?_)
      · exfalso; omega
      · skip
        refine ez_go (n := 1) (pc' := 38) (L' := [(6, .inl (i)), (5, .inl (s)), (4, .inl (f)), (3, .inl (stop)), (0, .inr (.inr (some (720)))), (1, .inl (n)), (2, .inl (w))]) (st' := [.inr (.inr (some (720)))]) rfl ?_
        refine ez_gC (p := 193) (tg := 45) hB t720 rfl rfl tq_52 rfl rfl (fun (t193 : _ = 45) => ?_)
        refine ez_go (n := 1) (pc' := 43) (L' := [(6, .inl (i)), (5, .inl (s)), (4, .inl (f)), (3, .inl (stop)), (0, .inr (.inr (some (720)))), (1, .inl (n)), (2, .inl (w))]) (st' := [.inl (i), .inr (.inr (some (193)))]) rfl ?_
        have n4 : 4096 ≤ qz_N g 193 ∧ qz_N g 193 ≤ 4096 := ez_len hB t193 tq_45 rfl
        refine ez_aI hB t193 rfl tq_45 rfl rfl (by omega) (by omega) (fun (b3 : -128 ≤ qz_I g 193 (i).toNat) (b3' : qz_I g 193 (i).toNat ≤ 127) => ?_)
        refine ez_go (n := 1) (pc' := 46) (L' := [(6, .inl (i)), (5, .inl (s)), (4, .inl (f)), (3, .inl (stop)), (0, .inr (.inr (some (720)))), (1, .inl (n)), (2, .inl (w))]) (st' := [.inl (59), .inl (qz_I g 193 (i).toNat)]) rfl ?_
        refine ez_icmp rfl rfl ⟨by omega, by omega⟩ ⟨by omega, by omega⟩ (fun (c5 : (qz_I g 193 (i).toNat) ≠ (59)) => ?_) (fun (c5 : ¬((qz_I g 193 (i).toNat) ≠ (59))) => ?_)
        · skip
          refine ez_go (n := 2) (pc' := 25) (L' := [(6, .inl (i + 1)), (5, .inl (s)), (4, .inl (f)), (3, .inl (stop)), (0, .inr (.inr (some (720)))), (1, .inl (n)), (2, .inl (w))]) (st' := []) rfl ?_
          refine ez_less [(6, .inl (i + 1)), (5, .inl (s)), (4, .inl (f)), (3, .inl (stop)), (0, .inr (.inr (some (720)))), (1, .inl (n)), (2, .inl (w))] rfl ⟨rfl, rfl, rfl, rfl, rfl, rfl, rfl, trivial⟩ ?_
          rw [if_neg (by rw [← hbg]; unfold rz_b; omega)] at hseg
          exact ih _ _ _ _ A (by omega) (by omega) (by omega) (by omega) hB hf hA hw hseg hfl
        · skip
          refine ez_go (n := 2) (pc' := 52) (L' := [(6, .inl (i)), (5, .inl (s)), (4, .inl (f)), (3, .inl (stop)), (0, .inr (.inr (some (720)))), (1, .inl (n)), (2, .inl (w))]) (st' := [.inl (w), .inl (f)]) rfl ?_
          refine ez_icmp rfl rfl ⟨by omega, by omega⟩ ⟨by omega, by omega⟩ (fun (c6 : (f) < (w)) => ?_) (fun (c6 : ¬((f) < (w))) => ?_)
          · skip
            refine ez_go (n := 4) (pc' := 64) (L' := [(6, .inl (i)), (5, .inl (s)), (4, .inl (f)), (3, .inl (stop)), (0, .inr (.inr (some (720)))), (1, .inl (n)), (2, .inl (w))]) (st' := [.inl (i), .inl (s), .inl (f), .inr (.inr (some (720)))]) rfl ?_
            refine ez_cv hB t720 rfl rfl rfl tq_52 rfl rfl rfl (rd_trim hB t720 t721 t722 (by omega) (by omega) (by omega) (by omega) (by omega) (fun g2 hB2 hf2 hk2 hx hy => ez_K0 ?_))
            rw [hbg] at hx hy
            have hfl2 : rz_flds (rz_b h) g2 (A ++ [(s, i)]) := rz_flds_app hfl (fun k e1 e2 => hk2 k e1 (by omega)) (by rw [← hA]; exact hx) (by rw [← hA]; exact hy)
            refine ez_go (n := 7) (pc' := 25) (L' := [(6, .inl (i + 1)), (5, .inl ((i) + (1))), (4, .inl (f + 1)), (3, .inl (stop)), (0, .inr (.inr (some (720)))), (1, .inl (n)), (2, .inl (w))]) (st' := []) rfl ?_
            refine ez_less [(6, .inl (i + 1)), (5, .inl ((i) + (1))), (4, .inl (f + 1)), (3, .inl (stop)), (0, .inr (.inr (some (720)))), (1, .inl (n)), (2, .inl (w))] rfl ⟨rfl, rfl, rfl, rfl, rfl, rfl, rfl, trivial⟩ ?_
            rw [if_pos (by rw [← hbg]; unfold rz_b; omega)] at hseg
            exact ih _ _ _ _ (A ++ [(s, i)]) (by omega) (by omega) (by omega) (by omega) hB2 (hf.trans hf2) (by rw [List.length_append]; show f + 1 = ((A.length + 1 : Nat) : Int); omega) (by omega) (by rw [hseg, List.append_assoc]; rfl) hfl2
          · skip
            refine ez_go (n := 1) (pc' := 56) (L' := [(6, .inl (i)), (5, .inl (s)), (4, .inl (f)), (3, .inl (stop)), (0, .inr (.inr (some (720)))), (1, .inl (n)), (2, .inl (w))]) (st' := [.inl (0)]) rfl ?_
            rw [if_pos (by rw [← hbg]; unfold rz_b; omega)] at hseg
            exact ez_retZ rfl rfl (by decide) (k0 g hB hf (by rw [hseg, List.length_append]; show A.length + (_ + 1) ≠ _; omega))
/-- where the comment begins -/
def rz_hash (b : Int → Int) (n c : Int) : Prop := 0 ≤ c ∧ c ≤ n ∧ (∀ j, 0 ≤ j → j < c → b j ≠ 35) ∧ (c = n ∨ b c = 35)
theorem rz_hash_uniq {b : Int → Int} {n c c' : Int} (h : rz_hash b n c) (h' : rz_hash b n c') : c = c' := by
  obtain ⟨a1, a2, a3, a4⟩ := h
  obtain ⟨b1, b2, b3, b4⟩ := h'
  by_cases e : c < c'
  · exfalso
    have := b3 c a1 e
    rcases a4 with w | w
    · omega
    · exact this w
  · by_cases e2 : c' < c
    · exfalso
      have := a3 c' b1 e2
      rcases b4 with w | w
      · omega
      · exact this w
    · omega
theorem rd_split {n w : Int} (hB : ez_B τ h) (t720 : τ 720 = 52) (t721 : τ 721 = 53) (t722 : τ 722 = 54) (n0 : 0 ≤ n) (n1 : n ≤ 4096) (w0 : 0 ≤ w) (w1 : w ≤ 7) (k0 : ∀ g, ez_B τ g → ez_fr rz_ft h g → (rz_plain (rz_b h) n → ∀ c, 0 ≤ c → c ≤ n → (∀ j, 0 ≤ j → j < c → rz_b h j ≠ 35) → (c = n ∨ rz_b h c = 35) → (rz_seg (rz_b h) c.toNat 0 0).length ≠ w.toNat) → Q (.inl (some (ez_v (.inl 0))), g)) (k1 : ∀ g c, ez_B τ g → ez_fr rz_ft h g → rz_plain (rz_b h) n → rz_hash (rz_b h) n c → (rz_seg (rz_b h) c.toNat 0 0).length = w.toNat → rz_flds (rz_b h) g (rz_seg (rz_b h) c.toNat 0 0) → Q (.inl (some (ez_v (.inl 1))), g)) : ez_W (d + 3) cm_172 0 [(0, .inr (.inr (some (720)))), (1, .inl (n)), (2, .inl (w))] [] h Q := by
  refine ez_go (n := 2) (pc' := 2) (L' := [(0, .inr (.inr (some (720)))), (1, .inl (n)), (2, .inl (w))]) (st' := [.inl (n), .inr (.inr (some (720)))]) rfl ?_
  refine ez_cv hB t720 rfl rfl rfl tq_52 rfl rfl rfl (rd_isPlain hB t720 (by omega) (by omega) (fun hpl => ez_K1 ?_) (fun hpl => ez_K1 ?_))
  · skip
    refine ez_if rfl rfl ⟨by decide, by decide⟩ (fun _ => ?_) (fun (c1 : ¬((1 : Int) ≠ (0))) => absurd c1 (by decide))
    refine ez_go (n := 2) (pc' := 12) (L' := [(0, .inr (.inr (some (720)))), (1, .inl (n)), (2, .inl (w))]) (st' := [.inl (n), .inr (.inr (some (720)))]) rfl ?_
    refine ez_cv hB t720 rfl rfl rfl tq_52 rfl rfl rfl (rd_commentStart hB t720 (by omega) (by omega) (fun c c0 c1 c2 c3 => ez_K1 ?_))
    refine ez_go (n := 7) (pc' := 25) (L' := [(6, .inl (0)), (5, .inl (0)), (4, .inl (0)), (3, .inl (c)), (0, .inr (.inr (some (720)))), (1, .inl (n)), (2, .inl (w))]) (st' := []) rfl ?_
    refine ez_less [(6, .inl (0)), (5, .inl (0)), (4, .inl (0)), (3, .inl (c)), (0, .inr (.inr (some (720)))), (1, .inl (n)), (2, .inl (w))] rfl ⟨rfl, rfl, rfl, rfl, rfl, rfl, rfl, trivial⟩ ?_
    exact rd_split_l t720 t721 t722 w0 w1 c0 (by omega) (fun g2 e1 e2 e3 => k0 g2 e1 e2 (fun _ c' d0 d1 d2 d3 => by rw [rz_hash_uniq ⟨d0, d1, d2, d3⟩ ⟨c0, c1, c2, c3⟩]; exact e3)) (fun g2 e1 e2 e3 e4 => k1 g2 c e1 e2 hpl ⟨c0, c1, c2, c3⟩ e3 e4) _ 0 0 0 h [] (by omega) (by omega) (by omega) rfl hB (ez_fr.refl _ _) rfl (by omega) (by show rz_seg _ c.toNat 0 0 = rz_seg _ (c - 0).toNat 0 0; rw [Int.sub_zero]) (fun k p hp => by cases hp)
  · skip
    refine ez_if rfl rfl ⟨by decide, by decide⟩ (fun (c2 : (0 : Int) ≠ (0)) => absurd c2 (by decide)) (fun _ => ?_)
    refine ez_go (n := 1) (pc' := 9) (L' := [(0, .inr (.inr (some (720)))), (1, .inl (n)), (2, .inl (w))]) (st' := [.inl (0)]) rfl ?_
    exact ez_retZ rfl rfl (by decide) (k0 h hB (ez_fr.refl _ _) (fun w => absurd w hpl))

end EzRd4
/-! The reader of the class, functionally, IV: CODES. (Written by wip/p2/py/pv5.py.) -/
/-- the first dot: n bytes from i on -/
def rz_dots (b : Int → Int) : Nat → Int → Int
  | 0, i => i
  | n + 1, i => if b i = 46 then i else rz_dots b n (i + 1)
theorem rz_dots_le (b : Int → Int) : ∀ n i, i ≤ rz_dots b n i ∧ rz_dots b n i ≤ i + n
  | 0, i => ⟨Int.le_refl i, by show i ≤ i + 0; omega⟩
  | n + 1, i => by
    unfold rz_dots
    split
    · omega
    · have := rz_dots_le b n (i + 1); omega
theorem rz_code_bd (b : Int → Int) (s e : Int) : -1 ≤ rz_code b s e ∧ rz_code b s e ≤ 1114111 := by
  unfold rz_code
  split
  · omega
  · rename_i hn
    have x := rz_hex_bd b (e - s).toNat s 0 1 (by omega) (by omega) (by omega)
    split
    · omega
    · omega
/-- CODES from s to t: the first and the last one, or -1 -/
def rz_first (b : Int → Int) (s t : Int) : Int := rz_code b s (rz_dots b (t - s).toNat s)
def rz_last (b : Int → Int) (s t : Int) : Int := if rz_dots b (t - s).toNat s < t then (if rz_dots b (t - s).toNat s + 1 < t ∧ b (rz_dots b (t - s).toNat s + 1) = 46 then rz_code b (rz_dots b (t - s).toNat s + 2) t else -1) else rz_first b s t
def ez_one (p q : Nat) : Bool := Nat.beq q p
section EzRd5
variable {d : Nat} {h : cz_H} {τ : Nat → Nat} {Q : cz_F → Prop}
theorem rd_isEmptyField {f : Int} (hB : ez_B τ h) (t720 : τ 720 = 52) (f0 : 0 ≤ f) (f1 : f < 7) (k1 : rz_f h f = rz_t h f → Q (.inl (some (ez_v (.inl 1))), h)) (k0 : ¬ rz_f h f = rz_t h f → Q (.inl (some (ez_v (.inl 0))), h)) : ez_W d cm_153 0 [(0, .inr (.inr (some (720)))), (1, .inl (f))] [] h Q := by
  refine ez_go (n := 1) (pc' := 1) (L' := [(0, .inr (.inr (some (720)))), (1, .inl (f))]) (st' := [.inr (.inr (some (720)))]) rfl ?_
  refine ez_gC (p := 721) (tg := 53) hB t720 rfl rfl tq_52 rfl rfl (fun (t721 : _ = 53) => ?_)
  refine ez_go (n := 1) (pc' := 5) (L' := [(0, .inr (.inr (some (720)))), (1, .inl (f))]) (st' := [.inl (f), .inr (.inr (some (721)))]) rfl ?_
  have n2 : 7 ≤ qz_N h 721 ∧ qz_N h 721 ≤ 7 := ez_len hB t721 tq_53 rfl
  refine ez_aI hB t721 rfl tq_53 rfl rfl (by omega) (by omega) (fun (b1 : 0 ≤ qz_I h 721 (f).toNat) (b1' : qz_I h 721 (f).toNat ≤ 4096) => ?_)
  refine ez_go (n := 1) (pc' := 7) (L' := [(0, .inr (.inr (some (720)))), (1, .inl (f))]) (st' := [.inr (.inr (some (720))), .inl (qz_I h 721 (f).toNat)]) rfl ?_
  refine ez_gC (p := 722) (tg := 54) hB t720 rfl rfl tq_52 rfl rfl (fun (t722 : _ = 54) => ?_)
  refine ez_go (n := 1) (pc' := 11) (L' := [(0, .inr (.inr (some (720)))), (1, .inl (f))]) (st' := [.inl (f), .inr (.inr (some (722))), .inl (qz_I h 721 (f).toNat)]) rfl ?_
  have n4 : 7 ≤ qz_N h 722 ∧ qz_N h 722 ≤ 7 := ez_len hB t722 tq_54 rfl
  refine ez_aI hB t722 rfl tq_54 rfl rfl (by omega) (by omega) (fun (b3 : 0 ≤ qz_I h 722 (f).toNat) (b3' : qz_I h 722 (f).toNat ≤ 4096) => ?_)
  refine ez_icmp rfl rfl ⟨by omega, by omega⟩ ⟨by omega, by omega⟩ (fun (c5 : (qz_I h 721 (f).toNat) ≠ (qz_I h 722 (f).toNat)) => ?_) (fun (c5 : ¬((qz_I h 721 (f).toNat) ≠ (qz_I h 722 (f).toNat))) => ?_)
  · skip
    refine ez_go (n := 1) (pc' := 20) (L' := [(0, .inr (.inr (some (720)))), (1, .inl (f))]) (st' := [.inl (0)]) rfl ?_
    exact ez_retZ rfl rfl (by decide) (k0 (by unfold rz_f rz_t; omega))
  · skip
    refine ez_go (n := 2) (pc' := 20) (L' := [(0, .inr (.inr (some (720)))), (1, .inl (f))]) (st' := [.inl (1)]) rfl ?_
    exact ez_retZ rfl rfl (by decide) (k1 (by unfold rz_f rz_t; omega))

theorem rd_isCodeOrNothing {f : Int} (hB : ez_B τ h) (t720 : τ 720 = 52) (f0 : 0 ≤ f) (f1 : f < 7) (hft : rz_f h f ≤ rz_t h f) (k1 : (rz_f h f = rz_t h f ∨ rz_code (rz_b h) (rz_f h f) (rz_t h f) ≠ -1) → Q (.inl (some (ez_v (.inl 1))), h)) (k0 : ¬ rz_f h f = rz_t h f → rz_code (rz_b h) (rz_f h f) (rz_t h f) = -1 → Q (.inl (some (ez_v (.inl 0))), h)) : ez_W (d + 2) cm_152 0 [(0, .inr (.inr (some (720)))), (1, .inl (f))] [] h Q := by
  refine ez_go (n := 2) (pc' := 2) (L' := [(0, .inr (.inr (some (720)))), (1, .inl (f))]) (st' := [.inl (f), .inr (.inr (some (720)))]) rfl ?_
  refine ez_cv hB t720 rfl rfl rfl tq_52 rfl rfl rfl (rd_isEmptyField hB t720 (by omega) (by omega) (fun (e1 : rz_f h (f) = rz_t h (f)) => ez_K1 ?_) (fun (e1 : ¬ rz_f h (f) = rz_t h (f)) => ez_K1 ?_))
  · skip
    refine ez_if rfl rfl ⟨by decide, by decide⟩ (fun _ => ?_) (fun (c2 : ¬((1 : Int) ≠ (0))) => absurd c2 (by decide))
    refine ez_go (n := 2) (pc' := 33) (L' := [(0, .inr (.inr (some (720)))), (1, .inl (f))]) (st' := [.inl (1)]) rfl ?_
    exact ez_retZ rfl rfl (by decide) (k1 (by first | exact Or.inl ‹_› | (right; unfold rz_f rz_t; omega)))
  · skip
    refine ez_if rfl rfl ⟨by decide, by decide⟩ (fun (c3 : (0 : Int) ≠ (0)) => absurd c3 (by decide)) (fun _ => ?_)
    refine ez_go (n := 2) (pc' := 10) (L' := [(0, .inr (.inr (some (720)))), (1, .inl (f))]) (st' := [.inr (.inr (some (720))), .inr (.inr (some (720)))]) rfl ?_
    refine ez_gC (p := 721) (tg := 53) hB t720 rfl rfl tq_52 rfl rfl (fun (t721 : _ = 53) => ?_)
    refine ez_go (n := 1) (pc' := 14) (L' := [(0, .inr (.inr (some (720)))), (1, .inl (f))]) (st' := [.inl (f), .inr (.inr (some (721))), .inr (.inr (some (720)))]) rfl ?_
    have n5 : 7 ≤ qz_N h 721 ∧ qz_N h 721 ≤ 7 := ez_len hB t721 tq_53 rfl
    refine ez_aI hB t721 rfl tq_53 rfl rfl (by omega) (by omega) (fun (b4 : 0 ≤ qz_I h 721 (f).toNat) (b4' : qz_I h 721 (f).toNat ≤ 4096) => ?_)
    refine ez_go (n := 1) (pc' := 16) (L' := [(0, .inr (.inr (some (720)))), (1, .inl (f))]) (st' := [.inr (.inr (some (720))), .inl (qz_I h 721 (f).toNat), .inr (.inr (some (720)))]) rfl ?_
    refine ez_gC (p := 722) (tg := 54) hB t720 rfl rfl tq_52 rfl rfl (fun (t722 : _ = 54) => ?_)
    refine ez_go (n := 1) (pc' := 20) (L' := [(0, .inr (.inr (some (720)))), (1, .inl (f))]) (st' := [.inl (f), .inr (.inr (some (722))), .inl (qz_I h 721 (f).toNat), .inr (.inr (some (720)))]) rfl ?_
    have n7 : 7 ≤ qz_N h 722 ∧ qz_N h 722 ≤ 7 := ez_len hB t722 tq_54 rfl
    refine ez_aI hB t722 rfl tq_54 rfl rfl (by omega) (by omega) (fun (b6 : 0 ≤ qz_I h 722 (f).toNat) (b6' : qz_I h 722 (f).toNat ≤ 4096) => ?_)
    unfold rz_f rz_t at hft
    have x8 := rz_code_bd (rz_b h) (qz_I h 721 (f).toNat) (qz_I h 722 (f).toNat)
    refine ez_cv hB t720 rfl rfl rfl tq_52 rfl rfl rfl (rd_readCode hB t720 (by omega) (by omega) (by omega) (ez_K1 ?_))
    refine ez_go (n := 1) (pc' := 25) (L' := [(0, .inr (.inr (some (720)))), (1, .inl (f))]) (st' := [.inl (-1), .inl (rz_code (rz_b h) (qz_I h 721 (f).toNat) (qz_I h 722 (f).toNat))]) rfl ?_
    refine ez_icmp rfl rfl ⟨by omega, by omega⟩ ⟨by omega, by omega⟩ (fun (c9 : (rz_code (rz_b h) (qz_I h 721 (f).toNat) (qz_I h 722 (f).toNat)) = (-1)) => ?_) (fun (c9 : ¬((rz_code (rz_b h) (qz_I h 721 (f).toNat) (qz_I h 722 (f).toNat)) = (-1))) => ?_)
    · skip
      refine ez_go (n := 1) (pc' := 33) (L' := [(0, .inr (.inr (some (720)))), (1, .inl (f))]) (st' := [.inl (0)]) rfl ?_
      exact ez_retZ rfl rfl (by decide) (k0 ‹_› (by unfold rz_f rz_t; omega))
    · skip
      refine ez_go (n := 2) (pc' := 33) (L' := [(0, .inr (.inr (some (720)))), (1, .inl (f))]) (st' := [.inl (1)]) rfl ?_
      exact ez_retZ rfl rfl (by decide) (k1 (by first | exact Or.inl ‹_› | (right; unfold rz_f rz_t; omega)))

theorem rd_readCodes_l {s t : Int} (hB : ez_B τ h) (t720 : τ 720 = 52) (hs : rz_f h 0 = s) (ht : rz_t h 0 = t) (s0 : 0 ≤ s) (st : s ≤ t) (t1 : t ≤ 4096) (kx : ez_W (d + 2) cm_160 34 [(1, .inl (rz_dots (rz_b h) (t - s).toNat s)), (0, .inr (.inr (some 720)))] [] h Q) : ∀ (n : Nat) (i : Int), s ≤ i → i ≤ t → n = (t - i).toNat → rz_dots (rz_b h) (t - s).toNat s = rz_dots (rz_b h) n i → ez_W (d + 2) cm_160 7 [(1, .inl (i)), (0, .inr (.inr (some (720))))] [] h Q := by
  unfold rz_f at hs
  unfold rz_t at ht
  intro n
  induction n with
  | zero =>
    intro i i1 i2 hn hd
    have hd : rz_dots (rz_b h) (t - s).toNat s = i := hd
    rw [hd] at kx
    refine ez_go (n := 2) (pc' := 9) (L' := [(1, .inl (i)), (0, .inr (.inr (some (720))))]) (st' := [.inr (.inr (some (720))), .inl (i)]) rfl ?_
    refine ez_gC (p := 722) (tg := 54) hB t720 rfl rfl tq_52 rfl rfl (fun (t722 : _ = 54) => ?_)
    refine ez_go (n := 1) (pc' := 13) (L' := [(1, .inl (i)), (0, .inr (.inr (some (720))))]) (st' := [.inl (0), .inr (.inr (some (722))), .inl (i)]) rfl ?_
    have n2 : 7 ≤ qz_N h 722 ∧ qz_N h 722 ≤ 7 := ez_len hB t722 tq_54 rfl
    refine ez_aI hB t722 rfl tq_54 rfl rfl (by omega) (by omega) (fun (b1 : 0 ≤ qz_I h 722 (0 : Int).toNat) (b1' : qz_I h 722 (0 : Int).toNat ≤ 4096) => ?_)
    refine ez_icmp rfl rfl ⟨by omega, by omega⟩ ⟨by omega, by omega⟩ (fun (c3 : (qz_I h 722 (0 : Int).toNat) ≤ (i)) => ?_) (fun (c3 : ¬((qz_I h 722 (0 : Int).toNat) ≤ (i))) => ?_)
    · skip
      exact kx
    · exfalso; omega
  | succ n ih =>
    intro i i1 i2 hn hd
    have hd : rz_dots (rz_b h) (t - s).toNat s = if rz_b h i = 46 then i else rz_dots (rz_b h) n (i + 1) := hd
    refine ez_go (n := 2) (pc' := 9) (L' := [(1, .inl (i)), (0, .inr (.inr (some (720))))]) (st' := [.inr (.inr (some (720))), .inl (i)]) rfl ?_
    refine ez_gC (p := 722) (tg := 54) hB t720 rfl rfl tq_52 rfl rfl (fun (t722 : _ = 54) => ?_)
    refine ez_go (n := 1) (pc' := 13) (L' := [(1, .inl (i)), (0, .inr (.inr (some (720))))]) (st' := [.inl (0), .inr (.inr (some (722))), .inl (i)]) rfl ?_
    have n2 : 7 ≤ qz_N h 722 ∧ qz_N h 722 ≤ 7 := ez_len hB t722 tq_54 rfl
    refine ez_aI hB t722 rfl tq_54 rfl rfl (by omega) (by omega) (fun (b1 : 0 ≤ qz_I h 722 (0 : Int).toNat) (b1' : qz_I h 722 (0 : Int).toNat ≤ 4096) => ?_)
    refine ez_icmp rfl rfl ⟨by omega, by omega⟩ ⟨by omega, by omega⟩ (fun (c3 : (qz_I h 722 (0 : Int).toNat) ≤ (i)) => ?_) (fun (c3 : ¬((qz_I h 722 (0 : Int).toNat) ≤ (i))) => ?_)
    · exfalso; omega
    · skip
      refine ez_go (n := 1) (pc' := 18) (L' := [(1, .inl (i)), (0, .inr (.inr (some (720))))]) (st' := [.inr (.inr (some (720)))]) rfl ?_
      refine ez_gC (p := 193) (tg := 45) hB t720 rfl rfl tq_52 rfl rfl (fun (t193 : _ = 45) => ?_)
      refine ez_go (n := 1) (pc' := 22) (L' := [(1, .inl (i)), (0, .inr (.inr (some (720))))]) (st' := [.inl (i), .inr (.inr (some (193)))]) rfl ?_
      have n5 : 4096 ≤ qz_N h 193 ∧ qz_N h 193 ≤ 4096 := ez_len hB t193 tq_45 rfl
      refine ez_aI hB t193 rfl tq_45 rfl rfl (by omega) (by omega) (fun (b4 : -128 ≤ qz_I h 193 (i).toNat) (b4' : qz_I h 193 (i).toNat ≤ 127) => ?_)
      refine ez_go (n := 1) (pc' := 25) (L' := [(1, .inl (i)), (0, .inr (.inr (some (720))))]) (st' := [.inl (46), .inl (qz_I h 193 (i).toNat)]) rfl ?_
      refine ez_icmp rfl rfl ⟨by omega, by omega⟩ ⟨by omega, by omega⟩ (fun (c6 : (qz_I h 193 (i).toNat) = (46)) => ?_) (fun (c6 : ¬((qz_I h 193 (i).toNat) = (46))) => ?_)
      · skip
        rw [if_pos (by unfold rz_b; omega)] at hd
        rw [hd] at kx
        exact kx
      · skip
        refine ez_go (n := 2) (pc' := 7) (L' := [(1, .inl (i + 1)), (0, .inr (.inr (some (720))))]) (st' := []) rfl ?_
        rw [if_neg (by unfold rz_b; omega)] at hd
        exact ih _ (by omega) (by omega) (by omega) hd
theorem rz_put1 {h : cz_H} {n : Int} {r i : Nat} : ez_fr (ez_one r) h (dz_put h r i (ez_v (.inl n))) := (ez_fr.refl (ez_one r) h).put (show Nat.beq r r = true from Nat.beq_refl r) _ _
theorem rd_readCodes_e (hB : ez_B τ h) (t720 : τ 720 = 52) (k1 : qz_I h 720 4 ≠ -1 → qz_I h 720 4 ≤ qz_I h 720 5 → Q (.inl (some (ez_v (.inl 1))), h)) (k0 : (qz_I h 720 4 ≠ -1 → ¬ qz_I h 720 4 ≤ qz_I h 720 5) → Q (.inl (some (ez_v (.inl 0))), h)) : ez_W d cm_160 123 [(0, .inr (.inr (some (720))))] [] h Q := by
  refine ez_go (n := 1) (pc' := 124) (L' := [(0, .inr (.inr (some (720))))]) (st' := [.inr (.inr (some (720)))]) rfl ?_
  refine ez_gI hB t720 rfl rfl tq_52 rfl rfl (fun (b1 : -2147483648 ≤ qz_I h 720 4) (b1' : qz_I h 720 4 ≤ 2147483647) => ?_)
  refine ez_go (n := 1) (pc' := 128) (L' := [(0, .inr (.inr (some (720))))]) (st' := [.inl (-1), .inl (qz_I h 720 4)]) rfl ?_
  refine ez_icmp rfl rfl ⟨by omega, by omega⟩ ⟨by omega, by omega⟩ (fun (c2 : (qz_I h 720 4) = (-1)) => ?_) (fun (c2 : ¬((qz_I h 720 4) = (-1))) => ?_)
  · skip
    refine ez_go (n := 1) (pc' := 147) (L' := [(0, .inr (.inr (some (720))))]) (st' := [.inl (0)]) rfl ?_
    exact ez_retZ rfl rfl (by decide) (k0 (by omega))
  · skip
    refine ez_go (n := 1) (pc' := 132) (L' := [(0, .inr (.inr (some (720))))]) (st' := [.inr (.inr (some (720)))]) rfl ?_
    refine ez_gI hB t720 rfl rfl tq_52 rfl rfl (fun (b3 : -2147483648 ≤ qz_I h 720 4) (b3' : qz_I h 720 4 ≤ 2147483647) => ?_)
    refine ez_go (n := 1) (pc' := 136) (L' := [(0, .inr (.inr (some (720))))]) (st' := [.inr (.inr (some (720))), .inl (qz_I h 720 4)]) rfl ?_
    refine ez_gI hB t720 rfl rfl tq_52 rfl rfl (fun (b4 : -2147483648 ≤ qz_I h 720 5) (b4' : qz_I h 720 5 ≤ 2147483647) => ?_)
    refine ez_icmp rfl rfl ⟨by omega, by omega⟩ ⟨by omega, by omega⟩ (fun (c5 : (qz_I h 720 5) < (qz_I h 720 4)) => ?_) (fun (c5 : ¬((qz_I h 720 5) < (qz_I h 720 4))) => ?_)
    · skip
      refine ez_go (n := 1) (pc' := 147) (L' := [(0, .inr (.inr (some (720))))]) (st' := [.inl (0)]) rfl ?_
      exact ez_retZ rfl rfl (by decide) (k0 (by omega))
    · skip
      refine ez_go (n := 2) (pc' := 147) (L' := [(0, .inr (.inr (some (720))))]) (st' := [.inl (1)]) rfl ?_
      exact ez_retZ rfl rfl (by decide) (k1 (by omega) (by omega))

/-- an int that was written is read again -/
theorem rz_rd {n : Int} (h : ez_rg n) : dz_n (ez_v (.inl n)) = n := h.v
theorem rd_readCodes_a {s t dd : Int} (hB : ez_B τ h) (t720 : τ 720 = 52) (s0 : 0 ≤ s) (d0 : s ≤ dd) (d1 : dd ≤ t) (t1 : t ≤ 4096) (hs : rz_f h 0 = s) (kk : ∀ g, ez_B τ g → ez_fr (ez_one 720) h g → qz_I g 720 4 = rz_code (rz_b h) s dd → qz_I g 720 5 = rz_code (rz_b h) s dd → ez_W (d + 2) cm_160 57 [(1, .inl (dd)), (0, .inr (.inr (some (720))))] [] g Q) : ez_W (d + 2) cm_160 34 [(1, .inl (dd)), (0, .inr (.inr (some (720))))] [] h Q := by
  refine ez_go (n := 3) (pc' := 37) (L' := [(1, .inl (dd)), (0, .inr (.inr (some (720))))]) (st' := [.inr (.inr (some (720))), .inr (.inr (some (720))), .inr (.inr (some (720)))]) rfl ?_
  refine ez_gC (p := 721) (tg := 53) hB t720 rfl rfl tq_52 rfl rfl (fun (t721 : _ = 53) => ?_)
  refine ez_go (n := 1) (pc' := 41) (L' := [(1, .inl (dd)), (0, .inr (.inr (some (720))))]) (st' := [.inl (0), .inr (.inr (some (721))), .inr (.inr (some (720))), .inr (.inr (some (720)))]) rfl ?_
  have n2 : 7 ≤ qz_N h 721 ∧ qz_N h 721 ≤ 7 := ez_len hB t721 tq_53 rfl
  refine ez_aI hB t721 rfl tq_53 rfl rfl (by omega) (by omega) (fun (b1 : 0 ≤ qz_I h 721 (0 : Int).toNat) (b1' : qz_I h 721 (0 : Int).toNat ≤ 4096) => ?_)
  refine ez_go (n := 1) (pc' := 43) (L' := [(1, .inl (dd)), (0, .inr (.inr (some (720))))]) (st' := [.inl (dd), .inl (qz_I h 721 (0 : Int).toNat), .inr (.inr (some (720))), .inr (.inr (some (720)))]) rfl ?_
  have hs2 : qz_I h 721 (0 : Int).toNat = s := hs
  refine ez_cv hB t720 rfl rfl rfl tq_52 rfl rfl rfl (rd_readCode hB t720 (by omega) (by omega) (by omega) (ez_K1 ?_))
  rw [hs2]
  have x := rz_code_bd (rz_b h) s dd
  refine ez_pf hB t720 rfl rfl tq_52 rfl rfl rfl rfl (ez_vdI rfl rfl (by omega) (by omega)) (fun hB3 w4 => ?_)
  refine ez_go (n := 2) (pc' := 51) (L' := [(1, .inl (dd)), (0, .inr (.inr (some (720))))]) (st' := [.inr (.inr (some (720))), .inr (.inr (some (720)))]) rfl ?_
  refine ez_gI hB3 t720 rfl rfl tq_52 rfl rfl (fun (b5 : -2147483648 ≤ qz_I (dz_put h 720 4 (ez_v (.inl (rz_code (rz_b h) s dd)))) 720 4) (b5' : qz_I (dz_put h 720 4 (ez_v (.inl (rz_code (rz_b h) s dd)))) 720 4 ≤ 2147483647) => ?_)
  refine ez_pf hB3 t720 rfl rfl tq_52 rfl rfl rfl rfl (ez_vdI rfl rfl (by omega) (by omega)) (fun hB6 w7 => ?_)
  refine kk _ hB6 (ez_fr.trans rz_put1 rz_put1) ?_ ?_
  · rw [ez_put_I (by omega), w4]; exact rz_rd ⟨by omega, by omega⟩
  · rw [w7, w4]; exact rz_rd ⟨by show _ ≤ dz_n _; rw [rz_rd ⟨by omega, by omega⟩]; omega, by show dz_n _ ≤ _; rw [rz_rd ⟨by omega, by omega⟩]; omega⟩ |>.trans (rz_rd ⟨by omega, by omega⟩)

theorem rd_readCodes_b {s t dd : Int} {g : cz_H} (hB : ez_B τ g) (t720 : τ 720 = 52) (s0 : 0 ≤ s) (d0 : s ≤ dd) (d1 : dd ≤ t) (t1 : t ≤ 4096) (ht : rz_t h 0 = t) (hf : ez_fr (ez_one 720) h g) (v4 : qz_I g 720 4 = rz_code (rz_b h) s dd) (v5 : qz_I g 720 5 = rz_code (rz_b h) s dd) (k1 : ∀ g, ez_B τ g → ez_fr (ez_one 720) h g → qz_I g 720 4 = rz_code (rz_b h) s dd → qz_I g 720 5 = (if dd < t then (if dd + 1 < t ∧ rz_b h (dd + 1) = 46 then rz_code (rz_b h) (dd + 2) t else -1) else rz_code (rz_b h) s dd) → rz_code (rz_b h) s dd ≠ -1 → rz_code (rz_b h) s dd ≤ (if dd < t then (if dd + 1 < t ∧ rz_b h (dd + 1) = 46 then rz_code (rz_b h) (dd + 2) t else -1) else rz_code (rz_b h) s dd) → Q (.inl (some (ez_v (.inl 1))), g)) (k0 : ∀ g, ez_B τ g → ez_fr (ez_one 720) h g → (rz_code (rz_b h) s dd ≠ -1 → ¬ rz_code (rz_b h) s dd ≤ (if dd < t then (if dd + 1 < t ∧ rz_b h (dd + 1) = 46 then rz_code (rz_b h) (dd + 2) t else -1) else rz_code (rz_b h) s dd)) → Q (.inl (some (ez_v (.inl 0))), g)) : ez_W (d + 2) cm_160 57 [(1, .inl (dd)), (0, .inr (.inr (some (720))))] [] g Q := by
  have hbg : rz_b g = rz_b h := rz_b_fr hf rfl
  have ht2 : qz_I g 722 (0 : Int).toNat = t := (hf.I rfl _).trans ht
  refine ez_go (n := 2) (pc' := 59) (L' := [(1, .inl (dd)), (0, .inr (.inr (some (720))))]) (st' := [.inr (.inr (some (720))), .inl (dd)]) rfl ?_
  refine ez_gC (p := 722) (tg := 54) hB t720 rfl rfl tq_52 rfl rfl (fun (t722 : _ = 54) => ?_)
  refine ez_go (n := 1) (pc' := 63) (L' := [(1, .inl (dd)), (0, .inr (.inr (some (720))))]) (st' := [.inl (0), .inr (.inr (some (722))), .inl (dd)]) rfl ?_
  have n2 : 7 ≤ qz_N g 722 ∧ qz_N g 722 ≤ 7 := ez_len hB t722 tq_54 rfl
  refine ez_aI hB t722 rfl tq_54 rfl rfl (by omega) (by omega) (fun (b1 : 0 ≤ qz_I g 722 (0 : Int).toNat) (b1' : qz_I g 722 (0 : Int).toNat ≤ 4096) => ?_)
  refine ez_icmp rfl rfl ⟨by omega, by omega⟩ ⟨by omega, by omega⟩ (fun (c3 : (qz_I g 722 (0 : Int).toNat) ≤ (dd)) => ?_) (fun (c3 : ¬((qz_I g 722 (0 : Int).toNat) ≤ (dd))) => ?_)
  · skip
    refine ez_less [(0, .inr (.inr (some (720))))] rfl ⟨rfl, trivial⟩ ?_
    refine rd_readCodes_e hB t720 (fun e1 e2 => k1 _ hB hf v4 (by rw [v5, if_neg (by omega)]) (by rw [← v4]; exact e1) (by rw [if_neg (by omega), ← v4]; omega)) (fun e1 => k0 _ hB hf (fun f1 => by rw [if_neg (by omega)]; rw [v4, v5] at e1; exact e1 f1))
  · skip
    refine ez_go (n := 4) (pc' := 71) (L' := [(1, .inl (dd)), (0, .inr (.inr (some (720))))]) (st' := [.inr (.inr (some (720))), .inl ((dd) + (1))]) rfl ?_
    refine ez_gC (p := 722) (tg := 54) hB t720 rfl rfl tq_52 rfl rfl (fun (t722 : _ = 54) => ?_)
    refine ez_go (n := 1) (pc' := 75) (L' := [(1, .inl (dd)), (0, .inr (.inr (some (720))))]) (st' := [.inl (0), .inr (.inr (some (722))), .inl ((dd) + (1))]) rfl ?_
    have n5 : 7 ≤ qz_N g 722 ∧ qz_N g 722 ≤ 7 := ez_len hB t722 tq_54 rfl
    refine ez_aI hB t722 rfl tq_54 rfl rfl (by omega) (by omega) (fun (b4 : 0 ≤ qz_I g 722 (0 : Int).toNat) (b4' : qz_I g 722 (0 : Int).toNat ≤ 4096) => ?_)
    refine ez_icmp rfl rfl ⟨by omega, by omega⟩ ⟨by omega, by omega⟩ (fun (c6 : (qz_I g 722 (0 : Int).toNat) ≤ ((dd) + (1))) => ?_) (fun (c6 : ¬((qz_I g 722 (0 : Int).toNat) ≤ ((dd) + (1)))) => ?_)
    · skip
      refine ez_go (n := 4) (pc' := 100) (L' := [(2, .inl (0)), (1, .inl (dd)), (0, .inr (.inr (some (720))))]) (st' := [.inl (0), .inr (.inr (some (720)))]) rfl ?_
      refine ez_if rfl rfl ⟨by decide, by decide⟩ (fun _ => ?_) (fun (c7 : ¬((0 : Int) = (0))) => absurd c7 (by decide))
      refine ez_go (n := 1) (pc' := 120) (L' := [(2, .inl (0)), (1, .inl (dd)), (0, .inr (.inr (some (720))))]) (st' := [.inl (-1), .inr (.inr (some (720)))]) rfl ?_
      refine ez_pf hB t720 rfl rfl tq_52 rfl rfl rfl rfl (ez_vdI rfl rfl (by omega) (by omega)) (fun hB8 w9 => ?_)
      refine ez_less [(0, .inr (.inr (some (720))))] rfl ⟨rfl, trivial⟩ ?_
      have v5' : qz_I (dz_put g 720 5 (ez_v (.inl (-1)))) 720 5 = -1 := by rw [w9]; exact rz_rd ⟨by omega, by omega⟩
      have v4' : qz_I (dz_put g 720 5 (ez_v (.inl (-1)))) 720 4 = rz_code (rz_b h) s dd := by rw [ez_put_I (by omega)]; exact v4
      have le : (if dd < t then (if dd + 1 < t ∧ rz_b h (dd + 1) = 46 then rz_code (rz_b h) (dd + 2) t else -1) else rz_code (rz_b h) s dd) = -1 := by rw [if_pos (by omega), if_neg (by rw [← hbg]; unfold rz_b; omega)]
      refine rd_readCodes_e hB8 t720 (fun e1 e2 => k1 _ hB8 (hf.trans rz_put1) v4' (by rw [le]; exact v5') (by rw [← v4']; exact e1) (by rw [le]; rw [v4', v5'] at e2; exact e2)) (fun e1 => k0 _ hB8 (hf.trans rz_put1) (fun f1 => by rw [le]; rw [v4', v5'] at e1; exact e1 f1))
    · skip
      refine ez_go (n := 1) (pc' := 80) (L' := [(1, .inl (dd)), (0, .inr (.inr (some (720))))]) (st' := [.inr (.inr (some (720)))]) rfl ?_
      refine ez_gC (p := 193) (tg := 45) hB t720 rfl rfl tq_52 rfl rfl (fun (t193 : _ = 45) => ?_)
      refine ez_go (n := 3) (pc' := 86) (L' := [(1, .inl (dd)), (0, .inr (.inr (some (720))))]) (st' := [.inl ((dd) + (1)), .inr (.inr (some (193)))]) rfl ?_
      have n11 : 4096 ≤ qz_N g 193 ∧ qz_N g 193 ≤ 4096 := ez_len hB t193 tq_45 rfl
      refine ez_aI hB t193 rfl tq_45 rfl rfl (by omega) (by omega) (fun (b10 : -128 ≤ qz_I g 193 ((dd) + (1)).toNat) (b10' : qz_I g 193 ((dd) + (1)).toNat ≤ 127) => ?_)
      refine ez_go (n := 1) (pc' := 89) (L' := [(1, .inl (dd)), (0, .inr (.inr (some (720))))]) (st' := [.inl (46), .inl (qz_I g 193 ((dd) + (1)).toNat)]) rfl ?_
      refine ez_icmp rfl rfl ⟨by omega, by omega⟩ ⟨by omega, by omega⟩ (fun (c12 : (qz_I g 193 ((dd) + (1)).toNat) ≠ (46)) => ?_) (fun (c12 : ¬((qz_I g 193 ((dd) + (1)).toNat) ≠ (46))) => ?_)
      · skip
        refine ez_go (n := 4) (pc' := 100) (L' := [(2, .inl (0)), (1, .inl (dd)), (0, .inr (.inr (some (720))))]) (st' := [.inl (0), .inr (.inr (some (720)))]) rfl ?_
        refine ez_if rfl rfl ⟨by decide, by decide⟩ (fun _ => ?_) (fun (c13 : ¬((0 : Int) = (0))) => absurd c13 (by decide))
        refine ez_go (n := 1) (pc' := 120) (L' := [(2, .inl (0)), (1, .inl (dd)), (0, .inr (.inr (some (720))))]) (st' := [.inl (-1), .inr (.inr (some (720)))]) rfl ?_
        refine ez_pf hB t720 rfl rfl tq_52 rfl rfl rfl rfl (ez_vdI rfl rfl (by omega) (by omega)) (fun hB14 w15 => ?_)
        refine ez_less [(0, .inr (.inr (some (720))))] rfl ⟨rfl, trivial⟩ ?_
        have v5' : qz_I (dz_put g 720 5 (ez_v (.inl (-1)))) 720 5 = -1 := by rw [w15]; exact rz_rd ⟨by omega, by omega⟩
        have v4' : qz_I (dz_put g 720 5 (ez_v (.inl (-1)))) 720 4 = rz_code (rz_b h) s dd := by rw [ez_put_I (by omega)]; exact v4
        have le : (if dd < t then (if dd + 1 < t ∧ rz_b h (dd + 1) = 46 then rz_code (rz_b h) (dd + 2) t else -1) else rz_code (rz_b h) s dd) = -1 := by rw [if_pos (by omega), if_neg (by rw [← hbg]; unfold rz_b; omega)]
        refine rd_readCodes_e hB14 t720 (fun e1 e2 => k1 _ hB14 (hf.trans rz_put1) v4' (by rw [le]; exact v5') (by rw [← v4']; exact e1) (by rw [le]; rw [v4', v5'] at e2; exact e2)) (fun e1 => k0 _ hB14 (hf.trans rz_put1) (fun f1 => by rw [le]; rw [v4', v5'] at e1; exact e1 f1))
      · skip
        refine ez_go (n := 5) (pc' := 100) (L' := [(2, .inl (1)), (1, .inl (dd)), (0, .inr (.inr (some (720))))]) (st' := [.inl (1), .inr (.inr (some (720)))]) rfl ?_
        refine ez_if rfl rfl ⟨by decide, by decide⟩ (fun (c16 : (1 : Int) = (0)) => absurd c16 (by decide)) (fun _ => ?_)
        refine ez_go (n := 5) (pc' := 108) (L' := [(2, .inl (1)), (1, .inl (dd)), (0, .inr (.inr (some (720))))]) (st' := [.inr (.inr (some (720))), .inl ((dd) + (2)), .inr (.inr (some (720))), .inr (.inr (some (720)))]) rfl ?_
        refine ez_gC (p := 722) (tg := 54) hB t720 rfl rfl tq_52 rfl rfl (fun (t722 : _ = 54) => ?_)
        refine ez_go (n := 1) (pc' := 112) (L' := [(2, .inl (1)), (1, .inl (dd)), (0, .inr (.inr (some (720))))]) (st' := [.inl (0), .inr (.inr (some (722))), .inl ((dd) + (2)), .inr (.inr (some (720))), .inr (.inr (some (720)))]) rfl ?_
        have n18 : 7 ≤ qz_N g 722 ∧ qz_N g 722 ≤ 7 := ez_len hB t722 tq_54 rfl
        refine ez_aI hB t722 rfl tq_54 rfl rfl (by omega) (by omega) (fun (b17 : 0 ≤ qz_I g 722 (0 : Int).toNat) (b17' : qz_I g 722 (0 : Int).toNat ≤ 4096) => ?_)
        refine ez_cv hB t720 rfl rfl rfl tq_52 rfl rfl rfl (rd_readCode hB t720 (by omega) (by omega) (by omega) (ez_K1 ?_))
        rw [hbg, ht2]
        have x := rz_code_bd (rz_b h) (dd + 2) t
        refine ez_go (n := 1) (pc' := 120) (L' := [(2, .inl (1)), (1, .inl (dd)), (0, .inr (.inr (some (720))))]) (st' := [.inl (rz_code (rz_b h) (dd + 2) t), .inr (.inr (some (720)))]) rfl ?_
        refine ez_pf hB t720 rfl rfl tq_52 rfl rfl rfl rfl (ez_vdI rfl rfl (by omega) (by omega)) (fun hB19 w20 => ?_)
        refine ez_less [(0, .inr (.inr (some (720))))] rfl ⟨rfl, trivial⟩ ?_
        have v5' : qz_I (dz_put g 720 5 (ez_v (.inl (rz_code (rz_b h) (dd + 2) t)))) 720 5 = rz_code (rz_b h) (dd + 2) t := by rw [w20]; exact rz_rd ⟨by omega, by omega⟩
        have v4' : qz_I (dz_put g 720 5 (ez_v (.inl (rz_code (rz_b h) (dd + 2) t)))) 720 4 = rz_code (rz_b h) s dd := by rw [ez_put_I (by omega)]; exact v4
        have le : (if dd < t then (if dd + 1 < t ∧ rz_b h (dd + 1) = 46 then rz_code (rz_b h) (dd + 2) t else -1) else rz_code (rz_b h) s dd) = rz_code (rz_b h) (dd + 2) t := by rw [if_pos (by omega), if_pos (by refine ⟨by omega, ?_⟩; rw [← hbg]; unfold rz_b; omega)]
        refine rd_readCodes_e hB19 t720 (fun e1 e2 => k1 _ hB19 (hf.trans rz_put1) v4' (by rw [le]; exact v5') (by rw [← v4']; exact e1) (by rw [le]; rw [v4', v5'] at e2; exact e2)) (fun e1 => k0 _ hB19 (hf.trans rz_put1) (fun f1 => by rw [le]; rw [v4', v5'] at e1; exact e1 f1))

theorem rd_readCodes {s t : Int} (hB : ez_B τ h) (t720 : τ 720 = 52) (hs : rz_f h 0 = s) (ht : rz_t h 0 = t) (s0 : 0 ≤ s) (st : s ≤ t) (t1 : t ≤ 4096) (k1 : ∀ g, ez_B τ g → ez_fr (ez_one 720) h g → qz_I g 720 4 = rz_first (rz_b h) s t → qz_I g 720 5 = rz_last (rz_b h) s t → rz_first (rz_b h) s t ≠ -1 → rz_first (rz_b h) s t ≤ rz_last (rz_b h) s t → Q (.inl (some (ez_v (.inl 1))), g)) (k0 : ∀ g, ez_B τ g → ez_fr (ez_one 720) h g → (rz_first (rz_b h) s t ≠ -1 → ¬ rz_first (rz_b h) s t ≤ rz_last (rz_b h) s t) → Q (.inl (some (ez_v (.inl 0))), g)) : ez_W (d + 2) cm_160 0 [(0, .inr (.inr (some (720))))] [] h Q := by
  have hs2 : qz_I h 721 (0 : Int).toNat = s := hs
  refine ez_go (n := 1) (pc' := 1) (L' := [(0, .inr (.inr (some (720))))]) (st' := [.inr (.inr (some (720)))]) rfl ?_
  refine ez_gC (p := 721) (tg := 53) hB t720 rfl rfl tq_52 rfl rfl (fun (t721 : _ = 53) => ?_)
  refine ez_go (n := 1) (pc' := 5) (L' := [(0, .inr (.inr (some (720))))]) (st' := [.inl (0), .inr (.inr (some (721)))]) rfl ?_
  have n2 : 7 ≤ qz_N h 721 ∧ qz_N h 721 ≤ 7 := ez_len hB t721 tq_53 rfl
  refine ez_aI hB t721 rfl tq_53 rfl rfl (by omega) (by omega) (fun (b1 : 0 ≤ qz_I h 721 (0 : Int).toNat) (b1' : qz_I h 721 (0 : Int).toNat ≤ 4096) => ?_)
  refine ez_go (n := 1) (pc' := 7) (L' := [(1, .inl (qz_I h 721 (0 : Int).toNat)), (0, .inr (.inr (some (720))))]) (st' := []) rfl ?_
  exact rd_readCodes_l hB t720 hs ht s0 st t1 (rd_readCodes_a (t := t) hB t720 s0 (rz_dots_le _ _ _).1 (by have := rz_dots_le (rz_b h) (t - s).toNat s; omega) t1 hs (fun g e1 e2 e3 e4 => rd_readCodes_b e1 t720 s0 (rz_dots_le _ _ _).1 (by have := rz_dots_le (rz_b h) (t - s).toNat s; omega) t1 ht e2 e3 e4 k1 k0)) _ _ (by omega) (by omega) (by rw [hs2]) (by rw [hs2])

end EzRd5
/-! The reader of the class, functionally, V: category, class, tokens. (Written by wip/p2/py/pv6.py.) -/
/-- digits: n of them from i on; -1 where one isn't -/
def rz_dec (b : Int → Int) : Nat → Int → Int → Int
  | 0, _, v => v
  | n + 1, i, v => if 48 ≤ b i ∧ b i ≤ 57 then rz_dec b n (i + 1) (v * 10 + b i - 48) else -1
def rz_let (c : Int) : Prop := (65 ≤ c ∧ c ≤ 90) ∨ (97 ≤ c ∧ c ≤ 122)
theorem rz_let_or (c : Int) : rz_let c ∨ ¬ rz_let c := Classical.em _
/-- behind letters: at most n -/
noncomputable def rz_lets (b : Int → Int) : Nat → Int → Int
  | 0, i => i
  | n + 1, i => if (65 ≤ b i ∧ b i ≤ 90) ∨ (97 ≤ b i ∧ b i ≤ 122) then rz_lets b n (i + 1) else i
theorem rz_lets_le (b : Int → Int) : ∀ n i, i ≤ rz_lets b n i ∧ rz_lets b n i ≤ i + n
  | 0, i => ⟨Int.le_refl i, by show i ≤ i + 0; omega⟩
  | n + 1, i => by
    unfold rz_lets
    split
    · have := rz_lets_le b n (i + 1); omega
    · omega
/-- how many tokens begin: n bytes from i on, s where the stretch begins -/
def rz_ct (b : Int → Int) (s : Int) : Nat → Int → Nat
  | 0, _ => 0
  | n + 1, i => (if ¬ (b i = 9 ∨ b i = 32) ∧ (i = s ∨ (b (i - 1) = 9 ∨ b (i - 1) = 32)) then 1 else 0) + rz_ct b s n (i + 1)
theorem rz_ct_le (b : Int → Int) (s : Int) : ∀ n i, rz_ct b s n i ≤ n
  | 0, _ => Nat.le_refl 0
  | n + 1, i => by
    unfold rz_ct
    have := rz_ct_le b s n (i + 1)
    split <;> omega
def rz_cat (b : Int → Int) (s t : Int) : Prop := t - s = 2 ∧ (65 ≤ b s ∧ b s ≤ 90) ∧ (97 ≤ b (s + 1) ∧ b (s + 1) ≤ 122)
section EzRd6
variable {d : Nat} {h : cz_H} {τ : Nat → Nat} {Q : cz_F → Prop} {r : Nat}
theorem rz_ne {p t1 t2 : Nat} (h1 : τ p = t1) (h2 : τ r = t2) (hn : Nat.beq t1 t2 = false) : ez_one r p = false := by
  unfold ez_one
  exact dz_beq_ne (fun e => by rw [e, h2] at h1; rw [h1, Nat.beq_refl] at hn; cases hn)
theorem rd_readCategory_b {a : Int} (hB : ez_B τ h) (t720 : τ 720 = 52) (a0 : 0 ≤ a) (a1 : a + 1 < 4096) (k1 : (65 ≤ rz_b h a ∧ rz_b h a ≤ 90) ∧ (97 ≤ rz_b h (a + 1) ∧ rz_b h (a + 1) ≤ 122) → Q (.inl (some (ez_v (.inl 1))), h)) (k0 : ¬((65 ≤ rz_b h a ∧ rz_b h a ≤ 90) ∧ (97 ≤ rz_b h (a + 1) ∧ rz_b h (a + 1) ≤ 122)) → Q (.inl (some (ez_v (.inl 0))), h)) : ez_W d cm_157 44 [(2, .inl (a)), (0, .inr (.inr (some (720)))), (1, .inr (.inr (some (r))))] [] h Q := by
  refine ez_go (n := 1) (pc' := 45) (L' := [(2, .inl (a)), (0, .inr (.inr (some (720)))), (1, .inr (.inr (some (r))))]) (st' := [.inr (.inr (some (720)))]) rfl ?_
  refine ez_gC (p := 193) (tg := 45) hB t720 rfl rfl tq_52 rfl rfl (fun (t193 : _ = 45) => ?_)
  refine ez_go (n := 1) (pc' := 49) (L' := [(2, .inl (a)), (0, .inr (.inr (some (720)))), (1, .inr (.inr (some (r))))]) (st' := [.inl (a), .inr (.inr (some (193)))]) rfl ?_
  have n2 : 4096 ≤ qz_N h 193 ∧ qz_N h 193 ≤ 4096 := ez_len hB t193 tq_45 rfl
  refine ez_aI hB t193 rfl tq_45 rfl rfl (by omega) (by omega) (fun (b1 : -128 ≤ qz_I h 193 (a).toNat) (b1' : qz_I h 193 (a).toNat ≤ 127) => ?_)
  refine ez_go (n := 1) (pc' := 52) (L' := [(2, .inl (a)), (0, .inr (.inr (some (720)))), (1, .inr (.inr (some (r))))]) (st' := [.inl (65), .inl (qz_I h 193 (a).toNat)]) rfl ?_
  refine ez_icmp rfl rfl ⟨by omega, by omega⟩ ⟨by omega, by omega⟩ (fun (c3 : (qz_I h 193 (a).toNat) < (65)) => ?_) (fun (c3 : ¬((qz_I h 193 (a).toNat) < (65))) => ?_)
  · skip
    refine ez_go (n := 1) (pc' := 97) (L' := [(2, .inl (a)), (0, .inr (.inr (some (720)))), (1, .inr (.inr (some (r))))]) (st' := [.inl (0)]) rfl ?_
    exact ez_retZ rfl rfl (by decide) (k0 (fun w => by unfold rz_b at w; omega))
  · skip
    refine ez_go (n := 1) (pc' := 56) (L' := [(2, .inl (a)), (0, .inr (.inr (some (720)))), (1, .inr (.inr (some (r))))]) (st' := [.inr (.inr (some (720)))]) rfl ?_
    refine ez_gC (p := 193) (tg := 45) hB t720 rfl rfl tq_52 rfl rfl (fun (t193 : _ = 45) => ?_)
    refine ez_go (n := 1) (pc' := 60) (L' := [(2, .inl (a)), (0, .inr (.inr (some (720)))), (1, .inr (.inr (some (r))))]) (st' := [.inl (a), .inr (.inr (some (193)))]) rfl ?_
    have n5 : 4096 ≤ qz_N h 193 ∧ qz_N h 193 ≤ 4096 := ez_len hB t193 tq_45 rfl
    refine ez_aI hB t193 rfl tq_45 rfl rfl (by omega) (by omega) (fun (b4 : -128 ≤ qz_I h 193 (a).toNat) (b4' : qz_I h 193 (a).toNat ≤ 127) => ?_)
    refine ez_go (n := 1) (pc' := 63) (L' := [(2, .inl (a)), (0, .inr (.inr (some (720)))), (1, .inr (.inr (some (r))))]) (st' := [.inl (90), .inl (qz_I h 193 (a).toNat)]) rfl ?_
    refine ez_icmp rfl rfl ⟨by omega, by omega⟩ ⟨by omega, by omega⟩ (fun (c6 : (90) < (qz_I h 193 (a).toNat)) => ?_) (fun (c6 : ¬((90) < (qz_I h 193 (a).toNat))) => ?_)
    · skip
      refine ez_go (n := 1) (pc' := 97) (L' := [(2, .inl (a)), (0, .inr (.inr (some (720)))), (1, .inr (.inr (some (r))))]) (st' := [.inl (0)]) rfl ?_
      exact ez_retZ rfl rfl (by decide) (k0 (fun w => by unfold rz_b at w; omega))
    · skip
      refine ez_go (n := 1) (pc' := 67) (L' := [(2, .inl (a)), (0, .inr (.inr (some (720)))), (1, .inr (.inr (some (r))))]) (st' := [.inr (.inr (some (720)))]) rfl ?_
      refine ez_gC (p := 193) (tg := 45) hB t720 rfl rfl tq_52 rfl rfl (fun (t193 : _ = 45) => ?_)
      refine ez_go (n := 3) (pc' := 73) (L' := [(2, .inl (a)), (0, .inr (.inr (some (720)))), (1, .inr (.inr (some (r))))]) (st' := [.inl ((a) + (1)), .inr (.inr (some (193)))]) rfl ?_
      have n8 : 4096 ≤ qz_N h 193 ∧ qz_N h 193 ≤ 4096 := ez_len hB t193 tq_45 rfl
      refine ez_aI hB t193 rfl tq_45 rfl rfl (by omega) (by omega) (fun (b7 : -128 ≤ qz_I h 193 ((a) + (1)).toNat) (b7' : qz_I h 193 ((a) + (1)).toNat ≤ 127) => ?_)
      refine ez_go (n := 1) (pc' := 76) (L' := [(2, .inl (a)), (0, .inr (.inr (some (720)))), (1, .inr (.inr (some (r))))]) (st' := [.inl (97), .inl (qz_I h 193 ((a) + (1)).toNat)]) rfl ?_
      refine ez_icmp rfl rfl ⟨by omega, by omega⟩ ⟨by omega, by omega⟩ (fun (c9 : (qz_I h 193 ((a) + (1)).toNat) < (97)) => ?_) (fun (c9 : ¬((qz_I h 193 ((a) + (1)).toNat) < (97))) => ?_)
      · skip
        refine ez_go (n := 1) (pc' := 97) (L' := [(2, .inl (a)), (0, .inr (.inr (some (720)))), (1, .inr (.inr (some (r))))]) (st' := [.inl (0)]) rfl ?_
        exact ez_retZ rfl rfl (by decide) (k0 (fun w => by unfold rz_b at w; omega))
      · skip
        refine ez_go (n := 1) (pc' := 80) (L' := [(2, .inl (a)), (0, .inr (.inr (some (720)))), (1, .inr (.inr (some (r))))]) (st' := [.inr (.inr (some (720)))]) rfl ?_
        refine ez_gC (p := 193) (tg := 45) hB t720 rfl rfl tq_52 rfl rfl (fun (t193 : _ = 45) => ?_)
        refine ez_go (n := 3) (pc' := 86) (L' := [(2, .inl (a)), (0, .inr (.inr (some (720)))), (1, .inr (.inr (some (r))))]) (st' := [.inl ((a) + (1)), .inr (.inr (some (193)))]) rfl ?_
        have n11 : 4096 ≤ qz_N h 193 ∧ qz_N h 193 ≤ 4096 := ez_len hB t193 tq_45 rfl
        refine ez_aI hB t193 rfl tq_45 rfl rfl (by omega) (by omega) (fun (b10 : -128 ≤ qz_I h 193 ((a) + (1)).toNat) (b10' : qz_I h 193 ((a) + (1)).toNat ≤ 127) => ?_)
        refine ez_go (n := 1) (pc' := 89) (L' := [(2, .inl (a)), (0, .inr (.inr (some (720)))), (1, .inr (.inr (some (r))))]) (st' := [.inl (122), .inl (qz_I h 193 ((a) + (1)).toNat)]) rfl ?_
        refine ez_icmp rfl rfl ⟨by omega, by omega⟩ ⟨by omega, by omega⟩ (fun (c12 : (122) < (qz_I h 193 ((a) + (1)).toNat)) => ?_) (fun (c12 : ¬((122) < (qz_I h 193 ((a) + (1)).toNat))) => ?_)
        · skip
          refine ez_go (n := 1) (pc' := 97) (L' := [(2, .inl (a)), (0, .inr (.inr (some (720)))), (1, .inr (.inr (some (r))))]) (st' := [.inl (0)]) rfl ?_
          exact ez_retZ rfl rfl (by decide) (k0 (fun w => by unfold rz_b at w; omega))
        · skip
          refine ez_go (n := 2) (pc' := 97) (L' := [(2, .inl (a)), (0, .inr (.inr (some (720)))), (1, .inr (.inr (some (r))))]) (st' := [.inl (1)]) rfl ?_
          exact ez_retZ rfl rfl (by decide) (k1 ⟨by unfold rz_b; omega, by unfold rz_b; omega⟩)

theorem rd_readCategory (hB : ez_B τ h) (t720 : τ 720 = 52) (tr : τ r = 3) (k1 : ∀ g, ez_B τ g → ez_fr (ez_one r) h g → (∀ j, j ≠ 1 → qz_I g r j = qz_I h r j) → qz_I g r 1 = rz_b h (rz_f h 1) * 256 + rz_b h (rz_f h 1 + 1) → rz_cat (rz_b h) (rz_f h 1) (rz_t h 1) → Q (.inl (some (ez_v (.inl 1))), g)) (k0 : ∀ g, ez_B τ g → ez_fr (ez_one r) h g → (∀ j, j ≠ 1 → qz_I g r j = qz_I h r j) → ¬ rz_cat (rz_b h) (rz_f h 1) (rz_t h 1) → Q (.inl (some (ez_v (.inl 0))), g)) : ez_W d cm_157 0 [(0, .inr (.inr (some (720)))), (1, .inr (.inr (some (r))))] [] h Q := by
  refine ez_go (n := 1) (pc' := 1) (L' := [(0, .inr (.inr (some (720)))), (1, .inr (.inr (some (r))))]) (st' := [.inr (.inr (some (720)))]) rfl ?_
  refine ez_gC (p := 721) (tg := 53) hB t720 rfl rfl tq_52 rfl rfl (fun (t721 : _ = 53) => ?_)
  refine ez_go (n := 1) (pc' := 5) (L' := [(0, .inr (.inr (some (720)))), (1, .inr (.inr (some (r))))]) (st' := [.inl (1), .inr (.inr (some (721)))]) rfl ?_
  have n2 : 7 ≤ qz_N h 721 ∧ qz_N h 721 ≤ 7 := ez_len hB t721 tq_53 rfl
  refine ez_aI hB t721 rfl tq_53 rfl rfl (by omega) (by omega) (fun (b1 : 0 ≤ qz_I h 721 (1 : Int).toNat) (b1' : qz_I h 721 (1 : Int).toNat ≤ 4096) => ?_)
  refine ez_go (n := 2) (pc' := 8) (L' := [(2, .inl (qz_I h 721 (1 : Int).toNat)), (0, .inr (.inr (some (720)))), (1, .inr (.inr (some (r))))]) (st' := [.inr (.inr (some (720)))]) rfl ?_
  refine ez_gC (p := 722) (tg := 54) hB t720 rfl rfl tq_52 rfl rfl (fun (t722 : _ = 54) => ?_)
  refine ez_go (n := 1) (pc' := 12) (L' := [(2, .inl (qz_I h 721 (1 : Int).toNat)), (0, .inr (.inr (some (720)))), (1, .inr (.inr (some (r))))]) (st' := [.inl (1), .inr (.inr (some (722)))]) rfl ?_
  have n4 : 7 ≤ qz_N h 722 ∧ qz_N h 722 ≤ 7 := ez_len hB t722 tq_54 rfl
  refine ez_aI hB t722 rfl tq_54 rfl rfl (by omega) (by omega) (fun (b3 : 0 ≤ qz_I h 722 (1 : Int).toNat) (b3' : qz_I h 722 (1 : Int).toNat ≤ 4096) => ?_)
  refine ez_go (n := 3) (pc' := 16) (L' := [(2, .inl (qz_I h 721 (1 : Int).toNat)), (0, .inr (.inr (some (720)))), (1, .inr (.inr (some (r))))]) (st' := [.inl (2), .inl ((qz_I h 722 (1 : Int).toNat) - (qz_I h 721 (1 : Int).toNat))]) rfl ?_
  refine ez_icmp rfl rfl ⟨by first | omega | exact (sz_i32 _).1, by first | omega | exact (sz_i32 _).2⟩ ⟨by first | omega | exact (sz_i32 _).1, by first | omega | exact (sz_i32 _).2⟩ (fun (c5 : ((qz_I h 722 (1 : Int).toNat) - (qz_I h 721 (1 : Int).toNat)) = (2)) => ?_) (fun (c5 : ¬(((qz_I h 722 (1 : Int).toNat) - (qz_I h 721 (1 : Int).toNat)) = (2))) => ?_)
  · skip
    refine ez_go (n := 2) (pc' := 23) (L' := [(2, .inl (qz_I h 721 (1 : Int).toNat)), (0, .inr (.inr (some (720)))), (1, .inr (.inr (some (r))))]) (st' := [.inr (.inr (some (720))), .inr (.inr (some (r)))]) rfl ?_
    refine ez_gC (p := 193) (tg := 45) hB t720 rfl rfl tq_52 rfl rfl (fun (t193 : _ = 45) => ?_)
    refine ez_go (n := 1) (pc' := 27) (L' := [(2, .inl (qz_I h 721 (1 : Int).toNat)), (0, .inr (.inr (some (720)))), (1, .inr (.inr (some (r))))]) (st' := [.inl (qz_I h 721 (1 : Int).toNat), .inr (.inr (some (193))), .inr (.inr (some (r)))]) rfl ?_
    have n7 : 4096 ≤ qz_N h 193 ∧ qz_N h 193 ≤ 4096 := ez_len hB t193 tq_45 rfl
    refine ez_aI hB t193 rfl tq_45 rfl rfl (by omega) (by omega) (fun (b6 : -128 ≤ qz_I h 193 (qz_I h 721 (1 : Int).toNat).toNat) (b6' : qz_I h 193 (qz_I h 721 (1 : Int).toNat).toNat ≤ 127) => ?_)
    refine ez_go (n := 3) (pc' := 33) (L' := [(2, .inl (qz_I h 721 (1 : Int).toNat)), (0, .inr (.inr (some (720)))), (1, .inr (.inr (some (r))))]) (st' := [.inr (.inr (some (720))), .inl ((qz_I h 193 (qz_I h 721 (1 : Int).toNat).toNat) * (256)), .inr (.inr (some (r)))]) rfl ?_
    refine ez_gC (p := 193) (tg := 45) hB t720 rfl rfl tq_52 rfl rfl (fun (t193 : _ = 45) => ?_)
    refine ez_go (n := 3) (pc' := 39) (L' := [(2, .inl (qz_I h 721 (1 : Int).toNat)), (0, .inr (.inr (some (720)))), (1, .inr (.inr (some (r))))]) (st' := [.inl ((qz_I h 721 (1 : Int).toNat) + (1)), .inr (.inr (some (193))), .inl ((qz_I h 193 (qz_I h 721 (1 : Int).toNat).toNat) * (256)), .inr (.inr (some (r)))]) rfl ?_
    have n9 : 4096 ≤ qz_N h 193 ∧ qz_N h 193 ≤ 4096 := ez_len hB t193 tq_45 rfl
    refine ez_aI hB t193 rfl tq_45 rfl rfl (by omega) (by omega) (fun (b8 : -128 ≤ qz_I h 193 ((qz_I h 721 (1 : Int).toNat) + (1)).toNat) (b8' : qz_I h 193 ((qz_I h 721 (1 : Int).toNat) + (1)).toNat ≤ 127) => ?_)
    refine ez_go (n := 1) (pc' := 41) (L' := [(2, .inl (qz_I h 721 (1 : Int).toNat)), (0, .inr (.inr (some (720)))), (1, .inr (.inr (some (r))))]) (st' := [.inl (((qz_I h 193 (qz_I h 721 (1 : Int).toNat).toNat) * (256)) + (qz_I h 193 ((qz_I h 721 (1 : Int).toNat) + (1)).toNat)), .inr (.inr (some (r)))]) rfl ?_
    refine ez_pf hB tr rfl rfl tq_3 rfl rfl rfl rfl (ez_vdI rfl rfl (by omega) (by omega)) (fun hB10 w11 => ?_)
    have ne := rz_ne t193 tr rfl
    have hf : ez_fr (ez_one r) h (dz_put h r 1 (ez_v (.inl (((qz_I h 193 (qz_I h 721 (1 : Int).toNat).toNat) * (256)) + (qz_I h 193 ((qz_I h 721 (1 : Int).toNat) + (1)).toNat))))) := (ez_fr.refl (ez_one r) h).put (show Nat.beq r r = true from Nat.beq_refl r) _ _
    have hb := rz_b_fr hf ne
    have hcv : qz_I (dz_put h r 1 (ez_v (.inl (((qz_I h 193 (qz_I h 721 (1 : Int).toNat).toNat) * (256)) + (qz_I h 193 ((qz_I h 721 (1 : Int).toNat) + (1)).toNat))))) r 1 = rz_b h (rz_f h 1) * 256 + rz_b h (rz_f h 1 + 1) := w11.trans (rz_rd ⟨by omega, by omega⟩)
    refine rd_readCategory_b hB10 t720 (by omega) (by omega) (fun e => k1 _ hB10 hf (fun j hj => ez_put_I (fun w => hj w.2)) hcv ?_) (fun e => k0 _ hB10 hf (fun j hj => ez_put_I (fun w => hj w.2)) ?_)
    · rw [hb] at e; exact ⟨by unfold rz_f rz_t; omega, e⟩
    · rw [hb] at e; exact fun w => e w.2
  · skip
    refine ez_go (n := 1) (pc' := 20) (L' := [(2, .inl (qz_I h 721 (1 : Int).toNat)), (0, .inr (.inr (some (720)))), (1, .inr (.inr (some (r))))]) (st' := [.inl (0)]) rfl ?_
    exact ez_retZ rfl rfl (by decide) (k0 h hB (ez_fr.refl _ _) (fun _ _ => rfl) (fun w => by have := w.1; unfold rz_f rz_t at this; omega))

theorem rd_readClass_l {s t dg : Int} (hB : ez_B τ h) (t720 : τ 720 = 52) (tr : τ r = 3) (hs : rz_f h 2 = s) (ht : rz_t h 2 = t) (s0 : 0 ≤ s) (t1 : t ≤ 4096) : ∀ (n : Nat) (i v : Int), s ≤ i → i ≤ t → n = (t - i).toNat → n ≤ 3 → 0 ≤ v → (n = 3 → v ≤ 0) → (n = 2 → v ≤ 9) → (n = 1 → v ≤ 99) → (n = 0 → v ≤ 999) → (∀ g, ez_B τ g → ez_fr (ez_one r) h g → (∀ j, j ≠ 2 → qz_I g r j = qz_I h r j) → qz_I g r 2 = (rz_dec (rz_b h) n i v) → 0 ≤ (rz_dec (rz_b h) n i v) → (rz_dec (rz_b h) n i v) ≤ 254 → Q (.inl (some (ez_v (.inl 1))), g)) → (∀ g, ez_B τ g → ez_fr (ez_one r) h g → (∀ j, j ≠ 2 → qz_I g r j = qz_I h r j) → ¬(0 ≤ (rz_dec (rz_b h) n i v) ∧ (rz_dec (rz_b h) n i v) ≤ 254) → Q (.inl (some (ez_v (.inl 0))), g)) → ez_W d cm_158 36 [(4, .inl (i)), (3, .inl (v)), (0, .inr (.inr (some (720)))), (1, .inr (.inr (some (r)))), (2, .inl (dg))] [] h Q := by
  unfold rz_t at ht
  intro n
  induction n with
  | zero =>
    intro i v i1 i2 hn hn3 v0 b3 b2 b1 b0 k1 k0
    unfold rz_dec at k1 k0
    refine ez_go (n := 2) (pc' := 39) (L' := [(4, .inl (i)), (3, .inl (v)), (0, .inr (.inr (some (720)))), (1, .inr (.inr (some (r)))), (2, .inl (dg))]) (st' := [.inr (.inr (some (720))), .inl (i)]) rfl ?_
    refine ez_gC (p := 722) (tg := 54) hB t720 rfl rfl tq_52 rfl rfl (fun (t722 : _ = 54) => ?_)
    refine ez_go (n := 1) (pc' := 43) (L' := [(4, .inl (i)), (3, .inl (v)), (0, .inr (.inr (some (720)))), (1, .inr (.inr (some (r)))), (2, .inl (dg))]) (st' := [.inl (2), .inr (.inr (some (722))), .inl (i)]) rfl ?_
    have n2 : 7 ≤ qz_N h 722 ∧ qz_N h 722 ≤ 7 := ez_len hB t722 tq_54 rfl
    refine ez_aI hB t722 rfl tq_54 rfl rfl (by omega) (by omega) (fun (b1 : 0 ≤ qz_I h 722 (2 : Int).toNat) (b1' : qz_I h 722 (2 : Int).toNat ≤ 4096) => ?_)
    refine ez_icmp rfl rfl ⟨by omega, by omega⟩ ⟨by omega, by omega⟩ (fun (c3 : (qz_I h 722 (2 : Int).toNat) ≤ (i)) => ?_) (fun (c3 : ¬((qz_I h 722 (2 : Int).toNat) ≤ (i))) => ?_)
    · skip
      refine ez_go (n := 2) (pc' := 97) (L' := [(4, .inl (i)), (3, .inl (v)), (0, .inr (.inr (some (720)))), (1, .inr (.inr (some (r)))), (2, .inl (dg))]) (st' := [.inl (v), .inr (.inr (some (r)))]) rfl ?_
      refine ez_pf hB tr rfl rfl tq_3 rfl rfl rfl rfl (ez_vdI rfl rfl (by omega) (by omega)) (fun hB4 w5 => ?_)
      refine ez_go (n := 2) (pc' := 104) (L' := [(4, .inl (i)), (3, .inl (v)), (0, .inr (.inr (some (720)))), (1, .inr (.inr (some (r)))), (2, .inl (dg))]) (st' := [.inl (254), .inl (v)]) rfl ?_
      refine ez_icmp rfl rfl ⟨by omega, by omega⟩ ⟨by omega, by omega⟩ (fun (c6 : (254) < (v)) => ?_) (fun (c6 : ¬((254) < (v))) => ?_)
      · skip
        refine ez_go (n := 1) (pc' := 112) (L' := [(4, .inl (i)), (3, .inl (v)), (0, .inr (.inr (some (720)))), (1, .inr (.inr (some (r)))), (2, .inl (dg))]) (st' := [.inl (0)]) rfl ?_
        exact ez_retZ rfl rfl (by decide) (k0 _ hB4 ((ez_fr.refl (ez_one r) h).put (show Nat.beq r r = true from Nat.beq_refl r) _ _) (fun j hj => ez_put_I (fun w => hj w.2)) (by omega))
      · skip
        refine ez_go (n := 2) (pc' := 112) (L' := [(4, .inl (i)), (3, .inl (v)), (0, .inr (.inr (some (720)))), (1, .inr (.inr (some (r)))), (2, .inl (dg))]) (st' := [.inl (1)]) rfl ?_
        exact ez_retZ rfl rfl (by decide) (k1 _ hB4 ((ez_fr.refl (ez_one r) h).put (show Nat.beq r r = true from Nat.beq_refl r) _ _) (fun j hj => ez_put_I (fun w => hj w.2)) (by rw [w5]; exact rz_rd ⟨by omega, by omega⟩) (by omega) (by omega))
    · exfalso; omega
  | succ n ih =>
    intro i v i1 i2 hn hn3 v0 b3 b2 b1 b0 k1 k0
    unfold rz_dec at k1 k0
    refine ez_go (n := 2) (pc' := 39) (L' := [(4, .inl (i)), (3, .inl (v)), (0, .inr (.inr (some (720)))), (1, .inr (.inr (some (r)))), (2, .inl (dg))]) (st' := [.inr (.inr (some (720))), .inl (i)]) rfl ?_
    refine ez_gC (p := 722) (tg := 54) hB t720 rfl rfl tq_52 rfl rfl (fun (t722 : _ = 54) => ?_)
    refine ez_go (n := 1) (pc' := 43) (L' := [(4, .inl (i)), (3, .inl (v)), (0, .inr (.inr (some (720)))), (1, .inr (.inr (some (r)))), (2, .inl (dg))]) (st' := [.inl (2), .inr (.inr (some (722))), .inl (i)]) rfl ?_
    have n2 : 7 ≤ qz_N h 722 ∧ qz_N h 722 ≤ 7 := ez_len hB t722 tq_54 rfl
    refine ez_aI hB t722 rfl tq_54 rfl rfl (by omega) (by omega) (fun (b1 : 0 ≤ qz_I h 722 (2 : Int).toNat) (b1' : qz_I h 722 (2 : Int).toNat ≤ 4096) => ?_)
    refine ez_icmp rfl rfl ⟨by omega, by omega⟩ ⟨by omega, by omega⟩ (fun (c3 : (qz_I h 722 (2 : Int).toNat) ≤ (i)) => ?_) (fun (c3 : ¬((qz_I h 722 (2 : Int).toNat) ≤ (i))) => ?_)
    · exfalso; omega
    · skip
      refine ez_go (n := 1) (pc' := 48) (L' := [(4, .inl (i)), (3, .inl (v)), (0, .inr (.inr (some (720)))), (1, .inr (.inr (some (r)))), (2, .inl (dg))]) (st' := [.inr (.inr (some (720)))]) rfl ?_
      refine ez_gC (p := 193) (tg := 45) hB t720 rfl rfl tq_52 rfl rfl (fun (t193 : _ = 45) => ?_)
      refine ez_go (n := 1) (pc' := 53) (L' := [(4, .inl (i)), (3, .inl (v)), (0, .inr (.inr (some (720)))), (1, .inr (.inr (some (r)))), (2, .inl (dg))]) (st' := [.inl (i), .inr (.inr (some (193)))]) rfl ?_
      have n5 : 4096 ≤ qz_N h 193 ∧ qz_N h 193 ≤ 4096 := ez_len hB t193 tq_45 rfl
      refine ez_aI hB t193 rfl tq_45 rfl rfl (by omega) (by omega) (fun (b4 : -128 ≤ qz_I h 193 (i).toNat) (b4' : qz_I h 193 (i).toNat ≤ 127) => ?_)
      refine ez_go (n := 1) (pc' := 56) (L' := [(4, .inl (i)), (3, .inl (v)), (0, .inr (.inr (some (720)))), (1, .inr (.inr (some (r)))), (2, .inl (dg))]) (st' := [.inl (48), .inl (qz_I h 193 (i).toNat)]) rfl ?_
      refine ez_icmp rfl rfl ⟨by omega, by omega⟩ ⟨by omega, by omega⟩ (fun (c6 : (qz_I h 193 (i).toNat) < (48)) => ?_) (fun (c6 : ¬((qz_I h 193 (i).toNat) < (48))) => ?_)
      · skip
        refine ez_go (n := 1) (pc' := 72) (L' := [(4, .inl (i)), (3, .inl (v)), (0, .inr (.inr (some (720)))), (1, .inr (.inr (some (r)))), (2, .inl (dg))]) (st' := [.inl (0)]) rfl ?_
        rw [if_neg (by unfold rz_b; omega)] at k0
        exact ez_retZ rfl rfl (by decide) (k0 h hB (ez_fr.refl _ _) (fun _ _ => rfl) (by omega))
      · skip
        refine ez_go (n := 1) (pc' := 60) (L' := [(4, .inl (i)), (3, .inl (v)), (0, .inr (.inr (some (720)))), (1, .inr (.inr (some (r)))), (2, .inl (dg))]) (st' := [.inr (.inr (some (720)))]) rfl ?_
        refine ez_gC (p := 193) (tg := 45) hB t720 rfl rfl tq_52 rfl rfl (fun (t193 : _ = 45) => ?_)
        refine ez_go (n := 1) (pc' := 65) (L' := [(4, .inl (i)), (3, .inl (v)), (0, .inr (.inr (some (720)))), (1, .inr (.inr (some (r)))), (2, .inl (dg))]) (st' := [.inl (i), .inr (.inr (some (193)))]) rfl ?_
        have n8 : 4096 ≤ qz_N h 193 ∧ qz_N h 193 ≤ 4096 := ez_len hB t193 tq_45 rfl
        refine ez_aI hB t193 rfl tq_45 rfl rfl (by omega) (by omega) (fun (b7 : -128 ≤ qz_I h 193 (i).toNat) (b7' : qz_I h 193 (i).toNat ≤ 127) => ?_)
        refine ez_go (n := 1) (pc' := 68) (L' := [(4, .inl (i)), (3, .inl (v)), (0, .inr (.inr (some (720)))), (1, .inr (.inr (some (r)))), (2, .inl (dg))]) (st' := [.inl (57), .inl (qz_I h 193 (i).toNat)]) rfl ?_
        refine ez_icmp rfl rfl ⟨by omega, by omega⟩ ⟨by omega, by omega⟩ (fun (c9 : (qz_I h 193 (i).toNat) ≤ (57)) => ?_) (fun (c9 : ¬((qz_I h 193 (i).toNat) ≤ (57))) => ?_)
        · skip
          refine ez_go (n := 4) (pc' := 78) (L' := [(4, .inl (i)), (3, .inl (v)), (0, .inr (.inr (some (720)))), (1, .inr (.inr (some (r)))), (2, .inl (dg))]) (st' := [.inr (.inr (some (720))), .inl ((v) * (10))]) rfl ?_
          refine ez_gC (p := 193) (tg := 45) hB t720 rfl rfl tq_52 rfl rfl (fun (t193 : _ = 45) => ?_)
          refine ez_go (n := 1) (pc' := 83) (L' := [(4, .inl (i)), (3, .inl (v)), (0, .inr (.inr (some (720)))), (1, .inr (.inr (some (r)))), (2, .inl (dg))]) (st' := [.inl (i), .inr (.inr (some (193))), .inl ((v) * (10))]) rfl ?_
          have n11 : 4096 ≤ qz_N h 193 ∧ qz_N h 193 ≤ 4096 := ez_len hB t193 tq_45 rfl
          refine ez_aI hB t193 rfl tq_45 rfl rfl (by omega) (by omega) (fun (b10 : -128 ≤ qz_I h 193 (i).toNat) (b10' : qz_I h 193 (i).toNat ≤ 127) => ?_)
          refine ez_go (n := 6) (pc' := 36) (L' := [(4, .inl (i + 1)), (3, .inl ((((v) * (10)) + (qz_I h 193 (i).toNat)) - (48))), (0, .inr (.inr (some (720)))), (1, .inr (.inr (some (r)))), (2, .inl (dg))]) (st' := []) rfl ?_
          refine ez_less [(4, .inl (i + 1)), (3, .inl ((((v) * (10)) + (qz_I h 193 (i).toNat)) - (48))), (0, .inr (.inr (some (720)))), (1, .inr (.inr (some (r)))), (2, .inl (dg))] rfl ⟨rfl, rfl, rfl, rfl, rfl, trivial⟩ ?_
          rw [if_pos (by unfold rz_b; omega)] at k1 k0
          exact ih _ _ (by omega) (by omega) (by omega) (by omega) (by omega) (by omega) (by omega) (by omega) (by omega) k1 k0
        · skip
          refine ez_go (n := 1) (pc' := 72) (L' := [(4, .inl (i)), (3, .inl (v)), (0, .inr (.inr (some (720)))), (1, .inr (.inr (some (r)))), (2, .inl (dg))]) (st' := [.inl (0)]) rfl ?_
          rw [if_neg (by unfold rz_b; omega)] at k0
          exact ez_retZ rfl rfl (by decide) (k0 h hB (ez_fr.refl _ _) (fun _ _ => rfl) (by omega))
theorem rd_readClass (hB : ez_B τ h) (t720 : τ 720 = 52) (tr : τ r = 3) (k1 : ∀ g, ez_B τ g → ez_fr (ez_one r) h g → (∀ j, j ≠ 2 → qz_I g r j = qz_I h r j) → qz_I g r 2 = (rz_dec (rz_b h) (rz_t h 2 - rz_f h 2).toNat (rz_f h 2) 0) → 1 ≤ rz_t h 2 - rz_f h 2 → rz_t h 2 - rz_f h 2 ≤ 3 → 0 ≤ (rz_dec (rz_b h) (rz_t h 2 - rz_f h 2).toNat (rz_f h 2) 0) → (rz_dec (rz_b h) (rz_t h 2 - rz_f h 2).toNat (rz_f h 2) 0) ≤ 254 → Q (.inl (some (ez_v (.inl 1))), g)) (k0 : ∀ g, ez_B τ g → ez_fr (ez_one r) h g → (∀ j, j ≠ 2 → qz_I g r j = qz_I h r j) → ¬((1 ≤ rz_t h 2 - rz_f h 2 ∧ rz_t h 2 - rz_f h 2 ≤ 3) ∧ (0 ≤ (rz_dec (rz_b h) (rz_t h 2 - rz_f h 2).toNat (rz_f h 2) 0) ∧ (rz_dec (rz_b h) (rz_t h 2 - rz_f h 2).toNat (rz_f h 2) 0) ≤ 254)) → Q (.inl (some (ez_v (.inl 0))), g)) : ez_W d cm_158 0 [(0, .inr (.inr (some (720)))), (1, .inr (.inr (some (r))))] [] h Q := by
  refine ez_go (n := 1) (pc' := 1) (L' := [(0, .inr (.inr (some (720)))), (1, .inr (.inr (some (r))))]) (st' := [.inr (.inr (some (720)))]) rfl ?_
  refine ez_gC (p := 722) (tg := 54) hB t720 rfl rfl tq_52 rfl rfl (fun (t722 : _ = 54) => ?_)
  refine ez_go (n := 1) (pc' := 5) (L' := [(0, .inr (.inr (some (720)))), (1, .inr (.inr (some (r))))]) (st' := [.inl (2), .inr (.inr (some (722)))]) rfl ?_
  have n2 : 7 ≤ qz_N h 722 ∧ qz_N h 722 ≤ 7 := ez_len hB t722 tq_54 rfl
  refine ez_aI hB t722 rfl tq_54 rfl rfl (by omega) (by omega) (fun (b1 : 0 ≤ qz_I h 722 (2 : Int).toNat) (b1' : qz_I h 722 (2 : Int).toNat ≤ 4096) => ?_)
  refine ez_go (n := 1) (pc' := 7) (L' := [(0, .inr (.inr (some (720)))), (1, .inr (.inr (some (r))))]) (st' := [.inr (.inr (some (720))), .inl (qz_I h 722 (2 : Int).toNat)]) rfl ?_
  refine ez_gC (p := 721) (tg := 53) hB t720 rfl rfl tq_52 rfl rfl (fun (t721 : _ = 53) => ?_)
  refine ez_go (n := 1) (pc' := 11) (L' := [(0, .inr (.inr (some (720)))), (1, .inr (.inr (some (r))))]) (st' := [.inl (2), .inr (.inr (some (721))), .inl (qz_I h 722 (2 : Int).toNat)]) rfl ?_
  have n4 : 7 ≤ qz_N h 721 ∧ qz_N h 721 ≤ 7 := ez_len hB t721 tq_53 rfl
  refine ez_aI hB t721 rfl tq_53 rfl rfl (by omega) (by omega) (fun (b3 : 0 ≤ qz_I h 721 (2 : Int).toNat) (b3' : qz_I h 721 (2 : Int).toNat ≤ 4096) => ?_)
  refine ez_go (n := 4) (pc' := 16) (L' := [(2, .inl ((qz_I h 722 (2 : Int).toNat) - (qz_I h 721 (2 : Int).toNat))), (0, .inr (.inr (some (720)))), (1, .inr (.inr (some (r))))]) (st' := [.inl (1), .inl ((qz_I h 722 (2 : Int).toNat) - (qz_I h 721 (2 : Int).toNat))]) rfl ?_
  refine ez_icmp rfl rfl ⟨by omega, by omega⟩ ⟨by omega, by omega⟩ (fun (c5 : ((qz_I h 722 (2 : Int).toNat) - (qz_I h 721 (2 : Int).toNat)) < (1)) => ?_) (fun (c5 : ¬(((qz_I h 722 (2 : Int).toNat) - (qz_I h 721 (2 : Int).toNat)) < (1))) => ?_)
  · skip
    refine ez_go (n := 1) (pc' := 25) (L' := [(2, .inl ((qz_I h 722 (2 : Int).toNat) - (qz_I h 721 (2 : Int).toNat))), (0, .inr (.inr (some (720)))), (1, .inr (.inr (some (r))))]) (st' := [.inl (0)]) rfl ?_
    exact ez_retZ rfl rfl (by decide) (k0 h hB (ez_fr.refl _ _) (fun _ _ => rfl) (fun w => by have := w.1; unfold rz_f rz_t at this; omega))
  · skip
    refine ez_go (n := 2) (pc' := 21) (L' := [(2, .inl ((qz_I h 722 (2 : Int).toNat) - (qz_I h 721 (2 : Int).toNat))), (0, .inr (.inr (some (720)))), (1, .inr (.inr (some (r))))]) (st' := [.inl (3), .inl ((qz_I h 722 (2 : Int).toNat) - (qz_I h 721 (2 : Int).toNat))]) rfl ?_
    refine ez_icmp rfl rfl ⟨by omega, by omega⟩ ⟨by omega, by omega⟩ (fun (c6 : ((qz_I h 722 (2 : Int).toNat) - (qz_I h 721 (2 : Int).toNat)) ≤ (3)) => ?_) (fun (c6 : ¬(((qz_I h 722 (2 : Int).toNat) - (qz_I h 721 (2 : Int).toNat)) ≤ (3))) => ?_)
    · skip
      refine ez_go (n := 3) (pc' := 29) (L' := [(3, .inl (0)), (2, .inl ((qz_I h 722 (2 : Int).toNat) - (qz_I h 721 (2 : Int).toNat))), (0, .inr (.inr (some (720)))), (1, .inr (.inr (some (r))))]) (st' := [.inr (.inr (some (720)))]) rfl ?_
      refine ez_gC (p := 721) (tg := 53) hB t720 rfl rfl tq_52 rfl rfl (fun (t721 : _ = 53) => ?_)
      refine ez_go (n := 1) (pc' := 33) (L' := [(3, .inl (0)), (2, .inl ((qz_I h 722 (2 : Int).toNat) - (qz_I h 721 (2 : Int).toNat))), (0, .inr (.inr (some (720)))), (1, .inr (.inr (some (r))))]) (st' := [.inl (2), .inr (.inr (some (721)))]) rfl ?_
      have n8 : 7 ≤ qz_N h 721 ∧ qz_N h 721 ≤ 7 := ez_len hB t721 tq_53 rfl
      refine ez_aI hB t721 rfl tq_53 rfl rfl (by omega) (by omega) (fun (b7 : 0 ≤ qz_I h 721 (2 : Int).toNat) (b7' : qz_I h 721 (2 : Int).toNat ≤ 4096) => ?_)
      refine ez_go (n := 1) (pc' := 36) (L' := [(4, .inl (qz_I h 721 (2 : Int).toNat)), (3, .inl (0)), (2, .inl ((qz_I h 722 (2 : Int).toNat) - (qz_I h 721 (2 : Int).toNat))), (0, .inr (.inr (some (720)))), (1, .inr (.inr (some (r))))]) (st' := []) rfl ?_
      refine ez_less [(4, .inl (qz_I h 721 (2 : Int).toNat)), (3, .inl (0)), (0, .inr (.inr (some (720)))), (1, .inr (.inr (some (r)))), (2, .inl ((qz_I h 722 (2 : Int).toNat) - (qz_I h 721 (2 : Int).toNat)))] rfl ⟨rfl, rfl, rfl, rfl, rfl, trivial⟩ ?_
      have hs2 : qz_I h 721 (2 : Int).toNat = rz_f h 2 := rfl
      have ht2 : qz_I h 722 (2 : Int).toNat = rz_t h 2 := rfl
      rw [hs2]
      exact rd_readClass_l hB t720 tr rfl rfl (by omega) (by omega) _ _ _ (by omega) (by omega) rfl (by omega) (by omega) (by omega) (by omega) (by omega) (by omega) (fun g e1 e2 e3 e4 e5 e6 => k1 g e1 e2 e3 e4 (by omega) (by omega) e5 e6) (fun g e1 e2 e3 e4 => k0 g e1 e2 e3 (fun w => e4 w.2))
    · skip
      refine ez_go (n := 1) (pc' := 25) (L' := [(2, .inl ((qz_I h 722 (2 : Int).toNat) - (qz_I h 721 (2 : Int).toNat))), (0, .inr (.inr (some (720)))), (1, .inr (.inr (some (r))))]) (st' := [.inl (0)]) rfl ?_
      exact ez_retZ rfl rfl (by decide) (k0 h hB (ez_fr.refl _ _) (fun _ _ => rfl) (fun w => by have := w.1; unfold rz_f rz_t at this; omega))

end EzRd6
/-! The reader of the class, functionally, VI: letters, tokens, ROWS. (Written by wip/p2/py/pv7.py.) -/
/-- m tokens from a on: their CODES, or none -/
def rz_row (b : Int → Int) : Nat → Int → Int → Option (List Int)
  | 0, _, _ => some []
  | m + 1, a, t => if rz_code b (rz_skip b (t - a).toNat a) (rz_tok b (t - rz_skip b (t - a).toNat a).toNat (rz_skip b (t - a).toNat a)) = -1 then none else
    (rz_row b m (rz_tok b (t - rz_skip b (t - a).toNat a).toNat (rz_skip b (t - a).toNat a)) t).map (fun l => rz_code b (rz_skip b (t - a).toNat a) (rz_tok b (t - rz_skip b (t - a).toNat a).toNat (rz_skip b (t - a).toNat a)) :: l)
theorem rz_row_len (b : Int → Int) : ∀ (m : Nat) (a t : Int) (l : List Int), rz_row b m a t = some l → l.length = m
  | 0, a, t, l, h => by cases h; rfl
  | m + 1, a, t, l, h => by
    unfold rz_row at h
    split at h
    · cases h
    · rw [Option.map_eq_some_iff] at h
      obtain ⟨l', h1, rfl⟩ := h
      rw [List.length_cons, rz_row_len b m _ _ l' h1]
/-- cells more: what was tagged is as it was -/
def ez_xt (τ : Nat → Nat) (h : cz_H) (τ' : Nat → Nat) (g : cz_H) (dc ds : Nat) : Prop := (∀ q, τ q ≠ 0 → τ' q = τ q ∧ g.2.2 q = h.2.2 q) ∧ (h.1 ≤ g.1 ∧ g.1 ≤ h.1 + dc) ∧ (h.2.1 ≤ g.2.1 ∧ g.2.1 ≤ h.2.1 + ds)
theorem ez_xt.refl (τ : Nat → Nat) (h : cz_H) (dc ds : Nat) : ez_xt τ h τ h dc ds := ⟨fun _ _ => ⟨rfl, rfl⟩, ⟨Nat.le_refl _, Nat.le_add_right _ _⟩, Nat.le_refl _, Nat.le_add_right _ _⟩
theorem ez_xt.I {τ τ' : Nat → Nat} {h g : cz_H} {dc ds : Nat} (hx : ez_xt τ h τ' g dc ds) {q : Nat} (hq : τ q ≠ 0) (j : Nat) : qz_I g q j = qz_I h q j := by unfold qz_I; rw [(hx.1 q hq).2]
/-- a new cell, written alone -/
theorem ez_xt_new {τ : Nat → Nat} {h g : cz_H} (hB : ez_B τ h) {t n dc ds : Nat} {c : cz_C} (hd : 1 ≤ dc) (hn : n ≤ ds) (hf : ez_fr (ez_one h.1) (cz_push h n c) g) : ez_xt τ h (dz_tn τ h.1 t) g dc ds := by
  refine ⟨fun q hq => ?_, ?_, ?_⟩
  · have e : q ≠ h.1 := by have := dz_here_lt (hB.1 q hq).1; omega
    refine ⟨by unfold dz_tn; rw [if_neg e], ?_⟩
    rw [hf.2.2 q (by unfold ez_one; exact dz_beq_ne e)]
    show (if q = h.1 then c else h.2.2 q) = _
    rw [if_neg e]
  · rw [hf.1]; show h.1 ≤ h.1 + 1 ∧ h.1 + 1 ≤ h.1 + dc; omega
  · rw [hf.2.1]; show h.2.1 ≤ h.2.1 + n ∧ h.2.1 + n ≤ h.2.1 + ds; omega
section EzRd7
variable {d : Nat} {h : cz_H} {τ : Nat → Nat} {Q : cz_F → Prop} {r : Nat}
theorem rd_isLetter {c : Int} (c0 : -128 ≤ c) (c1 : c ≤ 127) (k1 : ((65 ≤ c ∧ c ≤ 90) ∨ (97 ≤ c ∧ c ≤ 122)) → Q (.inl (some (ez_v (.inl 1))), h)) (k0 : ¬((65 ≤ c ∧ c ≤ 90) ∨ (97 ≤ c ∧ c ≤ 122)) → Q (.inl (some (ez_v (.inl 0))), h)) : ez_W d cm_154 0 [(0, .inl (c))] [] h Q := by
  refine ez_go (n := 2) (pc' := 3) (L' := [(0, .inl (c))]) (st' := [.inl (65), .inl (c)]) rfl ?_
  refine ez_icmp rfl rfl ⟨by omega, by omega⟩ ⟨by omega, by omega⟩ (fun (c1 : (c) < (65)) => ?_) (fun (c1 : ¬((c) < (65))) => ?_)
  · skip
    refine ez_go (n := 2) (pc' := 15) (L' := [(0, .inl (c))]) (st' := [.inl (97), .inl (c)]) rfl ?_
    refine ez_icmp rfl rfl ⟨by omega, by omega⟩ ⟨by omega, by omega⟩ (fun (c2 : (c) < (97)) => ?_) (fun (c2 : ¬((c) < (97))) => ?_)
    · skip
      refine ez_go (n := 1) (pc' := 29) (L' := [(0, .inl (c))]) (st' := [.inl (0)]) rfl ?_
      exact ez_retZ rfl rfl (by decide) (k0 (by omega))
    · skip
      refine ez_go (n := 2) (pc' := 21) (L' := [(0, .inl (c))]) (st' := [.inl (122), .inl (c)]) rfl ?_
      refine ez_icmp rfl rfl ⟨by omega, by omega⟩ ⟨by omega, by omega⟩ (fun (c3 : (122) < (c)) => ?_) (fun (c3 : ¬((122) < (c))) => ?_)
      · skip
        refine ez_go (n := 1) (pc' := 29) (L' := [(0, .inl (c))]) (st' := [.inl (0)]) rfl ?_
        exact ez_retZ rfl rfl (by decide) (k0 (by omega))
      · skip
        refine ez_go (n := 2) (pc' := 29) (L' := [(0, .inl (c))]) (st' := [.inl (1)]) rfl ?_
        exact ez_retZ rfl rfl (by decide) (k1 (by omega))
  · skip
    refine ez_go (n := 2) (pc' := 9) (L' := [(0, .inl (c))]) (st' := [.inl (90), .inl (c)]) rfl ?_
    refine ez_icmp rfl rfl ⟨by omega, by omega⟩ ⟨by omega, by omega⟩ (fun (c4 : (c) ≤ (90)) => ?_) (fun (c4 : ¬((c) ≤ (90))) => ?_)
    · skip
      refine ez_go (n := 2) (pc' := 29) (L' := [(0, .inl (c))]) (st' := [.inl (1)]) rfl ?_
      exact ez_retZ rfl rfl (by decide) (k1 (by omega))
    · skip
      refine ez_go (n := 2) (pc' := 15) (L' := [(0, .inl (c))]) (st' := [.inl (97), .inl (c)]) rfl ?_
      refine ez_icmp rfl rfl ⟨by omega, by omega⟩ ⟨by omega, by omega⟩ (fun (c5 : (c) < (97)) => ?_) (fun (c5 : ¬((c) < (97))) => ?_)
      · skip
        refine ez_go (n := 1) (pc' := 29) (L' := [(0, .inl (c))]) (st' := [.inl (0)]) rfl ?_
        exact ez_retZ rfl rfl (by decide) (k0 (by omega))
      · skip
        refine ez_go (n := 2) (pc' := 21) (L' := [(0, .inl (c))]) (st' := [.inl (122), .inl (c)]) rfl ?_
        refine ez_icmp rfl rfl ⟨by omega, by omega⟩ ⟨by omega, by omega⟩ (fun (c6 : (122) < (c)) => ?_) (fun (c6 : ¬((122) < (c))) => ?_)
        · skip
          refine ez_go (n := 1) (pc' := 29) (L' := [(0, .inl (c))]) (st' := [.inl (0)]) rfl ?_
          exact ez_retZ rfl rfl (by decide) (k0 (by omega))
        · skip
          refine ez_go (n := 2) (pc' := 29) (L' := [(0, .inl (c))]) (st' := [.inl (1)]) rfl ?_
          exact ez_retZ rfl rfl (by decide) (k1 (by omega))

theorem rd_skipLetters_l {begin stop : Int} (hB : ez_B τ h) (t720 : τ 720 = 52) (h0 : 0 ≤ begin) (h1 : stop ≤ 4096) : ∀ (n : Nat) (i : Int), begin ≤ i → i ≤ stop → n = (stop - i).toNat → Q (.inl (some (ez_v (.inl (rz_lets (rz_b h) n i)))), h) → ez_W (d + 1) cm_170 2 [(3, .inl (i)), (0, .inr (.inr (some (720)))), (1, .inl (begin)), (2, .inl (stop))] [] h Q := by
  intro n
  induction n with
  | zero =>
    intro i hi1 hi2 hn k
    refine ez_go (n := 2) (pc' := 4) (L' := [(3, .inl (i)), (0, .inr (.inr (some (720)))), (1, .inl (begin)), (2, .inl (stop))]) (st' := [.inl (stop), .inl (i)]) rfl ?_
    refine ez_icmp rfl rfl ⟨by omega, by omega⟩ ⟨by omega, by omega⟩ (fun (c1 : (stop) ≤ (i)) => ?_) (fun (c1 : ¬((stop) ≤ (i))) => ?_)
    · skip
      refine ez_go (n := 1) (pc' := 26) (L' := [(3, .inl (i)), (0, .inr (.inr (some (720)))), (1, .inl (begin)), (2, .inl (stop))]) (st' := [.inl (i)]) rfl ?_
      exact ez_retI rfl rfl k
    · exfalso; omega
  | succ n ih =>
    intro i hi1 hi2 hn k
    unfold rz_lets at k
    refine ez_go (n := 2) (pc' := 4) (L' := [(3, .inl (i)), (0, .inr (.inr (some (720)))), (1, .inl (begin)), (2, .inl (stop))]) (st' := [.inl (stop), .inl (i)]) rfl ?_
    refine ez_icmp rfl rfl ⟨by omega, by omega⟩ ⟨by omega, by omega⟩ (fun (c1 : (stop) ≤ (i)) => ?_) (fun (c1 : ¬((stop) ≤ (i))) => ?_)
    · exfalso; omega
    · skip
      refine ez_go (n := 1) (pc' := 8) (L' := [(3, .inl (i)), (0, .inr (.inr (some (720)))), (1, .inl (begin)), (2, .inl (stop))]) (st' := [.inr (.inr (some (720)))]) rfl ?_
      refine ez_gC (p := 193) (tg := 45) hB t720 rfl rfl tq_52 rfl rfl (fun (t193 : _ = 45) => ?_)
      refine ez_go (n := 1) (pc' := 12) (L' := [(3, .inl (i)), (0, .inr (.inr (some (720)))), (1, .inl (begin)), (2, .inl (stop))]) (st' := [.inl (i), .inr (.inr (some (193)))]) rfl ?_
      have n3 : 4096 ≤ qz_N h 193 ∧ qz_N h 193 ≤ 4096 := ez_len hB t193 tq_45 rfl
      refine ez_aI hB t193 rfl tq_45 rfl rfl (by omega) (by omega) (fun (b2 : -128 ≤ qz_I h 193 (i).toNat) (b2' : qz_I h 193 (i).toNat ≤ 127) => ?_)
      refine ez_cs hB.2.1 rfl rfl rfl rfl rfl (rd_isLetter (by omega) (by omega) (fun e4 => ez_K1 ?_) (fun e4 => ez_K1 ?_))
      · skip
        rw [if_pos (show ((65 ≤ rz_b h i ∧ rz_b h i ≤ 90) ∨ (97 ≤ rz_b h i ∧ rz_b h i ≤ 122)) from e4)] at k
        refine ez_if rfl rfl ⟨by decide, by decide⟩ (fun (c5 : (1 : Int) = (0)) => absurd c5 (by decide)) (fun _ => ?_)
        refine ez_go (n := 2) (pc' := 2) (L' := [(3, .inl (i + 1)), (0, .inr (.inr (some (720)))), (1, .inl (begin)), (2, .inl (stop))]) (st' := []) rfl ?_
        exact ih _ (by omega) (by omega) (by omega) k
      · skip
        rw [if_neg (show ¬((65 ≤ rz_b h i ∧ rz_b h i ≤ 90) ∨ (97 ≤ rz_b h i ∧ rz_b h i ≤ 122)) from e4)] at k
        refine ez_if rfl rfl ⟨by decide, by decide⟩ (fun _ => ?_) (fun (c6 : ¬((0 : Int) = (0))) => absurd c6 (by decide))
        refine ez_go (n := 1) (pc' := 26) (L' := [(3, .inl (i)), (0, .inr (.inr (some (720)))), (1, .inl (begin)), (2, .inl (stop))]) (st' := [.inl (i)]) rfl ?_
        exact ez_retI rfl rfl k
theorem rd_skipLetters {begin stop : Int} (hB : ez_B τ h) (t720 : τ 720 = 52) (h0 : 0 ≤ begin) (hbs : begin ≤ stop) (h1 : stop ≤ 4096) (k : Q (.inl (some (ez_v (.inl (rz_lets (rz_b h) (stop - begin).toNat begin)))), h)) : ez_W (d + 1) cm_170 0 [(0, .inr (.inr (some (720)))), (1, .inl (begin)), (2, .inl (stop))] [] h Q := by
  refine ez_go (n := 2) (pc' := 2) (L' := [(3, .inl (begin)), (0, .inr (.inr (some (720)))), (1, .inl (begin)), (2, .inl (stop))]) (st' := []) rfl ?_
  exact rd_skipLetters_l hB t720 h0 h1 _ _ (by omega) (by omega) rfl k

theorem rd_countTokens_l {begin stop : Int} (hB : ez_B τ h) (t720 : τ 720 = 52) (h0 : 0 ≤ begin) (h1 : stop ≤ 4096) : ∀ (n : Nat) (i v : Int), begin ≤ i → i ≤ stop → n = (stop - i).toNat → Q (.inl (some (ez_v (.inl (v + (rz_ct (rz_b h) begin n i : Nat))))), h) → ez_W (d + 1) cm_149 5 [(4, .inl (i)), (3, .inl (v)), (0, .inr (.inr (some (720)))), (1, .inl (begin)), (2, .inl (stop))] [] h Q := by
  intro n
  induction n with
  | zero =>
    intro i v hi1 hi2 hn k
    refine ez_go (n := 2) (pc' := 8) (L' := [(4, .inl (i)), (3, .inl (v)), (0, .inr (.inr (some (720)))), (1, .inl (begin)), (2, .inl (stop))]) (st' := [.inl (stop), .inl (i)]) rfl ?_
    refine ez_icmp rfl rfl ⟨by omega, by omega⟩ ⟨by omega, by omega⟩ (fun (c1 : (stop) ≤ (i)) => ?_) (fun (c1 : ¬((stop) ≤ (i))) => ?_)
    · skip
      refine ez_go (n := 1) (pc' := 47) (L' := [(4, .inl (i)), (3, .inl (v)), (0, .inr (.inr (some (720)))), (1, .inl (begin)), (2, .inl (stop))]) (st' := [.inl (v)]) rfl ?_
      rw [show v + ((rz_ct (rz_b h) begin 0 i : Nat) : Int) = v from Int.add_zero v] at k; exact ez_retI rfl rfl k
    · exfalso; omega
  | succ n ih =>
    intro i v hi1 hi2 hn k
    unfold rz_ct at k
    refine ez_go (n := 2) (pc' := 8) (L' := [(4, .inl (i)), (3, .inl (v)), (0, .inr (.inr (some (720)))), (1, .inl (begin)), (2, .inl (stop))]) (st' := [.inl (stop), .inl (i)]) rfl ?_
    refine ez_icmp rfl rfl ⟨by omega, by omega⟩ ⟨by omega, by omega⟩ (fun (c1 : (stop) ≤ (i)) => ?_) (fun (c1 : ¬((stop) ≤ (i))) => ?_)
    · exfalso; omega
    · skip
      refine ez_go (n := 2) (pc' := 14) (L' := [(4, .inl (i)), (3, .inl (v)), (0, .inr (.inr (some (720)))), (1, .inl (begin)), (2, .inl (stop))]) (st' := [.inl (i), .inr (.inr (some (720)))]) rfl ?_
      refine ez_cv hB t720 rfl rfl rfl tq_52 rfl rfl rfl (rd_isBlank hB t720 (by omega) (by omega) (fun (e2 : rz_bl h (i)) => ez_K1 ?_) (fun (e2 : ¬ rz_bl h (i)) => ez_K1 ?_))
      · skip
        refine ez_if rfl rfl ⟨by decide, by decide⟩ (fun _ => ?_) (fun (c3 : ¬((1 : Int) ≠ (0))) => absurd c3 (by decide))
        refine ez_go (n := 2) (pc' := 5) (L' := [(4, .inl (i + 1)), (3, .inl (v)), (0, .inr (.inr (some (720)))), (1, .inl (begin)), (2, .inl (stop))]) (st' := []) rfl ?_
        refine ez_less [(4, .inl (i + 1)), (3, .inl (v)), (0, .inr (.inr (some (720)))), (1, .inl (begin)), (2, .inl (stop))] rfl ⟨rfl, rfl, rfl, rfl, rfl, trivial⟩ ?_
        rw [if_neg (by unfold rz_bl at *; omega), Nat.zero_add] at k; exact ih _ _ (by omega) (by omega) (by omega) k
      · skip
        refine ez_if rfl rfl ⟨by decide, by decide⟩ (fun (c4 : (0 : Int) ≠ (0)) => absurd c4 (by decide)) (fun _ => ?_)
        refine ez_go (n := 2) (pc' := 23) (L' := [(4, .inl (i)), (3, .inl (v)), (0, .inr (.inr (some (720)))), (1, .inl (begin)), (2, .inl (stop))]) (st' := [.inl (begin), .inl (i)]) rfl ?_
        refine ez_icmp rfl rfl ⟨by omega, by omega⟩ ⟨by omega, by omega⟩ (fun (c5 : (i) = (begin)) => ?_) (fun (c5 : ¬((i) = (begin))) => ?_)
        · skip
          refine ez_go (n := 3) (pc' := 5) (L' := [(4, .inl (i + 1)), (3, .inl (v + 1)), (0, .inr (.inr (some (720)))), (1, .inl (begin)), (2, .inl (stop))]) (st' := []) rfl ?_
          refine ez_less [(4, .inl (i + 1)), (3, .inl (v + 1)), (0, .inr (.inr (some (720)))), (1, .inl (begin)), (2, .inl (stop))] rfl ⟨rfl, rfl, rfl, rfl, rfl, trivial⟩ ?_
          rw [if_pos (by unfold rz_bl at *; omega)] at k; exact ih _ _ (by omega) (by omega) (by omega) (by rw [show v + 1 + ((rz_ct (rz_b h) begin n (i + 1) : Nat) : Int) = v + ((1 + rz_ct (rz_b h) begin n (i + 1) : Nat) : Int) by omega]; exact k)
        · skip
          refine ez_go (n := 4) (pc' := 31) (L' := [(4, .inl (i)), (3, .inl (v)), (0, .inr (.inr (some (720)))), (1, .inl (begin)), (2, .inl (stop))]) (st' := [.inl ((i) - (1)), .inr (.inr (some (720)))]) rfl ?_
          refine ez_cv hB t720 rfl rfl rfl tq_52 rfl rfl rfl (rd_isBlank hB t720 (by omega) (by omega) (fun (e6 : rz_bl h ((i) - (1))) => ez_K1 ?_) (fun (e6 : ¬ rz_bl h ((i) - (1))) => ez_K1 ?_))
          · skip
            refine ez_if rfl rfl ⟨by decide, by decide⟩ (fun (c7 : (1 : Int) = (0)) => absurd c7 (by decide)) (fun _ => ?_)
            refine ez_go (n := 3) (pc' := 5) (L' := [(4, .inl (i + 1)), (3, .inl (v + 1)), (0, .inr (.inr (some (720)))), (1, .inl (begin)), (2, .inl (stop))]) (st' := []) rfl ?_
            refine ez_less [(4, .inl (i + 1)), (3, .inl (v + 1)), (0, .inr (.inr (some (720)))), (1, .inl (begin)), (2, .inl (stop))] rfl ⟨rfl, rfl, rfl, rfl, rfl, trivial⟩ ?_
            rw [if_pos (by unfold rz_bl at *; omega)] at k; exact ih _ _ (by omega) (by omega) (by omega) (by rw [show v + 1 + ((rz_ct (rz_b h) begin n (i + 1) : Nat) : Int) = v + ((1 + rz_ct (rz_b h) begin n (i + 1) : Nat) : Int) by omega]; exact k)
          · skip
            refine ez_if rfl rfl ⟨by decide, by decide⟩ (fun _ => ?_) (fun (c8 : ¬((0 : Int) = (0))) => absurd c8 (by decide))
            refine ez_go (n := 2) (pc' := 5) (L' := [(4, .inl (i + 1)), (3, .inl (v)), (0, .inr (.inr (some (720)))), (1, .inl (begin)), (2, .inl (stop))]) (st' := []) rfl ?_
            refine ez_less [(4, .inl (i + 1)), (3, .inl (v)), (0, .inr (.inr (some (720)))), (1, .inl (begin)), (2, .inl (stop))] rfl ⟨rfl, rfl, rfl, rfl, rfl, trivial⟩ ?_
            rw [if_neg (by unfold rz_bl at *; omega), Nat.zero_add] at k; exact ih _ _ (by omega) (by omega) (by omega) k
theorem rd_countTokens {begin stop : Int} (hB : ez_B τ h) (t720 : τ 720 = 52) (h0 : 0 ≤ begin) (hbs : begin ≤ stop) (h1 : stop ≤ 4096) (k : Q (.inl (some (ez_v (.inl (rz_ct (rz_b h) begin (stop - begin).toNat begin : Nat)))), h)) : ez_W (d + 1) cm_149 0 [(0, .inr (.inr (some (720)))), (1, .inl (begin)), (2, .inl (stop))] [] h Q := by
  refine ez_go (n := 4) (pc' := 5) (L' := [(4, .inl (begin)), (3, .inl (0)), (0, .inr (.inr (some (720)))), (1, .inl (begin)), (2, .inl (stop))]) (st' := []) rfl ?_
  exact rd_countTokens_l hB t720 h0 h1 _ _ _ (by omega) (by omega) rfl (by rw [Int.zero_add]; exact k)

theorem rd_readRow_l {b : Int → Int} {p : Nat} {n begin t most : Int} {g0 : cz_H} (t720 : τ 720 = 52) (t193 : τ 193 = 45) (tp : τ p = 5) (t1 : t ≤ 4096) (hb0 : rz_b g0 = b) (n1 : n ≤ 18) : ∀ (m : Nat) (k a : Int) (g : cz_H) (A : List Int), 0 ≤ a → a ≤ t → k = (A.length : Int) → n = k + m → ez_B τ g → ez_fr (ez_one p) g0 g → qz_N g p = n → (∀ (j : Nat) v, A[j]? = some v → qz_I g p j = v) → (∀ g, ez_B τ g → ez_fr (ez_one p) g0 g → rz_row b m a t = none → Q (.inl (some (.inr (.inr none))), g)) → (∀ g vs, ez_B τ g → ez_fr (ez_one p) g0 g → rz_row b m a t = some vs → qz_N g p = n → (∀ (j : Nat) v, (A ++ vs)[j]? = some v → qz_I g p j = v) → Q (.inl (some (.inr (.inr (some p)))), g)) → ez_W (d + 2) cm_166 34 [(7, .inl (k)), (6, .inl (a)), (5, .inr (.inr (some (p)))), (4, .inl (n)), (0, .inr (.inr (some (720)))), (1, .inl (begin)), (2, .inl (t)), (3, .inl (most))] [] g Q := by
  have ne := rz_ne t193 tp rfl
  intro m
  induction m with
  | zero =>
    intro k a g A a0 a1 hk hn hB hf hN hA kN kS
    refine ez_go (n := 2) (pc' := 38) (L' := [(7, .inl (k)), (6, .inl (a)), (5, .inr (.inr (some (p)))), (4, .inl (n)), (0, .inr (.inr (some (720)))), (1, .inl (begin)), (2, .inl (t)), (3, .inl (most))]) (st' := [.inl (n), .inl (k)]) rfl ?_
    refine ez_icmp rfl rfl ⟨by omega, by omega⟩ ⟨by omega, by omega⟩ (fun (c1 : (n) ≤ (k)) => ?_) (fun (c1 : ¬((n) ≤ (k))) => ?_)
    · skip
      refine ez_go (n := 1) (pc' := 95) (L' := [(7, .inl (k)), (6, .inl (a)), (5, .inr (.inr (some (p)))), (4, .inl (n)), (0, .inr (.inr (some (720)))), (1, .inl (begin)), (2, .inl (t)), (3, .inl (most))]) (st' := [.inr (.inr (some (p)))]) rfl ?_
      exact ez_retA rfl rfl rfl (kS g [] hB hf rfl hN (by rw [List.append_nil]; exact hA))
    · exfalso; omega
  | succ m ih =>
    intro k a g A a0 a1 hk hn hB hf hN hA kN kS
    have hbg : rz_b g = b := (rz_b_fr hf ne).trans hb0
    have x1 := rz_skip_le b (t - a).toNat a
    have x2 := rz_tok_le b (t - rz_skip b (t - a).toNat a).toNat (rz_skip b (t - a).toNat a)
    have x3 := rz_code_bd b (rz_skip b (t - a).toNat a) (rz_tok b (t - rz_skip b (t - a).toNat a).toNat (rz_skip b (t - a).toNat a))
    unfold rz_row at kN kS
    refine ez_go (n := 2) (pc' := 38) (L' := [(7, .inl (k)), (6, .inl (a)), (5, .inr (.inr (some (p)))), (4, .inl (n)), (0, .inr (.inr (some (720)))), (1, .inl (begin)), (2, .inl (t)), (3, .inl (most))]) (st' := [.inl (n), .inl (k)]) rfl ?_
    refine ez_icmp rfl rfl ⟨by omega, by omega⟩ ⟨by omega, by omega⟩ (fun (c1 : (n) ≤ (k)) => ?_) (fun (c1 : ¬((n) ≤ (k))) => ?_)
    · exfalso; omega
    · skip
      refine ez_go (n := 3) (pc' := 45) (L' := [(7, .inl (k)), (6, .inl (a)), (5, .inr (.inr (some (p)))), (4, .inl (n)), (0, .inr (.inr (some (720)))), (1, .inl (begin)), (2, .inl (t)), (3, .inl (most))]) (st' := [.inl (t), .inl (a), .inr (.inr (some (720)))]) rfl ?_
      refine ez_cv hB t720 rfl rfl rfl tq_52 rfl rfl rfl (rd_skipBlanks hB t720 (by omega) (by omega) (by omega) (ez_K1 ?_))
      rw [hbg]
      refine ez_go (n := 4) (pc' := 54) (L' := [(6, .inl (rz_skip b (t - a).toNat a)), (7, .inl (k)), (5, .inr (.inr (some (p)))), (4, .inl (n)), (0, .inr (.inr (some (720)))), (1, .inl (begin)), (2, .inl (t)), (3, .inl (most))]) (st' := [.inl (t), .inl (rz_skip b (t - a).toNat a), .inr (.inr (some (720)))]) rfl ?_
      refine ez_cv hB t720 rfl rfl rfl tq_52 rfl rfl rfl (rd_skipToken hB t720 (by omega) (by omega) (by omega) (ez_K1 ?_))
      rw [hbg]
      refine ez_go (n := 6) (pc' := 68) (L' := [(8, .inl (rz_tok b (t - rz_skip b (t - a).toNat a).toNat (rz_skip b (t - a).toNat a))), (6, .inl (rz_skip b (t - a).toNat a)), (7, .inl (k)), (5, .inr (.inr (some (p)))), (4, .inl (n)), (0, .inr (.inr (some (720)))), (1, .inl (begin)), (2, .inl (t)), (3, .inl (most))]) (st' := [.inl (rz_tok b (t - rz_skip b (t - a).toNat a).toNat (rz_skip b (t - a).toNat a)), .inl (rz_skip b (t - a).toNat a), .inr (.inr (some (720))), .inl (k), .inr (.inr (some (p)))]) rfl ?_
      refine ez_cv hB t720 rfl rfl rfl tq_52 rfl rfl rfl (rd_readCode hB t720 (by omega) (by omega) (by omega) (ez_K1 ?_))
      rw [hbg]
      have n4 : 0 ≤ qz_N g p ∧ qz_N g p ≤ 18 := ez_len hB tp tq_5 rfl
      refine ez_as hB tp rfl tq_5 rfl rfl (by omega) (by omega) (ez_vdI rfl rfl (by omega) (by omega)) (fun hB2 w3 => ?_)
      refine ez_go (n := 2) (pc' := 76) (L' := [(8, .inl (rz_tok b (t - rz_skip b (t - a).toNat a).toNat (rz_skip b (t - a).toNat a))), (6, .inl (rz_skip b (t - a).toNat a)), (7, .inl (k)), (5, .inr (.inr (some (p)))), (4, .inl (n)), (0, .inr (.inr (some (720)))), (1, .inl (begin)), (2, .inl (t)), (3, .inl (most))]) (st' := [.inl (k), .inr (.inr (some (p)))]) rfl ?_
      have n6 : qz_N (dz_put g p (k).toNat (ez_v (.inl (rz_code b (rz_skip b (t - a).toNat a) (rz_tok b (t - rz_skip b (t - a).toNat a).toNat (rz_skip b (t - a).toNat a)))))) p = qz_N g p := ez_put_N _
      have n7 : 0 ≤ qz_N (dz_put g p (k).toNat (ez_v (.inl (rz_code b (rz_skip b (t - a).toNat a) (rz_tok b (t - rz_skip b (t - a).toNat a).toNat (rz_skip b (t - a).toNat a)))))) p ∧ qz_N (dz_put g p (k).toNat (ez_v (.inl (rz_code b (rz_skip b (t - a).toNat a) (rz_tok b (t - rz_skip b (t - a).toNat a).toNat (rz_skip b (t - a).toNat a)))))) p ≤ 18 := ez_len hB2 tp tq_5 rfl
      refine ez_aI hB2 tp rfl tq_5 rfl rfl (by omega) (by omega) (fun (b5 : -2147483648 ≤ qz_I (dz_put g p (k).toNat (ez_v (.inl (rz_code b (rz_skip b (t - a).toNat a) (rz_tok b (t - rz_skip b (t - a).toNat a).toNat (rz_skip b (t - a).toNat a)))))) p (k).toNat) (b5' : qz_I (dz_put g p (k).toNat (ez_v (.inl (rz_code b (rz_skip b (t - a).toNat a) (rz_tok b (t - rz_skip b (t - a).toNat a).toNat (rz_skip b (t - a).toNat a)))))) p (k).toNat ≤ 2147483647) => ?_)
      refine ez_go (n := 1) (pc' := 78) (L' := [(8, .inl (rz_tok b (t - rz_skip b (t - a).toNat a).toNat (rz_skip b (t - a).toNat a))), (6, .inl (rz_skip b (t - a).toNat a)), (7, .inl (k)), (5, .inr (.inr (some (p)))), (4, .inl (n)), (0, .inr (.inr (some (720)))), (1, .inl (begin)), (2, .inl (t)), (3, .inl (most))]) (st' := [.inl (-1), .inl (qz_I (dz_put g p (k).toNat (ez_v (.inl (rz_code b (rz_skip b (t - a).toNat a) (rz_tok b (t - rz_skip b (t - a).toNat a).toNat (rz_skip b (t - a).toNat a)))))) p (k).toNat)]) rfl ?_
      refine ez_icmp rfl rfl ⟨by omega, by omega⟩ ⟨by omega, by omega⟩ (fun (c8 : (qz_I (dz_put g p (k).toNat (ez_v (.inl (rz_code b (rz_skip b (t - a).toNat a) (rz_tok b (t - rz_skip b (t - a).toNat a).toNat (rz_skip b (t - a).toNat a)))))) p (k).toNat) ≠ (-1)) => ?_) (fun (c8 : ¬((qz_I (dz_put g p (k).toNat (ez_v (.inl (rz_code b (rz_skip b (t - a).toNat a) (rz_tok b (t - rz_skip b (t - a).toNat a).toNat (rz_skip b (t - a).toNat a)))))) p (k).toNat) ≠ (-1))) => ?_)
      · skip
        refine ez_go (n := 4) (pc' := 34) (L' := [(7, .inl (k + 1)), (6, .inl (rz_tok b (t - rz_skip b (t - a).toNat a).toNat (rz_skip b (t - a).toNat a))), (8, .inl (rz_tok b (t - rz_skip b (t - a).toNat a).toNat (rz_skip b (t - a).toNat a))), (5, .inr (.inr (some (p)))), (4, .inl (n)), (0, .inr (.inr (some (720)))), (1, .inl (begin)), (2, .inl (t)), (3, .inl (most))]) (st' := []) rfl ?_
        have hv : qz_I (dz_put g p (k).toNat (ez_v (.inl (rz_code b (rz_skip b (t - a).toNat a) (rz_tok b (t - rz_skip b (t - a).toNat a).toNat (rz_skip b (t - a).toNat a)))))) p (k).toNat = rz_code b (rz_skip b (t - a).toNat a) (rz_tok b (t - rz_skip b (t - a).toNat a).toNat (rz_skip b (t - a).toNat a)) := by rw [w3]; exact rz_rd ⟨by omega, by omega⟩
        have hc : ¬ rz_code b (rz_skip b (t - a).toNat a) (rz_tok b (t - rz_skip b (t - a).toNat a).toNat (rz_skip b (t - a).toNat a)) = -1 := by omega
        rw [if_neg hc] at kN
        simp only [if_neg hc] at kS
        refine ez_less [(7, .inl (k + 1)), (6, .inl (rz_tok b (t - rz_skip b (t - a).toNat a).toNat (rz_skip b (t - a).toNat a))), (5, .inr (.inr (some (p)))), (4, .inl (n)), (0, .inr (.inr (some (720)))), (1, .inl (begin)), (2, .inl (t)), (3, .inl (most))] rfl ⟨rfl, rfl, rfl, rfl, rfl, rfl, rfl, rfl, trivial⟩ ?_
        refine ih _ _ _ (A ++ [rz_code b (rz_skip b (t - a).toNat a) (rz_tok b (t - rz_skip b (t - a).toNat a).toNat (rz_skip b (t - a).toNat a))]) (by omega) (by omega) (by rw [List.length_append]; show k + 1 = ((A.length + 1 : Nat) : Int); omega) (by omega) hB2 (hf.put (show Nat.beq p p = true from Nat.beq_refl p) _ _) (by rw [ez_put_N]; exact hN) (fun j v hj => ?_) (fun g e1 e2 e3 => kN g e1 e2 (by rw [e3]; rfl)) (fun g vs e1 e2 e3 e4 e5 => kS g (rz_code b (rz_skip b (t - a).toNat a) (rz_tok b (t - rz_skip b (t - a).toNat a).toNat (rz_skip b (t - a).toNat a)) :: vs) e1 e2 (by rw [e3]; rfl) e4 (fun j v hj => e5 j v (by rw [List.append_assoc]; exact hj)))
        by_cases e : j < A.length
        · rw [List.getElem?_append_left e] at hj; rw [ez_put_I (by omega)]; exact hA j v hj
        · have hl := (List.getElem?_eq_some_iff.mp hj).1
          rw [List.length_append] at hl
          have e : j = A.length := by simp at hl; omega
          rw [e, List.getElem?_append_right (Nat.le_refl _), Nat.sub_self] at hj
          cases hj
          rw [e, show A.length = (k).toNat by omega]; exact hv
      · skip
        refine ez_go (n := 1) (pc' := 82) (L' := [(8, .inl (rz_tok b (t - rz_skip b (t - a).toNat a).toNat (rz_skip b (t - a).toNat a))), (6, .inl (rz_skip b (t - a).toNat a)), (7, .inl (k)), (5, .inr (.inr (some (p)))), (4, .inl (n)), (0, .inr (.inr (some (720)))), (1, .inl (begin)), (2, .inl (t)), (3, .inl (most))]) (st' := [.inr (.inr none)]) rfl ?_
        have hv : qz_I (dz_put g p (k).toNat (ez_v (.inl (rz_code b (rz_skip b (t - a).toNat a) (rz_tok b (t - rz_skip b (t - a).toNat a).toNat (rz_skip b (t - a).toNat a)))))) p (k).toNat = rz_code b (rz_skip b (t - a).toNat a) (rz_tok b (t - rz_skip b (t - a).toNat a).toNat (rz_skip b (t - a).toNat a)) := by rw [w3]; exact rz_rd ⟨by omega, by omega⟩
        exact ez_retA rfl rfl rfl (kN _ hB2 (hf.put (show Nat.beq p p = true from Nat.beq_refl p) _ _) (by rw [if_pos (by omega)]))
theorem rd_readRow {begin t most : Int} (hB : ez_B τ h) (t720 : τ 720 = 52) (t193 : τ 193 = 45) (h0 : 0 ≤ begin) (hbs : begin ≤ t) (h1 : t ≤ 4096) (m0 : 0 ≤ most) (m1 : most ≤ 18) (hr1 : h.1 + 1 ≤ 600192) (hr2 : h.2.1 + 18 ≤ 7302232) (kN : ∀ g τ1, ez_B τ1 g → ez_xt τ h τ1 g 1 18 → (¬(1 ≤ rz_ct (rz_b h) begin (t - begin).toNat begin ∧ (rz_ct (rz_b h) begin (t - begin).toNat begin : Int) ≤ most) ∨ rz_row (rz_b h) (rz_ct (rz_b h) begin (t - begin).toNat begin) begin t = none) → Q (.inl (some (.inr (.inr none))), g)) (kS : ∀ g τ1 vs, ez_B τ1 g → ez_xt τ h τ1 g 1 18 → τ1 h.1 = 5 → 1 ≤ rz_ct (rz_b h) begin (t - begin).toNat begin → (rz_ct (rz_b h) begin (t - begin).toNat begin : Int) ≤ most → rz_row (rz_b h) (rz_ct (rz_b h) begin (t - begin).toNat begin) begin t = some vs → qz_N g h.1 = (rz_ct (rz_b h) begin (t - begin).toNat begin : Int) → (∀ (j : Nat) v, vs[j]? = some v → qz_I g h.1 j = v) → Q (.inl (some (.inr (.inr (some h.1)))), g)) : ez_W (d + 2) cm_166 0 [(0, .inr (.inr (some (720)))), (1, .inl (begin)), (2, .inl (t)), (3, .inl (most))] [] h Q := by
  refine ez_go (n := 3) (pc' := 3) (L' := [(0, .inr (.inr (some (720)))), (1, .inl (begin)), (2, .inl (t)), (3, .inl (most))]) (st' := [.inl (t), .inl (begin), .inr (.inr (some (720)))]) rfl ?_
  refine ez_cv hB t720 rfl rfl rfl tq_52 rfl rfl rfl (rd_countTokens hB t720 (by omega) (by omega) (by omega) (ez_K1 ?_))
  have xc := rz_ct_le (rz_b h) begin (t - begin).toNat begin
  refine ez_go (n := 3) (pc' := 11) (L' := [(4, .inl (((rz_ct (rz_b h) begin (t - begin).toNat begin : Nat) : Int))), (0, .inr (.inr (some (720)))), (1, .inl (begin)), (2, .inl (t)), (3, .inl (most))]) (st' := [.inl (1), .inl (((rz_ct (rz_b h) begin (t - begin).toNat begin : Nat) : Int))]) rfl ?_
  refine ez_icmp rfl rfl ⟨by omega, by omega⟩ ⟨by omega, by omega⟩ (fun (c1 : (((rz_ct (rz_b h) begin (t - begin).toNat begin : Nat) : Int)) < (1)) => ?_) (fun (c1 : ¬((((rz_ct (rz_b h) begin (t - begin).toNat begin : Nat) : Int)) < (1))) => ?_)
  · skip
    refine ez_go (n := 1) (pc' := 21) (L' := [(4, .inl (((rz_ct (rz_b h) begin (t - begin).toNat begin : Nat) : Int))), (0, .inr (.inr (some (720)))), (1, .inl (begin)), (2, .inl (t)), (3, .inl (most))]) (st' := [.inr (.inr none)]) rfl ?_
    exact ez_retA rfl rfl rfl (kN h τ hB (ez_xt.refl _ _ _ _) (Or.inl (by omega)))
  · skip
    refine ez_go (n := 2) (pc' := 17) (L' := [(4, .inl (((rz_ct (rz_b h) begin (t - begin).toNat begin : Nat) : Int))), (0, .inr (.inr (some (720)))), (1, .inl (begin)), (2, .inl (t)), (3, .inl (most))]) (st' := [.inl (most), .inl (((rz_ct (rz_b h) begin (t - begin).toNat begin : Nat) : Int))]) rfl ?_
    refine ez_icmp rfl rfl ⟨by omega, by omega⟩ ⟨by omega, by omega⟩ (fun (c2 : (((rz_ct (rz_b h) begin (t - begin).toNat begin : Nat) : Int)) ≤ (most)) => ?_) (fun (c2 : ¬((((rz_ct (rz_b h) begin (t - begin).toNat begin : Nat) : Int)) ≤ (most))) => ?_)
    · skip
      refine ez_go (n := 1) (pc' := 24) (L' := [(4, .inl (((rz_ct (rz_b h) begin (t - begin).toNat begin : Nat) : Int))), (0, .inr (.inr (some (720)))), (1, .inl (begin)), (2, .inl (t)), (3, .inl (most))]) (st' := [.inl (((rz_ct (rz_b h) begin (t - begin).toNat begin : Nat) : Int))]) rfl ?_
      refine ez_na (t := 5) hB rfl tq_5 rfl rfl (by omega) (by show (0 : Int) ≤ _; omega) (by show _ ≤ (18 : Int); omega) (by omega) hr1 (by omega) (fun hB1 hN1 hz1 => ?_)
      have hlt : ∀ q, τ q ≠ 0 → q ≠ h.1 := fun q hq => by have := dz_here_lt (hB.1 q hq).1; omega
      have ht : ∀ q, τ q ≠ 0 → dz_tn τ h.1 5 q = τ q := fun q hq => by unfold dz_tn; rw [if_neg (hlt q hq)]
      have u720 : dz_tn τ h.1 5 720 = 52 := (ht 720 (by rw [t720]; decide)).trans t720
      have u193 : dz_tn τ h.1 5 193 = 45 := (ht 193 (by rw [t193]; decide)).trans t193
      have up : dz_tn τ h.1 5 h.1 = 5 := by unfold dz_tn; rw [if_pos rfl]
      have hb1 : rz_b (cz_push h ((rz_ct (rz_b h) begin (t - begin).toNat begin : Nat) : Int).toNat (.inl (1, ((rz_ct (rz_b h) begin (t - begin).toNat begin : Nat) : Int).toNat, fun _ => .inl 0))) = rz_b h := funext fun i => ez_push_I hB (by rw [t193]; decide) _
      refine ez_go (n := 5) (pc' := 34) (L' := [(7, .inl (0)), (6, .inl (begin)), (5, .inr (.inr (some (h.1)))), (4, .inl (((rz_ct (rz_b h) begin (t - begin).toNat begin : Nat) : Int))), (0, .inr (.inr (some (720)))), (1, .inl (begin)), (2, .inl (t)), (3, .inl (most))]) (st' := []) rfl ?_
      refine ez_less [(7, .inl (0)), (6, .inl (begin)), (5, .inr (.inr (some (h.1)))), (4, .inl (((rz_ct (rz_b h) begin (t - begin).toNat begin : Nat) : Int))), (0, .inr (.inr (some (720)))), (1, .inl (begin)), (2, .inl (t)), (3, .inl (most))] rfl ⟨rfl, rfl, rfl, rfl, rfl, rfl, rfl, rfl, trivial⟩ ?_
      exact rd_readRow_l u720 u193 up (by omega) hb1 (by omega) (rz_ct (rz_b h) begin (t - begin).toNat begin) 0 begin _ [] (by omega) (by omega) rfl (by omega) hB1 (ez_fr.refl _ _) hN1 (fun j v hj => by cases hj) (fun g e1 e2 e3 => kN g _ e1 (ez_xt_new hB (Nat.le_refl 1) (by omega) e2) (Or.inr e3)) (fun g vs e1 e2 e3 e4 e5 => kS g _ vs e1 (ez_xt_new hB (Nat.le_refl 1) (by omega) e2) up (by omega) (by omega) e3 e4 e5)
    · skip
      refine ez_go (n := 1) (pc' := 21) (L' := [(4, .inl (((rz_ct (rz_b h) begin (t - begin).toNat begin : Nat) : Int))), (0, .inr (.inr (some (720)))), (1, .inl (begin)), (2, .inl (t)), (3, .inl (most))]) (st' := [.inr (.inr none)]) rfl ?_
      exact ez_retA rfl rfl rfl (kN h τ hB (ez_xt.refl _ _ _ _) (Or.inl (by omega)))

end EzRd7
/-! The reader of the class, functionally, VII: DECOMPOSITIONS. (Written by wip/p2/py/pv8.py.) -/
/-- bounds of what lies in an array -/
theorem ez_aB {τ : Nat → Nat} {h : cz_H} {r t : Nat} {ti : dz_I} {c : Nat} {lo hi : Int} {tg md : Nat} {i : Int} (hB : ez_B τ h) (hτ : τ r = t) (hti : tz_T t = some ti) (hb : (Nat.beq ti.1 1 && Nat.blt ti.2.1 11) = true) (hD : dz_nth ti.2.2.2.2 0 = some (c, lo, hi, tg, md)) (hc : c ≠ 2) (h0 : 0 ≤ i) (h1 : i < qz_N h r) : lo ≤ qz_I h r i.toNat ∧ qz_I h r i.toNat ≤ hi := by
  obtain ⟨n, f, o1, o2, o3, o4, -, o6⟩ := ez_arr hB hτ hti hb hD
  rw [o3] at h1
  obtain ⟨g1, g2⟩ := o6 i.toNat (by omega)
  exact ez_slB g1 g2 hc
/-- where the ROW of a decomposition begins, and whether it is a compatible one -/
noncomputable def rz_db (b : Int → Int) (s t : Int) : Option (Int × Int) := if b s = 60 then (if rz_lets b (t - (s + 1)).toNat (s + 1) = s + 1 ∨ rz_lets b (t - (s + 1)).toNat (s + 1) = t ∨ b (rz_lets b (t - (s + 1)).toNat (s + 1)) ≠ 62 then none else some (1, rz_lets b (t - (s + 1)).toNat (s + 1) + 1)) else some (0, s)
/-- a ROW of at most m POINTS from s to t -/
noncomputable def rz_rw (b : Int → Int) (m : Int) (s t : Int) : Option (List Int) := if 1 ≤ rz_ct b s (t - s).toNat s ∧ ((rz_ct b s (t - s).toNat s : Nat) : Int) ≤ m then rz_row b (rz_ct b s (t - s).toNat s) s t else none
/-- cells more, and one that was written -/
def ez_xr (τ : Nat → Nat) (h : cz_H) (τ' : Nat → Nat) (g : cz_H) (r dc ds : Nat) : Prop := (∀ q, τ q ≠ 0 → τ' q = τ q ∧ (q ≠ r → g.2.2 q = h.2.2 q)) ∧ (h.1 ≤ g.1 ∧ g.1 ≤ h.1 + dc) ∧ (h.2.1 ≤ g.2.1 ∧ g.2.1 ≤ h.2.1 + ds)
theorem ez_xr.I {τ τ' : Nat → Nat} {h g : cz_H} {r dc ds : Nat} (hx : ez_xr τ h τ' g r dc ds) {q : Nat} (hq : τ q ≠ 0) (hr : q ≠ r) (j : Nat) : qz_I g q j = qz_I h q j := by unfold qz_I; rw [(hx.1 q hq).2 hr]
theorem ez_xr_of {τ τ' : Nat → Nat} {h h1 g g1 : cz_H} {r dc ds : Nat} (a : ez_fr (ez_one r) h h1) (b : ez_xt τ h1 τ' g dc ds) (c : ez_fr (ez_one r) g g1) : ez_xr τ h τ' g1 r dc ds := by
  refine ⟨fun q hq => ⟨(b.1 q hq).1, fun hr => ?_⟩, ?_, ?_⟩
  · have e : ez_one r q = false := by unfold ez_one; exact dz_beq_ne hr
    rw [c.2.2 q e, (b.1 q hq).2, a.2.2 q e]
  · rw [c.1, ← a.1]; exact b.2.1
  · rw [c.2.1, ← a.2.1]; exact b.2.2
section EzRd8
variable {d : Nat} {h : cz_H} {τ : Nat → Nat} {Q : cz_F → Prop} {r : Nat}
theorem rd_readDecomposition_b {h0 : cz_H} {bg : Int} (hB : ez_B τ h) (t720 : τ 720 = 52) (t193 : τ 193 = 45) (tr : τ r = 3) (hf : ez_fr (ez_one r) h0 h) (hrl : r < h.1) (b0 : 0 ≤ bg) (b1 : bg ≤ rz_t h 3) (hr1 : h.1 + 1 ≤ 600192) (hr2 : h.2.1 + 18 ≤ 7302232) (k1 : ∀ g τ1 vs, ez_B τ1 g → ez_xr τ h0 τ1 g r 1 18 → τ1 h.1 = 5 → rz_rw (rz_b h) 18 bg (rz_t h 3) = some vs → qz_N g h.1 = ((rz_ct (rz_b h) bg (rz_t h 3 - bg).toNat bg : Nat) : Int) → (∀ (j : Nat) v, vs[j]? = some v → qz_I g h.1 j = v) → qz_I g r 3 = (h.1 : Int) + 1 → (∀ j, j ≠ 3 → qz_I g r j = qz_I h r j) → Q (.inl (some (ez_v (.inl 1))), g)) (k0 : ∀ g τ1, ez_B τ1 g → ez_xr τ h0 τ1 g r 1 18 → rz_rw (rz_b h) 18 bg (rz_t h 3) = none → Q (.inl (some (ez_v (.inl 0))), g)) : ez_W (d + 3) cm_162 81 [(2, .inl (bg)), (0, .inr (.inr (some (720)))), (1, .inr (.inr (some (r))))] [] h Q := by
  unfold rz_t at b1
  refine ez_go (n := 4) (pc' := 85) (L' := [(2, .inl (bg)), (0, .inr (.inr (some (720)))), (1, .inr (.inr (some (r))))]) (st' := [.inr (.inr (some (720))), .inl (bg), .inr (.inr (some (720))), .inr (.inr (some (r)))]) rfl ?_
  refine ez_gC (p := 722) (tg := 54) hB t720 rfl rfl tq_52 rfl rfl (fun (t722 : _ = 54) => ?_)
  refine ez_go (n := 1) (pc' := 89) (L' := [(2, .inl (bg)), (0, .inr (.inr (some (720)))), (1, .inr (.inr (some (r))))]) (st' := [.inl (3), .inr (.inr (some (722))), .inl (bg), .inr (.inr (some (720))), .inr (.inr (some (r)))]) rfl ?_
  have n2 : 7 ≤ qz_N h 722 ∧ qz_N h 722 ≤ 7 := ez_len hB t722 tq_54 rfl
  refine ez_aI hB t722 rfl tq_54 rfl rfl (by omega) (by omega) (fun (b1 : 0 ≤ qz_I h 722 (3 : Int).toNat) (b1' : qz_I h 722 (3 : Int).toNat ≤ 4096) => ?_)
  refine ez_go (n := 1) (pc' := 92) (L' := [(2, .inl (bg)), (0, .inr (.inr (some (720)))), (1, .inr (.inr (some (r))))]) (st' := [.inl (18), .inl (qz_I h 722 (3 : Int).toNat), .inl (bg), .inr (.inr (some (720))), .inr (.inr (some (r)))]) rfl ?_
  refine ez_cv hB t720 rfl rfl rfl tq_52 rfl rfl rfl (rd_readRow hB t720 t193 (by omega) (by omega) (by omega) (by omega) (by omega) hr1 hr2 (fun g τ1 hB1 hx hn => ez_KA ?_) (fun g τ1 vs hB1 hx up hc1 hc2 hrow hN hel => ez_KA ?_))
  · skip
    have ur : τ1 r = 3 := (hx.1 r (by rw [tr]; decide)).1.trans tr
    have ht3 : qz_I h 722 (3 : Int).toNat = rz_t h 3 := rfl
    rw [ht3] at hn
    refine ez_pf hB1 ur rfl rfl tq_3 rfl rfl rfl rfl (ez_vdN rfl) (fun hB3 w4 => ?_)
    refine ez_go (n := 1) (pc' := 99) (L' := [(2, .inl (bg)), (0, .inr (.inr (some (720)))), (1, .inr (.inr (some (r))))]) (st' := [.inr (.inr (some (r)))]) rfl ?_
    refine ez_gN hB3 ur rfl rfl tq_3 rfl rfl (fun (t5 : qz_I (dz_put g r 3 (ez_v (.inr (.inr none)))) r 3 = 0) => ?_) (fun (t5 : _ = 5) (t5' : 1 ≤ qz_I (dz_put g r 3 (ez_v (.inr (.inr none)))) r 3) => ?_)
    · skip
      refine ez_null0 rfl rfl ?_
      refine ez_go (n := 1) (pc' := 110) (L' := [(2, .inl (bg)), (0, .inr (.inr (some (720)))), (1, .inr (.inr (some (r))))]) (st' := [.inl (0)]) rfl ?_
      exact ez_retZ rfl rfl (by decide) (k0 _ τ1 hB3 (ez_xr_of hf hx ((ez_fr.refl (ez_one r) g).put (show Nat.beq r r = true from Nat.beq_refl r) _ _)) (by unfold rz_rw; rcases hn with hn | hn; (· rw [if_neg hn]); (· split; (· exact hn); (· rfl))))
    · skip
      exfalso; have w2 : qz_I (dz_put g r 3 (ez_v (.inr (.inr none)))) r 3 = 0 := w4; omega
  · skip
    have ur : τ1 r = 3 := (hx.1 r (by rw [tr]; decide)).1.trans tr
    have ht3 : qz_I h 722 (3 : Int).toNat = rz_t h 3 := rfl
    rw [ht3] at hc1 hc2 hrow hN
    have hlt : (h.1 : Int) + 1 ≤ 1000000 := by omega
    refine ez_pf hB1 ur rfl rfl tq_3 rfl rfl rfl rfl (ez_vdR rfl up (by omega) (by omega)) (fun hB6 w7 => ?_)
    refine ez_go (n := 1) (pc' := 99) (L' := [(2, .inl (bg)), (0, .inr (.inr (some (720)))), (1, .inr (.inr (some (r))))]) (st' := [.inr (.inr (some (r)))]) rfl ?_
    refine ez_gN hB6 ur rfl rfl tq_3 rfl rfl (fun (t8 : qz_I (dz_put g r 3 (ez_v (.inr (.inr (some (h.1)))))) r 3 = 0) => ?_) (fun (t8 : _ = 5) (t8' : 1 ≤ qz_I (dz_put g r 3 (ez_v (.inr (.inr (some (h.1)))))) r 3) => ?_)
    · skip
      exfalso; have w2 : qz_I (dz_put g r 3 (ez_v (.inr (.inr (some (h.1)))))) r 3 = (h.1 : Int) + 1 := w7; omega
    · skip
      refine ez_null1 rfl ?_
      refine ez_go (n := 2) (pc' := 110) (L' := [(2, .inl (bg)), (0, .inr (.inr (some (720)))), (1, .inr (.inr (some (r))))]) (st' := [.inl (1)]) rfl ?_
      exact ez_retZ rfl rfl (by decide) (k1 _ τ1 vs hB6 (ez_xr_of hf hx ((ez_fr.refl (ez_one r) g).put (show Nat.beq r r = true from Nat.beq_refl r) _ _)) up (by unfold rz_rw; rw [if_pos ⟨hc1, hc2⟩]; exact hrow) (by rw [ez_put_N]; exact hN) (fun j v hj => by rw [ez_put_I (fun w => absurd w.1 (Nat.ne_of_gt hrl))]; exact hel j v hj) (by rw [w7]; rfl) (fun j hj => by rw [ez_put_I (fun w => hj w.2)]; exact hx.I (by rw [tr]; decide) _))

theorem rd_readDecomposition (hB : ez_B τ h) (t720 : τ 720 = 52) (t722 : τ 722 = 54) (tr : τ r = 3) (hft : rz_f h 3 ≤ rz_t h 3) (hr1 : h.1 + 1 ≤ 600192) (hr2 : h.2.1 + 18 ≤ 7302232) (kE : rz_f h 3 = rz_t h 3 → Q (.inl (some (ez_v (.inl 1))), h)) (k1 : ∀ g τ1 vs cp bg p, ¬ rz_f h 3 = rz_t h 3 → rz_db (rz_b h) (rz_f h 3) (rz_t h 3) = some (cp, bg) → ez_B τ1 g → ez_xr τ h τ1 g r 1 18 → τ1 p = 5 → rz_rw (rz_b h) 18 bg (rz_t h 3) = some vs → qz_N g p = ((rz_ct (rz_b h) bg (rz_t h 3 - bg).toNat bg : Nat) : Int) → (∀ (j : Nat) v, vs[j]? = some v → qz_I g p j = v) → qz_I g r 3 = (p : Int) + 1 → qz_I g r 4 = (if cp = 1 then 1 else qz_I h r 4) → (∀ j, j ≠ 3 → j ≠ 4 → qz_I g r j = qz_I h r j) → Q (.inl (some (ez_v (.inl 1))), g)) (k0 : ∀ g τ1, ez_B τ1 g → ez_xr τ h τ1 g r 1 18 → ¬ rz_f h 3 = rz_t h 3 → (rz_db (rz_b h) (rz_f h 3) (rz_t h 3) = none ∨ ∃ cp bg, rz_db (rz_b h) (rz_f h 3) (rz_t h 3) = some (cp, bg) ∧ rz_rw (rz_b h) 18 bg (rz_t h 3) = none) → Q (.inl (some (ez_v (.inl 0))), g)) : ez_W (d + 3) cm_162 0 [(0, .inr (.inr (some (720)))), (1, .inr (.inr (some (r))))] [] h Q := by
  unfold rz_f rz_t at hft
  refine ez_go (n := 2) (pc' := 2) (L' := [(0, .inr (.inr (some (720)))), (1, .inr (.inr (some (r))))]) (st' := [.inl (3), .inr (.inr (some (720)))]) rfl ?_
  refine ez_cv hB t720 rfl rfl rfl tq_52 rfl rfl rfl (rd_isEmptyField hB t720 (by omega) (by omega) (fun (e : rz_f h 3 = rz_t h 3) => ez_K1 ?_) (fun (e : ¬ rz_f h 3 = rz_t h 3) => ez_K1 ?_))
  · skip
    refine ez_if rfl rfl ⟨by decide, by decide⟩ (fun (c1 : (1 : Int) = (0)) => absurd c1 (by decide)) (fun _ => ?_)
    refine ez_go (n := 1) (pc' := 9) (L' := [(0, .inr (.inr (some (720)))), (1, .inr (.inr (some (r))))]) (st' := [.inl (1)]) rfl ?_
    exact ez_retZ rfl rfl (by decide) (kE e)
  · skip
    have n722 : 7 ≤ qz_N h 722 ∧ qz_N h 722 ≤ 7 := ez_len hB t722 tq_54 rfl
    have bt : 0 ≤ qz_I h 722 (3 : Int).toNat ∧ qz_I h 722 (3 : Int).toNat ≤ 4096 := ez_aB (i := 3) hB t722 tq_54 rfl rfl (by decide) (by omega) (by omega)
    have e2 : qz_I h 721 (3 : Int).toNat < qz_I h 722 (3 : Int).toNat := by have : qz_I h 721 (3 : Int).toNat = rz_f h 3 := rfl; have : qz_I h 722 (3 : Int).toNat = rz_t h 3 := rfl; omega
    refine ez_if rfl rfl ⟨by decide, by decide⟩ (fun _ => ?_) (fun (c2 : ¬((0 : Int) = (0))) => absurd c2 (by decide))
    refine ez_go (n := 1) (pc' := 11) (L' := [(0, .inr (.inr (some (720)))), (1, .inr (.inr (some (r))))]) (st' := [.inr (.inr (some (720)))]) rfl ?_
    refine ez_gC (p := 721) (tg := 53) hB t720 rfl rfl tq_52 rfl rfl (fun (t721 : _ = 53) => ?_)
    refine ez_go (n := 1) (pc' := 15) (L' := [(0, .inr (.inr (some (720)))), (1, .inr (.inr (some (r))))]) (st' := [.inl (3), .inr (.inr (some (721)))]) rfl ?_
    have n4 : 7 ≤ qz_N h 721 ∧ qz_N h 721 ≤ 7 := ez_len hB t721 tq_53 rfl
    refine ez_aI hB t721 rfl tq_53 rfl rfl (by omega) (by omega) (fun (b3 : 0 ≤ qz_I h 721 (3 : Int).toNat) (b3' : qz_I h 721 (3 : Int).toNat ≤ 4096) => ?_)
    refine ez_go (n := 2) (pc' := 18) (L' := [(2, .inl (qz_I h 721 (3 : Int).toNat)), (0, .inr (.inr (some (720)))), (1, .inr (.inr (some (r))))]) (st' := [.inr (.inr (some (720)))]) rfl ?_
    refine ez_gC (p := 193) (tg := 45) hB t720 rfl rfl tq_52 rfl rfl (fun (t193 : _ = 45) => ?_)
    refine ez_go (n := 1) (pc' := 22) (L' := [(2, .inl (qz_I h 721 (3 : Int).toNat)), (0, .inr (.inr (some (720)))), (1, .inr (.inr (some (r))))]) (st' := [.inl (qz_I h 721 (3 : Int).toNat), .inr (.inr (some (193)))]) rfl ?_
    have n6 : 4096 ≤ qz_N h 193 ∧ qz_N h 193 ≤ 4096 := ez_len hB t193 tq_45 rfl
    refine ez_aI hB t193 rfl tq_45 rfl rfl (by omega) (by omega) (fun (b5 : -128 ≤ qz_I h 193 (qz_I h 721 (3 : Int).toNat).toNat) (b5' : qz_I h 193 (qz_I h 721 (3 : Int).toNat).toNat ≤ 127) => ?_)
    refine ez_go (n := 1) (pc' := 25) (L' := [(2, .inl (qz_I h 721 (3 : Int).toNat)), (0, .inr (.inr (some (720)))), (1, .inr (.inr (some (r))))]) (st' := [.inl (60), .inl (qz_I h 193 (qz_I h 721 (3 : Int).toNat).toNat)]) rfl ?_
    refine ez_icmp rfl rfl ⟨by omega, by omega⟩ ⟨by omega, by omega⟩ (fun (c7 : (qz_I h 193 (qz_I h 721 (3 : Int).toNat).toNat) ≠ (60)) => ?_) (fun (c7 : ¬((qz_I h 193 (qz_I h 721 (3 : Int).toNat).toNat) ≠ (60))) => ?_)
    · skip
      refine ez_less [(2, .inl (qz_I h 721 (3 : Int).toNat)), (0, .inr (.inr (some (720)))), (1, .inr (.inr (some (r))))] rfl ⟨rfl, rfl, rfl, trivial⟩ ?_
      have hrl : r < h.1 := dz_here_lt (hB.1 r (by rw [tr]; decide)).1
      have hdb : rz_db (rz_b h) (rz_f h 3) (rz_t h 3) = some (0, rz_f h 3) := by unfold rz_db; rw [if_neg (by show ¬ qz_I h 193 (qz_I h 721 (3 : Int).toNat).toNat = 60; omega)]
      exact rd_readDecomposition_b hB t720 t193 tr (ez_fr.refl _ h) hrl (by omega) (by unfold rz_t; omega) hr1 hr2 (fun g τ1 vs a1 a2 a3 a4 a5 a6 a7 a8 => k1 g τ1 vs 0 _ _ e hdb a1 a2 a3 a4 a5 a6 a7 (by rw [a8 4 (by decide), if_neg (by decide)]) (fun j j1 j2 => a8 j j1)) (fun g τ1 a1 a2 a3 => k0 g τ1 a1 a2 e (Or.inr ⟨0, _, hdb, a3⟩))
    · skip
      refine ez_go (n := 5) (pc' := 33) (L' := [(2, .inl (qz_I h 721 (3 : Int).toNat)), (0, .inr (.inr (some (720)))), (1, .inr (.inr (some (r))))]) (st' := [.inr (.inr (some (720))), .inl ((qz_I h 721 (3 : Int).toNat) + (1)), .inr (.inr (some (720)))]) rfl ?_
      refine ez_gC (p := 722) (tg := 54) hB t720 rfl rfl tq_52 rfl rfl (fun (t722 : _ = 54) => ?_)
      refine ez_go (n := 1) (pc' := 37) (L' := [(2, .inl (qz_I h 721 (3 : Int).toNat)), (0, .inr (.inr (some (720)))), (1, .inr (.inr (some (r))))]) (st' := [.inl (3), .inr (.inr (some (722))), .inl ((qz_I h 721 (3 : Int).toNat) + (1)), .inr (.inr (some (720)))]) rfl ?_
      have n9 : 7 ≤ qz_N h 722 ∧ qz_N h 722 ≤ 7 := ez_len hB t722 tq_54 rfl
      refine ez_aI hB t722 rfl tq_54 rfl rfl (by omega) (by omega) (fun (b8 : 0 ≤ qz_I h 722 (3 : Int).toNat) (b8' : qz_I h 722 (3 : Int).toNat ≤ 4096) => ?_)
      have xl := rz_lets_le (rz_b h) (qz_I h 722 (3 : Int).toNat - (qz_I h 721 (3 : Int).toNat + 1)).toNat (qz_I h 721 (3 : Int).toNat + 1)
      refine ez_cv hB t720 rfl rfl rfl tq_52 rfl rfl rfl (rd_skipLetters hB t720 (by omega) (by omega) (by omega) (ez_K1 ?_))
      refine ez_go (n := 5) (pc' := 46) (L' := [(3, .inl (rz_lets (rz_b h) (qz_I h 722 (3 : Int).toNat - (qz_I h 721 (3 : Int).toNat + 1)).toNat (qz_I h 721 (3 : Int).toNat + 1))), (2, .inl (qz_I h 721 (3 : Int).toNat)), (0, .inr (.inr (some (720)))), (1, .inr (.inr (some (r))))]) (st' := [.inl ((qz_I h 721 (3 : Int).toNat) + (1)), .inl (rz_lets (rz_b h) (qz_I h 722 (3 : Int).toNat - (qz_I h 721 (3 : Int).toNat + 1)).toNat (qz_I h 721 (3 : Int).toNat + 1))]) rfl ?_
      refine ez_icmp rfl rfl ⟨by omega, by omega⟩ ⟨by omega, by omega⟩ (fun (c10 : (rz_lets (rz_b h) (qz_I h 722 (3 : Int).toNat - (qz_I h 721 (3 : Int).toNat + 1)).toNat (qz_I h 721 (3 : Int).toNat + 1)) = ((qz_I h 721 (3 : Int).toNat) + (1))) => ?_) (fun (c10 : ¬((rz_lets (rz_b h) (qz_I h 722 (3 : Int).toNat - (qz_I h 721 (3 : Int).toNat + 1)).toNat (qz_I h 721 (3 : Int).toNat + 1)) = ((qz_I h 721 (3 : Int).toNat) + (1)))) => ?_)
      · skip
        refine ez_go (n := 1) (pc' := 71) (L' := [(3, .inl (rz_lets (rz_b h) (qz_I h 722 (3 : Int).toNat - (qz_I h 721 (3 : Int).toNat + 1)).toNat (qz_I h 721 (3 : Int).toNat + 1))), (2, .inl (qz_I h 721 (3 : Int).toNat)), (0, .inr (.inr (some (720)))), (1, .inr (.inr (some (r))))]) (st' := [.inl (0)]) rfl ?_
        exact ez_retZ rfl rfl (by decide) (k0 h τ hB ⟨fun _ _ => ⟨rfl, fun _ => rfl⟩, ⟨Nat.le_refl _, Nat.le_add_right _ _⟩, Nat.le_refl _, Nat.le_add_right _ _⟩ e (Or.inl (by unfold rz_db; rw [if_pos (by show qz_I h 193 (qz_I h 721 (3 : Int).toNat).toNat = 60; omega), if_pos (by show rz_lets (rz_b h) (qz_I h 722 (3 : Int).toNat - (qz_I h 721 (3 : Int).toNat + 1)).toNat (qz_I h 721 (3 : Int).toNat + 1) = qz_I h 721 (3 : Int).toNat + 1 ∨ rz_lets (rz_b h) (qz_I h 722 (3 : Int).toNat - (qz_I h 721 (3 : Int).toNat + 1)).toNat (qz_I h 721 (3 : Int).toNat + 1) = qz_I h 722 (3 : Int).toNat ∨ qz_I h 193 (rz_lets (rz_b h) (qz_I h 722 (3 : Int).toNat - (qz_I h 721 (3 : Int).toNat + 1)).toNat (qz_I h 721 (3 : Int).toNat + 1)).toNat ≠ 62; omega)])))
      · skip
        refine ez_go (n := 2) (pc' := 51) (L' := [(3, .inl (rz_lets (rz_b h) (qz_I h 722 (3 : Int).toNat - (qz_I h 721 (3 : Int).toNat + 1)).toNat (qz_I h 721 (3 : Int).toNat + 1))), (2, .inl (qz_I h 721 (3 : Int).toNat)), (0, .inr (.inr (some (720)))), (1, .inr (.inr (some (r))))]) (st' := [.inr (.inr (some (720))), .inl (rz_lets (rz_b h) (qz_I h 722 (3 : Int).toNat - (qz_I h 721 (3 : Int).toNat + 1)).toNat (qz_I h 721 (3 : Int).toNat + 1))]) rfl ?_
        refine ez_gC (p := 722) (tg := 54) hB t720 rfl rfl tq_52 rfl rfl (fun (t722 : _ = 54) => ?_)
        refine ez_go (n := 1) (pc' := 55) (L' := [(3, .inl (rz_lets (rz_b h) (qz_I h 722 (3 : Int).toNat - (qz_I h 721 (3 : Int).toNat + 1)).toNat (qz_I h 721 (3 : Int).toNat + 1))), (2, .inl (qz_I h 721 (3 : Int).toNat)), (0, .inr (.inr (some (720)))), (1, .inr (.inr (some (r))))]) (st' := [.inl (3), .inr (.inr (some (722))), .inl (rz_lets (rz_b h) (qz_I h 722 (3 : Int).toNat - (qz_I h 721 (3 : Int).toNat + 1)).toNat (qz_I h 721 (3 : Int).toNat + 1))]) rfl ?_
        have n12 : 7 ≤ qz_N h 722 ∧ qz_N h 722 ≤ 7 := ez_len hB t722 tq_54 rfl
        refine ez_aI hB t722 rfl tq_54 rfl rfl (by omega) (by omega) (fun (b11 : 0 ≤ qz_I h 722 (3 : Int).toNat) (b11' : qz_I h 722 (3 : Int).toNat ≤ 4096) => ?_)
        refine ez_icmp rfl rfl ⟨by omega, by omega⟩ ⟨by omega, by omega⟩ (fun (c13 : (rz_lets (rz_b h) (qz_I h 722 (3 : Int).toNat - (qz_I h 721 (3 : Int).toNat + 1)).toNat (qz_I h 721 (3 : Int).toNat + 1)) = (qz_I h 722 (3 : Int).toNat)) => ?_) (fun (c13 : ¬((rz_lets (rz_b h) (qz_I h 722 (3 : Int).toNat - (qz_I h 721 (3 : Int).toNat + 1)).toNat (qz_I h 721 (3 : Int).toNat + 1)) = (qz_I h 722 (3 : Int).toNat))) => ?_)
        · skip
          refine ez_go (n := 1) (pc' := 71) (L' := [(3, .inl (rz_lets (rz_b h) (qz_I h 722 (3 : Int).toNat - (qz_I h 721 (3 : Int).toNat + 1)).toNat (qz_I h 721 (3 : Int).toNat + 1))), (2, .inl (qz_I h 721 (3 : Int).toNat)), (0, .inr (.inr (some (720)))), (1, .inr (.inr (some (r))))]) (st' := [.inl (0)]) rfl ?_
          exact ez_retZ rfl rfl (by decide) (k0 h τ hB ⟨fun _ _ => ⟨rfl, fun _ => rfl⟩, ⟨Nat.le_refl _, Nat.le_add_right _ _⟩, Nat.le_refl _, Nat.le_add_right _ _⟩ e (Or.inl (by unfold rz_db; rw [if_pos (by show qz_I h 193 (qz_I h 721 (3 : Int).toNat).toNat = 60; omega), if_pos (by show rz_lets (rz_b h) (qz_I h 722 (3 : Int).toNat - (qz_I h 721 (3 : Int).toNat + 1)).toNat (qz_I h 721 (3 : Int).toNat + 1) = qz_I h 721 (3 : Int).toNat + 1 ∨ rz_lets (rz_b h) (qz_I h 722 (3 : Int).toNat - (qz_I h 721 (3 : Int).toNat + 1)).toNat (qz_I h 721 (3 : Int).toNat + 1) = qz_I h 722 (3 : Int).toNat ∨ qz_I h 193 (rz_lets (rz_b h) (qz_I h 722 (3 : Int).toNat - (qz_I h 721 (3 : Int).toNat + 1)).toNat (qz_I h 721 (3 : Int).toNat + 1)).toNat ≠ 62; omega)])))
        · skip
          refine ez_go (n := 1) (pc' := 60) (L' := [(3, .inl (rz_lets (rz_b h) (qz_I h 722 (3 : Int).toNat - (qz_I h 721 (3 : Int).toNat + 1)).toNat (qz_I h 721 (3 : Int).toNat + 1))), (2, .inl (qz_I h 721 (3 : Int).toNat)), (0, .inr (.inr (some (720)))), (1, .inr (.inr (some (r))))]) (st' := [.inr (.inr (some (720)))]) rfl ?_
          refine ez_gC (p := 193) (tg := 45) hB t720 rfl rfl tq_52 rfl rfl (fun (t193 : _ = 45) => ?_)
          refine ez_go (n := 1) (pc' := 64) (L' := [(3, .inl (rz_lets (rz_b h) (qz_I h 722 (3 : Int).toNat - (qz_I h 721 (3 : Int).toNat + 1)).toNat (qz_I h 721 (3 : Int).toNat + 1))), (2, .inl (qz_I h 721 (3 : Int).toNat)), (0, .inr (.inr (some (720)))), (1, .inr (.inr (some (r))))]) (st' := [.inl (rz_lets (rz_b h) (qz_I h 722 (3 : Int).toNat - (qz_I h 721 (3 : Int).toNat + 1)).toNat (qz_I h 721 (3 : Int).toNat + 1)), .inr (.inr (some (193)))]) rfl ?_
          have n15 : 4096 ≤ qz_N h 193 ∧ qz_N h 193 ≤ 4096 := ez_len hB t193 tq_45 rfl
          refine ez_aI hB t193 rfl tq_45 rfl rfl (by omega) (by omega) (fun (b14 : -128 ≤ qz_I h 193 (rz_lets (rz_b h) (qz_I h 722 (3 : Int).toNat - (qz_I h 721 (3 : Int).toNat + 1)).toNat (qz_I h 721 (3 : Int).toNat + 1)).toNat) (b14' : qz_I h 193 (rz_lets (rz_b h) (qz_I h 722 (3 : Int).toNat - (qz_I h 721 (3 : Int).toNat + 1)).toNat (qz_I h 721 (3 : Int).toNat + 1)).toNat ≤ 127) => ?_)
          refine ez_go (n := 1) (pc' := 67) (L' := [(3, .inl (rz_lets (rz_b h) (qz_I h 722 (3 : Int).toNat - (qz_I h 721 (3 : Int).toNat + 1)).toNat (qz_I h 721 (3 : Int).toNat + 1))), (2, .inl (qz_I h 721 (3 : Int).toNat)), (0, .inr (.inr (some (720)))), (1, .inr (.inr (some (r))))]) (st' := [.inl (62), .inl (qz_I h 193 (rz_lets (rz_b h) (qz_I h 722 (3 : Int).toNat - (qz_I h 721 (3 : Int).toNat + 1)).toNat (qz_I h 721 (3 : Int).toNat + 1)).toNat)]) rfl ?_
          refine ez_icmp rfl rfl ⟨by omega, by omega⟩ ⟨by omega, by omega⟩ (fun (c16 : (qz_I h 193 (rz_lets (rz_b h) (qz_I h 722 (3 : Int).toNat - (qz_I h 721 (3 : Int).toNat + 1)).toNat (qz_I h 721 (3 : Int).toNat + 1)).toNat) = (62)) => ?_) (fun (c16 : ¬((qz_I h 193 (rz_lets (rz_b h) (qz_I h 722 (3 : Int).toNat - (qz_I h 721 (3 : Int).toNat + 1)).toNat (qz_I h 721 (3 : Int).toNat + 1)).toNat) = (62))) => ?_)
          · skip
            refine ez_go (n := 2) (pc' := 74) (L' := [(3, .inl (rz_lets (rz_b h) (qz_I h 722 (3 : Int).toNat - (qz_I h 721 (3 : Int).toNat + 1)).toNat (qz_I h 721 (3 : Int).toNat + 1))), (2, .inl (qz_I h 721 (3 : Int).toNat)), (0, .inr (.inr (some (720)))), (1, .inr (.inr (some (r))))]) (st' := [.inl (1), .inr (.inr (some (r)))]) rfl ?_
            refine ez_pf hB tr rfl rfl tq_3 rfl rfl rfl rfl (ez_vdI rfl rfl (by omega) (by omega)) (fun hB17 w18 => ?_)
            refine ez_go (n := 4) (pc' := 81) (L' := [(2, .inl ((rz_lets (rz_b h) (qz_I h 722 (3 : Int).toNat - (qz_I h 721 (3 : Int).toNat + 1)).toNat (qz_I h 721 (3 : Int).toNat + 1)) + (1))), (3, .inl (rz_lets (rz_b h) (qz_I h 722 (3 : Int).toNat - (qz_I h 721 (3 : Int).toNat + 1)).toNat (qz_I h 721 (3 : Int).toNat + 1))), (0, .inr (.inr (some (720)))), (1, .inr (.inr (some (r))))]) (st' := []) rfl ?_
            refine ez_less [(2, .inl ((rz_lets (rz_b h) (qz_I h 722 (3 : Int).toNat - (qz_I h 721 (3 : Int).toNat + 1)).toNat (qz_I h 721 (3 : Int).toNat + 1)) + (1))), (0, .inr (.inr (some (720)))), (1, .inr (.inr (some (r))))] rfl ⟨rfl, rfl, rfl, trivial⟩ ?_
            have hrl : r < h.1 := dz_here_lt (hB.1 r (by rw [tr]; decide)).1
            have hf1 : ez_fr (ez_one r) h (dz_put h r 4 (ez_v (.inl (1)))) := (ez_fr.refl (ez_one r) h).put (show Nat.beq r r = true from Nat.beq_refl r) _ _
            have hb1 := rz_b_fr hf1 (rz_ne t193 tr rfl)
            have ht1 : rz_t (dz_put h r 4 (ez_v (.inl (1)))) 3 = rz_t h 3 := hf1.I (rz_ne t722 tr rfl) _
            have hdb : rz_db (rz_b h) (rz_f h 3) (rz_t h 3) = some (1, rz_lets (rz_b h) (rz_t h 3 - (rz_f h 3 + 1)).toNat (rz_f h 3 + 1) + 1) := by unfold rz_db; rw [if_pos (by show qz_I h 193 (qz_I h 721 (3 : Int).toNat).toNat = 60; omega), if_neg (by show ¬(rz_lets (rz_b h) (qz_I h 722 (3 : Int).toNat - (qz_I h 721 (3 : Int).toNat + 1)).toNat (qz_I h 721 (3 : Int).toNat + 1) = qz_I h 721 (3 : Int).toNat + 1 ∨ rz_lets (rz_b h) (qz_I h 722 (3 : Int).toNat - (qz_I h 721 (3 : Int).toNat + 1)).toNat (qz_I h 721 (3 : Int).toNat + 1) = qz_I h 722 (3 : Int).toNat ∨ qz_I h 193 (rz_lets (rz_b h) (qz_I h 722 (3 : Int).toNat - (qz_I h 721 (3 : Int).toNat + 1)).toNat (qz_I h 721 (3 : Int).toNat + 1)).toNat ≠ 62); omega)]
            refine rd_readDecomposition_b hB17 t720 t193 tr hf1 hrl (by omega) (by rw [ht1]; unfold rz_t; omega) hr1 hr2 (fun g τ1 vs a1 a2 a3 a4 a5 a6 a7 a8 => k1 g τ1 vs 1 _ _ e hdb a1 a2 a3 (by rw [hb1, ht1] at a4; exact a4) (by rw [hb1, ht1] at a5; exact a5) a6 a7 (by rw [a8 4 (by decide), w18, if_pos rfl]; rfl) (fun j j1 j2 => (a8 j j1).trans (ez_put_I (fun w => j2 w.2)))) (fun g τ1 a1 a2 a3 => k0 g τ1 a1 a2 e (Or.inr ⟨1, _, hdb, by rw [hb1, ht1] at a3; exact a3⟩))
          · skip
            refine ez_go (n := 1) (pc' := 71) (L' := [(3, .inl (rz_lets (rz_b h) (qz_I h 722 (3 : Int).toNat - (qz_I h 721 (3 : Int).toNat + 1)).toNat (qz_I h 721 (3 : Int).toNat + 1))), (2, .inl (qz_I h 721 (3 : Int).toNat)), (0, .inr (.inr (some (720)))), (1, .inr (.inr (some (r))))]) (st' := [.inl (0)]) rfl ?_
            exact ez_retZ rfl rfl (by decide) (k0 h τ hB ⟨fun _ _ => ⟨rfl, fun _ => rfl⟩, ⟨Nat.le_refl _, Nat.le_add_right _ _⟩, Nat.le_refl _, Nat.le_add_right _ _⟩ e (Or.inl (by unfold rz_db; rw [if_pos (by show qz_I h 193 (qz_I h 721 (3 : Int).toNat).toNat = 60; omega), if_pos (by show rz_lets (rz_b h) (qz_I h 722 (3 : Int).toNat - (qz_I h 721 (3 : Int).toNat + 1)).toNat (qz_I h 721 (3 : Int).toNat + 1) = qz_I h 721 (3 : Int).toNat + 1 ∨ rz_lets (rz_b h) (qz_I h 722 (3 : Int).toNat - (qz_I h 721 (3 : Int).toNat + 1)).toNat (qz_I h 721 (3 : Int).toNat + 1) = qz_I h 722 (3 : Int).toNat ∨ qz_I h 193 (rz_lets (rz_b h) (qz_I h 722 (3 : Int).toNat - (qz_I h 721 (3 : Int).toNat + 1)).toNat (qz_I h 721 (3 : Int).toNat + 1)).toNat ≠ 62; omega)])))

end EzRd8
/-! DATA of the class, functionally: spans. (Written by wip/p2/py/pv9.py.) -/
theorem ez_half {a : Int} (h0 : 0 ≤ a) (h1 : a ≤ 2147483647) : (((Int32.ofInt a).toUInt32 >>> ((Int32.ofInt 1).toUInt32 &&& Int32.toUInt32 31)).toInt32).toInt = a / 2 := by
  have e : (Int32.ofInt a).toInt = a := dz_toInt_i (by omega) h1
  have := dz_ushr1 (a := Int32.ofInt a) (b := Int32.ofInt 1) (by rw [e]; exact h0) rfl
  rw [this, e]
/-- where the span number i lies, where it begins -/
def sz_p (h : cz_H) (i : Int) : Nat := qz_P h 203 i.toNat
def sz_f (h : cz_H) (i : Int) : Int := qz_I h (sz_p h i) 0
/-- spans begin one behind the other, the first one with 0 -/
def sz_ok (h : cz_H) : Prop := sz_f h 0 = 0 ∧ ∀ i j : Int, 0 ≤ i → i < j → j < qz_I h 202 1 → sz_f h i < sz_f h j ∧ sz_f h j ≤ 1114111
section EzDt
variable {d : Nat} {h : cz_H} {τ : Nat → Nat} {Q : cz_F → Prop}
theorem rd_spanIndex_l {p : Int} (hB : ez_B τ h) (t202 : τ 202 = 48) (p0 : 0 ≤ p) (p1 : p ≤ 2147483647) (k : ∀ i, 0 ≤ i → i < qz_I h 202 1 → sz_f h i ≤ p → (i + 1 < qz_I h 202 1 → p < sz_f h (i + 1)) → Q (.inl (some (ez_v (.inl i))), h)) : ∀ (n : Nat) (low high : Int), (high - low).toNat ≤ n → 0 ≤ low → low ≤ high → high < qz_I h 202 1 → qz_I h 202 1 ≤ 513 → sz_f h low ≤ p → (high + 1 < qz_I h 202 1 → p < sz_f h (high + 1)) → ez_W d cm_102 9 [(3, .inl (high)), (2, .inl (low)), (0, .inr (.inr (some (202)))), (1, .inl (p))] [] h Q := by
  intro n
  induction n with
  | zero =>
    intro low high hn l0 l1 h1 n1 fl fh
    refine ez_go (n := 2) (pc' := 11) (L' := [(3, .inl (high)), (2, .inl (low)), (0, .inr (.inr (some (202)))), (1, .inl (p))]) (st' := [.inl (high), .inl (low)]) rfl ?_
    refine ez_icmp rfl rfl ⟨by omega, by omega⟩ ⟨by omega, by omega⟩ (fun (c1 : (high) ≤ (low)) => ?_) (fun (c1 : ¬((high) ≤ (low))) => ?_)
    · skip
      refine ez_go (n := 1) (pc' := 52) (L' := [(3, .inl (high)), (2, .inl (low)), (0, .inr (.inr (some (202)))), (1, .inl (p))]) (st' := [.inl (low)]) rfl ?_
      have e : low = high := by omega
      subst e
      exact ez_retI rfl rfl (k low l0 h1 fl fh)
    · exfalso; omega
  | succ n ih =>
    intro low high hn l0 l1 h1 n1 fl fh
    refine ez_go (n := 2) (pc' := 11) (L' := [(3, .inl (high)), (2, .inl (low)), (0, .inr (.inr (some (202)))), (1, .inl (p))]) (st' := [.inl (high), .inl (low)]) rfl ?_
    refine ez_icmp rfl rfl ⟨by omega, by omega⟩ ⟨by omega, by omega⟩ (fun (c1 : (high) ≤ (low)) => ?_) (fun (c1 : ¬((high) ≤ (low))) => ?_)
    · skip
      refine ez_go (n := 1) (pc' := 52) (L' := [(3, .inl (high)), (2, .inl (low)), (0, .inr (.inr (some (202)))), (1, .inl (p))]) (st' := [.inl (low)]) rfl ?_
      have e : low = high := by omega
      subst e
      exact ez_retI rfl rfl (k low l0 h1 fl fh)
    · skip
      refine ez_go (n := 8) (pc' := 23) (L' := [(4, .inl ((((Int32.ofInt (((low) + (high)) + (1))).toUInt32 >>> ((Int32.ofInt (1)).toUInt32 &&& Int32.toUInt32 31)).toInt32).toInt)), (3, .inl (high)), (2, .inl (low)), (0, .inr (.inr (some (202)))), (1, .inl (p))]) (st' := []) rfl ?_
      rw [ez_half (a := low + high + 1) (by omega) (by omega)]
      refine ez_go (n := 1) (pc' := 24) (L' := [(4, .inl ((low + high + 1) / 2)), (3, .inl (high)), (2, .inl (low)), (0, .inr (.inr (some (202)))), (1, .inl (p))]) (st' := [.inr (.inr (some (202)))]) rfl ?_
      refine ez_gC (p := 203) (tg := 49) hB t202 rfl rfl tq_48 rfl rfl (fun (t203 : _ = 49) => ?_)
      refine ez_go (n := 1) (pc' := 29) (L' := [(4, .inl ((low + high + 1) / 2)), (3, .inl (high)), (2, .inl (low)), (0, .inr (.inr (some (202)))), (1, .inl (p))]) (st' := [.inl ((low + high + 1) / 2), .inr (.inr (some (203)))]) rfl ?_
      have n3 : 513 ≤ qz_N h 203 ∧ qz_N h 203 ≤ 513 := ez_len hB t203 tq_49 rfl
      have y4 : 1 ≤ qz_I h 203 ((low + high + 1) / 2).toNat ∧ qz_I h 203 ((low + high + 1) / 2).toNat ≤ 1000000 := ez_aB hB t203 tq_49 rfl rfl (by decide) (by omega) (by omega)
      have y4' : ((qz_P h 203 ((low + high + 1) / 2).toNat : Nat) : Int) + 1 = qz_I h 203 ((low + high + 1) / 2).toNat := by unfold qz_P; omega
      refine ez_aR hB t203 rfl tq_49 rfl rfl (by omega) (by omega) (by omega) (fun (t2 : _ = 4) => ?_)
      refine ez_gI hB t2 rfl rfl tq_4 rfl rfl (fun (b5 : -2147483648 ≤ qz_I h (qz_P h 203 ((low + high + 1) / 2).toNat) 0) (b5' : qz_I h (qz_P h 203 ((low + high + 1) / 2).toNat) 0 ≤ 2147483647) => ?_)
      refine ez_go (n := 1) (pc' := 34) (L' := [(4, .inl ((low + high + 1) / 2)), (3, .inl (high)), (2, .inl (low)), (0, .inr (.inr (some (202)))), (1, .inl (p))]) (st' := [.inl (p), .inl (qz_I h (qz_P h 203 ((low + high + 1) / 2).toNat) 0)]) rfl ?_
      refine ez_icmp rfl rfl ⟨by omega, by omega⟩ ⟨by omega, by omega⟩ (fun (c6 : (p) < (qz_I h (qz_P h 203 ((low + high + 1) / 2).toNat) 0)) => ?_) (fun (c6 : ¬((p) < (qz_I h (qz_P h 203 ((low + high + 1) / 2).toNat) 0))) => ?_)
      · skip
        refine ez_go (n := 5) (pc' := 9) (L' := [(3, .inl (((low + high + 1) / 2) - (1))), (4, .inl ((low + high + 1) / 2)), (2, .inl (low)), (0, .inr (.inr (some (202)))), (1, .inl (p))]) (st' := []) rfl ?_
        refine ez_less [(3, .inl (((low + high + 1) / 2) - (1))), (2, .inl (low)), (0, .inr (.inr (some (202)))), (1, .inl (p))] rfl ⟨rfl, rfl, rfl, rfl, trivial⟩ ?_
        exact ih _ _ (by omega) (by omega) (by omega) (by omega) n1 fl (fun _ => by rw [show (low + high + 1) / 2 - 1 + 1 = (low + high + 1) / 2 by omega]; show p < qz_I h (qz_P h 203 ((low + high + 1) / 2).toNat) 0; omega)
      · skip
        refine ez_go (n := 4) (pc' := 9) (L' := [(2, .inl ((low + high + 1) / 2)), (4, .inl ((low + high + 1) / 2)), (3, .inl (high)), (0, .inr (.inr (some (202)))), (1, .inl (p))]) (st' := []) rfl ?_
        refine ez_less [(3, .inl (high)), (2, .inl ((low + high + 1) / 2)), (0, .inr (.inr (some (202)))), (1, .inl (p))] rfl ⟨rfl, rfl, rfl, rfl, trivial⟩ ?_
        exact ih _ _ (by omega) (by omega) (by omega) (by omega) n1 (by show qz_I h (qz_P h 203 ((low + high + 1) / 2).toNat) 0 ≤ p; omega) fh
theorem rd_spanIndex {p : Int} (hB : ez_B τ h) (t202 : τ 202 = 48) (hs : sz_ok h) (p0 : 0 ≤ p) (p1 : p ≤ 2147483647) (k : ∀ i, 0 ≤ i → i < qz_I h 202 1 → sz_f h i ≤ p → (i + 1 < qz_I h 202 1 → p < sz_f h (i + 1)) → Q (.inl (some (ez_v (.inl i))), h)) : ez_W d cm_102 0 [(0, .inr (.inr (some (202)))), (1, .inl (p))] [] h Q := by
  refine ez_go (n := 3) (pc' := 3) (L' := [(2, .inl (0)), (0, .inr (.inr (some (202)))), (1, .inl (p))]) (st' := [.inr (.inr (some (202)))]) rfl ?_
  refine ez_gI hB t202 rfl rfl tq_48 rfl rfl (fun (b1 : 1 ≤ qz_I h 202 1) (b1' : qz_I h 202 1 ≤ 513) => ?_)
  refine ez_go (n := 3) (pc' := 9) (L' := [(3, .inl ((qz_I h 202 1) - (1))), (2, .inl (0)), (0, .inr (.inr (some (202)))), (1, .inl (p))]) (st' := []) rfl ?_
  refine ez_less [(3, .inl ((qz_I h 202 1) - (1))), (2, .inl (0)), (0, .inr (.inr (some (202)))), (1, .inl (p))] rfl ⟨rfl, rfl, rfl, rfl, trivial⟩ ?_
  exact rd_spanIndex_l hB t202 p0 p1 k _ _ _ (Nat.le_refl _) (by omega) (by omega) (by omega) (by omega) (by rw [hs.1]; exact p0) (fun w => by omega)

end EzDt
/-! Constructors. (Written by wip/p2/py/pv10.py.) -/
/-- Object's constructor -/
theorem ez_ob {d : Nat} {M : cz_M} {pc : Nat} {L : List (Nat × ez_V)} {st : List ez_V} {h : cz_H} {Q : cz_F → Prop} {x a b c r : Nat} (hc : cz_code M pc = some (.invokespecial x, 3)) (hq : cz_lk M x = some (6, a, b, c)) (hs : Nat.ble st.length 20 = true) (k : ez_W (d + 1) M (pc + 3) L st h Q) : ez_W (d + 1) M pc L (.inr (.inr (some r)) :: st) h Q := by
  refine dz_wp_hp (q := (pc + 3, st.map ez_v, h)) hc rfl rfl rfl rfl rfl ?_ k
  show cz_hobj M (d + 1) x pc (.inr (.inr (some r)) :: st.map ez_v) h = _
  unfold cz_hobj
  have e : Nat.ble (st.map ez_v).length 20 = true := by rw [List.length_map]; exact hs
  simp only [hq, e, show Nat.beq 6 6 = true from rfl, show Nat.blt 0 (d + 1) = true from Nat.blt_eq.mpr (Nat.succ_pos d), Bool.and_self, cond_true]
section EzCt
variable {d : Nat} {h : cz_H} {τ : Nat → Nat} {Q : cz_F → Prop} {r : Nat}
theorem rd_Fact_init (hB : ez_B τ h) (tr : τ r = 3) (k : ∀ g, ez_B τ g → ez_fr (ez_one r) h g → (∀ j, j ≠ 1 → j ≠ 5 → j ≠ 6 → j ≠ 7 → qz_I g r j = qz_I h r j) → Q (.inl none, g)) : ez_W (d + 1) cm_134 0 [(0, .inr (.inr (some (r))))] [] h Q := by
  refine ez_go (n := 1) (pc' := 1) (L' := [(0, .inr (.inr (some (r))))]) (st' := [.inr (.inr (some (r)))]) rfl ?_
  refine ez_ob rfl rfl rfl ?_
  refine ez_go (n := 2) (pc' := 8) (L' := [(0, .inr (.inr (some (r))))]) (st' := [.inl (17262), .inr (.inr (some (r)))]) rfl ?_
  refine ez_pf hB tr rfl rfl tq_3 rfl rfl rfl rfl (ez_vdI rfl rfl (by omega) (by omega)) (fun hB1 w2 => ?_)
  refine ez_go (n := 2) (pc' := 13) (L' := [(0, .inr (.inr (some (r))))]) (st' := [.inl (-1), .inr (.inr (some (r)))]) rfl ?_
  refine ez_pf hB1 tr rfl rfl tq_3 rfl rfl rfl rfl (ez_vdI rfl rfl (by omega) (by omega)) (fun hB3 w4 => ?_)
  refine ez_go (n := 2) (pc' := 18) (L' := [(0, .inr (.inr (some (r))))]) (st' := [.inl (-1), .inr (.inr (some (r)))]) rfl ?_
  refine ez_pf hB3 tr rfl rfl tq_3 rfl rfl rfl rfl (ez_vdI rfl rfl (by omega) (by omega)) (fun hB5 w6 => ?_)
  refine ez_go (n := 2) (pc' := 23) (L' := [(0, .inr (.inr (some (r))))]) (st' := [.inl (-1), .inr (.inr (some (r)))]) rfl ?_
  refine ez_pf hB5 tr rfl rfl tq_3 rfl rfl rfl rfl (ez_vdI rfl rfl (by omega) (by omega)) (fun hB7 w8 => ?_)
  exact ez_ret0 rfl rfl (k _ hB7 (((((ez_fr.refl (ez_one r) h).put (show Nat.beq r r = true from Nat.beq_refl r) _ _).put (show Nat.beq r r = true from Nat.beq_refl r) _ _).put (show Nat.beq r r = true from Nat.beq_refl r) _ _).put (show Nat.beq r r = true from Nat.beq_refl r) _ _) (fun j j1 j5 j6 j7 => by rw [ez_put_I (by omega)]; rw [ez_put_I (by omega)]; rw [ez_put_I (by omega)]; rw [ez_put_I (by omega)]))

end EzCt
/-! Spans: copies and cuts. (Written by wip/p2/py/pv11.py.) -/
theorem ez_sur (v : cz_V) : ∃ u, v = ez_v u := by
  obtain x | x := v
  · exact ⟨.inl x.toInt, by show _ = Sum.inl (Int32.ofInt x.toInt); rw [ez_of]⟩
  · exact ⟨.inr x, rfl⟩
section EzCp
variable {d : Nat} {M : cz_M} {pc : Nat} {L : List (Nat × ez_V)} {st : List ez_V} {h : cz_H} {Q : cz_F → Prop} {τ : Nat → Nat}
/-- a field out of one object into the same field of another one like it -/
theorem ez_cp {x y q0 q1 cl k w t a b : Nat} {ti : dz_I} {c : Nat} {lo hi : Int} {tg : Nat} {ks : List Nat} (hB : ez_B τ h) (ha : τ a = t) (hb : τ b = t) (hc : cz_code M pc = some (.getfield x, 3)) (hq : cz_lk M x = some (q0, cl, k, w)) (hc2 : cz_code M (pc + 3) = some (.putfield y, 3)) (hq2 : cz_lk M y = some (q1, cl, k, 1)) (hti : tz_T t = some ti) (hD : dz_nth ti.2.2.2.2 k = some (c, lo, hi, tg, 0)) (hks : cz_pg.2.1[cl]? = some ks) (hkk : ks[k]? = some c) (hbo : (Nat.ble q0 1 && (Nat.ble q1 1 && ((Nat.beq ti.1 0 && Nat.beq ti.2.1 cl) && Nat.beq ti.2.2.1 1))) = true) (kk : ∀ v, ez_B τ (dz_put h a k v) → qz_I (dz_put h a k v) a k = qz_I h b k → ez_W d M (pc + 6) L st (dz_put h a k v) Q) : ez_W d M pc L (.inr (.inr (some b)) :: .inr (.inr (some a)) :: st) h Q := by
  rw [Bool.and_eq_true] at hbo
  obtain ⟨b1, b2⟩ := hbo
  have b2' := b2
  rw [Bool.and_eq_true, Bool.and_eq_true] at b2'
  obtain ⟨vs, v, o1, o2, o3, o4, -⟩ := ez_fld hB hb hti b2'.2.1 hD
  obtain ⟨u, rfl⟩ := ez_sur v
  refine ez_getf hc hq b1 o1 o2 rfl ?_
  refine ez_pf hB ha hc2 hq2 hti hD hks hkk b2 ⟨o4.1, o4.2.1, o4.2.2.1, ez_m40⟩ (fun g1 g2 => ?_)
  exact kk _ g1 (g2.trans (qz_I_of o3).symm)
end EzCp
section EzSp
variable {d : Nat} {h : cz_H} {τ : Nat → Nat} {Q : cz_F → Prop}
theorem rd_copyFrom {a b : Nat} (hB : ez_B τ h) (ta : τ a = 4) (tb : τ b = 4) (hab : a ≠ b) (k : ∀ g, ez_B τ g → ez_fr (ez_one a) h g → qz_I g a 0 = qz_I h a 0 → (∀ j, 1 ≤ j → j ≤ 8 → qz_I g a j = qz_I h b j) → Q (.inl none, g)) : ez_W d cm_183 0 [(0, .inr (.inr (some a))), (1, .inr (.inr (some b)))] [] h Q := by
  refine ez_go (n := 2) (pc' := 2) (L' := [(0, .inr (.inr (some a))), (1, .inr (.inr (some b)))]) (st' := [.inr (.inr (some b)), .inr (.inr (some a))]) rfl ?_
  refine ez_cp hB ta tb rfl rfl rfl rfl tq_4 rfl rfl rfl rfl (fun v1 g1 w1 => ?_)
  refine ez_go (n := 2) (pc' := 10) (L' := [(0, .inr (.inr (some a))), (1, .inr (.inr (some b)))]) (st' := [.inr (.inr (some b)), .inr (.inr (some a))]) rfl ?_
  refine ez_cp g1 ta tb rfl rfl rfl rfl tq_4 rfl rfl rfl rfl (fun v2 g2 w2 => ?_)
  refine ez_go (n := 2) (pc' := 18) (L' := [(0, .inr (.inr (some a))), (1, .inr (.inr (some b)))]) (st' := [.inr (.inr (some b)), .inr (.inr (some a))]) rfl ?_
  refine ez_cp g2 ta tb rfl rfl rfl rfl tq_4 rfl rfl rfl rfl (fun v3 g3 w3 => ?_)
  refine ez_go (n := 2) (pc' := 26) (L' := [(0, .inr (.inr (some a))), (1, .inr (.inr (some b)))]) (st' := [.inr (.inr (some b)), .inr (.inr (some a))]) rfl ?_
  refine ez_cp g3 ta tb rfl rfl rfl rfl tq_4 rfl rfl rfl rfl (fun v4 g4 w4 => ?_)
  refine ez_go (n := 2) (pc' := 34) (L' := [(0, .inr (.inr (some a))), (1, .inr (.inr (some b)))]) (st' := [.inr (.inr (some b)), .inr (.inr (some a))]) rfl ?_
  refine ez_cp g4 ta tb rfl rfl rfl rfl tq_4 rfl rfl rfl rfl (fun v5 g5 w5 => ?_)
  refine ez_go (n := 2) (pc' := 42) (L' := [(0, .inr (.inr (some a))), (1, .inr (.inr (some b)))]) (st' := [.inr (.inr (some b)), .inr (.inr (some a))]) rfl ?_
  refine ez_cp g5 ta tb rfl rfl rfl rfl tq_4 rfl rfl rfl rfl (fun v6 g6 w6 => ?_)
  refine ez_go (n := 2) (pc' := 50) (L' := [(0, .inr (.inr (some a))), (1, .inr (.inr (some b)))]) (st' := [.inr (.inr (some b)), .inr (.inr (some a))]) rfl ?_
  refine ez_cp g6 ta tb rfl rfl rfl rfl tq_4 rfl rfl rfl rfl (fun v7 g7 w7 => ?_)
  refine ez_go (n := 2) (pc' := 58) (L' := [(0, .inr (.inr (some a))), (1, .inr (.inr (some b)))]) (st' := [.inr (.inr (some b)), .inr (.inr (some a))]) rfl ?_
  refine ez_cp g7 ta tb rfl rfl rfl rfl tq_4 rfl rfl rfl rfl (fun v8 g8 w8 => ?_)
  refine ez_ret0 rfl rfl (k _ g8 (((((((((ez_fr.refl (ez_one a) h).put (show Nat.beq a a = true from Nat.beq_refl a) _ _).put (show Nat.beq a a = true from Nat.beq_refl a) _ _).put (show Nat.beq a a = true from Nat.beq_refl a) _ _).put (show Nat.beq a a = true from Nat.beq_refl a) _ _).put (show Nat.beq a a = true from Nat.beq_refl a) _ _).put (show Nat.beq a a = true from Nat.beq_refl a) _ _).put (show Nat.beq a a = true from Nat.beq_refl a) _ _).put (show Nat.beq a a = true from Nat.beq_refl a) _ _) (by rw [ez_put_I (by omega), ez_put_I (by omega), ez_put_I (by omega), ez_put_I (by omega), ez_put_I (by omega), ez_put_I (by omega), ez_put_I (by omega), ez_put_I (by omega)]) (fun j j1 j8 => ?_))
  have hj : j = 1 ∨ j = 2 ∨ j = 3 ∨ j = 4 ∨ j = 5 ∨ j = 6 ∨ j = 7 ∨ j = 8 := by omega
  rcases hj with rfl | rfl | rfl | rfl | rfl | rfl | rfl | rfl
  · rw [ez_put_I (by omega), ez_put_I (by omega), ez_put_I (by omega), ez_put_I (by omega), ez_put_I (by omega), ez_put_I (by omega), ez_put_I (by omega), w1]
  · rw [ez_put_I (by omega), ez_put_I (by omega), ez_put_I (by omega), ez_put_I (by omega), ez_put_I (by omega), ez_put_I (by omega), w2, ez_put_I (fun w => hab w.1.symm)]
  · rw [ez_put_I (by omega), ez_put_I (by omega), ez_put_I (by omega), ez_put_I (by omega), ez_put_I (by omega), w3, ez_put_I (fun w => hab w.1.symm), ez_put_I (fun w => hab w.1.symm)]
  · rw [ez_put_I (by omega), ez_put_I (by omega), ez_put_I (by omega), ez_put_I (by omega), w4, ez_put_I (fun w => hab w.1.symm), ez_put_I (fun w => hab w.1.symm), ez_put_I (fun w => hab w.1.symm)]
  · rw [ez_put_I (by omega), ez_put_I (by omega), ez_put_I (by omega), w5, ez_put_I (fun w => hab w.1.symm), ez_put_I (fun w => hab w.1.symm), ez_put_I (fun w => hab w.1.symm), ez_put_I (fun w => hab w.1.symm)]
  · rw [ez_put_I (by omega), ez_put_I (by omega), w6, ez_put_I (fun w => hab w.1.symm), ez_put_I (fun w => hab w.1.symm), ez_put_I (fun w => hab w.1.symm), ez_put_I (fun w => hab w.1.symm), ez_put_I (fun w => hab w.1.symm)]
  · rw [ez_put_I (by omega), w7, ez_put_I (fun w => hab w.1.symm), ez_put_I (fun w => hab w.1.symm), ez_put_I (fun w => hab w.1.symm), ez_put_I (fun w => hab w.1.symm), ez_put_I (fun w => hab w.1.symm), ez_put_I (fun w => hab w.1.symm)]
  · rw [w8, ez_put_I (fun w => hab w.1.symm), ez_put_I (fun w => hab w.1.symm), ez_put_I (fun w => hab w.1.symm), ez_put_I (fun w => hab w.1.symm), ez_put_I (fun w => hab w.1.symm), ez_put_I (fun w => hab w.1.symm), ez_put_I (fun w => hab w.1.symm)]
end EzSp
/-! Spans: the cut. (Written by wip/p2/py/pv12.py.) -/
section EzCut
variable {d : Nat} {h : cz_H} {τ : Nat → Nat} {Q : cz_F → Prop}
theorem rd_cut_l {p idx n : Int} {q : Nat} (t202 : τ 202 = 48) (t203 : τ 203 = 49) (tq : τ q = 4) (i0 : 0 ≤ idx) (n1 : n < 513) (kx : ∀ g, ez_B τ g → ez_fr (ez_one 203) h g → (∀ k : Int, 0 ≤ k → qz_I g 203 k.toNat = if idx + 1 < k ∧ k ≤ n then qz_I h 203 (k - 1).toNat else qz_I h 203 k.toNat) → ez_W d cm_97 88 [(3, .inr (.inr (some (q)))), (2, .inl (idx)), (0, .inr (.inr (some (202)))), (1, .inl (p))] [] g Q) : ∀ (m : Nat) (i : Int) (g : cz_H), m = (i - (idx + 1)).toNat → idx + 1 ≤ i → i ≤ n → ez_B τ g → ez_fr (ez_one 203) h g → (∀ k : Int, 0 ≤ k → qz_I g 203 k.toNat = if i < k ∧ k ≤ n then qz_I h 203 (k - 1).toNat else qz_I h 203 k.toNat) → ez_W d cm_97 58 [(4, .inl (i)), (3, .inr (.inr (some (q)))), (2, .inl (idx)), (0, .inr (.inr (some (202)))), (1, .inl (p))] [] g Q := by
  intro m
  induction m with
  | zero =>
    intro i g hm a1 a2 hB hf hs
    refine ez_go (n := 4) (pc' := 63) (L' := [(4, .inl (i)), (3, .inr (.inr (some (q)))), (2, .inl (idx)), (0, .inr (.inr (some (202)))), (1, .inl (p))]) (st' := [.inl ((idx) + (1)), .inl (i)]) rfl ?_
    refine ez_icmp rfl rfl ⟨by omega, by omega⟩ ⟨by omega, by omega⟩ (fun (c1 : (i) ≤ ((idx) + (1))) => ?_) (fun (c1 : ¬((i) ≤ ((idx) + (1)))) => ?_)
    · skip
      refine ez_less [(3, .inr (.inr (some (q)))), (2, .inl (idx)), (0, .inr (.inr (some (202)))), (1, .inl (p))] rfl ⟨rfl, rfl, rfl, rfl, trivial⟩ ?_
      exact kx g hB hf (by rw [show idx + 1 = i by omega]; exact hs)
    · exfalso; omega
  | succ m ih =>
    intro i g hm a1 a2 hB hf hs
    refine ez_go (n := 4) (pc' := 63) (L' := [(4, .inl (i)), (3, .inr (.inr (some (q)))), (2, .inl (idx)), (0, .inr (.inr (some (202)))), (1, .inl (p))]) (st' := [.inl ((idx) + (1)), .inl (i)]) rfl ?_
    refine ez_icmp rfl rfl ⟨by omega, by omega⟩ ⟨by omega, by omega⟩ (fun (c1 : (i) ≤ ((idx) + (1))) => ?_) (fun (c1 : ¬((i) ≤ ((idx) + (1)))) => ?_)
    · exfalso; omega
    · skip
      refine ez_go (n := 1) (pc' := 67) (L' := [(4, .inl (i)), (3, .inr (.inr (some (q)))), (2, .inl (idx)), (0, .inr (.inr (some (202)))), (1, .inl (p))]) (st' := [.inr (.inr (some (202)))]) rfl ?_
      refine ez_gC (p := 203) (tg := 49) hB t202 rfl rfl tq_48 rfl rfl (fun (t203 : _ = 49) => ?_)
      refine ez_go (n := 2) (pc' := 73) (L' := [(4, .inl (i)), (3, .inr (.inr (some (q)))), (2, .inl (idx)), (0, .inr (.inr (some (202)))), (1, .inl (p))]) (st' := [.inr (.inr (some (202))), .inl (i), .inr (.inr (some (203)))]) rfl ?_
      refine ez_gC (p := 203) (tg := 49) hB t202 rfl rfl tq_48 rfl rfl (fun (t203 : _ = 49) => ?_)
      refine ez_go (n := 3) (pc' := 80) (L' := [(4, .inl (i)), (3, .inr (.inr (some (q)))), (2, .inl (idx)), (0, .inr (.inr (some (202)))), (1, .inl (p))]) (st' := [.inl ((i) - (1)), .inr (.inr (some (203))), .inl (i), .inr (.inr (some (203)))]) rfl ?_
      have n3 : 513 ≤ qz_N g 203 ∧ qz_N g 203 ≤ 513 := ez_len hB t203 tq_49 rfl
      have y4 : 1 ≤ qz_I g 203 ((i) - (1)).toNat ∧ qz_I g 203 ((i) - (1)).toNat ≤ 1000000 := ez_aB hB t203 tq_49 rfl rfl (by decide) (by omega) (by omega)
      have y4' : ((qz_P g 203 ((i) - (1)).toNat : Nat) : Int) + 1 = qz_I g 203 ((i) - (1)).toNat := by unfold qz_P; omega
      refine ez_aR hB t203 rfl tq_49 rfl rfl (by omega) (by omega) (by omega) (fun (t2 : _ = 4) => ?_)
      have n7 : 513 ≤ qz_N g 203 ∧ qz_N g 203 ≤ 513 := ez_len hB t203 tq_49 rfl
      refine ez_aa hB t203 t2 rfl tq_49 tq_4 rfl rfl rfl (by omega) (by omega) (ez_vdR rfl t2 (by omega) (by omega)) (fun hB5 w6 => ?_)
      refine ez_go (n := 2) (pc' := 58) (L' := [(4, .inl (i + (-1))), (3, .inr (.inr (some (q)))), (2, .inl (idx)), (0, .inr (.inr (some (202)))), (1, .inl (p))]) (st' := []) rfl ?_
      refine ez_less [(4, .inl (i + (-1))), (3, .inr (.inr (some (q)))), (2, .inl (idx)), (0, .inr (.inr (some (202)))), (1, .inl (p))] rfl ⟨rfl, rfl, rfl, rfl, rfl, trivial⟩ ?_
      refine ih _ _ (by omega) (by omega) (by omega) hB5 (hf.put rfl _ _) (fun k k0 => ?_)
      by_cases e : k = i
      · subst e
        rw [w6, if_pos (by omega)]
        have := hs (k - 1) (by omega)
        rw [if_neg (by omega)] at this
        omega
      · rw [ez_put_I (by omega), hs k k0]
        by_cases e2 : i < k ∧ k ≤ n
        · rw [if_pos e2, if_pos (by omega)]
        · rw [if_neg e2, if_neg (by omega)]
def sz_P3 (q z : Nat) : Bool := Nat.beq z 202 || (Nat.beq z 203 || Nat.beq z q)
theorem rd_cut_e {p idx n : Int} {q : Nat} (hB : ez_B τ h) (t202 : τ 202 = 48) (t203 : τ 203 = 49) (tq : τ q = 4) (hqb : q ≠ qz_P h 203 idx.toNat) (hq1 : (q : Int) + 1 ≤ 1000000) (hn : qz_I h 202 1 = n) (n0 : 0 ≤ n) (n1 : n < 513) (i0 : 0 ≤ idx) (i1 : idx + 1 < 513) (p0 : 0 ≤ p) (p1 : p ≤ 1114111) (k : ∀ g, ez_B τ g → ez_fr (sz_P3 q) h g → qz_I g 202 1 = n + 1 → (∀ j, j ≠ 1 → qz_I g 202 j = qz_I h 202 j) → (∀ k : Int, 0 ≤ k → qz_I g 203 k.toNat = if k = idx + 1 then (q : Int) + 1 else qz_I h 203 k.toNat) → qz_I g q 0 = p → (∀ j, 1 ≤ j → j ≤ 8 → qz_I g q j = qz_I h (qz_P h 203 idx.toNat) j) → Q (.inl (some (ez_v (.inl (idx + 1)))), g)) : ez_W (d + 1) cm_97 88 [(3, .inr (.inr (some (q)))), (2, .inl (idx)), (0, .inr (.inr (some (202)))), (1, .inl (p))] [] h Q := by
  refine ez_go (n := 2) (pc' := 90) (L' := [(3, .inr (.inr (some (q)))), (2, .inl (idx)), (0, .inr (.inr (some (202)))), (1, .inl (p))]) (st' := [.inr (.inr (some (202))), .inr (.inr (some (q)))]) rfl ?_
  refine ez_gC (p := 203) (tg := 49) hB t202 rfl rfl tq_48 rfl rfl (fun (t203 : _ = 49) => ?_)
  refine ez_go (n := 1) (pc' := 94) (L' := [(3, .inr (.inr (some (q)))), (2, .inl (idx)), (0, .inr (.inr (some (202)))), (1, .inl (p))]) (st' := [.inl (idx), .inr (.inr (some (203))), .inr (.inr (some (q)))]) rfl ?_
  have n2 : 513 ≤ qz_N h 203 ∧ qz_N h 203 ≤ 513 := ez_len hB t203 tq_49 rfl
  have y3 : 1 ≤ qz_I h 203 (idx).toNat ∧ qz_I h 203 (idx).toNat ≤ 1000000 := ez_aB hB t203 tq_49 rfl rfl (by decide) (by omega) (by omega)
  have y3' : ((qz_P h 203 (idx).toNat : Nat) : Int) + 1 = qz_I h 203 (idx).toNat := by unfold qz_P; omega
  refine ez_aR hB t203 rfl tq_49 rfl rfl (by omega) (by omega) (by omega) (fun (t1 : _ = 4) => ?_)
  refine ez_cv hB tq rfl rfl rfl tq_4 rfl rfl rfl (rd_copyFrom hB tq t1 hqb (fun g1 hB1 hf1 hz hcp => ez_K0 ?_))
  refine ez_go (n := 2) (pc' := 100) (L' := [(3, .inr (.inr (some (q)))), (2, .inl (idx)), (0, .inr (.inr (some (202)))), (1, .inl (p))]) (st' := [.inl (p), .inr (.inr (some (q)))]) rfl ?_
  refine ez_pf hB1 tq rfl rfl tq_4 rfl rfl rfl rfl (ez_vdI rfl rfl (by omega) (by omega)) (fun hB4 w5 => ?_)
  refine ez_go (n := 1) (pc' := 104) (L' := [(3, .inr (.inr (some (q)))), (2, .inl (idx)), (0, .inr (.inr (some (202)))), (1, .inl (p))]) (st' := [.inr (.inr (some (202)))]) rfl ?_
  refine ez_gC (p := 203) (tg := 49) hB4 t202 rfl rfl tq_48 rfl rfl (fun (t203 : _ = 49) => ?_)
  refine ez_go (n := 4) (pc' := 111) (L' := [(3, .inr (.inr (some (q)))), (2, .inl (idx)), (0, .inr (.inr (some (202)))), (1, .inl (p))]) (st' := [.inr (.inr (some (q))), .inl ((idx) + (1)), .inr (.inr (some (203)))]) rfl ?_
  have n8 : 513 ≤ qz_N (dz_put g1 q 0 (ez_v (.inl (p)))) 203 ∧ qz_N (dz_put g1 q 0 (ez_v (.inl (p)))) 203 ≤ 513 := ez_len hB4 t203 tq_49 rfl
  refine ez_aa hB4 t203 tq rfl tq_49 tq_4 rfl rfl rfl (by omega) (by omega) (ez_vdR rfl tq (by omega) (by omega)) (fun hB6 w7 => ?_)
  have q202 : ez_one q 202 = false := rz_ne t202 tq rfl
  have q203 : ez_one q 203 = false := rz_ne t203 tq rfl
  have n202 : (202 : Nat) ≠ q := fun e => by rw [← e, t202] at tq; cases tq
  have n203 : (203 : Nat) ≠ q := fun e => by rw [← e, t203] at tq; cases tq
  have hn2 : qz_I (dz_put (dz_put g1 q 0 (ez_v (.inl (p)))) 203 ((idx) + (1)).toNat (ez_v (.inr (.inr (some (q)))))) 202 1 = n := by rw [ez_put_I (by omega), ez_put_I (by omega), hf1.I q202]; exact hn
  refine ez_go (n := 2) (pc' := 114) (L' := [(3, .inr (.inr (some (q)))), (2, .inl (idx)), (0, .inr (.inr (some (202)))), (1, .inl (p))]) (st' := [.inr (.inr (some (202))), .inr (.inr (some (202)))]) rfl ?_
  refine ez_gI hB6 t202 rfl rfl tq_48 rfl rfl (fun (b9 : 1 ≤ qz_I (dz_put (dz_put g1 q 0 (ez_v (.inl (p)))) 203 ((idx) + (1)).toNat (ez_v (.inr (.inr (some (q)))))) 202 1) (b9' : qz_I (dz_put (dz_put g1 q 0 (ez_v (.inl (p)))) 203 ((idx) + (1)).toNat (ez_v (.inr (.inr (some (q)))))) 202 1 ≤ 513) => ?_)
  refine ez_go (n := 2) (pc' := 119) (L' := [(3, .inr (.inr (some (q)))), (2, .inl (idx)), (0, .inr (.inr (some (202)))), (1, .inl (p))]) (st' := [.inl ((qz_I (dz_put (dz_put g1 q 0 (ez_v (.inl (p)))) 203 ((idx) + (1)).toNat (ez_v (.inr (.inr (some (q)))))) 202 1) + (1)), .inr (.inr (some (202)))]) rfl ?_
  refine ez_pf hB6 t202 rfl rfl tq_48 rfl rfl rfl rfl (ez_vdI rfl rfl (by omega) (by omega)) (fun hB10 w11 => ?_)
  refine ez_go (n := 3) (pc' := 125) (L' := [(3, .inr (.inr (some (q)))), (2, .inl (idx)), (0, .inr (.inr (some (202)))), (1, .inl (p))]) (st' := [.inl ((idx) + (1))]) rfl ?_
  refine ez_retI rfl rfl (k _ hB10 ?_ ?_ ?_ ?_ ?_ ?_)
  · have f0 : ez_fr (sz_P3 q) h g1 := ⟨hf1.1, hf1.2.1, fun z hz => hf1.2.2 z (by unfold sz_P3 at hz; simp only [Bool.or_eq_false_iff] at hz; exact hz.2.2)⟩
    exact ((f0.put (show sz_P3 q q = true by unfold sz_P3; rw [Nat.beq_refl]; simp) _ _).put (show sz_P3 q 203 = true by unfold sz_P3; simp) _ _).put (show sz_P3 q 202 = true by unfold sz_P3; simp) _ _
  · rw [w11, hn2]; exact rz_rd ⟨by omega, by omega⟩
  · intro j hj
    rw [ez_put_I (by omega), ez_put_I (by omega), ez_put_I (by omega), hf1.I q202]
  · intro k k0
    rw [ez_put_I (by omega)]
    by_cases e : k = idx + 1
    · rw [if_pos e, e]; exact w7
    · rw [if_neg e, ez_put_I (by omega), ez_put_I (by omega), hf1.I q203]
  · rw [ez_put_I (by omega), ez_put_I (by omega), w5]; exact rz_rd ⟨by omega, by omega⟩
  · intro j j1 j8
    rw [ez_put_I (by omega), ez_put_I (by omega), ez_put_I (by omega)]; exact hcp j j1 j8

end EzCut
/-! Spans: cutBefore. (Written by wip/p2/py/pv13.py.) -/
/-- bounds of a field -/
theorem ez_fB {τ : Nat → Nat} {h : cz_H} {r t cl k : Nat} {ti : dz_I} {c : Nat} {lo hi : Int} {tg md : Nat} (hB : ez_B τ h) (hτ : τ r = t) (hti : tz_T t = some ti) (hk : (Nat.beq ti.1 0 && Nat.beq ti.2.1 cl) = true) (hD : dz_nth ti.2.2.2.2 k = some (c, lo, hi, tg, md)) (hc : c ≠ 2) : lo ≤ qz_I h r k ∧ qz_I h r k ≤ hi := by
  obtain ⟨vs, v, -, -, o3, o4, -⟩ := ez_fld hB hτ hti hk hD
  exact ez_slB o3 o4 hc
/-- all spans are different ones -/
def sz_inj (h : cz_H) : Prop := ∀ i j : Int, 0 ≤ i → i < 513 → 0 ≤ j → j < 513 → sz_p h i = sz_p h j → i = j
/-- the span in which a point lies -/
def sz_at (h : cz_H) (p i : Int) : Prop := 0 ≤ i ∧ i < qz_I h 202 1 ∧ sz_f h i ≤ p ∧ (i + 1 < qz_I h 202 1 → p < sz_f h (i + 1))
section EzCb
variable {d : Nat} {h : cz_H} {τ : Nat → Nat} {Q : cz_F → Prop}
theorem rd_cutBefore {p : Int} (hB : ez_B τ h) (t202 : τ 202 = 48) (hs : sz_ok h) (hinj : sz_inj h) (p0 : 0 ≤ p) (p1 : p ≤ 2147483647) (kA : 1114111 < p → Q (.inl (some (ez_v (.inl (qz_I h 202 1)))), h)) (kB : ∀ i, sz_at h p i → p ≤ 1114111 → (sz_f h i = p ∨ 513 ≤ qz_I h 202 1) → Q (.inl (some (ez_v (.inl i))), h)) (kC : ∀ g i q, sz_at h p i → p ≤ 1114111 → sz_f h i ≠ p → qz_I h 202 1 < 513 → q = sz_p h (qz_I h 202 1) → ez_B τ g → ez_fr (sz_P3 q) h g → qz_I g 202 1 = qz_I h 202 1 + 1 → (∀ j, j ≠ 1 → qz_I g 202 j = qz_I h 202 j) → (∀ k : Int, 0 ≤ k → qz_I g 203 k.toNat = if k = i + 1 then (q : Int) + 1 else if i + 1 < k ∧ k ≤ qz_I h 202 1 then qz_I h 203 (k - 1).toNat else qz_I h 203 k.toNat) → qz_I g q 0 = p → (∀ j, 1 ≤ j → j ≤ 8 → qz_I g q j = qz_I h (sz_p h i) j) → Q (.inl (some (ez_v (.inl (i + 1)))), g)) : ez_W (d + 1) cm_97 0 [(0, .inr (.inr (some (202)))), (1, .inl (p))] [] h Q := by
  have bn : 1 ≤ qz_I h 202 1 ∧ qz_I h 202 1 ≤ 513 := ez_fB (cl := 2) hB t202 tq_48 rfl rfl (by decide)
  refine ez_go (n := 1) (pc' := 1) (L' := [(0, .inr (.inr (some (202)))), (1, .inl (p))]) (st' := [.inl (p)]) rfl ?_
  refine ez_ldc (1114111) rfl rfl rfl ?_
  refine ez_icmp rfl rfl ⟨by omega, by omega⟩ ⟨by omega, by omega⟩ (fun (c1 : (p) ≤ (1114111)) => ?_) (fun (c1 : ¬((p) ≤ (1114111))) => ?_)
  · skip
    refine ez_go (n := 2) (pc' := 13) (L' := [(0, .inr (.inr (some (202)))), (1, .inl (p))]) (st' := [.inl (p), .inr (.inr (some (202)))]) rfl ?_
    refine ez_cv hB t202 rfl rfl rfl tq_48 rfl rfl rfl (rd_spanIndex hB t202 hs (by omega) (by omega) (fun idx x0 x1 x2 x3 => ez_K1 ?_))
    have hx2 : qz_I h (qz_P h 203 (idx).toNat) 0 ≤ p := x2
    refine ez_go (n := 2) (pc' := 18) (L' := [(2, .inl (idx)), (0, .inr (.inr (some (202)))), (1, .inl (p))]) (st' := [.inr (.inr (some (202)))]) rfl ?_
    refine ez_gC (p := 203) (tg := 49) hB t202 rfl rfl tq_48 rfl rfl (fun (t203 : _ = 49) => ?_)
    refine ez_go (n := 1) (pc' := 22) (L' := [(2, .inl (idx)), (0, .inr (.inr (some (202)))), (1, .inl (p))]) (st' := [.inl (idx), .inr (.inr (some (203)))]) rfl ?_
    have n3 : 513 ≤ qz_N h 203 ∧ qz_N h 203 ≤ 513 := ez_len hB t203 tq_49 rfl
    have y4 : 1 ≤ qz_I h 203 (idx).toNat ∧ qz_I h 203 (idx).toNat ≤ 1000000 := ez_aB hB t203 tq_49 rfl rfl (by decide) (by omega) (by omega)
    have y4' : ((qz_P h 203 (idx).toNat : Nat) : Int) + 1 = qz_I h 203 (idx).toNat := by unfold qz_P; omega
    refine ez_aR hB t203 rfl tq_49 rfl rfl (by omega) (by omega) (by omega) (fun (t2 : _ = 4) => ?_)
    refine ez_gI hB t2 rfl rfl tq_4 rfl rfl (fun (b5 : -2147483648 ≤ qz_I h (qz_P h 203 (idx).toNat) 0) (b5' : qz_I h (qz_P h 203 (idx).toNat) 0 ≤ 2147483647) => ?_)
    refine ez_go (n := 1) (pc' := 27) (L' := [(2, .inl (idx)), (0, .inr (.inr (some (202)))), (1, .inl (p))]) (st' := [.inl (p), .inl (qz_I h (qz_P h 203 (idx).toNat) 0)]) rfl ?_
    refine ez_icmp rfl rfl ⟨by omega, by omega⟩ ⟨by omega, by omega⟩ (fun (c6 : (qz_I h (qz_P h 203 (idx).toNat) 0) = (p)) => ?_) (fun (c6 : ¬((qz_I h (qz_P h 203 (idx).toNat) 0) = (p))) => ?_)
    · skip
      refine ez_go (n := 1) (pc' := 41) (L' := [(2, .inl (idx)), (0, .inr (.inr (some (202)))), (1, .inl (p))]) (st' := [.inl (idx)]) rfl ?_
      exact ez_retI rfl rfl (kB idx ⟨x0, x1, x2, x3⟩ (by omega) (by first | (left; show qz_I h (qz_P h 203 (idx).toNat) 0 = p; omega) | (right; omega)))
    · skip
      refine ez_go (n := 1) (pc' := 31) (L' := [(2, .inl (idx)), (0, .inr (.inr (some (202)))), (1, .inl (p))]) (st' := [.inr (.inr (some (202)))]) rfl ?_
      refine ez_gI hB t202 rfl rfl tq_48 rfl rfl (fun (b7 : 1 ≤ qz_I h 202 1) (b7' : qz_I h 202 1 ≤ 513) => ?_)
      refine ez_go (n := 1) (pc' := 37) (L' := [(2, .inl (idx)), (0, .inr (.inr (some (202)))), (1, .inl (p))]) (st' := [.inl (513), .inl (qz_I h 202 1)]) rfl ?_
      refine ez_icmp rfl rfl ⟨by omega, by omega⟩ ⟨by omega, by omega⟩ (fun (c8 : (qz_I h 202 1) < (513)) => ?_) (fun (c8 : ¬((qz_I h 202 1) < (513))) => ?_)
      · skip
        refine ez_go (n := 1) (pc' := 43) (L' := [(2, .inl (idx)), (0, .inr (.inr (some (202)))), (1, .inl (p))]) (st' := [.inr (.inr (some (202)))]) rfl ?_
        refine ez_gC (p := 203) (tg := 49) hB t202 rfl rfl tq_48 rfl rfl (fun (t203 : _ = 49) => ?_)
        refine ez_go (n := 1) (pc' := 47) (L' := [(2, .inl (idx)), (0, .inr (.inr (some (202)))), (1, .inl (p))]) (st' := [.inr (.inr (some (202))), .inr (.inr (some (203)))]) rfl ?_
        refine ez_gI hB t202 rfl rfl tq_48 rfl rfl (fun (b9 : 1 ≤ qz_I h 202 1) (b9' : qz_I h 202 1 ≤ 513) => ?_)
        have n11 : 513 ≤ qz_N h 203 ∧ qz_N h 203 ≤ 513 := ez_len hB t203 tq_49 rfl
        have y12 : 1 ≤ qz_I h 203 (qz_I h 202 1).toNat ∧ qz_I h 203 (qz_I h 202 1).toNat ≤ 1000000 := ez_aB hB t203 tq_49 rfl rfl (by decide) (by omega) (by omega)
        have y12' : ((qz_P h 203 (qz_I h 202 1).toNat : Nat) : Int) + 1 = qz_I h 203 (qz_I h 202 1).toNat := by unfold qz_P; omega
        refine ez_aR hB t203 rfl tq_49 rfl rfl (by omega) (by omega) (by omega) (fun (t10 : _ = 4) => ?_)
        refine ez_go (n := 2) (pc' := 53) (L' := [(3, .inr (.inr (some (qz_P h 203 (qz_I h 202 1).toNat)))), (2, .inl (idx)), (0, .inr (.inr (some (202)))), (1, .inl (p))]) (st' := [.inr (.inr (some (202)))]) rfl ?_
        refine ez_gI hB t202 rfl rfl tq_48 rfl rfl (fun (b13 : 1 ≤ qz_I h 202 1) (b13' : qz_I h 202 1 ≤ 513) => ?_)
        refine ez_go (n := 1) (pc' := 58) (L' := [(4, .inl (qz_I h 202 1)), (3, .inr (.inr (some (qz_P h 203 (qz_I h 202 1).toNat)))), (2, .inl (idx)), (0, .inr (.inr (some (202)))), (1, .inl (p))]) (st' := []) rfl ?_
        refine ez_less [(4, .inl (qz_I h 202 1)), (3, .inr (.inr (some (qz_P h 203 (qz_I h 202 1).toNat)))), (2, .inl (idx)), (0, .inr (.inr (some (202)))), (1, .inl (p))] rfl ⟨rfl, rfl, rfl, rfl, rfl, trivial⟩ ?_
        have hq1 : ((qz_P h 203 (qz_I h 202 1).toNat : Nat) : Int) + 1 ≤ 1000000 := by omega
        refine rd_cut_l (n := qz_I h 202 1) t202 t203 t10 x0 (by omega) (fun g hB1 hf1 hs1 => ?_) _ _ h rfl (by omega) (by omega) hB (ez_fr.refl _ h) (fun k k0 => by rw [if_neg (by omega)])
        have hpi : qz_P g 203 (idx).toNat = qz_P h 203 (idx).toNat := by unfold qz_P; rw [hs1 idx x0, if_neg (by omega)]
        have hn1 : qz_I g 202 1 = qz_I h 202 1 := hf1.I rfl _
        refine rd_cut_e (n := qz_I h 202 1) hB1 t202 t203 t10 (fun e => ?_) hq1 hn1 (by omega) (by omega) x0 (by omega) (by omega) (by omega) (fun g2 hB2 hf2 v1 v2 v3 v4 v5 => ?_)
        · rw [hpi] at e; have := hinj (qz_I h 202 1) idx (by omega) (by omega) x0 (by omega) e; omega
        · refine kC g2 idx _ ⟨x0, x1, x2, x3⟩ (by omega) (fun w => ?_) (by omega) rfl hB2 ?_ v1 (fun j hj => (v2 j hj).trans (hf1.I rfl _)) (fun k k0 => ?_) v4 (fun j j1 j8 => ?_)
          · have w : qz_I h (qz_P h 203 (idx).toNat) 0 = p := w; omega
          · refine ⟨hf2.1.trans hf1.1, hf2.2.1.trans hf1.2.1, fun z hz => (hf2.2.2 z hz).trans (hf1.2.2 z ?_)⟩
            unfold sz_P3 at hz; simp only [Bool.or_eq_false_iff] at hz; exact hz.2.1
          · rw [v3 k k0]; by_cases e : k = idx + 1; (· rw [if_pos e, if_pos e]; rfl); (· rw [if_neg e, if_neg e, hs1 k k0])
          · show qz_I g2 (qz_P h 203 (qz_I h 202 1).toNat) j = qz_I h (qz_P h 203 (idx).toNat) j; rw [v5 j j1 j8, hpi]; exact hf1.I (rz_ne t2 t203 rfl) j
      · skip
        refine ez_go (n := 1) (pc' := 41) (L' := [(2, .inl (idx)), (0, .inr (.inr (some (202)))), (1, .inl (p))]) (st' := [.inl (idx)]) rfl ?_
        exact ez_retI rfl rfl (kB idx ⟨x0, x1, x2, x3⟩ (by omega) (by first | (left; show qz_I h (qz_P h 203 (idx).toNat) 0 = p; omega) | (right; omega)))
  · skip
    refine ez_go (n := 1) (pc' := 7) (L' := [(0, .inr (.inr (some (202)))), (1, .inl (p))]) (st' := [.inr (.inr (some (202)))]) rfl ?_
    refine ez_gI hB t202 rfl rfl tq_48 rfl rfl (fun (b14 : 1 ≤ qz_I h 202 1) (b14' : qz_I h 202 1 ≤ 513) => ?_)
    exact ez_retI rfl rfl (kA (by omega))

end EzCb
/-! Spans: what a cut leaves as it was. -/
/-- the cut's outcome: a span more behind number i, beginning with p -/
def sz_cut (h g : cz_H) (p i : Int) (q : Nat) : Prop := sz_at h p i ∧ sz_f h i ≠ p ∧ qz_I h 202 1 < 513 ∧ q = sz_p h (qz_I h 202 1) ∧ ez_fr (sz_P3 q) h g ∧ qz_I g 202 1 = qz_I h 202 1 + 1 ∧ (∀ k : Int, 0 ≤ k → qz_I g 203 k.toNat = if k = i + 1 then (q : Int) + 1 else if i + 1 < k ∧ k ≤ qz_I h 202 1 then qz_I h 203 (k - 1).toNat else qz_I h 203 k.toNat) ∧ qz_I g q 0 = p ∧ ∀ j, 1 ≤ j → j ≤ 8 → qz_I g q j = qz_I h (sz_p h i) j
section SzCut
variable {h g : cz_H} {p i : Int} {q : Nat} {τ : Nat → Nat}
theorem sz_cut.pl (c : sz_cut h g p i q) {k : Int} (k0 : 0 ≤ k) : sz_p g k = if k = i + 1 then q else if i + 1 < k ∧ k ≤ qz_I h 202 1 then sz_p h (k - 1) else sz_p h k := by
  obtain ⟨-, -, -, -, -, -, c7, -⟩ := c
  unfold sz_p qz_P
  rw [c7 k k0]
  by_cases e : k = i + 1
  · rw [if_pos e, if_pos e]; omega
  · rw [if_neg e, if_neg e]
    by_cases e2 : i + 1 < k ∧ k ≤ qz_I h 202 1
    · rw [if_pos e2, if_pos e2]
    · rw [if_neg e2, if_neg e2]
/-- a span's slots, but for the new one's -/
theorem sz_cut.sl (hB : ez_B τ h) (t202 : τ 202 = 48) (t203 : τ 203 = 49) (ts : ∀ k : Int, 0 ≤ k → k < 513 → τ (sz_p h k) = 4) (hinj : sz_inj h) (c : sz_cut h g p i q) {k : Int} (k0 : 0 ≤ k) (k1 : k < 513) (kn : k ≠ qz_I h 202 1) (j : Nat) : qz_I g (sz_p h k) j = qz_I h (sz_p h k) j := by
  obtain ⟨⟨a1, a2, -⟩, -, c3, c4, c5, -⟩ := c
  refine c5.I ?_ j
  have tk := ts k k0 k1
  have n1 : Nat.beq (sz_p h k) 202 = false := dz_beq_ne (fun e => by rw [e, t202] at tk; cases tk)
  have n2 : Nat.beq (sz_p h k) 203 = false := dz_beq_ne (fun e => by rw [e, t203] at tk; cases tk)
  have n3 : Nat.beq (sz_p h k) q = false := dz_beq_ne (fun e => by rw [c4] at e; exact kn (hinj k _ k0 k1 (by omega) c3 e))
  unfold sz_P3
  rw [n1, n2, n3]
  rfl
/-- where span number k of the new ones was -/
def sz_old (i k : Int) : Int := if k ≤ i then k else k - 1
theorem sz_cut.f (hB : ez_B τ h) (t202 : τ 202 = 48) (t203 : τ 203 = 49) (ts : ∀ k : Int, 0 ≤ k → k < 513 → τ (sz_p h k) = 4) (hinj : sz_inj h) (c : sz_cut h g p i q) {k : Int} (k0 : 0 ≤ k) (k1 : k ≤ qz_I h 202 1) (kn : k ≠ i + 1) : sz_p g k = sz_p h (sz_old i k) ∧ ∀ j, qz_I g (sz_p g k) j = qz_I h (sz_p h (sz_old i k)) j := by
  have hp := c.pl k0
  rw [if_neg kn] at hp
  have hi := c.1.1
  have hin := c.1.2.1
  have c3 := c.2.2.1
  have e : sz_p g k = sz_p h (sz_old i k) := by
    rw [hp]
    unfold sz_old
    by_cases e2 : k ≤ i
    · rw [if_pos e2, if_neg (by omega)]
    · rw [if_neg e2, if_pos (by omega)]
  refine ⟨e, fun j => ?_⟩
  rw [e]
  refine c.sl hB t202 t203 ts hinj ?_ ?_ ?_ j <;> (unfold sz_old; split <;> omega)
theorem sz_cut.ok (hB : ez_B τ h) (t202 : τ 202 = 48) (t203 : τ 203 = 49) (ts : ∀ k : Int, 0 ≤ k → k < 513 → τ (sz_p h k) = 4) (hinj : sz_inj h) (hs : sz_ok h) (hp9 : p ≤ 1114111) (c : sz_cut h g p i q) : sz_ok g ∧ sz_inj g := by
  have hi := c.1.1
  have hin := c.1.2.1
  have hfp := c.1.2.2.1
  have hnx := c.1.2.2.2
  have hne := c.2.1
  have c3 := c.2.2.1
  have c4 := c.2.2.2.1
  have c6 := c.2.2.2.2.2.1
  have c8 := c.2.2.2.2.2.2.2.1
  have fo : ∀ k, 0 ≤ k → k ≤ qz_I h 202 1 → k ≠ i + 1 → sz_f g k = sz_f h (sz_old i k) := fun k k0 k1 kn => (c.f hB t202 t203 ts hinj k0 k1 kn).2 0
  have fn : sz_f g (i + 1) = p := by
    have := c.pl (k := i + 1) (by omega)
    rw [if_pos rfl] at this
    unfold sz_f
    rw [this]; exact c8
  refine ⟨⟨?_, ?_⟩, ?_⟩
  · rw [fo 0 (by omega) (by omega) (by omega)]
    unfold sz_old
    rw [if_pos hi]; exact hs.1
  · intro a b a0 ab bn
    rw [c6] at bn
    by_cases ea : a = i + 1
    · rw [ea, fn, fo b (by omega) (by omega) (by omega)]
      unfold sz_old
      rw [if_neg (by omega)]
      by_cases eb : b - 1 = i + 1
      · rw [eb]; have q := hs.2 i (i + 1) hi (by omega) (by omega); exact ⟨hnx (by omega), q.2⟩
      · have := hs.2 (i + 1) (b - 1) (by omega) (by omega) (by omega)
        have := hnx (by omega)
        omega
    · by_cases eb : b = i + 1
      · rw [eb, fn, fo a a0 (by omega) ea]
        unfold sz_old
        rw [if_pos (by omega)]
        by_cases e2 : a = i
        · rw [e2]; omega
        · have := hs.2 a i a0 (by omega) (by omega); omega
      · rw [fo a a0 (by omega) ea, fo b (by omega) (by omega) eb]
        refine hs.2 _ _ ?_ ?_ ?_
        · unfold sz_old; split <;> omega
        · unfold sz_old; split <;> split <;> omega
        · unfold sz_old; split <;> omega
  · intro a b a0 a1 b0 b1 e
    have ha := c.pl a0
    have hb := c.pl b0
    have hq : ∀ k : Int, 0 ≤ k → k < 513 → sz_p h k = q → k = qz_I h 202 1 := fun k k0 k1 w => by rw [c4] at w; exact hinj k _ k0 k1 (by omega) c3 w
    rw [e, hb] at ha
    by_cases ea : a = i + 1
    · rw [if_pos ea] at ha
      by_cases eb : b = i + 1
      · omega
      · rw [if_neg eb] at ha
        exfalso
        by_cases e2 : i + 1 < b ∧ b ≤ qz_I h 202 1
        · rw [if_pos e2] at ha; have := hq _ (by omega) (by omega) ha; omega
        · rw [if_neg e2] at ha; have := hq _ b0 b1 ha; omega
    · rw [if_neg ea] at ha
      by_cases eb : b = i + 1
      · rw [if_pos eb] at ha
        exfalso
        by_cases e2 : i + 1 < a ∧ a ≤ qz_I h 202 1
        · rw [if_pos e2] at ha; have := hq _ (by omega) (by omega) ha.symm; omega
        · rw [if_neg e2] at ha; have := hq _ a0 a1 ha.symm; omega
      · rw [if_neg eb] at ha
        by_cases e2 : i + 1 < a ∧ a ≤ qz_I h 202 1
        · rw [if_pos e2] at ha
          by_cases e3 : i + 1 < b ∧ b ≤ qz_I h 202 1
          · rw [if_pos e3] at ha; have := hinj _ _ (by omega) (by omega) (by omega) (by omega) ha; omega
          · rw [if_neg e3] at ha; have := hinj _ _ b0 b1 (by omega) (by omega) ha; omega
        · rw [if_neg e2] at ha
          by_cases e3 : i + 1 < b ∧ b ≤ qz_I h 202 1
          · rw [if_pos e3] at ha; have := hinj _ _ (by omega) (by omega) a0 a1 ha; omega
          · rw [if_neg e3] at ha; exact (hinj _ _ b0 b1 a0 a1 ha).symm
/-- of every point the same is told as before -/
theorem sz_cut.same (hB : ez_B τ h) (t202 : τ 202 = 48) (t203 : τ 203 = 49) (ts : ∀ k : Int, 0 ≤ k → k < 513 → τ (sz_p h k) = 4) (hinj : sz_inj h) (hs : sz_ok h) (c : sz_cut h g p i q) {x k : Int} (hk : sz_at g x k) : ∃ k', sz_at h x k' ∧ ∀ j, 1 ≤ j → j ≤ 8 → qz_I g (sz_p g k) j = qz_I h (sz_p h k') j := by
  have hi := c.1.1
  have hin := c.1.2.1
  have hfp := c.1.2.2.1
  have hnx := c.1.2.2.2
  have hne := c.2.1
  have c3 := c.2.2.1
  have c6 := c.2.2.2.2.2.1
  have c8 := c.2.2.2.2.2.2.2.1
  have c9 := c.2.2.2.2.2.2.2.2
  have fo : ∀ k, 0 ≤ k → k ≤ qz_I h 202 1 → k ≠ i + 1 → sz_f g k = sz_f h (sz_old i k) := fun k k0 k1 kn => (c.f hB t202 t203 ts hinj k0 k1 kn).2 0
  have pn : sz_p g (i + 1) = q := by
    have := c.pl (k := i + 1) (by omega)
    rw [if_pos rfl] at this; exact this
  have fn : sz_f g (i + 1) = p := by unfold sz_f; rw [pn]; exact c8
  obtain ⟨k0, k1, k2, k3⟩ := hk
  rw [c6] at k1 k3
  by_cases e : k = i + 1
  · refine ⟨i, ⟨hi, hin, ?_, fun w => ?_⟩, fun j j1 j8 => ?_⟩
    · rw [e, fn] at k2; omega
    · have := k3 (by omega)
      rw [e, fo (i + 1 + 1) (by omega) (by omega) (by omega)] at this
      unfold sz_old at this
      rw [if_neg (by omega), show i + 1 + 1 - 1 = i + 1 by omega] at this
      exact this
    · rw [e, pn]; exact c9 j j1 j8
  · refine ⟨sz_old i k, ⟨?_, ?_, ?_, fun w => ?_⟩, fun j _ _ => (c.f hB t202 t203 ts hinj k0 (by omega) e).2 j⟩
    · unfold sz_old; split <;> omega
    · unfold sz_old; split <;> omega
    · rw [fo k k0 (by omega) e] at k2; exact k2
    · by_cases e2 : k ≤ i
      · have ho : sz_old i k = k := by unfold sz_old; rw [if_pos e2]
        rw [ho] at w ⊢
        have := k3 (by omega)
        by_cases e3 : k = i
        · rw [e3, fn] at this
          rw [e3]
          have := hnx (by rw [e3] at w; exact w)
          omega
        · rw [fo (k + 1) (by omega) (by omega) (by omega)] at this
          unfold sz_old at this
          rw [if_pos (by omega)] at this; exact this
      · have ho : sz_old i k = k - 1 := by unfold sz_old; rw [if_neg e2]
        rw [ho] at w ⊢
        have := k3 (by omega)
        rw [fo (k + 1) (by omega) (by omega) (by omega)] at this
        unfold sz_old at this
        rw [if_neg (by omega)] at this
        rw [show k - 1 + 1 = k + 1 - 1 by omega]; exact this
end SzCut
/-! Spans: cutBefore in one. -/
theorem sz_tag {τ : Nat → Nat} {h : cz_H} (hB : ez_B τ h) (t203 : τ 203 = 49) {k : Int} (k0 : 0 ≤ k) (k1 : k < 513) : τ (sz_p h k) = 4 := by
  obtain ⟨n, f, -, -, o3, o4, -, o6⟩ := ez_arr hB t203 tq_49 rfl rfl
  have o4 : (513 : Int) ≤ qz_N h 203 ∧ qz_N h 203 ≤ 513 := o4
  rw [o3] at o4
  obtain ⟨g1, g2⟩ := o6 k.toNat (by omega)
  have hb := ez_slB g1 g2 (by decide)
  have hb : (1 : Int) ≤ qz_I h 203 k.toNat ∧ qz_I h 203 k.toNat ≤ 1000000 := hb
  exact (ez_slR g1 g2 rfl (by decide) hb.1).2.1
/-- Data, its array of spans, the spans -/
def sz_PS (τ : Nat → Nat) (z : Nat) : Bool := Nat.beq z 202 || (Nat.beq z 203 || Nat.beq (τ z) 4)
theorem sz_PS_of {τ : Nat → Nat} {q : Nat} (tq : τ q = 4) {h g : cz_H} (hf : ez_fr (sz_P3 q) h g) : ez_fr (sz_PS τ) h g := by
  refine ⟨hf.1, hf.2.1, fun z hz => hf.2.2 z ?_⟩
  unfold sz_PS at hz
  simp only [Bool.or_eq_false_iff] at hz
  unfold sz_P3
  have : Nat.beq z q = false := dz_beq_ne (fun e => by rw [e, tq] at hz; exact absurd hz.2.2 (by decide))
  rw [hz.1, hz.2.1, this]
  rfl
theorem rd_cutP {d : Nat} {h : cz_H} {τ : Nat → Nat} {Q : cz_F → Prop} {p : Int} (hB : ez_B τ h) (t202 : τ 202 = 48) (t203 : τ 203 = 49) (hs : sz_ok h) (hinj : sz_inj h) (p0 : 0 ≤ p) (p1 : p ≤ 2147483647) (k : ∀ g m, ez_B τ g → sz_ok g → sz_inj g → ez_fr (sz_PS τ) h g → (∀ j, j ≠ 1 → qz_I g 202 j = qz_I h 202 j) → qz_I h 202 1 ≤ qz_I g 202 1 → qz_I g 202 1 ≤ qz_I h 202 1 + 1 → (∀ x k, sz_at g x k → ∃ k', sz_at h x k' ∧ ∀ j, 1 ≤ j → j ≤ 8 → qz_I g (sz_p g k) j = qz_I h (sz_p h k') j) → (∀ k, 0 ≤ k → k < qz_I h 202 1 → sz_f h k ≤ p → sz_f g k = sz_f h k) → (1114111 < p → m = qz_I g 202 1) → (p ≤ 1114111 → qz_I h 202 1 < 513 → 0 ≤ m ∧ m < qz_I g 202 1 ∧ sz_f g m = p) → (0 ≤ m ∧ m ≤ 513) → Q (.inl (some (ez_v (.inl m))), g)) : ez_W (d + 1) cm_97 0 [(0, .inr (.inr (some (202)))), (1, .inl (p))] [] h Q := by
  have bn : 1 ≤ qz_I h 202 1 ∧ qz_I h 202 1 ≤ 513 := ez_fB (cl := 2) hB t202 tq_48 rfl rfl (by decide)
  refine rd_cutBefore hB t202 hs hinj p0 p1 (fun w => ?_) (fun i hi w hor => ?_) (fun g i q hi w hne hn hq hB1 hf v1 v2 v3 v4 v5 => ?_)
  · exact k h _ hB hs hinj (ez_fr.refl _ h) (fun _ _ => rfl) (Int.le_refl _) (by omega) (fun x k hk => ⟨k, hk, fun _ _ _ => rfl⟩) (fun _ _ _ _ => rfl) (fun _ => rfl) (fun w2 => by omega) (by omega)
  · exact k h i hB hs hinj (ez_fr.refl _ h) (fun _ _ => rfl) (Int.le_refl _) (by omega) (fun x k hk => ⟨k, hk, fun _ _ _ => rfl⟩) (fun _ _ _ _ => rfl) (fun w2 => by omega) (fun _ hn => ⟨hi.1, hi.2.1, by rcases hor with r | r; (· exact r); (· omega)⟩) (by have := hi.1; have := hi.2.1; omega)
  · have c : sz_cut h g p i q := ⟨hi, hne, hn, hq, hf, v1, v3, v4, v5⟩
    have ts : ∀ k : Int, 0 ≤ k → k < 513 → τ (sz_p h k) = 4 := fun k k0 k1 => sz_tag hB t203 k0 k1
    have tq : τ q = 4 := by rw [hq]; exact ts _ (by omega) hn
    obtain ⟨o1, o2⟩ := c.ok hB t202 t203 ts hinj hs w
    have hi0 := hi.1
    have hi1 := hi.2.1
    have pn : sz_p g (i + 1) = q := by
      have := c.pl (k := i + 1) (by omega)
      rw [if_pos rfl] at this; exact this
    have fn : sz_f g (i + 1) = p := by unfold sz_f; rw [pn]; exact v4
    refine k g _ hB1 o1 o2 (sz_PS_of tq hf) v2 (by omega) (by omega) (fun x k hk => c.same hB t202 t203 ts hinj hs hk) (fun k k0 k1 kp => ?_) (fun w2 => by omega) (fun _ _ => ⟨by omega, by omega, fn⟩) (by omega)
    have hki : k ≤ i := by
      by_cases e : k ≤ i
      · exact e
      · exfalso
        have h1 := hi.2.2.2 (by omega)
        by_cases e2 : k = i + 1
        · rw [e2] at kp; omega
        · have := hs.2 (i + 1) k (by omega) (by omega) k1; omega
    have := (c.f hB t202 t203 ts hinj k0 (by omega) (by omega)).2 0
    unfold sz_old at this
    rw [if_pos hki] at this
    exact this
/-! Spans: tellFact. (Written by wip/p2/py/pv14.py.) -/
def sz_P4 (τ : Nat → Nat) (z : Nat) : Bool := Nat.beq (τ z) 4
theorem sz_P4_S {τ : Nat → Nat} {h g : cz_H} (hf : ez_fr (sz_P4 τ) h g) : ez_fr (sz_PS τ) h g := by
  refine ⟨hf.1, hf.2.1, fun z hz => hf.2.2 z ?_⟩
  unfold sz_PS at hz
  simp only [Bool.or_eq_false_iff] at hz
  exact hz.2.2
theorem sz_P4_p {τ : Nat → Nat} {h g : cz_H} (hf : ez_fr (sz_P4 τ) h g) (t203 : τ 203 = 49) (k : Int) : sz_p g k = sz_p h k := by
  unfold sz_p qz_P
  rw [hf.I (show sz_P4 τ 203 = false by unfold sz_P4; rw [t203]; rfl)]
theorem sz_P4_n {τ : Nat → Nat} {h g : cz_H} (hf : ez_fr (sz_P4 τ) h g) (t202 : τ 202 = 48) (j : Nat) : qz_I g 202 j = qz_I h 202 j := hf.I (show sz_P4 τ 202 = false by unfold sz_P4; rw [t202]; rfl) j
section EzTf
variable {d : Nat} {h : cz_H} {τ : Nat → Nat} {Q : cz_F → Prop} {r : Nat}
theorem rd_tellFact_l {a b first last : Int} (t202 : τ 202 = 48) (t203 : τ 203 = 49) (tr : τ r = 3) (hr : (r : Int) + 1 ≤ 1000000) (hinj : sz_inj h) (a0 : 0 ≤ a) (b1 : b ≤ 513) (kx : ∀ g, ez_B τ g → ez_fr (sz_P4 τ) h g → (∀ (k : Int) (j : Nat), 0 ≤ k → k < 513 → qz_I g (sz_p h k) j = if j = 1 ∧ a ≤ k ∧ k < b then (r : Int) + 1 else qz_I h (sz_p h k) j) → Q (.inl none, g)) : ∀ (m : Nat) (i : Int) (g : cz_H), m = (b - i).toNat → a ≤ i → i ≤ b → ez_B τ g → ez_fr (sz_P4 τ) h g → (∀ (k : Int) (j : Nat), 0 ≤ k → k < 513 → qz_I g (sz_p h k) j = if j = 1 ∧ a ≤ k ∧ k < i then (r : Int) + 1 else qz_I h (sz_p h k) j) → ez_W d cm_105 20 [(6, .inl (i)), (5, .inl (b)), (4, .inl (a)), (0, .inr (.inr (some (202)))), (1, .inl (first)), (2, .inl (last)), (3, .inr (.inr (some (r))))] [] g Q := by
  intro m
  induction m with
  | zero =>
    intro i g hm a1 a2 hB hf hv
    refine ez_go (n := 2) (pc' := 24) (L' := [(6, .inl (i)), (5, .inl (b)), (4, .inl (a)), (0, .inr (.inr (some (202)))), (1, .inl (first)), (2, .inl (last)), (3, .inr (.inr (some (r))))]) (st' := [.inl (b), .inl (i)]) rfl ?_
    refine ez_icmp rfl rfl ⟨by omega, by omega⟩ ⟨by omega, by omega⟩ (fun (c1 : (b) ≤ (i)) => ?_) (fun (c1 : ¬((b) ≤ (i))) => ?_)
    · skip
      exact ez_ret0 rfl rfl (kx g hB hf (by rw [show b = i by omega]; exact hv))
    · exfalso; omega
  | succ m ih =>
    intro i g hm a1 a2 hB hf hv
    refine ez_go (n := 2) (pc' := 24) (L' := [(6, .inl (i)), (5, .inl (b)), (4, .inl (a)), (0, .inr (.inr (some (202)))), (1, .inl (first)), (2, .inl (last)), (3, .inr (.inr (some (r))))]) (st' := [.inl (b), .inl (i)]) rfl ?_
    refine ez_icmp rfl rfl ⟨by omega, by omega⟩ ⟨by omega, by omega⟩ (fun (c1 : (b) ≤ (i)) => ?_) (fun (c1 : ¬((b) ≤ (i))) => ?_)
    · exfalso; omega
    · skip
      refine ez_go (n := 1) (pc' := 28) (L' := [(6, .inl (i)), (5, .inl (b)), (4, .inl (a)), (0, .inr (.inr (some (202)))), (1, .inl (first)), (2, .inl (last)), (3, .inr (.inr (some (r))))]) (st' := [.inr (.inr (some (202)))]) rfl ?_
      refine ez_gC (p := 203) (tg := 49) hB t202 rfl rfl tq_48 rfl rfl (fun (t203 : _ = 49) => ?_)
      refine ez_go (n := 1) (pc' := 33) (L' := [(6, .inl (i)), (5, .inl (b)), (4, .inl (a)), (0, .inr (.inr (some (202)))), (1, .inl (first)), (2, .inl (last)), (3, .inr (.inr (some (r))))]) (st' := [.inl (i), .inr (.inr (some (203)))]) rfl ?_
      have n3 : 513 ≤ qz_N g 203 ∧ qz_N g 203 ≤ 513 := ez_len hB t203 tq_49 rfl
      have y4 : 1 ≤ qz_I g 203 (i).toNat ∧ qz_I g 203 (i).toNat ≤ 1000000 := ez_aB hB t203 tq_49 rfl rfl (by decide) (by omega) (by omega)
      have y4' : ((qz_P g 203 (i).toNat : Nat) : Int) + 1 = qz_I g 203 (i).toNat := by unfold qz_P; omega
      refine ez_aR hB t203 rfl tq_49 rfl rfl (by omega) (by omega) (by omega) (fun (t2 : _ = 4) => ?_)
      refine ez_go (n := 1) (pc' := 35) (L' := [(6, .inl (i)), (5, .inl (b)), (4, .inl (a)), (0, .inr (.inr (some (202)))), (1, .inl (first)), (2, .inl (last)), (3, .inr (.inr (some (r))))]) (st' := [.inr (.inr (some (r))), .inr (.inr (some (qz_P g 203 (i).toNat)))]) rfl ?_
      refine ez_pf hB t2 rfl rfl tq_4 rfl rfl rfl rfl (ez_vdR rfl tr (by omega) (by omega)) (fun hB5 w6 => ?_)
      refine ez_go (n := 2) (pc' := 20) (L' := [(6, .inl (i + 1)), (5, .inl (b)), (4, .inl (a)), (0, .inr (.inr (some (202)))), (1, .inl (first)), (2, .inl (last)), (3, .inr (.inr (some (r))))]) (st' := []) rfl ?_
      refine ez_less [(6, .inl (i + 1)), (5, .inl (b)), (4, .inl (a)), (0, .inr (.inr (some (202)))), (1, .inl (first)), (2, .inl (last)), (3, .inr (.inr (some (r))))] rfl ⟨rfl, rfl, rfl, rfl, rfl, rfl, rfl, trivial⟩ ?_
      have hz : qz_P g 203 (i).toNat = sz_p h i := sz_P4_p hf t203 i
      have tz : τ (qz_P g 203 (i).toNat) = 4 := t2
      refine ih _ _ (by omega) (by omega) (by omega) hB5 (hf.put (show sz_P4 τ (qz_P g 203 (i).toNat) = true by unfold sz_P4; rw [tz]; rfl) _ _) (fun k j k0 k1 => ?_)
      by_cases e : k = i ∧ j = 1
      · obtain ⟨e1, e2⟩ := e
        subst e1; subst e2
        rw [if_pos (by omega), ← hz]; exact w6
      · rw [ez_put_I (fun w => e ⟨hinj k i k0 k1 (by omega) (by omega) (by rw [← hz]; exact w.1), w.2⟩), hv k j k0 k1]
        by_cases e2 : j = 1 ∧ a ≤ k ∧ k < i
        · rw [if_pos e2, if_pos (by omega)]
        · rw [if_neg e2, if_neg (by omega)]
theorem sz_mono {h : cz_H} (hs : sz_ok h) {i j : Int} (i0 : 0 ≤ i) (ij : i ≤ j) (jn : j < qz_I h 202 1) : sz_f h i ≤ sz_f h j := by
  by_cases e : i = j
  · rw [e]; exact Int.le_refl _
  · have := hs.2 i j i0 (by omega) jn; omega
/-- what tellFact does: of the points from first to last the fact is the new one, nothing else changes -/
def sz_told (τ : Nat → Nat) (h g : cz_H) (first last : Int) (r : Nat) : Prop := sz_ok g ∧ sz_inj g ∧ ez_fr (sz_PS τ) h g ∧ (∀ j, j ≠ 1 → qz_I g 202 j = qz_I h 202 j) ∧ qz_I g 202 1 ≤ qz_I h 202 1 + 2 ∧ ∀ x k, 0 ≤ x → x ≤ 1114111 → sz_at g x k → ∃ k', sz_at h x k' ∧ (∀ j, 2 ≤ j → j ≤ 8 → qz_I g (sz_p g k) j = qz_I h (sz_p h k') j) ∧ qz_I g (sz_p g k) 1 = if first ≤ x ∧ x ≤ last then (r : Int) + 1 else qz_I h (sz_p h k') 1
theorem sz_tell {τ : Nat → Nat} {h g1 g2 g3 : cz_H} {first last a b : Int} {r : Nat} (t202 : τ 202 = 48) (t203 : τ 203 = 49) (f0 : 0 ≤ first) (fl : first ≤ last) (l1 : last ≤ 1114111) (hn : qz_I h 202 1 + 2 ≤ 513)
    (x1 : ez_fr (sz_PS τ) h g1) (x2 : ∀ j, j ≠ 1 → qz_I g1 202 j = qz_I h 202 j) (x4 : qz_I g1 202 1 ≤ qz_I h 202 1 + 1) (x5 : ∀ x k, sz_at g1 x k → ∃ k', sz_at h x k' ∧ ∀ j, 1 ≤ j → j ≤ 8 → qz_I g1 (sz_p g1 k) j = qz_I h (sz_p h k') j) (x6 : 0 ≤ a ∧ a < qz_I g1 202 1 ∧ sz_f g1 a = first)
    (y0 : sz_ok g2) (yi : sz_inj g2) (y1 : ez_fr (sz_PS τ) g1 g2) (y2 : ∀ j, j ≠ 1 → qz_I g2 202 j = qz_I g1 202 j) (y3 : qz_I g1 202 1 ≤ qz_I g2 202 1) (y4 : qz_I g2 202 1 ≤ qz_I g1 202 1 + 1) (y5 : ∀ x k, sz_at g2 x k → ∃ k', sz_at g1 x k' ∧ ∀ j, 1 ≤ j → j ≤ 8 → qz_I g2 (sz_p g2 k) j = qz_I g1 (sz_p g1 k') j) (y6 : ∀ k, 0 ≤ k → k < qz_I g1 202 1 → sz_f g1 k ≤ last + 1 → sz_f g2 k = sz_f g1 k) (y7 : 1114111 < last + 1 → b = qz_I g2 202 1) (y8 : last + 1 ≤ 1114111 → qz_I g1 202 1 < 513 → 0 ≤ b ∧ b < qz_I g2 202 1 ∧ sz_f g2 b = last + 1)
    (z1 : ez_fr (sz_P4 τ) g2 g3) (z2 : ∀ (k : Int) (j : Nat), 0 ≤ k → k < 513 → qz_I g3 (sz_p g2 k) j = if j = 1 ∧ a ≤ k ∧ k < b then (r : Int) + 1 else qz_I g2 (sz_p g2 k) j) : sz_told τ h g3 first last r := by
  have n3 : ∀ j, qz_I g3 202 j = qz_I g2 202 j := fun j => sz_P4_n z1 t202 j
  have p3 : ∀ k, sz_p g3 k = sz_p g2 k := fun k => sz_P4_p z1 t203 k
  have f3 : ∀ k, 0 ≤ k → k < 513 → sz_f g3 k = sz_f g2 k := fun k k0 k1 => by
    unfold sz_f
    rw [p3, z2 k 0 k0 k1, if_neg (by omega)]
  have fa : sz_f g2 a = first := by rw [y6 a x6.1 x6.2.1 (by omega)]; exact x6.2.2
  refine ⟨⟨?_, ?_⟩, ?_, (x1.trans y1).trans (sz_P4_S z1), fun j hj => ((n3 j).trans (y2 j hj)).trans (x2 j hj), by rw [n3]; omega, ?_⟩
  · rw [f3 0 (by omega) (by omega)]; exact y0.1
  · intro i j i0 ij jn
    rw [n3] at jn
    rw [f3 i i0 (by omega), f3 j (by omega) (by omega)]
    exact y0.2 i j i0 ij jn
  · intro i j i0 i1 j0 j1 e
    rw [p3, p3] at e
    exact yi i j i0 i1 j0 j1 e
  · intro x k v0 v1 hk
    obtain ⟨k0, k1, k2, k3⟩ := hk
    rw [n3] at k1 k3
    rw [f3 k k0 (by omega)] at k2
    have k3 : k + 1 < qz_I g2 202 1 → x < sz_f g2 (k + 1) := fun w => by have := k3 w; rw [f3 (k + 1) (by omega) (by omega)] at this; exact this
    obtain ⟨k', w1, w2⟩ := y5 x k ⟨k0, k1, k2, k3⟩
    obtain ⟨k'', u1, u2⟩ := x5 x k' w1
    refine ⟨k'', u1, fun j j2 j8 => ?_, ?_⟩
    · rw [p3, z2 k j k0 (by omega), if_neg (by omega), w2 j (by omega) j8]
      exact u2 j (by omega) j8
    · rw [p3, z2 k 1 k0 (by omega)]
      have ha : a ≤ k ↔ first ≤ x := by
        constructor
        · intro w
          have := sz_mono y0 x6.1 w k1
          omega
        · intro w
          by_cases e : a ≤ k
          · exact e
          · exfalso
            have q1 := k3 (by omega)
            have q2 := sz_mono y0 (i := k + 1) (j := a) (by omega) (by omega) (by omega)
            omega
      have hb : k < b ↔ x ≤ last := by
        by_cases e : 1114111 < last + 1
        · have := y7 e
          constructor
          · intro _; omega
          · intro _; omega
        · obtain ⟨b0, b1, b2⟩ := y8 (by omega) (by omega)
          constructor
          · intro w
            have q1 := k3 (by omega)
            have q2 := sz_mono y0 (i := k + 1) (j := b) (by omega) (by omega) b1
            omega
          · intro w
            by_cases e2 : k < b
            · exact e2
            · exfalso
              have q2 := sz_mono y0 (i := b) (j := k) b0 (by omega) k1
              omega
      by_cases e : first ≤ x ∧ x ≤ last
      · rw [if_pos ⟨rfl, ha.mpr e.1, hb.mpr e.2⟩, if_pos e]
      · rw [if_neg (fun w => e ⟨ha.mp w.2.1, hb.mp w.2.2⟩), if_neg e, w2 1 (by omega) (by omega)]
        exact u2 1 (by omega) (by omega)
theorem rd_tellFact {first last : Int} (hB : ez_B τ h) (t202 : τ 202 = 48) (t203 : τ 203 = 49) (tr : τ r = 3) (hr : (r : Int) + 1 ≤ 1000000) (hs : sz_ok h) (hinj : sz_inj h) (f0 : 0 ≤ first) (fl : first ≤ last) (l1 : last ≤ 1114111) (hn : qz_I h 202 1 + 2 ≤ 513) (k : ∀ g, ez_B τ g → sz_told τ h g first last r → Q (.inl none, g)) : ez_W (d + 2) cm_105 0 [(0, .inr (.inr (some (202)))), (1, .inl (first)), (2, .inl (last)), (3, .inr (.inr (some (r))))] [] h Q := by
  refine ez_go (n := 2) (pc' := 2) (L' := [(0, .inr (.inr (some (202)))), (1, .inl (first)), (2, .inl (last)), (3, .inr (.inr (some (r))))]) (st' := [.inl (first), .inr (.inr (some (202)))]) rfl ?_
  refine ez_cv hB t202 rfl rfl rfl tq_48 rfl rfl rfl (rd_cutP hB t202 t203 hs hinj (by omega) (by omega) (fun g1 a hB1 s1 i1 x1 x2 x3 x4 x5 x55 x6 x7 x8 => ez_K1 ?_))
  refine ez_go (n := 5) (pc' := 11) (L' := [(4, .inl (a)), (0, .inr (.inr (some (202)))), (1, .inl (first)), (2, .inl (last)), (3, .inr (.inr (some (r))))]) (st' := [.inl ((last) + (1)), .inr (.inr (some (202)))]) rfl ?_
  refine ez_cv hB1 t202 rfl rfl rfl tq_48 rfl rfl rfl (rd_cutP hB1 t202 t203 s1 i1 (by omega) (by omega) (fun g2 b hB2 s2 i2 y1 y2 y3 y4 y5 y6 y7 y8 y9 => ez_K1 ?_))
  refine ez_go (n := 3) (pc' := 20) (L' := [(6, .inl (a)), (5, .inl (b)), (4, .inl (a)), (0, .inr (.inr (some (202)))), (1, .inl (first)), (2, .inl (last)), (3, .inr (.inr (some (r))))]) (st' := []) rfl ?_
  refine ez_less [(6, .inl (a)), (5, .inl (b)), (4, .inl (a)), (0, .inr (.inr (some (202)))), (1, .inl (first)), (2, .inl (last)), (3, .inr (.inr (some (r))))] rfl ⟨rfl, rfl, rfl, rfl, rfl, rfl, rfl, trivial⟩ ?_
  have x7 := x7 (by omega) (by omega)
  have fa : sz_f g2 a = first := by rw [y6 a x7.1 x7.2.1 (by omega)]; exact x7.2.2
  have hab : a ≤ b := by
    by_cases e : 1114111 < last + 1
    · have := y7 e; omega
    · obtain ⟨b0, b1, b2⟩ := y8 (by omega) (by omega)
      by_cases e2 : a ≤ b
      · exact e2
      · exfalso
        have := sz_mono s2 (i := b) (j := a) b0 (by omega) (by omega)
        omega
  exact rd_tellFact_l t202 t203 tr hr i2 x7.1 y9.2 (fun g3 hB3 z1 z2 => k g3 hB3 (sz_tell t202 t203 f0 fl l1 hn x1 x2 x4 x5 x7 s2 i2 y1 y2 y3 y4 y5 y6 y7 y8 z1 z2)) _ _ g2 rfl (by omega) hab hB2 (ez_fr.refl _ _) (fun k j _ _ => by rw [if_neg (by omega)])

end EzTf
