/-! The law's start: the world as the Statement gives it. (The rows with numbers are written by wip/p1/gen4.py.) -/
noncomputable def px_fl : List Cond := flatC (Jvm.Cond.and given_1 narrow_1)
noncomputable def px_f (n : Nat) (w : Cond) : Bool := decide (px_nth px_fl n = some w)
theorem px_f_ok {n : Nat} {w : Cond} (h : px_f n w = true) {args : Array Value} {s : State} (hg : (Jvm.Cond.and given_1 narrow_1).before args s = true) : w.before args s = true := by
  simp only [px_f, decide_eq_true_eq, px_nth_eq] at h
  exact flat_of_before _ hg w (List.mem_of_getElem? h)
theorem px_t_ok {n : Nat} {w : Cond} (h : decide (px_nth lw_tbl n = some w) = true) : w ∈ lw_tbl := by
  simp only [decide_eq_true_eq, px_nth_eq] at h
  exact List.mem_of_getElem? h
set_option maxRecDepth 100000 in
theorem pf_U : px_f 4 (.isRef (.static px_tN "UNASSIGNED_STACK" "[Ljava/lang/StackTraceElement;")) = true := by decide +kernel
set_option maxRecDepth 100000 in
theorem pf_S : px_f 5 (.isRef (.static px_tN "SUPPRESSED_SENTINEL" "Ljava/util/List;")) = true := by decide +kernel
set_option maxRecDepth 100000 in
theorem pf_n01 : px_f 250 (.not (.castable "java/lang/IndexOutOfBoundsException" "java/lang/IllegalArgumentException")) = true := by decide +kernel
set_option maxRecDepth 100000 in
theorem pf_n21 : px_f 251 (.not (.castable "java/lang/IllegalStateException" "java/lang/IllegalArgumentException")) = true := by decide +kernel
set_option maxRecDepth 100000 in
theorem pf_n31 : px_f 254 (.not (.castable "java/lang/UnsupportedOperationException" "java/lang/IllegalArgumentException")) = true := by decide +kernel
set_option maxRecDepth 100000 in
theorem pf_n32 : px_f 275 (.not (.castable "java/lang/UnsupportedOperationException" "java/lang/IllegalStateException")) = true := by decide +kernel
set_option maxRecDepth 100000 in
theorem pf_y0 : (Cond.castable "java/lang/IndexOutOfBoundsException" "java/lang/IndexOutOfBoundsException") ∈ lw_tbl := px_t_ok (n := 647) (by decide +kernel)
set_option maxRecDepth 100000 in
theorem pf_y1 : (Cond.castable "java/lang/IllegalArgumentException" "java/lang/IllegalArgumentException") ∈ lw_tbl := px_t_ok (n := 728) (by decide +kernel)
set_option maxRecDepth 100000 in
theorem pf_y2 : (Cond.castable "java/lang/IllegalStateException" "java/lang/IllegalStateException") ∈ lw_tbl := px_t_ok (n := 756) (by decide +kernel)
set_option maxRecDepth 100000 in
theorem pf_y3 : (Cond.castable "java/lang/UnsupportedOperationException" "java/lang/UnsupportedOperationException") ∈ lw_tbl := px_t_ok (n := 1053) (by decide +kernel)
def px_spl : List (Nat × Nat) := [(783, 1670), (789, 1671), (795, 1672), (801, 1673), (816, 1674), (837, 1675), (851, 1676), (865, 1677), (883, 1678), (894, 1679), (919, 1680), (937, 1681), (946, 1682), (961, 1683), (986, 1684), (1007, 1685), (1016, 1686), (1022, 1687), (1028, 1688), (1039, 1689), (1049, 1690), (1056, 1691), (1078, 1692), (1089, 1693), (1104, 1694), (1109, 1695), (1114, 1696), (1119, 1697), (1125, 1698), (1132, 1699), (1143, 1700), (1153, 1701), (1165, 1702), (1182, 1703), (1193, 1704), (1206, 1705), (1216, 1706), (1229, 1707), (1245, 1708), (1261, 1709), (1272, 1710), (1288, 1711)]
set_option maxRecDepth 100000 in
theorem pf_str : ((px_str.zip px_spl).all (fun q => px_f q.2.1 (.exactly (.string q.1.1 q.1.2.1) "java/lang/String") && decide (px_nth lw_tbl q.2.2 = some (.stringRef q.1.1 q.1.2.1 q.1.2.2)))) = true := by decide +kernel
set_option maxRecDepth 100000 in
theorem pf_o4 : (Cond.arrayOver (.object "TextAtlas$Text")) ∈ lw_tbl := px_t_ok (n := 209) (by decide +kernel)
set_option maxRecDepth 100000 in
theorem pf_o5 : (Cond.arrayOver (.object "TextAtlas$Span")) ∈ lw_tbl := px_t_ok (n := 241) (by decide +kernel)
set_option maxRecDepth 100000 in
theorem pf_o6 : (Cond.arrayOver (.object "TextAtlas$Entry")) ∈ lw_tbl := px_t_ok (n := 243) (by decide +kernel)
set_option maxRecDepth 100000 in
theorem pf_o7 : (Cond.arrayOver (.object "TextAtlas$Fact")) ∈ lw_tbl := px_t_ok (n := 428) (by decide +kernel)
set_option maxRecDepth 100000 in
theorem pf_o8 : (Cond.arrayOver (.object "TextAtlasModel$Line")) ∈ lw_tbl := px_t_ok (n := 1667) (by decide +kernel)
set_option maxRecDepth 100000 in
theorem pf_o9 : (Cond.arrayOver (.object "java/lang/String")) ∈ lw_tbl := px_t_ok (n := 1669) (by decide +kernel)
set_option maxRecDepth 100000 in
theorem pf_o10 : (Cond.arrayOver (.array .int)) ∈ lw_tbl := px_t_ok (n := 1665) (by decide +kernel)
set_option maxRecDepth 100000 in
theorem pf_sU : (Cond.laysStatic px_tN "UNASSIGNED_STACK" "[Ljava/lang/StackTraceElement;") ∈ lw_tbl := px_t_ok (n := 672) (by decide +kernel)
set_option maxRecDepth 100000 in
theorem pf_sS : (Cond.laysStatic px_tN "SUPPRESSED_SENTINEL" "Ljava/util/List;") ∈ lw_tbl := px_t_ok (n := 674) (by decide +kernel)
set_option maxRecDepth 100000 in
theorem pf_iT : (Cond.initialized px_tN) ∈ lw_tbl := px_t_ok (n := 177) (by decide +kernel)
set_option maxRecDepth 100000 in
theorem pX_0 : ((px_thw "java/lang/IndexOutOfBoundsException").zip [177, 667, 676, 682, 685, 687, 668, 669, 205, 206, 670, 675, 683, 700, 657, 701, 659, 702, 661, 671, 673, 663, 689, 690, 691, 692, 648, 692, 693, 694, 695, 650, 695, 696, 697, 668, 652, 646, 654, 655, 656, 658, 660, 698, 665, 664]).all (fun q => px_w q.2 q.1) = true ∧ (px_thw "java/lang/IndexOutOfBoundsException").length = 46 := by decide +kernel
set_option maxRecDepth 100000 in
theorem pXi_0 : px_in (.initialized "java/lang/IndexOutOfBoundsException") := px_w_ok (n := 180) (by decide +kernel)
set_option maxRecDepth 100000 in
theorem pX_1 : ((px_thw "java/lang/IllegalArgumentException").zip [177, 667, 676, 682, 685, 687, 668, 669, 205, 206, 670, 675, 683, 700, 657, 701, 659, 702, 661, 671, 673, 663, 736, 737, 738, 692, 648, 692, 693, 694, 695, 650, 695, 696, 697, 668, 652, 727, 729, 679, 730, 731, 732, 698, 665, 734]).all (fun q => px_w q.2 q.1) = true ∧ (px_thw "java/lang/IllegalArgumentException").length = 46 := by decide +kernel
set_option maxRecDepth 100000 in
theorem pXi_1 : px_in (.initialized "java/lang/IllegalArgumentException") := px_w_ok (n := 181) (by decide +kernel)
set_option maxRecDepth 100000 in
theorem pX_2 : ((px_thw "java/lang/IllegalStateException").zip [177, 667, 676, 682, 685, 687, 668, 669, 205, 206, 670, 675, 683, 700, 657, 701, 659, 702, 661, 671, 673, 663, 764, 765, 766, 692, 648, 692, 693, 694, 695, 650, 695, 696, 697, 668, 652, 755, 757, 680, 758, 759, 760, 698, 665, 762]).all (fun q => px_w q.2 q.1) = true ∧ (px_thw "java/lang/IllegalStateException").length = 46 := by decide +kernel
set_option maxRecDepth 100000 in
theorem pXi_2 : px_in (.initialized "java/lang/IllegalStateException") := px_w_ok (n := 182) (by decide +kernel)
set_option maxRecDepth 100000 in
theorem pX_3 : ((px_thw "java/lang/UnsupportedOperationException").zip [177, 667, 676, 682, 685, 687, 668, 669, 205, 206, 670, 675, 683, 700, 657, 701, 659, 702, 661, 671, 673, 663, 1061, 1062, 1063, 692, 648, 692, 693, 694, 695, 650, 695, 696, 697, 668, 652, 1052, 1054, 681, 1055, 1056, 1057, 698, 665, 1059]).all (fun q => px_w q.2 q.1) = true ∧ (px_thw "java/lang/UnsupportedOperationException").length = 46 := by decide +kernel
set_option maxRecDepth 100000 in
theorem pXi_3 : px_in (.initialized "java/lang/UnsupportedOperationException") := px_w_ok (n := 189) (by decide +kernel)
set_option maxRecDepth 100000 in
theorem pX_4 : ((px_thw "java/lang/ArithmeticException").zip [177, 667, 676, 682, 685, 687, 668, 669, 205, 206, 670, 675, 683, 700, 657, 701, 659, 702, 661, 671, 673, 663, 1166, 1167, 1168, 692, 648, 692, 693, 694, 695, 650, 695, 696, 697, 668, 652, 1157, 1159, 678, 1160, 1161, 1162, 698, 665, 1164]).all (fun q => px_w q.2 q.1) = true ∧ (px_thw "java/lang/ArithmeticException").length = 46 := by decide +kernel
set_option maxRecDepth 100000 in
theorem pXi_4 : px_in (.initialized "java/lang/ArithmeticException") := px_w_ok (n := 198) (by decide +kernel)
theorem px_zip_ok {ws : List Cond} {ps : List Nat} (h : (ws.zip ps).all (fun q => px_w q.2 q.1) = true) (hl : ws.length = ps.length) : ∀ w ∈ ws, px_in w := by
  intro w hw
  obtain ⟨i, hi⟩ := List.getElem?_of_mem hw
  have hlt : i < ps.length := by rw [← hl]; exact (List.getElem?_eq_some_iff.mp hi).1
  have h3 : (w, ps[i]) ∈ ws.zip ps := by
    refine List.mem_of_getElem? (i := i) ?_
    rw [List.getElem?_zip_eq_some]
    exact ⟨hi, List.getElem?_eq_getElem hlt⟩
  exact px_w_ok (List.all_eq_true.mp h _ h3)
theorem px_allX_ok : px_allX := by
  intro k n h
  have hlt : k < 5 := (List.getElem?_eq_some_iff.mp h).1
  have hs : k = 0 ∨ k = 1 ∨ k = 2 ∨ k = 3 ∨ k = 4 := by omega
  rcases hs with rfl | rfl | rfl | rfl | rfl
  · cases h; exact ⟨px_zip_ok pX_0.1 pX_0.2, pXi_0, by decide +kernel⟩
  · cases h; exact ⟨px_zip_ok pX_1.1 pX_1.2, pXi_1, by decide +kernel⟩
  · cases h; exact ⟨px_zip_ok pX_2.1 pX_2.2, pXi_2, by decide +kernel⟩
  · cases h; exact ⟨px_zip_ok pX_3.1 pX_3.2, pXi_3, by decide +kernel⟩
  · cases h; exact ⟨px_zip_ok pX_4.1 pX_4.2, pXi_4, by decide +kernel⟩
