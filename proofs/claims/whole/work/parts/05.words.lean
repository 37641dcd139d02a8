/-! ===== the words of the tables that the program needs ===== -/
def gtbl : List Cond := lw_tbl.filter goodWord
theorem gt_in {w : Cond} (h : w ∈ gtbl) : w ∈ lw_tbl := (List.mem_filter.mp h).1
theorem gt_good {w : Cond} (h : w ∈ gtbl) : goodWord w = true := (List.mem_filter.mp h).2
theorem gt_of {w : Cond} {i : Nat} (h : lw_tbl[i]? = some w) (hg : goodWord w = true) : w ∈ gtbl := List.mem_filter.mpr ⟨List.mem_of_getElem? h, hg⟩
theorem gt_list (ws : List Cond) (ps : List Nat) (hp : ws = ps.filterMap (fun i => lw_tbl[i]?)) (h : ws.all goodWord = true) : ∀ w ∈ ws, w ∈ gtbl := by
  intro w hw
  have h1 := List.all_eq_true.mp h w hw
  rw [hp] at hw
  obtain ⟨i, -, hi⟩ := List.mem_filterMap.mp hw
  exact gt_of hi h1
theorem gt_gtbl {ws : List Cond} (h : ∀ w ∈ ws, w ∈ gtbl) : GoodIn gtbl ws := fun w hw => ⟨h w hw, good_of_word (gt_good (h w hw))⟩
set_option maxRecDepth 20000 in
theorem lay_0 : ∀ w ∈ u_ws RX0 TX0 8, w ∈ gtbl := gt_list _ [146, 148, 150, 152, 154, 156, 158, 160] (by decide +kernel) (by decide +kernel)
set_option maxRecDepth 20000 in
theorem lay_1 : ∀ w ∈ u_ws RX1 TX1 2, w ∈ gtbl := gt_list _ [172, 174] (by decide +kernel) (by decide +kernel)
set_option maxRecDepth 20000 in
theorem lay_2 : ∀ w ∈ u_ws RX2 TX2 3, w ∈ gtbl := gt_list _ [100, 102, 104] (by decide +kernel) (by decide +kernel)
set_option maxRecDepth 20000 in
theorem lay_3 : ∀ w ∈ u_ws RX3 TX3 5, w ∈ gtbl := gt_list _ [195, 197, 199, 201, 203] (by decide +kernel) (by decide +kernel)
set_option maxRecDepth 20000 in
theorem lay_4 : ∀ w ∈ u_ws RX4 TX4 3, w ∈ gtbl := gt_list _ [302, 304, 306] (by decide +kernel) (by decide +kernel)
set_option maxRecDepth 20000 in
theorem lay_5 : ∀ w ∈ u_ws RX5 TX5 18, w ∈ gtbl := gt_list _ [232, 234, 236, 238, 240, 242, 244, 246, 248, 250, 252, 254, 256, 258, 260, 262, 264, 266] (by decide +kernel) (by decide +kernel)
set_option maxRecDepth 20000 in
theorem lay_6 : ∀ w ∈ u_ws RX6 TX6 4, w ∈ gtbl := gt_list _ [283, 285, 287, 289] (by decide +kernel) (by decide +kernel)
set_option maxRecDepth 20000 in
theorem lay_7 : ∀ w ∈ u_ws RX7 TX7 16, w ∈ gtbl := gt_list _ [325, 327, 329, 331, 333, 335, 337, 339, 341, 343, 345, 347, 349, 351, 353, 355] (by decide +kernel) (by decide +kernel)
set_option maxRecDepth 20000 in
theorem lay_8 : ∀ w ∈ u_ws RX8 TX8 42, w ∈ gtbl := gt_list _ [822, 824, 826, 828, 830, 832, 834, 836, 838, 840, 842, 844, 846, 848, 850, 852, 854, 856, 858, 860, 862, 864, 866, 868, 870, 872, 874, 876, 878, 880, 882, 884, 886, 888, 890, 892, 894, 896, 898, 900, 902, 904] (by decide +kernel) (by decide +kernel)
def tyT (ci : Nat) : Nat → FieldType := match ci with
  | 0 => tyX0
  | 1 => tyX1
  | 2 => tyX2
  | 3 => tyX3
  | 4 => tyX4
  | 5 => tyX5
  | 6 => tyX6
  | 7 => tyX7
  | _ => tyX8
theorem cls_ok : ∀ (ci : Nat) (q : vw_C), cls9[ci]? = some q → (∀ w ∈ u_ws q.1 q.2.1 q.2.2, w ∈ gtbl) ∧ (∀ k, k < q.2.2 → parseFieldDescriptor (q.2.1 k).2.2.1 = some (tyT ci k)) ∧ (∀ a, a < q.2.2 → ∀ b, b < q.2.2 → a ≠ b → (q.2.1 a).2.1 ≠ (q.2.1 b).2.1)
  | 0, q, h => by cases h; exact ⟨lay_0, tyX0_ok, nmX0⟩
  | 1, q, h => by cases h; exact ⟨lay_1, tyX1_ok, nmX1⟩
  | 2, q, h => by cases h; exact ⟨lay_2, tyX2_ok, nmX2⟩
  | 3, q, h => by cases h; exact ⟨lay_3, tyX3_ok, nmX3⟩
  | 4, q, h => by cases h; exact ⟨lay_4, tyX4_ok, nmX4⟩
  | 5, q, h => by cases h; exact ⟨lay_5, tyX5_ok, nmX5⟩
  | 6, q, h => by cases h; exact ⟨lay_6, tyX6_ok, nmX6⟩
  | 7, q, h => by cases h; exact ⟨lay_7, tyX7_ok, nmX7⟩
  | 8, q, h => by cases h; exact ⟨lay_8, tyX8_ok, nmX8⟩
  | n + 9, q, h => by simp [cls9] at h
def flP : List ((Nat × Nat × Nat × Nat) × Nat) := [((0, 9, 0, 0), 123), ((0, 15, 0, 1), 128), ((0, 18, 0, 2), 133), ((0, 22, 0, 3), 134), ((0, 26, 0, 4), 137), ((0, 29, 0, 5), 140), ((0, 33, 0, 6), 142), ((0, 36, 0, 7), 143), ((1, 9, 1, 0), 170), ((1, 15, 1, 1), 171), ((1, 19, 0, 4), 138), ((1, 53, 0, 3), 135), ((1, 60, 0, 0), 125), ((1, 63, 0, 1), 130), ((2, 9, 2, 2), 97), ((2, 21, 2, 0), 91), ((2, 25, 2, 1), 94), ((3, 9, 3, 0), 183), ((3, 15, 3, 1), 186), ((3, 19, 3, 2), 188), ((3, 22, 3, 3), 190), ((3, 25, 3, 4), 192), ((3, 38, 0, 1), 129), ((3, 45, 0, 0), 124), ((4, 9, 4, 0), 297), ((4, 15, 4, 1), 299), ((4, 19, 4, 2), 301), ((5, 11, 5, 0), 214), ((5, 15, 5, 1), 215), ((5, 18, 5, 2), 216), ((5, 21, 5, 3), 217), ((5, 24, 5, 4), 218), ((5, 28, 5, 5), 219), ((5, 31, 5, 6), 220), ((5, 34, 5, 7), 221), ((5, 37, 5, 8), 222), ((5, 40, 5, 9), 223), ((5, 43, 5, 10), 224), ((5, 46, 5, 11), 225), ((5, 49, 5, 12), 226), ((5, 52, 5, 13), 227), ((5, 55, 5, 14), 228), ((5, 59, 5, 15), 229), ((5, 65, 5, 16), 230), ((5, 69, 5, 17), 231), ((5, 109, 0, 0), 126), ((5, 110, 0, 1), 131), ((5, 127, 2, 0), 92), ((5, 132, 2, 2), 99), ((5, 135, 2, 1), 95), ((5, 141, 3, 1), 187), ((5, 168, 0, 7), 144), ((6, 12, 6, 0), 276), ((6, 18, 6, 1), 278), ((6, 22, 6, 2), 279), ((6, 26, 6, 3), 281), ((6, 44, 3, 4), 193), ((6, 47, 3, 0), 184), ((7, 14, 7, 0), 309), ((7, 20, 7, 1), 310), ((7, 24, 7, 2), 311), ((7, 30, 7, 3), 312), ((7, 34, 7, 4), 313), ((7, 39, 7, 5), 314), ((7, 44, 7, 6), 315), ((7, 51, 7, 7), 316), ((7, 58, 7, 8), 317), ((7, 65, 7, 9), 318), ((7, 69, 7, 10), 319), ((7, 72, 7, 11), 320), ((7, 76, 7, 12), 321), ((7, 79, 7, 13), 322), ((7, 82, 7, 14), 323), ((7, 85, 7, 15), 324), ((7, 98, 2, 2), 98), ((7, 134, 0, 5), 141), ((7, 151, 0, 3), 136), ((7, 154, 0, 4), 139), ((7, 160, 0, 0), 127), ((7, 164, 0, 1), 132), ((7, 179, 3, 0), 185), ((7, 182, 3, 2), 189), ((7, 185, 3, 3), 191), ((7, 197, 2, 0), 93), ((7, 200, 2, 1), 96), ((7, 207, 0, 7), 145), ((7, 252, 6, 0), 277), ((7, 253, 3, 4), 194), ((7, 256, 6, 2), 280), ((7, 259, 6, 3), 282), ((7, 277, 4, 1), 300), ((7, 284, 4, 0), 298), ((8, 7, 8, 1), 781), ((8, 13, 8, 2), 782), ((8, 16, 8, 4), 784), ((8, 19, 8, 5), 785), ((8, 22, 8, 6), 786), ((8, 26, 8, 7), 787), ((8, 29, 8, 8), 788), ((8, 32, 8, 9), 789), ((8, 35, 8, 10), 790), ((8, 38, 8, 11), 791), ((8, 41, 8, 13), 793), ((8, 44, 8, 14), 794), ((8, 47, 8, 15), 795), ((8, 50, 8, 17), 797), ((8, 53, 8, 18), 798), ((8, 56, 8, 19), 799), ((8, 59, 8, 20), 800), ((8, 62, 8, 21), 801), ((8, 65, 8, 25), 805), ((8, 68, 8, 26), 806), ((8, 71, 8, 27), 807), ((8, 74, 8, 30), 810), ((8, 77, 8, 32), 812), ((8, 80, 8, 33), 813), ((8, 83, 8, 34), 814), ((8, 86, 8, 35), 815), ((8, 89, 8, 36), 816), ((8, 92, 8, 37), 817), ((8, 95, 8, 38), 818), ((8, 98, 8, 39), 819), ((8, 101, 8, 40), 820), ((8, 104, 8, 41), 821), ((8, 113, 8, 0), 780), ((8, 121, 8, 3), 783), ((8, 141, 8, 31), 811), ((8, 159, 8, 12), 792), ((8, 162, 8, 16), 796), ((8, 178, 8, 24), 804), ((8, 181, 8, 23), 803), ((8, 199, 8, 22), 802), ((8, 217, 8, 28), 808), ((8, 220, 8, 29), 809)]
def flw (q : Nat × Nat × Nat × Nat) : Cond := match cls9[q.2.2.1]? with
  | some r => Cond.fieldLink (cnm q.1) q.2.1 (r.2.1 q.2.2.2).1 (r.2.1 q.2.2.2).2.1 (r.2.1 q.2.2.2).2.2.1
  | none => Cond.tt
def flk (q : Nat × Nat × Nat × Nat) : Bool := match cls9[q.2.2.1]? with
  | some r => Nat.blt q.2.2.2 r.2.2
  | none => false
set_option maxRecDepth 20000 in
theorem fl_eq : flP.map (fun x => x.1) = flT := by decide +kernel
set_option maxRecDepth 20000 in
theorem fl_ok : ∀ x ∈ flP, lw_tbl[x.2]? = some (flw x.1) ∧ goodWord (flw x.1) = true ∧ flk x.1 = true := by decide +kernel
def mkd : List Nat := [2, 0, 0, 0, 0, 0, 0, 0, 0, 0, 0, 0, 0, 0, 0, 0, 2, 0, 0, 0, 1, 2, 0, 0, 0, 0, 0, 2, 0, 0, 0, 0, 0, 0, 2, 0, 0, 0, 0, 2, 1, 0, 0, 0, 1, 0, 0, 0, 0, 0, 0, 0, 0, 0, 0, 0, 0, 0, 2, 0, 0, 0, 2, 0, 0, 0, 0, 0, 0, 0, 0, 0, 0, 0, 0, 0, 0, 0, 0, 0, 0, 0, 0, 0, 0, 0, 0, 0, 0, 0, 0, 0, 0, 0, 0, 0, 0, 0, 0, 0, 0, 0, 0, 0, 0, 0, 2, 1, 0, 0, 0, 0, 0, 0, 0, 1, 0, 0, 0, 0, 0, 0, 0, 0, 0, 0, 0, 0, 0, 0, 0, 0, 0, 0, 0, 0, 0, 0, 0, 0, 0, 0, 0, 0, 0, 0, 0, 0, 0, 0, 0, 0, 0, 0, 0, 0, 0, 0, 0, 0, 0, 0, 0, 0, 1, 0, 0, 0, 0, 9]
def mnm (y : Nat) : MethodName := match mtab[y]? with
  | some q => q.1.1
  | none => ⟨"", "", ""⟩
theorem tb_in1 {w : Cond} (h : w ∈ tables_1_1) : w ∈ lw_tbl := List.mem_append_right _ (List.mem_append_left _ h)
theorem tb_in2 {w : Cond} (h : w ∈ tables_1_2) : w ∈ lw_tbl := List.mem_append_right _ (List.mem_append_right _ (List.mem_append_left _ h))
theorem tb_in3 {w : Cond} (h : w ∈ tables_1_3) : w ∈ lw_tbl := List.mem_append_right _ (List.mem_append_right _ (List.mem_append_right _ (List.mem_append_left _ h)))
theorem tb_in4 {w : Cond} (h : w ∈ tables_1_4) : w ∈ lw_tbl := List.mem_append_right _ (List.mem_append_right _ (List.mem_append_right _ (List.mem_append_right _ (List.mem_append_left _ h))))
theorem tb_in5 {w : Cond} (h : w ∈ tables_1_5) : w ∈ lw_tbl := List.mem_append_right _ (List.mem_append_right _ (List.mem_append_right _ (List.mem_append_right _ (List.mem_append_right _ h))))
def cwd (q : MT) : Cond := Cond.code q.1.1 q.1.2.1 q.1.2.2.1 q.1.2.2.2
theorem cw_good (q : MT) : goodWord (cwd q) = true := rfl
set_option maxRecDepth 20000
theorem cw_0 : cwd mt_0 ∈ gtbl := List.mem_filter.mpr ⟨tb_in1 (List.mem_of_getElem? (i := 55) rfl), cw_good _⟩
theorem cw_1 : cwd mt_1 ∈ gtbl := List.mem_filter.mpr ⟨tb_in1 (List.mem_of_getElem? (i := 60) rfl), cw_good _⟩
theorem cw_2 : cwd mt_2 ∈ gtbl := List.mem_filter.mpr ⟨tb_in2 (List.mem_of_getElem? (i := 165) rfl), cw_good _⟩
theorem cw_3 : cwd mt_3 ∈ gtbl := List.mem_filter.mpr ⟨tb_in2 (List.mem_of_getElem? (i := 116) rfl), cw_good _⟩
theorem cw_4 : cwd mt_4 ∈ gtbl := List.mem_filter.mpr ⟨tb_in2 (List.mem_of_getElem? (i := 124) rfl), cw_good _⟩
theorem cw_5 : cwd mt_5 ∈ gtbl := List.mem_filter.mpr ⟨tb_in2 (List.mem_of_getElem? (i := 120) rfl), cw_good _⟩
theorem cw_6 : cwd mt_6 ∈ gtbl := List.mem_filter.mpr ⟨tb_in2 (List.mem_of_getElem? (i := 128) rfl), cw_good _⟩
theorem cw_7 : cwd mt_7 ∈ gtbl := List.mem_filter.mpr ⟨tb_in2 (List.mem_of_getElem? (i := 136) rfl), cw_good _⟩
theorem cw_8 : cwd mt_8 ∈ gtbl := List.mem_filter.mpr ⟨tb_in2 (List.mem_of_getElem? (i := 141) rfl), cw_good _⟩
theorem cw_9 : cwd mt_9 ∈ gtbl := List.mem_filter.mpr ⟨tb_in2 (List.mem_of_getElem? (i := 149) rfl), cw_good _⟩
theorem cw_10 : cwd mt_10 ∈ gtbl := List.mem_filter.mpr ⟨tb_in3 (List.mem_of_getElem? (i := 59) rfl), cw_good _⟩
theorem cw_11 : cwd mt_11 ∈ gtbl := List.mem_filter.mpr ⟨tb_in3 (List.mem_of_getElem? (i := 66) rfl), cw_good _⟩
theorem cw_12 : cwd mt_12 ∈ gtbl := List.mem_filter.mpr ⟨tb_in3 (List.mem_of_getElem? (i := 79) rfl), cw_good _⟩
theorem cw_13 : cwd mt_13 ∈ gtbl := List.mem_filter.mpr ⟨tb_in3 (List.mem_of_getElem? (i := 87) rfl), cw_good _⟩
theorem cw_14 : cwd mt_14 ∈ gtbl := List.mem_filter.mpr ⟨tb_in3 (List.mem_of_getElem? (i := 91) rfl), cw_good _⟩
theorem cw_15 : cwd mt_15 ∈ gtbl := List.mem_filter.mpr ⟨tb_in3 (List.mem_of_getElem? (i := 95) rfl), cw_good _⟩
theorem cw_16 : cwd mt_16 ∈ gtbl := List.mem_filter.mpr ⟨tb_in1 (List.mem_of_getElem? (i := 106) rfl), cw_good _⟩
theorem cw_17 : cwd mt_17 ∈ gtbl := List.mem_filter.mpr ⟨tb_in2 (List.mem_of_getElem? (i := 176) rfl), cw_good _⟩
theorem cw_18 : cwd mt_18 ∈ gtbl := List.mem_filter.mpr ⟨tb_in2 (List.mem_of_getElem? (i := 186) rfl), cw_good _⟩
theorem cw_19 : cwd mt_19 ∈ gtbl := List.mem_filter.mpr ⟨tb_in2 (List.mem_of_getElem? (i := 182) rfl), cw_good _⟩
theorem cw_20 : cwd mt_20 ∈ gtbl := List.mem_filter.mpr ⟨tb_in2 (List.mem_of_getElem? (i := 192) rfl), cw_good _⟩
theorem cw_21 : cwd mt_21 ∈ gtbl := List.mem_filter.mpr ⟨tb_in1 (List.mem_of_getElem? (i := 24) rfl), cw_good _⟩
theorem cw_22 : cwd mt_22 ∈ gtbl := List.mem_filter.mpr ⟨tb_in2 (List.mem_of_getElem? (i := 79) rfl), cw_good _⟩
theorem cw_23 : cwd mt_23 ∈ gtbl := List.mem_filter.mpr ⟨tb_in2 (List.mem_of_getElem? (i := 71) rfl), cw_good _⟩
theorem cw_24 : cwd mt_24 ∈ gtbl := List.mem_filter.mpr ⟨tb_in2 (List.mem_of_getElem? (i := 63) rfl), cw_good _⟩
theorem cw_25 : cwd mt_25 ∈ gtbl := List.mem_filter.mpr ⟨tb_in2 (List.mem_of_getElem? (i := 83) rfl), cw_good _⟩
theorem cw_26 : cwd mt_26 ∈ gtbl := List.mem_filter.mpr ⟨tb_in3 (List.mem_of_getElem? (i := 143) rfl), cw_good _⟩
theorem cw_27 : cwd mt_27 ∈ gtbl := List.mem_filter.mpr ⟨tb_in1 (List.mem_of_getElem? (i := 119) rfl), cw_good _⟩
theorem cw_28 : cwd mt_28 ∈ gtbl := List.mem_filter.mpr ⟨tb_in2 (List.mem_of_getElem? (i := 205) rfl), cw_good _⟩
theorem cw_29 : cwd mt_29 ∈ gtbl := List.mem_filter.mpr ⟨tb_in2 (List.mem_of_getElem? (i := 209) rfl), cw_good _⟩
theorem cw_30 : cwd mt_30 ∈ gtbl := List.mem_filter.mpr ⟨tb_in2 (List.mem_of_getElem? (i := 218) rfl), cw_good _⟩
theorem cw_31 : cwd mt_31 ∈ gtbl := List.mem_filter.mpr ⟨tb_in2 (List.mem_of_getElem? (i := 213) rfl), cw_good _⟩
theorem cw_32 : cwd mt_32 ∈ gtbl := List.mem_filter.mpr ⟨tb_in3 (List.mem_of_getElem? (i := 70) rfl), cw_good _⟩
theorem cw_33 : cwd mt_33 ∈ gtbl := List.mem_filter.mpr ⟨tb_in3 (List.mem_of_getElem? (i := 74) rfl), cw_good _⟩
theorem cw_34 : cwd mt_34 ∈ gtbl := List.mem_filter.mpr ⟨tb_in1 (List.mem_of_getElem? (i := 233) rfl), cw_good _⟩
theorem cw_35 : cwd mt_35 ∈ gtbl := List.mem_filter.mpr ⟨tb_in3 (List.mem_of_getElem? (i := 189) rfl), cw_good _⟩
theorem cw_36 : cwd mt_36 ∈ gtbl := List.mem_filter.mpr ⟨tb_in3 (List.mem_of_getElem? (i := 197) rfl), cw_good _⟩
theorem cw_37 : cwd mt_37 ∈ gtbl := List.mem_filter.mpr ⟨tb_in3 (List.mem_of_getElem? (i := 201) rfl), cw_good _⟩
theorem cw_38 : cwd mt_38 ∈ gtbl := List.mem_filter.mpr ⟨tb_in3 (List.mem_of_getElem? (i := 205) rfl), cw_good _⟩
theorem cw_39 : cwd mt_39 ∈ gtbl := List.mem_filter.mpr ⟨tb_in1 (List.mem_of_getElem? (i := 148) rfl), cw_good _⟩
theorem cw_40 : cwd mt_40 ∈ gtbl := List.mem_filter.mpr ⟨tb_in3 (List.mem_of_getElem? (i := 62) rfl), cw_good _⟩
theorem cw_41 : cwd mt_41 ∈ gtbl := List.mem_filter.mpr ⟨tb_in2 (List.mem_of_getElem? (i := 238) rfl), cw_good _⟩
theorem cw_42 : cwd mt_42 ∈ gtbl := List.mem_filter.mpr ⟨tb_in3 (List.mem_of_getElem? (i := 2) rfl), cw_good _⟩
theorem cw_43 : cwd mt_43 ∈ gtbl := List.mem_filter.mpr ⟨tb_in3 (List.mem_of_getElem? (i := 6) rfl), cw_good _⟩
theorem cw_44 : cwd mt_44 ∈ gtbl := List.mem_filter.mpr ⟨tb_in3 (List.mem_of_getElem? (i := 22) rfl), cw_good _⟩
theorem cw_45 : cwd mt_45 ∈ gtbl := List.mem_filter.mpr ⟨tb_in3 (List.mem_of_getElem? (i := 10) rfl), cw_good _⟩
theorem cw_46 : cwd mt_46 ∈ gtbl := List.mem_filter.mpr ⟨tb_in3 (List.mem_of_getElem? (i := 26) rfl), cw_good _⟩
theorem cw_47 : cwd mt_47 ∈ gtbl := List.mem_filter.mpr ⟨tb_in3 (List.mem_of_getElem? (i := 14) rfl), cw_good _⟩
theorem cw_48 : cwd mt_48 ∈ gtbl := List.mem_filter.mpr ⟨tb_in3 (List.mem_of_getElem? (i := 18) rfl), cw_good _⟩
theorem cw_49 : cwd mt_49 ∈ gtbl := List.mem_filter.mpr ⟨tb_in3 (List.mem_of_getElem? (i := 31) rfl), cw_good _⟩
theorem cw_50 : cwd mt_50 ∈ gtbl := List.mem_filter.mpr ⟨tb_in3 (List.mem_of_getElem? (i := 36) rfl), cw_good _⟩
theorem cw_51 : cwd mt_51 ∈ gtbl := List.mem_filter.mpr ⟨tb_in3 (List.mem_of_getElem? (i := 40) rfl), cw_good _⟩
theorem cw_52 : cwd mt_52 ∈ gtbl := List.mem_filter.mpr ⟨tb_in3 (List.mem_of_getElem? (i := 109) rfl), cw_good _⟩
theorem cw_53 : cwd mt_53 ∈ gtbl := List.mem_filter.mpr ⟨tb_in3 (List.mem_of_getElem? (i := 113) rfl), cw_good _⟩
theorem cw_54 : cwd mt_54 ∈ gtbl := List.mem_filter.mpr ⟨tb_in2 (List.mem_of_getElem? (i := 234) rfl), cw_good _⟩
theorem cw_55 : cwd mt_55 ∈ gtbl := List.mem_filter.mpr ⟨tb_in3 (List.mem_of_getElem? (i := 44) rfl), cw_good _⟩
theorem cw_56 : cwd mt_56 ∈ gtbl := List.mem_filter.mpr ⟨tb_in3 (List.mem_of_getElem? (i := 48) rfl), cw_good _⟩
theorem cw_57 : cwd mt_57 ∈ gtbl := List.mem_filter.mpr ⟨tb_in3 (List.mem_of_getElem? (i := 55) rfl), cw_good _⟩
theorem cw_58 : cwd mt_58 ∈ gtbl := List.mem_filter.mpr ⟨tb_in1 (List.mem_of_getElem? (i := 210) rfl), cw_good _⟩
theorem cw_59 : cwd mt_59 ∈ gtbl := List.mem_filter.mpr ⟨tb_in3 (List.mem_of_getElem? (i := 153) rfl), cw_good _⟩
theorem cw_60 : cwd mt_60 ∈ gtbl := List.mem_filter.mpr ⟨tb_in3 (List.mem_of_getElem? (i := 171) rfl), cw_good _⟩
theorem cw_61 : cwd mt_61 ∈ gtbl := List.mem_filter.mpr ⟨tb_in3 (List.mem_of_getElem? (i := 167) rfl), cw_good _⟩
theorem cw_62 : cwd mt_62 ∈ gtbl := List.mem_filter.mpr ⟨tb_in1 (List.mem_of_getElem? (i := 16) rfl), cw_good _⟩
theorem cw_63 : cwd mt_63 ∈ gtbl := List.mem_filter.mpr ⟨tb_in2 (List.mem_of_getElem? (i := 59) rfl), cw_good _⟩
theorem cw_64 : cwd mt_64 ∈ gtbl := List.mem_filter.mpr ⟨tb_in2 (List.mem_of_getElem? (i := 67) rfl), cw_good _⟩
theorem cw_65 : cwd mt_65 ∈ gtbl := List.mem_filter.mpr ⟨tb_in2 (List.mem_of_getElem? (i := 75) rfl), cw_good _⟩
theorem cw_66 : cwd mt_66 ∈ gtbl := List.mem_filter.mpr ⟨tb_in2 (List.mem_of_getElem? (i := 87) rfl), cw_good _⟩
theorem cw_67 : cwd mt_67 ∈ gtbl := List.mem_filter.mpr ⟨tb_in2 (List.mem_of_getElem? (i := 91) rfl), cw_good _⟩
theorem cw_68 : cwd mt_68 ∈ gtbl := List.mem_filter.mpr ⟨tb_in2 (List.mem_of_getElem? (i := 108) rfl), cw_good _⟩
theorem cw_69 : cwd mt_69 ∈ gtbl := List.mem_filter.mpr ⟨tb_in2 (List.mem_of_getElem? (i := 132) rfl), cw_good _⟩
theorem cw_70 : cwd mt_70 ∈ gtbl := List.mem_filter.mpr ⟨tb_in2 (List.mem_of_getElem? (i := 145) rfl), cw_good _⟩
theorem cw_71 : cwd mt_71 ∈ gtbl := List.mem_filter.mpr ⟨tb_in2 (List.mem_of_getElem? (i := 153) rfl), cw_good _⟩
theorem cw_72 : cwd mt_72 ∈ gtbl := List.mem_filter.mpr ⟨tb_in2 (List.mem_of_getElem? (i := 157) rfl), cw_good _⟩
theorem cw_73 : cwd mt_73 ∈ gtbl := List.mem_filter.mpr ⟨tb_in2 (List.mem_of_getElem? (i := 161) rfl), cw_good _⟩
theorem cw_74 : cwd mt_74 ∈ gtbl := List.mem_filter.mpr ⟨tb_in2 (List.mem_of_getElem? (i := 172) rfl), cw_good _⟩
theorem cw_75 : cwd mt_75 ∈ gtbl := List.mem_filter.mpr ⟨tb_in2 (List.mem_of_getElem? (i := 112) rfl), cw_good _⟩
theorem cw_76 : cwd mt_76 ∈ gtbl := List.mem_filter.mpr ⟨tb_in2 (List.mem_of_getElem? (i := 95) rfl), cw_good _⟩
theorem cw_77 : cwd mt_77 ∈ gtbl := List.mem_filter.mpr ⟨tb_in2 (List.mem_of_getElem? (i := 100) rfl), cw_good _⟩
theorem cw_78 : cwd mt_78 ∈ gtbl := List.mem_filter.mpr ⟨tb_in2 (List.mem_of_getElem? (i := 104) rfl), cw_good _⟩
theorem cw_79 : cwd mt_79 ∈ gtbl := List.mem_filter.mpr ⟨tb_in2 (List.mem_of_getElem? (i := 197) rfl), cw_good _⟩
theorem cw_80 : cwd mt_80 ∈ gtbl := List.mem_filter.mpr ⟨tb_in2 (List.mem_of_getElem? (i := 222) rfl), cw_good _⟩
theorem cw_81 : cwd mt_81 ∈ gtbl := List.mem_filter.mpr ⟨tb_in2 (List.mem_of_getElem? (i := 226) rfl), cw_good _⟩
theorem cw_82 : cwd mt_82 ∈ gtbl := List.mem_filter.mpr ⟨tb_in2 (List.mem_of_getElem? (i := 201) rfl), cw_good _⟩
theorem cw_83 : cwd mt_83 ∈ gtbl := List.mem_filter.mpr ⟨tb_in2 (List.mem_of_getElem? (i := 230) rfl), cw_good _⟩
theorem cw_84 : cwd mt_84 ∈ gtbl := List.mem_filter.mpr ⟨tb_in3 (List.mem_of_getElem? (i := 83) rfl), cw_good _⟩
theorem cw_85 : cwd mt_85 ∈ gtbl := List.mem_filter.mpr ⟨tb_in3 (List.mem_of_getElem? (i := 100) rfl), cw_good _⟩
theorem cw_86 : cwd mt_86 ∈ gtbl := List.mem_filter.mpr ⟨tb_in3 (List.mem_of_getElem? (i := 119) rfl), cw_good _⟩
theorem cw_87 : cwd mt_87 ∈ gtbl := List.mem_filter.mpr ⟨tb_in3 (List.mem_of_getElem? (i := 127) rfl), cw_good _⟩
theorem cw_88 : cwd mt_88 ∈ gtbl := List.mem_filter.mpr ⟨tb_in3 (List.mem_of_getElem? (i := 131) rfl), cw_good _⟩
theorem cw_89 : cwd mt_89 ∈ gtbl := List.mem_filter.mpr ⟨tb_in3 (List.mem_of_getElem? (i := 135) rfl), cw_good _⟩
theorem cw_90 : cwd mt_90 ∈ gtbl := List.mem_filter.mpr ⟨tb_in3 (List.mem_of_getElem? (i := 139) rfl), cw_good _⟩
theorem cw_91 : cwd mt_91 ∈ gtbl := List.mem_filter.mpr ⟨tb_in3 (List.mem_of_getElem? (i := 104) rfl), cw_good _⟩
theorem cw_92 : cwd mt_92 ∈ gtbl := List.mem_filter.mpr ⟨tb_in3 (List.mem_of_getElem? (i := 123) rfl), cw_good _⟩
theorem cw_93 : cwd mt_93 ∈ gtbl := List.mem_filter.mpr ⟨tb_in3 (List.mem_of_getElem? (i := 149) rfl), cw_good _⟩
theorem cw_94 : cwd mt_94 ∈ gtbl := List.mem_filter.mpr ⟨tb_in3 (List.mem_of_getElem? (i := 159) rfl), cw_good _⟩
theorem cw_95 : cwd mt_95 ∈ gtbl := List.mem_filter.mpr ⟨tb_in3 (List.mem_of_getElem? (i := 177) rfl), cw_good _⟩
theorem cw_96 : cwd mt_96 ∈ gtbl := List.mem_filter.mpr ⟨tb_in3 (List.mem_of_getElem? (i := 163) rfl), cw_good _⟩
theorem cw_97 : cwd mt_97 ∈ gtbl := List.mem_filter.mpr ⟨tb_in3 (List.mem_of_getElem? (i := 181) rfl), cw_good _⟩
theorem cw_98 : cwd mt_98 ∈ gtbl := List.mem_filter.mpr ⟨tb_in3 (List.mem_of_getElem? (i := 193) rfl), cw_good _⟩
theorem cw_99 : cwd mt_99 ∈ gtbl := List.mem_filter.mpr ⟨tb_in3 (List.mem_of_getElem? (i := 210) rfl), cw_good _⟩
theorem cw_100 : cwd mt_100 ∈ gtbl := List.mem_filter.mpr ⟨tb_in3 (List.mem_of_getElem? (i := 214) rfl), cw_good _⟩
theorem cw_101 : cwd mt_101 ∈ gtbl := List.mem_filter.mpr ⟨tb_in3 (List.mem_of_getElem? (i := 185) rfl), cw_good _⟩
theorem cw_102 : cwd mt_102 ∈ gtbl := List.mem_filter.mpr ⟨tb_in3 (List.mem_of_getElem? (i := 218) rfl), cw_good _⟩
theorem cw_103 : cwd mt_103 ∈ gtbl := List.mem_filter.mpr ⟨tb_in3 (List.mem_of_getElem? (i := 222) rfl), cw_good _⟩
theorem cw_104 : cwd mt_104 ∈ gtbl := List.mem_filter.mpr ⟨tb_in3 (List.mem_of_getElem? (i := 227) rfl), cw_good _⟩
theorem cw_105 : cwd mt_105 ∈ gtbl := List.mem_filter.mpr ⟨tb_in3 (List.mem_of_getElem? (i := 231) rfl), cw_good _⟩
theorem cw_106 : cwd mt_106 ∈ gtbl := List.mem_filter.mpr ⟨tb_in3 (List.mem_of_getElem? (i := 236) rfl), cw_good _⟩
theorem cw_107 : cwd mt_107 ∈ gtbl := List.mem_filter.mpr ⟨tb_in4 (List.mem_of_getElem? (i := 132) rfl), cw_good _⟩
theorem cw_108 : cwd mt_108 ∈ gtbl := List.mem_filter.mpr ⟨tb_in4 (List.mem_of_getElem? (i := 128) rfl), cw_good _⟩
theorem cw_109 : cwd mt_109 ∈ gtbl := List.mem_filter.mpr ⟨tb_in4 (List.mem_of_getElem? (i := 136) rfl), cw_good _⟩
theorem cw_110 : cwd mt_110 ∈ gtbl := List.mem_filter.mpr ⟨tb_in4 (List.mem_of_getElem? (i := 144) rfl), cw_good _⟩
theorem cw_111 : cwd mt_111 ∈ gtbl := List.mem_filter.mpr ⟨tb_in4 (List.mem_of_getElem? (i := 140) rfl), cw_good _⟩
theorem cw_112 : cwd mt_112 ∈ gtbl := List.mem_filter.mpr ⟨tb_in4 (List.mem_of_getElem? (i := 148) rfl), cw_good _⟩
theorem cw_113 : cwd mt_113 ∈ gtbl := List.mem_filter.mpr ⟨tb_in4 (List.mem_of_getElem? (i := 173) rfl), cw_good _⟩
theorem cw_114 : cwd mt_114 ∈ gtbl := List.mem_filter.mpr ⟨tb_in4 (List.mem_of_getElem? (i := 169) rfl), cw_good _⟩
theorem cw_115 : cwd mt_115 ∈ gtbl := List.mem_filter.mpr ⟨tb_in4 (List.mem_of_getElem? (i := 184) rfl), cw_good _⟩
theorem cw_116 : cwd mt_116 ∈ gtbl := List.mem_filter.mpr ⟨tb_in4 (List.mem_of_getElem? (i := 177) rfl), cw_good _⟩
theorem cw_117 : cwd mt_117 ∈ gtbl := List.mem_filter.mpr ⟨tb_in4 (List.mem_of_getElem? (i := 165) rfl), cw_good _⟩
theorem cw_118 : cwd mt_118 ∈ gtbl := List.mem_filter.mpr ⟨tb_in4 (List.mem_of_getElem? (i := 157) rfl), cw_good _⟩
theorem cw_119 : cwd mt_119 ∈ gtbl := List.mem_filter.mpr ⟨tb_in4 (List.mem_of_getElem? (i := 152) rfl), cw_good _⟩
theorem cw_120 : cwd mt_120 ∈ gtbl := List.mem_filter.mpr ⟨tb_in4 (List.mem_of_getElem? (i := 181) rfl), cw_good _⟩
theorem cw_121 : cwd mt_121 ∈ gtbl := List.mem_filter.mpr ⟨tb_in4 (List.mem_of_getElem? (i := 161) rfl), cw_good _⟩
theorem cw_122 : cwd mt_122 ∈ gtbl := List.mem_filter.mpr ⟨tb_in4 (List.mem_of_getElem? (i := 188) rfl), cw_good _⟩
theorem cw_123 : cwd mt_123 ∈ gtbl := List.mem_filter.mpr ⟨tb_in4 (List.mem_of_getElem? (i := 192) rfl), cw_good _⟩
theorem cw_124 : cwd mt_124 ∈ gtbl := List.mem_filter.mpr ⟨tb_in4 (List.mem_of_getElem? (i := 196) rfl), cw_good _⟩
theorem cw_125 : cwd mt_125 ∈ gtbl := List.mem_filter.mpr ⟨tb_in4 (List.mem_of_getElem? (i := 200) rfl), cw_good _⟩
theorem cw_126 : cwd mt_126 ∈ gtbl := List.mem_filter.mpr ⟨tb_in4 (List.mem_of_getElem? (i := 204) rfl), cw_good _⟩
theorem cw_127 : cwd mt_127 ∈ gtbl := List.mem_filter.mpr ⟨tb_in4 (List.mem_of_getElem? (i := 212) rfl), cw_good _⟩
theorem cw_128 : cwd mt_128 ∈ gtbl := List.mem_filter.mpr ⟨tb_in4 (List.mem_of_getElem? (i := 208) rfl), cw_good _⟩
theorem cw_129 : cwd mt_129 ∈ gtbl := List.mem_filter.mpr ⟨tb_in4 (List.mem_of_getElem? (i := 224) rfl), cw_good _⟩
theorem cw_130 : cwd mt_130 ∈ gtbl := List.mem_filter.mpr ⟨tb_in4 (List.mem_of_getElem? (i := 228) rfl), cw_good _⟩
theorem cw_131 : cwd mt_131 ∈ gtbl := List.mem_filter.mpr ⟨tb_in4 (List.mem_of_getElem? (i := 220) rfl), cw_good _⟩
theorem cw_132 : cwd mt_132 ∈ gtbl := List.mem_filter.mpr ⟨tb_in4 (List.mem_of_getElem? (i := 216) rfl), cw_good _⟩
theorem cw_133 : cwd mt_133 ∈ gtbl := List.mem_filter.mpr ⟨tb_in4 (List.mem_of_getElem? (i := 232) rfl), cw_good _⟩
theorem cw_134 : cwd mt_134 ∈ gtbl := List.mem_filter.mpr ⟨tb_in5 (List.mem_of_getElem? (i := 13) rfl), cw_good _⟩
theorem cw_135 : cwd mt_135 ∈ gtbl := List.mem_filter.mpr ⟨tb_in5 (List.mem_of_getElem? (i := 29) rfl), cw_good _⟩
theorem cw_136 : cwd mt_136 ∈ gtbl := List.mem_filter.mpr ⟨tb_in5 (List.mem_of_getElem? (i := 17) rfl), cw_good _⟩
theorem cw_137 : cwd mt_137 ∈ gtbl := List.mem_filter.mpr ⟨tb_in5 (List.mem_of_getElem? (i := 25) rfl), cw_good _⟩
theorem cw_138 : cwd mt_138 ∈ gtbl := List.mem_filter.mpr ⟨tb_in5 (List.mem_of_getElem? (i := 21) rfl), cw_good _⟩
theorem cw_139 : cwd mt_139 ∈ gtbl := List.mem_filter.mpr ⟨tb_in5 (List.mem_of_getElem? (i := 9) rfl), cw_good _⟩
theorem cw_140 : cwd mt_140 ∈ gtbl := List.mem_filter.mpr ⟨tb_in5 (List.mem_of_getElem? (i := 5) rfl), cw_good _⟩
theorem cw_141 : cwd mt_141 ∈ gtbl := List.mem_filter.mpr ⟨tb_in5 (List.mem_of_getElem? (i := 33) rfl), cw_good _⟩
theorem cw_142 : cwd mt_142 ∈ gtbl := List.mem_filter.mpr ⟨tb_in5 (List.mem_of_getElem? (i := 61) rfl), cw_good _⟩
theorem cw_143 : cwd mt_143 ∈ gtbl := List.mem_filter.mpr ⟨tb_in5 (List.mem_of_getElem? (i := 57) rfl), cw_good _⟩
theorem cw_144 : cwd mt_144 ∈ gtbl := List.mem_filter.mpr ⟨tb_in5 (List.mem_of_getElem? (i := 65) rfl), cw_good _⟩
theorem cw_145 : cwd mt_145 ∈ gtbl := List.mem_filter.mpr ⟨tb_in5 (List.mem_of_getElem? (i := 77) rfl), cw_good _⟩
theorem cw_146 : cwd mt_146 ∈ gtbl := List.mem_filter.mpr ⟨tb_in5 (List.mem_of_getElem? (i := 81) rfl), cw_good _⟩
theorem cw_147 : cwd mt_147 ∈ gtbl := List.mem_filter.mpr ⟨tb_in5 (List.mem_of_getElem? (i := 53) rfl), cw_good _⟩
theorem cw_148 : cwd mt_148 ∈ gtbl := List.mem_filter.mpr ⟨tb_in5 (List.mem_of_getElem? (i := 73) rfl), cw_good _⟩
theorem cw_149 : cwd mt_149 ∈ gtbl := List.mem_filter.mpr ⟨tb_in5 (List.mem_of_getElem? (i := 1) rfl), cw_good _⟩
theorem cw_150 : cwd mt_150 ∈ gtbl := List.mem_filter.mpr ⟨tb_in5 (List.mem_of_getElem? (i := 37) rfl), cw_good _⟩
theorem cw_151 : cwd mt_151 ∈ gtbl := List.mem_filter.mpr ⟨tb_in5 (List.mem_of_getElem? (i := 41) rfl), cw_good _⟩
theorem cw_152 : cwd mt_152 ∈ gtbl := List.mem_filter.mpr ⟨tb_in4 (List.mem_of_getElem? (i := 237) rfl), cw_good _⟩
theorem cw_153 : cwd mt_153 ∈ gtbl := List.mem_filter.mpr ⟨tb_in5 (List.mem_of_getElem? (i := 45) rfl), cw_good _⟩
theorem cw_154 : cwd mt_154 ∈ gtbl := List.mem_filter.mpr ⟨tb_in5 (List.mem_of_getElem? (i := 49) rfl), cw_good _⟩
theorem cw_155 : cwd mt_155 ∈ gtbl := List.mem_filter.mpr ⟨tb_in5 (List.mem_of_getElem? (i := 69) rfl), cw_good _⟩
theorem cw_156 : cwd mt_156 ∈ gtbl := List.mem_filter.mpr ⟨tb_in5 (List.mem_of_getElem? (i := 85) rfl), cw_good _⟩
theorem cw_157 : cwd mt_157 ∈ gtbl := List.mem_filter.mpr ⟨tb_in5 (List.mem_of_getElem? (i := 89) rfl), cw_good _⟩
theorem cw_158 : cwd mt_158 ∈ gtbl := List.mem_filter.mpr ⟨tb_in5 (List.mem_of_getElem? (i := 93) rfl), cw_good _⟩
theorem cw_159 : cwd mt_159 ∈ gtbl := List.mem_filter.mpr ⟨tb_in5 (List.mem_of_getElem? (i := 97) rfl), cw_good _⟩
theorem cw_160 : cwd mt_160 ∈ gtbl := List.mem_filter.mpr ⟨tb_in5 (List.mem_of_getElem? (i := 105) rfl), cw_good _⟩
theorem cw_161 : cwd mt_161 ∈ gtbl := List.mem_filter.mpr ⟨tb_in5 (List.mem_of_getElem? (i := 101) rfl), cw_good _⟩
theorem cw_162 : cwd mt_162 ∈ gtbl := List.mem_filter.mpr ⟨tb_in5 (List.mem_of_getElem? (i := 109) rfl), cw_good _⟩
theorem cw_163 : cwd mt_163 ∈ gtbl := List.mem_filter.mpr ⟨tb_in5 (List.mem_of_getElem? (i := 113) rfl), cw_good _⟩
theorem cw_164 : cwd mt_164 ∈ gtbl := List.mem_filter.mpr ⟨tb_in5 (List.mem_of_getElem? (i := 120) rfl), cw_good _⟩
theorem cw_165 : cwd mt_165 ∈ gtbl := List.mem_filter.mpr ⟨tb_in5 (List.mem_of_getElem? (i := 117) rfl), cw_good _⟩
theorem cw_166 : cwd mt_166 ∈ gtbl := List.mem_filter.mpr ⟨tb_in5 (List.mem_of_getElem? (i := 124) rfl), cw_good _⟩
theorem cw_167 : cwd mt_167 ∈ gtbl := List.mem_filter.mpr ⟨tb_in5 (List.mem_of_getElem? (i := 128) rfl), cw_good _⟩
theorem cw_168 : cwd mt_168 ∈ gtbl := List.mem_filter.mpr ⟨tb_in5 (List.mem_of_getElem? (i := 134) rfl), cw_good _⟩
def kwd (k : Nat) (y : MethodName) : List Cond := match k with
  | 1 => [.static y, .initialized y.cls]
  | 2 => [.instanceMethod y, .initialized y.cls]
  | 0 => [.instanceMethod y, .initialized y.cls, .selects y.cls y y]
  | _ => []
theorem kw_0 : ∀ x ∈ ([((2, yX0_init), [116, 66]), ((0, yX0_begin), [120, 66, 121]), ((0, yX0_turnFrom), [465, 66, 466]), ((0, yX0_hasState), [416, 66, 417]), ((0, yX0_stepAt), [424, 66, 425]), ((0, yX0_canKeep), [420, 66, 421]), ((0, yX0_setStep), [428, 66, 429]), ((0, yX0_isGood), [436, 66, 437]), ((0, yX0_setGood), [441, 66, 442]), ((0, yX0_goodStates), [449, 66, 450]), ((0, yX0_forgetOrbits), [599, 66, 600]), ((0, yX0_setFate), [606, 66, 607]), ((0, yX0_fateOf), [619, 66, 620]), ((0, yX0_orbitsOf), [627, 66, 628]), ((0, yX0_statesMet), [631, 66, 632]), ((0, yX0_isMet), [636, 66, 23]), ((2, yX1_init), [167, 67]), ((0, yX1_join), [476, 67, 477]), ((0, yX1_joinSteps), [487, 67, 5]), ((0, yX1_numberOf), [483, 67, 4])] : List ((Nat × MethodName) × List Nat)), kwd x.1.1 x.1.2 = x.2.filterMap (fun i => lw_tbl[i]?) ∧ (kwd x.1.1 x.1.2).all goodWord = true := by decide +kernel
theorem kw_1 : ∀ x ∈ ([((1, yX1_isGood), [493, 67]), ((2, yX2_init), [85, 64]), ((0, yX2_hasPlace), [379, 64, 380]), ((0, yX2_hasPrefix), [371, 64, 372]), ((0, yX2_append), [363, 64, 364]), ((0, yX2_firstWithNameOf), [383, 64, 384]), ((0, yX2_becomeAs), [683, 64, 684]), ((2, yX3_init), [180, 68]), ((0, yX3_begin), [505, 68, 506]), ((0, yX3_go), [509, 68, 510]), ((0, yX3_keepIn), [519, 68, 8]), ((0, yX3_caseOf), [514, 68, 7]), ((0, yX3_isDoomed), [610, 68, 611]), ((0, yX3_pattern), [615, 68, 22]), ((2, yX4_init), [294, 71]), ((0, yX4_begin), [729, 71, 730]), ((0, yX4_isNothing), [737, 71, 738]), ((0, yX4_hasCell), [741, 71, 742]), ((0, yX4_setCell), [745, 71, 746]), ((2, yX5_init), [209, 69])] : List ((Nat × MethodName) × List Nat)), kwd x.1.1 x.1.2 = x.2.filterMap (fun i => lw_tbl[i]?) ∧ (kwd x.1.1 x.1.2).all goodWord = true := by decide +kernel
theorem kw_2 : ∀ x ∈ ([((1, yX5_patternOf), [603, 69]), ((0, yX5_explore), [538, 69, 539]), ((0, yX5_forget), [543, 69, 10]), ((0, yX5_meet), [547, 69, 11]), ((1, yX5_isWanted), [563, 69]), ((0, yX5_lookAt), [551, 69, 12]), ((0, yX5_codeBehind), [567, 69, 15]), ((0, yX5_labelOf), [555, 69, 13]), ((0, yX5_caseOf), [559, 69, 14]), ((0, yX5_heldBehind), [572, 69, 16]), ((0, yX5_keep), [577, 69, 17]), ((0, yX5_digitOfEarlier), [581, 69, 18]), ((0, yX5_tellWays), [649, 69, 650]), ((0, yX5_giveNames), [653, 69, 654]), ((0, yX5_survey), [534, 69, 535]), ((0, yX5_tellNext), [585, 69, 19]), ((0, yX5_spreadLife), [589, 69, 20]), ((0, yX5_leadsToLife), [596, 69, 21]), ((2, yX6_init), [271, 70]), ((0, yX6_begin), [693, 70, 694])] : List ((Nat × MethodName) × List Nat)), kwd x.1.1 x.1.2 = x.2.filterMap (fun i => lw_tbl[i]?) ∧ (kwd x.1.1 x.1.2).all goodWord = true := by decide +kernel
theorem kw_3 : ∀ x ∈ ([((0, yX6_isDone), [711, 70, 712]), ((0, yX6_take), [707, 70, 708]), ((2, yX7_init), [77, 63]), ((0, yX7_place), [359, 63, 360]), ((0, yX7_cut), [367, 63, 368]), ((0, yX7_first), [375, 63, 376]), ((0, yX7_names), [387, 63, 388]), ((0, yX7_machine), [391, 63, 392]), ((0, yX7_step), [408, 63, 409]), ((0, yX7_good), [432, 63, 433]), ((0, yX7_told), [445, 63, 446]), ((0, yX7_stepOf), [453, 63, 454]), ((0, yX7_drop), [457, 63, 458]), ((0, yX7_turned), [461, 63, 462]), ((0, yX7_both), [472, 63, 473]), ((0, yX7_machineAt), [413, 63, 3]), ((0, yX7_spareMachine), [396, 63, 0]), ((0, yX7_addSpareMachine), [401, 63, 1]), ((0, yX7_machinesChanged), [405, 63, 2]), ((0, yX7_takes), [497, 63, 498])] : List ((Nat × MethodName) × List Nat)), kwd x.1.1 x.1.2 = x.2.filterMap (fun i => lw_tbl[i]?) ∧ (kwd x.1.1 x.1.2).all goodWord = true := by decide +kernel
theorem kw_4 : ∀ x ∈ ([((0, yX7_ran), [522, 63, 523]), ((0, yX7_doomed), [526, 63, 527]), ((0, yX7_runOver), [502, 63, 6]), ((0, yX7_learnOrbits), [531, 63, 9]), ((0, yX7_orbits), [623, 63, 624]), ((0, yX7_shortest), [640, 63, 641]), ((0, yX7_shortestAt), [659, 63, 660]), ((0, yX7_parts), [667, 63, 668]), ((0, yX7_partsAt), [671, 63, 672]), ((0, yX7_within), [675, 63, 676]), ((0, yX7_show), [679, 63, 680]), ((0, yX7_findLeast), [645, 63, 24]), ((0, yX7_leastAt), [664, 63, 25]), ((0, yX7_watch), [689, 63, 690]), ((0, yX7_see), [699, 63, 700]), ((0, yX7_seen), [717, 63, 718]), ((0, yX7_watchAt), [704, 63, 26]), ((0, yX7_sheet), [721, 63, 722]), ((0, yX7_lay), [733, 63, 734]), ((0, yX7_scan), [750, 63, 751])] : List ((Nat × MethodName) × List Nat)), kwd x.1.1 x.1.2 = x.2.filterMap (fun i => lw_tbl[i]?) ∧ (kwd x.1.1 x.1.2).all goodWord = true := by decide +kernel
theorem kw_5 : ∀ x ∈ ([((0, yX7_scanPlace), [755, 63, 28]), ((0, yX7_sheetAt), [726, 63, 27]), ((0, yX7_count), [758, 63, 759]), ((0, yX7_watchesDone), [763, 63, 29]), ((0, yX7_countUnlikeMachines), [768, 63, 30]), ((0, yX7_isAsEarlierOne), [772, 63, 31]), ((2, yX8_init), [777, 72]), ((1, yX8_in), [913, 72]), ((0, yX8_place), [908, 72, 909]), ((0, yX8_cut), [916, 72, 917]), ((0, yX8_firstOf), [925, 72, 32]), ((0, yX8_first), [920, 72, 921]), ((0, yX8_names), [928, 72, 929]), ((0, yX8_isMachine), [954, 72, 36]), ((0, yX8_isState), [950, 72, 35]), ((1, yX8_stepAt), [965, 72]), ((0, yX8_isCase), [958, 72, 37]), ((0, yX8_isStep), [946, 72, 34]), ((0, yX8_begins), [938, 72, 33]), ((0, yX8_machine), [932, 72, 933])] : List ((Nat × MethodName) × List Nat)), kwd x.1.1 x.1.2 = x.2.filterMap (fun i => lw_tbl[i]?) ∧ (kwd x.1.1 x.1.2).all goodWord = true := by decide +kernel
theorem kw_6 : ∀ x ∈ ([((0, yX8_isWatched), [962, 72, 38]), ((0, yX8_step), [941, 72, 942]), ((0, yX8_good), [968, 72, 969]), ((0, yX8_told), [972, 72, 973]), ((0, yX8_stepOf), [976, 72, 977]), ((0, yX8_drop), [980, 72, 981]), ((0, yX8_turned), [984, 72, 985]), ((0, yX8_pairAt), [993, 72, 39]), ((0, yX8_both), [988, 72, 989]), ((0, yX8_starts), [1005, 72, 41]), ((0, yX8_goes), [1009, 72, 42]), ((0, yX8_runs), [1001, 72, 40]), ((0, yX8_takes), [996, 72, 997]), ((0, yX8_ran), [1012, 72, 1013]), ((0, yX8_apart), [1034, 72, 46]), ((0, yX8_put), [1050, 72, 50]), ((0, yX8_most), [1038, 72, 47]), ((0, yX8_goesOn), [1046, 72, 49]), ((0, yX8_behind), [1042, 72, 48]), ((0, yX8_labelsIn), [1030, 72, 45])] : List ((Nat × MethodName) × List Nat)), kwd x.1.1 x.1.2 = x.2.filterMap (fun i => lw_tbl[i]?) ∧ (kwd x.1.1 x.1.2).all goodWord = true := by decide +kernel
theorem kw_7 : ∀ x ∈ ([((0, yX8_explores), [1026, 72, 44]), ((0, yX8_isGoodA), [1054, 72, 51]), ((0, yX8_isGoodB), [1082, 72, 56]), ((0, yX8_wanted), [1078, 72, 55]), ((0, yX8_lines), [1086, 72, 57]), ((0, yX8_tells), [1098, 72, 59]), ((0, yX8_keepsReal), [1102, 72, 60]), ((0, yX8_lengthOf), [1074, 72, 54]), ((0, yX8_atOf), [1094, 72, 58]), ((0, yX8_findAlive), [1022, 72, 43]), ((0, yX8_leadsOn), [1058, 72, 52]), ((0, yX8_orbitOf), [1062, 72, 53]), ((0, yX8_doomed), [1017, 72, 1018]), ((0, yX8_orbits), [1065, 72, 1066]), ((0, yX8_shortest), [1069, 72, 1070]), ((0, yX8_shortestAt), [1089, 72, 1090]), ((0, yX8_parts), [1105, 72, 1106]), ((0, yX8_partsAt), [1109, 72, 1110]), ((0, yX8_within), [1113, 72, 1114]), ((0, yX8_show), [1117, 72, 1118])] : List ((Nat × MethodName) × List Nat)), kwd x.1.1 x.1.2 = x.2.filterMap (fun i => lw_tbl[i]?) ∧ (kwd x.1.1 x.1.2).all goodWord = true := by decide +kernel
theorem kw_8 : ∀ x ∈ ([((0, yX8_isDead), [1126, 72, 61]), ((0, yX8_watch), [1121, 72, 1122]), ((0, yX8_see), [1129, 72, 1130]), ((0, yX8_seen), [1133, 72, 1134]), ((1, yX8_isSheet), [1141, 72]), ((0, yX8_sheet), [1137, 72, 1138]), ((0, yX8_lay), [1144, 72, 1145]), ((0, yX8_scan), [1148, 72, 1149]), ((0, yX8_count), [1154, 72, 1155])] : List ((Nat × MethodName) × List Nat)), kwd x.1.1 x.1.2 = x.2.filterMap (fun i => lw_tbl[i]?) ∧ (kwd x.1.1 x.1.2).all goodWord = true := by decide +kernel
/-- what the tables hold of a method -/
def mOK (q : MT) (k : Nat) : Prop := cwd q ∈ gtbl ∧ (∀ w ∈ kwd k q.1.1, w ∈ gtbl) ∧ plainName q.1.1.cls = true ∧ (q.1.1.cls ≠ "java/lang/invoke/MethodHandle" ∧ q.1.1.cls ≠ "java/lang/invoke/VarHandle") ∧ q.1.1.cls = cnm q.2.1 ∧ q.1.2.2.1 ≤ 17 ∧ (k = 2 → q.1.1.name = "<init>" ∧ q.1.2.2.2 = none)
theorem kwd_ok {k : Nat} {y : MethodName} {ps : List Nat} (h : kwd k y = ps.filterMap (fun i => lw_tbl[i]?) ∧ (kwd k y).all goodWord = true) : ∀ w ∈ kwd k y, w ∈ gtbl := gt_list _ ps h.1 h.2
theorem mo_0 : mOK mt_0 2 := ⟨cw_0, kwd_ok (kw_0 ((2, yX0_init), [116, 66]) (List.mem_of_getElem? (i := 0) rfl)), by decide +kernel, by decide +kernel, by decide +kernel, by decide +kernel, by decide +kernel⟩
theorem mo_1 : mOK mt_1 0 := ⟨cw_1, kwd_ok (kw_0 ((0, yX0_begin), [120, 66, 121]) (List.mem_of_getElem? (i := 1) rfl)), by decide +kernel, by decide +kernel, by decide +kernel, by decide +kernel, by decide +kernel⟩
theorem mo_2 : mOK mt_2 0 := ⟨cw_2, kwd_ok (kw_0 ((0, yX0_turnFrom), [465, 66, 466]) (List.mem_of_getElem? (i := 2) rfl)), by decide +kernel, by decide +kernel, by decide +kernel, by decide +kernel, by decide +kernel⟩
theorem mo_3 : mOK mt_3 0 := ⟨cw_3, kwd_ok (kw_0 ((0, yX0_hasState), [416, 66, 417]) (List.mem_of_getElem? (i := 3) rfl)), by decide +kernel, by decide +kernel, by decide +kernel, by decide +kernel, by decide +kernel⟩
theorem mo_4 : mOK mt_4 0 := ⟨cw_4, kwd_ok (kw_0 ((0, yX0_stepAt), [424, 66, 425]) (List.mem_of_getElem? (i := 4) rfl)), by decide +kernel, by decide +kernel, by decide +kernel, by decide +kernel, by decide +kernel⟩
theorem mo_5 : mOK mt_5 0 := ⟨cw_5, kwd_ok (kw_0 ((0, yX0_canKeep), [420, 66, 421]) (List.mem_of_getElem? (i := 5) rfl)), by decide +kernel, by decide +kernel, by decide +kernel, by decide +kernel, by decide +kernel⟩
theorem mo_6 : mOK mt_6 0 := ⟨cw_6, kwd_ok (kw_0 ((0, yX0_setStep), [428, 66, 429]) (List.mem_of_getElem? (i := 6) rfl)), by decide +kernel, by decide +kernel, by decide +kernel, by decide +kernel, by decide +kernel⟩
theorem mo_7 : mOK mt_7 0 := ⟨cw_7, kwd_ok (kw_0 ((0, yX0_isGood), [436, 66, 437]) (List.mem_of_getElem? (i := 7) rfl)), by decide +kernel, by decide +kernel, by decide +kernel, by decide +kernel, by decide +kernel⟩
theorem mo_8 : mOK mt_8 0 := ⟨cw_8, kwd_ok (kw_0 ((0, yX0_setGood), [441, 66, 442]) (List.mem_of_getElem? (i := 8) rfl)), by decide +kernel, by decide +kernel, by decide +kernel, by decide +kernel, by decide +kernel⟩
theorem mo_9 : mOK mt_9 0 := ⟨cw_9, kwd_ok (kw_0 ((0, yX0_goodStates), [449, 66, 450]) (List.mem_of_getElem? (i := 9) rfl)), by decide +kernel, by decide +kernel, by decide +kernel, by decide +kernel, by decide +kernel⟩
theorem mo_10 : mOK mt_10 0 := ⟨cw_10, kwd_ok (kw_0 ((0, yX0_forgetOrbits), [599, 66, 600]) (List.mem_of_getElem? (i := 10) rfl)), by decide +kernel, by decide +kernel, by decide +kernel, by decide +kernel, by decide +kernel⟩
theorem mo_11 : mOK mt_11 0 := ⟨cw_11, kwd_ok (kw_0 ((0, yX0_setFate), [606, 66, 607]) (List.mem_of_getElem? (i := 11) rfl)), by decide +kernel, by decide +kernel, by decide +kernel, by decide +kernel, by decide +kernel⟩
theorem mo_12 : mOK mt_12 0 := ⟨cw_12, kwd_ok (kw_0 ((0, yX0_fateOf), [619, 66, 620]) (List.mem_of_getElem? (i := 12) rfl)), by decide +kernel, by decide +kernel, by decide +kernel, by decide +kernel, by decide +kernel⟩
theorem mo_13 : mOK mt_13 0 := ⟨cw_13, kwd_ok (kw_0 ((0, yX0_orbitsOf), [627, 66, 628]) (List.mem_of_getElem? (i := 13) rfl)), by decide +kernel, by decide +kernel, by decide +kernel, by decide +kernel, by decide +kernel⟩
theorem mo_14 : mOK mt_14 0 := ⟨cw_14, kwd_ok (kw_0 ((0, yX0_statesMet), [631, 66, 632]) (List.mem_of_getElem? (i := 14) rfl)), by decide +kernel, by decide +kernel, by decide +kernel, by decide +kernel, by decide +kernel⟩
theorem mo_15 : mOK mt_15 0 := ⟨cw_15, kwd_ok (kw_0 ((0, yX0_isMet), [636, 66, 23]) (List.mem_of_getElem? (i := 15) rfl)), by decide +kernel, by decide +kernel, by decide +kernel, by decide +kernel, by decide +kernel⟩
theorem mo_16 : mOK mt_16 2 := ⟨cw_16, kwd_ok (kw_0 ((2, yX1_init), [167, 67]) (List.mem_of_getElem? (i := 16) rfl)), by decide +kernel, by decide +kernel, by decide +kernel, by decide +kernel, by decide +kernel⟩
theorem mo_17 : mOK mt_17 0 := ⟨cw_17, kwd_ok (kw_0 ((0, yX1_join), [476, 67, 477]) (List.mem_of_getElem? (i := 17) rfl)), by decide +kernel, by decide +kernel, by decide +kernel, by decide +kernel, by decide +kernel⟩
theorem mo_18 : mOK mt_18 0 := ⟨cw_18, kwd_ok (kw_0 ((0, yX1_joinSteps), [487, 67, 5]) (List.mem_of_getElem? (i := 18) rfl)), by decide +kernel, by decide +kernel, by decide +kernel, by decide +kernel, by decide +kernel⟩
theorem mo_19 : mOK mt_19 0 := ⟨cw_19, kwd_ok (kw_0 ((0, yX1_numberOf), [483, 67, 4]) (List.mem_of_getElem? (i := 19) rfl)), by decide +kernel, by decide +kernel, by decide +kernel, by decide +kernel, by decide +kernel⟩
theorem mo_20 : mOK mt_20 1 := ⟨cw_20, kwd_ok (kw_1 ((1, yX1_isGood), [493, 67]) (List.mem_of_getElem? (i := 0) rfl)), by decide +kernel, by decide +kernel, by decide +kernel, by decide +kernel, by decide +kernel⟩
theorem mo_21 : mOK mt_21 2 := ⟨cw_21, kwd_ok (kw_1 ((2, yX2_init), [85, 64]) (List.mem_of_getElem? (i := 1) rfl)), by decide +kernel, by decide +kernel, by decide +kernel, by decide +kernel, by decide +kernel⟩
theorem mo_22 : mOK mt_22 0 := ⟨cw_22, kwd_ok (kw_1 ((0, yX2_hasPlace), [379, 64, 380]) (List.mem_of_getElem? (i := 2) rfl)), by decide +kernel, by decide +kernel, by decide +kernel, by decide +kernel, by decide +kernel⟩
theorem mo_23 : mOK mt_23 0 := ⟨cw_23, kwd_ok (kw_1 ((0, yX2_hasPrefix), [371, 64, 372]) (List.mem_of_getElem? (i := 3) rfl)), by decide +kernel, by decide +kernel, by decide +kernel, by decide +kernel, by decide +kernel⟩
theorem mo_24 : mOK mt_24 0 := ⟨cw_24, kwd_ok (kw_1 ((0, yX2_append), [363, 64, 364]) (List.mem_of_getElem? (i := 4) rfl)), by decide +kernel, by decide +kernel, by decide +kernel, by decide +kernel, by decide +kernel⟩
theorem mo_25 : mOK mt_25 0 := ⟨cw_25, kwd_ok (kw_1 ((0, yX2_firstWithNameOf), [383, 64, 384]) (List.mem_of_getElem? (i := 5) rfl)), by decide +kernel, by decide +kernel, by decide +kernel, by decide +kernel, by decide +kernel⟩
theorem mo_26 : mOK mt_26 0 := ⟨cw_26, kwd_ok (kw_1 ((0, yX2_becomeAs), [683, 64, 684]) (List.mem_of_getElem? (i := 6) rfl)), by decide +kernel, by decide +kernel, by decide +kernel, by decide +kernel, by decide +kernel⟩
theorem mo_27 : mOK mt_27 2 := ⟨cw_27, kwd_ok (kw_1 ((2, yX3_init), [180, 68]) (List.mem_of_getElem? (i := 7) rfl)), by decide +kernel, by decide +kernel, by decide +kernel, by decide +kernel, by decide +kernel⟩
theorem mo_28 : mOK mt_28 0 := ⟨cw_28, kwd_ok (kw_1 ((0, yX3_begin), [505, 68, 506]) (List.mem_of_getElem? (i := 8) rfl)), by decide +kernel, by decide +kernel, by decide +kernel, by decide +kernel, by decide +kernel⟩
theorem mo_29 : mOK mt_29 0 := ⟨cw_29, kwd_ok (kw_1 ((0, yX3_go), [509, 68, 510]) (List.mem_of_getElem? (i := 9) rfl)), by decide +kernel, by decide +kernel, by decide +kernel, by decide +kernel, by decide +kernel⟩
theorem mo_30 : mOK mt_30 0 := ⟨cw_30, kwd_ok (kw_1 ((0, yX3_keepIn), [519, 68, 8]) (List.mem_of_getElem? (i := 10) rfl)), by decide +kernel, by decide +kernel, by decide +kernel, by decide +kernel, by decide +kernel⟩
theorem mo_31 : mOK mt_31 0 := ⟨cw_31, kwd_ok (kw_1 ((0, yX3_caseOf), [514, 68, 7]) (List.mem_of_getElem? (i := 11) rfl)), by decide +kernel, by decide +kernel, by decide +kernel, by decide +kernel, by decide +kernel⟩
theorem mo_32 : mOK mt_32 0 := ⟨cw_32, kwd_ok (kw_1 ((0, yX3_isDoomed), [610, 68, 611]) (List.mem_of_getElem? (i := 12) rfl)), by decide +kernel, by decide +kernel, by decide +kernel, by decide +kernel, by decide +kernel⟩
theorem mo_33 : mOK mt_33 0 := ⟨cw_33, kwd_ok (kw_1 ((0, yX3_pattern), [615, 68, 22]) (List.mem_of_getElem? (i := 13) rfl)), by decide +kernel, by decide +kernel, by decide +kernel, by decide +kernel, by decide +kernel⟩
theorem mo_34 : mOK mt_34 2 := ⟨cw_34, kwd_ok (kw_1 ((2, yX4_init), [294, 71]) (List.mem_of_getElem? (i := 14) rfl)), by decide +kernel, by decide +kernel, by decide +kernel, by decide +kernel, by decide +kernel⟩
theorem mo_35 : mOK mt_35 0 := ⟨cw_35, kwd_ok (kw_1 ((0, yX4_begin), [729, 71, 730]) (List.mem_of_getElem? (i := 15) rfl)), by decide +kernel, by decide +kernel, by decide +kernel, by decide +kernel, by decide +kernel⟩
theorem mo_36 : mOK mt_36 0 := ⟨cw_36, kwd_ok (kw_1 ((0, yX4_isNothing), [737, 71, 738]) (List.mem_of_getElem? (i := 16) rfl)), by decide +kernel, by decide +kernel, by decide +kernel, by decide +kernel, by decide +kernel⟩
theorem mo_37 : mOK mt_37 0 := ⟨cw_37, kwd_ok (kw_1 ((0, yX4_hasCell), [741, 71, 742]) (List.mem_of_getElem? (i := 17) rfl)), by decide +kernel, by decide +kernel, by decide +kernel, by decide +kernel, by decide +kernel⟩
theorem mo_38 : mOK mt_38 0 := ⟨cw_38, kwd_ok (kw_1 ((0, yX4_setCell), [745, 71, 746]) (List.mem_of_getElem? (i := 18) rfl)), by decide +kernel, by decide +kernel, by decide +kernel, by decide +kernel, by decide +kernel⟩
theorem mo_39 : mOK mt_39 2 := ⟨cw_39, kwd_ok (kw_1 ((2, yX5_init), [209, 69]) (List.mem_of_getElem? (i := 19) rfl)), by decide +kernel, by decide +kernel, by decide +kernel, by decide +kernel, by decide +kernel⟩
theorem mo_40 : mOK mt_40 1 := ⟨cw_40, kwd_ok (kw_2 ((1, yX5_patternOf), [603, 69]) (List.mem_of_getElem? (i := 0) rfl)), by decide +kernel, by decide +kernel, by decide +kernel, by decide +kernel, by decide +kernel⟩
theorem mo_41 : mOK mt_41 0 := ⟨cw_41, kwd_ok (kw_2 ((0, yX5_explore), [538, 69, 539]) (List.mem_of_getElem? (i := 1) rfl)), by decide +kernel, by decide +kernel, by decide +kernel, by decide +kernel, by decide +kernel⟩
theorem mo_42 : mOK mt_42 0 := ⟨cw_42, kwd_ok (kw_2 ((0, yX5_forget), [543, 69, 10]) (List.mem_of_getElem? (i := 2) rfl)), by decide +kernel, by decide +kernel, by decide +kernel, by decide +kernel, by decide +kernel⟩
theorem mo_43 : mOK mt_43 0 := ⟨cw_43, kwd_ok (kw_2 ((0, yX5_meet), [547, 69, 11]) (List.mem_of_getElem? (i := 3) rfl)), by decide +kernel, by decide +kernel, by decide +kernel, by decide +kernel, by decide +kernel⟩
theorem mo_44 : mOK mt_44 1 := ⟨cw_44, kwd_ok (kw_2 ((1, yX5_isWanted), [563, 69]) (List.mem_of_getElem? (i := 4) rfl)), by decide +kernel, by decide +kernel, by decide +kernel, by decide +kernel, by decide +kernel⟩
theorem mo_45 : mOK mt_45 0 := ⟨cw_45, kwd_ok (kw_2 ((0, yX5_lookAt), [551, 69, 12]) (List.mem_of_getElem? (i := 5) rfl)), by decide +kernel, by decide +kernel, by decide +kernel, by decide +kernel, by decide +kernel⟩
theorem mo_46 : mOK mt_46 0 := ⟨cw_46, kwd_ok (kw_2 ((0, yX5_codeBehind), [567, 69, 15]) (List.mem_of_getElem? (i := 6) rfl)), by decide +kernel, by decide +kernel, by decide +kernel, by decide +kernel, by decide +kernel⟩
theorem mo_47 : mOK mt_47 0 := ⟨cw_47, kwd_ok (kw_2 ((0, yX5_labelOf), [555, 69, 13]) (List.mem_of_getElem? (i := 7) rfl)), by decide +kernel, by decide +kernel, by decide +kernel, by decide +kernel, by decide +kernel⟩
theorem mo_48 : mOK mt_48 0 := ⟨cw_48, kwd_ok (kw_2 ((0, yX5_caseOf), [559, 69, 14]) (List.mem_of_getElem? (i := 8) rfl)), by decide +kernel, by decide +kernel, by decide +kernel, by decide +kernel, by decide +kernel⟩
theorem mo_49 : mOK mt_49 0 := ⟨cw_49, kwd_ok (kw_2 ((0, yX5_heldBehind), [572, 69, 16]) (List.mem_of_getElem? (i := 9) rfl)), by decide +kernel, by decide +kernel, by decide +kernel, by decide +kernel, by decide +kernel⟩
theorem mo_50 : mOK mt_50 0 := ⟨cw_50, kwd_ok (kw_2 ((0, yX5_keep), [577, 69, 17]) (List.mem_of_getElem? (i := 10) rfl)), by decide +kernel, by decide +kernel, by decide +kernel, by decide +kernel, by decide +kernel⟩
theorem mo_51 : mOK mt_51 0 := ⟨cw_51, kwd_ok (kw_2 ((0, yX5_digitOfEarlier), [581, 69, 18]) (List.mem_of_getElem? (i := 11) rfl)), by decide +kernel, by decide +kernel, by decide +kernel, by decide +kernel, by decide +kernel⟩
theorem mo_52 : mOK mt_52 0 := ⟨cw_52, kwd_ok (kw_2 ((0, yX5_tellWays), [649, 69, 650]) (List.mem_of_getElem? (i := 12) rfl)), by decide +kernel, by decide +kernel, by decide +kernel, by decide +kernel, by decide +kernel⟩
theorem mo_53 : mOK mt_53 0 := ⟨cw_53, kwd_ok (kw_2 ((0, yX5_giveNames), [653, 69, 654]) (List.mem_of_getElem? (i := 13) rfl)), by decide +kernel, by decide +kernel, by decide +kernel, by decide +kernel, by decide +kernel⟩
theorem mo_54 : mOK mt_54 0 := ⟨cw_54, kwd_ok (kw_2 ((0, yX5_survey), [534, 69, 535]) (List.mem_of_getElem? (i := 14) rfl)), by decide +kernel, by decide +kernel, by decide +kernel, by decide +kernel, by decide +kernel⟩
theorem mo_55 : mOK mt_55 0 := ⟨cw_55, kwd_ok (kw_2 ((0, yX5_tellNext), [585, 69, 19]) (List.mem_of_getElem? (i := 15) rfl)), by decide +kernel, by decide +kernel, by decide +kernel, by decide +kernel, by decide +kernel⟩
theorem mo_56 : mOK mt_56 0 := ⟨cw_56, kwd_ok (kw_2 ((0, yX5_spreadLife), [589, 69, 20]) (List.mem_of_getElem? (i := 16) rfl)), by decide +kernel, by decide +kernel, by decide +kernel, by decide +kernel, by decide +kernel⟩
theorem mo_57 : mOK mt_57 0 := ⟨cw_57, kwd_ok (kw_2 ((0, yX5_leadsToLife), [596, 69, 21]) (List.mem_of_getElem? (i := 17) rfl)), by decide +kernel, by decide +kernel, by decide +kernel, by decide +kernel, by decide +kernel⟩
theorem mo_58 : mOK mt_58 2 := ⟨cw_58, kwd_ok (kw_2 ((2, yX6_init), [271, 70]) (List.mem_of_getElem? (i := 18) rfl)), by decide +kernel, by decide +kernel, by decide +kernel, by decide +kernel, by decide +kernel⟩
theorem mo_59 : mOK mt_59 0 := ⟨cw_59, kwd_ok (kw_2 ((0, yX6_begin), [693, 70, 694]) (List.mem_of_getElem? (i := 19) rfl)), by decide +kernel, by decide +kernel, by decide +kernel, by decide +kernel, by decide +kernel⟩
theorem mo_60 : mOK mt_60 0 := ⟨cw_60, kwd_ok (kw_3 ((0, yX6_isDone), [711, 70, 712]) (List.mem_of_getElem? (i := 0) rfl)), by decide +kernel, by decide +kernel, by decide +kernel, by decide +kernel, by decide +kernel⟩
theorem mo_61 : mOK mt_61 0 := ⟨cw_61, kwd_ok (kw_3 ((0, yX6_take), [707, 70, 708]) (List.mem_of_getElem? (i := 1) rfl)), by decide +kernel, by decide +kernel, by decide +kernel, by decide +kernel, by decide +kernel⟩
theorem mo_62 : mOK mt_62 2 := ⟨cw_62, kwd_ok (kw_3 ((2, yX7_init), [77, 63]) (List.mem_of_getElem? (i := 2) rfl)), by decide +kernel, by decide +kernel, by decide +kernel, by decide +kernel, by decide +kernel⟩
theorem mo_63 : mOK mt_63 0 := ⟨cw_63, kwd_ok (kw_3 ((0, yX7_place), [359, 63, 360]) (List.mem_of_getElem? (i := 3) rfl)), by decide +kernel, by decide +kernel, by decide +kernel, by decide +kernel, by decide +kernel⟩
theorem mo_64 : mOK mt_64 0 := ⟨cw_64, kwd_ok (kw_3 ((0, yX7_cut), [367, 63, 368]) (List.mem_of_getElem? (i := 4) rfl)), by decide +kernel, by decide +kernel, by decide +kernel, by decide +kernel, by decide +kernel⟩
theorem mo_65 : mOK mt_65 0 := ⟨cw_65, kwd_ok (kw_3 ((0, yX7_first), [375, 63, 376]) (List.mem_of_getElem? (i := 5) rfl)), by decide +kernel, by decide +kernel, by decide +kernel, by decide +kernel, by decide +kernel⟩
theorem mo_66 : mOK mt_66 0 := ⟨cw_66, kwd_ok (kw_3 ((0, yX7_names), [387, 63, 388]) (List.mem_of_getElem? (i := 6) rfl)), by decide +kernel, by decide +kernel, by decide +kernel, by decide +kernel, by decide +kernel⟩
theorem mo_67 : mOK mt_67 0 := ⟨cw_67, kwd_ok (kw_3 ((0, yX7_machine), [391, 63, 392]) (List.mem_of_getElem? (i := 7) rfl)), by decide +kernel, by decide +kernel, by decide +kernel, by decide +kernel, by decide +kernel⟩
theorem mo_68 : mOK mt_68 0 := ⟨cw_68, kwd_ok (kw_3 ((0, yX7_step), [408, 63, 409]) (List.mem_of_getElem? (i := 8) rfl)), by decide +kernel, by decide +kernel, by decide +kernel, by decide +kernel, by decide +kernel⟩
theorem mo_69 : mOK mt_69 0 := ⟨cw_69, kwd_ok (kw_3 ((0, yX7_good), [432, 63, 433]) (List.mem_of_getElem? (i := 9) rfl)), by decide +kernel, by decide +kernel, by decide +kernel, by decide +kernel, by decide +kernel⟩
theorem mo_70 : mOK mt_70 0 := ⟨cw_70, kwd_ok (kw_3 ((0, yX7_told), [445, 63, 446]) (List.mem_of_getElem? (i := 10) rfl)), by decide +kernel, by decide +kernel, by decide +kernel, by decide +kernel, by decide +kernel⟩
theorem mo_71 : mOK mt_71 0 := ⟨cw_71, kwd_ok (kw_3 ((0, yX7_stepOf), [453, 63, 454]) (List.mem_of_getElem? (i := 11) rfl)), by decide +kernel, by decide +kernel, by decide +kernel, by decide +kernel, by decide +kernel⟩
theorem mo_72 : mOK mt_72 0 := ⟨cw_72, kwd_ok (kw_3 ((0, yX7_drop), [457, 63, 458]) (List.mem_of_getElem? (i := 12) rfl)), by decide +kernel, by decide +kernel, by decide +kernel, by decide +kernel, by decide +kernel⟩
theorem mo_73 : mOK mt_73 0 := ⟨cw_73, kwd_ok (kw_3 ((0, yX7_turned), [461, 63, 462]) (List.mem_of_getElem? (i := 13) rfl)), by decide +kernel, by decide +kernel, by decide +kernel, by decide +kernel, by decide +kernel⟩
theorem mo_74 : mOK mt_74 0 := ⟨cw_74, kwd_ok (kw_3 ((0, yX7_both), [472, 63, 473]) (List.mem_of_getElem? (i := 14) rfl)), by decide +kernel, by decide +kernel, by decide +kernel, by decide +kernel, by decide +kernel⟩
theorem mo_75 : mOK mt_75 0 := ⟨cw_75, kwd_ok (kw_3 ((0, yX7_machineAt), [413, 63, 3]) (List.mem_of_getElem? (i := 15) rfl)), by decide +kernel, by decide +kernel, by decide +kernel, by decide +kernel, by decide +kernel⟩
theorem mo_76 : mOK mt_76 0 := ⟨cw_76, kwd_ok (kw_3 ((0, yX7_spareMachine), [396, 63, 0]) (List.mem_of_getElem? (i := 16) rfl)), by decide +kernel, by decide +kernel, by decide +kernel, by decide +kernel, by decide +kernel⟩
theorem mo_77 : mOK mt_77 0 := ⟨cw_77, kwd_ok (kw_3 ((0, yX7_addSpareMachine), [401, 63, 1]) (List.mem_of_getElem? (i := 17) rfl)), by decide +kernel, by decide +kernel, by decide +kernel, by decide +kernel, by decide +kernel⟩
theorem mo_78 : mOK mt_78 0 := ⟨cw_78, kwd_ok (kw_3 ((0, yX7_machinesChanged), [405, 63, 2]) (List.mem_of_getElem? (i := 18) rfl)), by decide +kernel, by decide +kernel, by decide +kernel, by decide +kernel, by decide +kernel⟩
theorem mo_79 : mOK mt_79 0 := ⟨cw_79, kwd_ok (kw_3 ((0, yX7_takes), [497, 63, 498]) (List.mem_of_getElem? (i := 19) rfl)), by decide +kernel, by decide +kernel, by decide +kernel, by decide +kernel, by decide +kernel⟩
theorem mo_80 : mOK mt_80 0 := ⟨cw_80, kwd_ok (kw_4 ((0, yX7_ran), [522, 63, 523]) (List.mem_of_getElem? (i := 0) rfl)), by decide +kernel, by decide +kernel, by decide +kernel, by decide +kernel, by decide +kernel⟩
theorem mo_81 : mOK mt_81 0 := ⟨cw_81, kwd_ok (kw_4 ((0, yX7_doomed), [526, 63, 527]) (List.mem_of_getElem? (i := 1) rfl)), by decide +kernel, by decide +kernel, by decide +kernel, by decide +kernel, by decide +kernel⟩
theorem mo_82 : mOK mt_82 0 := ⟨cw_82, kwd_ok (kw_4 ((0, yX7_runOver), [502, 63, 6]) (List.mem_of_getElem? (i := 2) rfl)), by decide +kernel, by decide +kernel, by decide +kernel, by decide +kernel, by decide +kernel⟩
theorem mo_83 : mOK mt_83 0 := ⟨cw_83, kwd_ok (kw_4 ((0, yX7_learnOrbits), [531, 63, 9]) (List.mem_of_getElem? (i := 3) rfl)), by decide +kernel, by decide +kernel, by decide +kernel, by decide +kernel, by decide +kernel⟩
theorem mo_84 : mOK mt_84 0 := ⟨cw_84, kwd_ok (kw_4 ((0, yX7_orbits), [623, 63, 624]) (List.mem_of_getElem? (i := 4) rfl)), by decide +kernel, by decide +kernel, by decide +kernel, by decide +kernel, by decide +kernel⟩
theorem mo_85 : mOK mt_85 0 := ⟨cw_85, kwd_ok (kw_4 ((0, yX7_shortest), [640, 63, 641]) (List.mem_of_getElem? (i := 5) rfl)), by decide +kernel, by decide +kernel, by decide +kernel, by decide +kernel, by decide +kernel⟩
theorem mo_86 : mOK mt_86 0 := ⟨cw_86, kwd_ok (kw_4 ((0, yX7_shortestAt), [659, 63, 660]) (List.mem_of_getElem? (i := 6) rfl)), by decide +kernel, by decide +kernel, by decide +kernel, by decide +kernel, by decide +kernel⟩
theorem mo_87 : mOK mt_87 0 := ⟨cw_87, kwd_ok (kw_4 ((0, yX7_parts), [667, 63, 668]) (List.mem_of_getElem? (i := 7) rfl)), by decide +kernel, by decide +kernel, by decide +kernel, by decide +kernel, by decide +kernel⟩
theorem mo_88 : mOK mt_88 0 := ⟨cw_88, kwd_ok (kw_4 ((0, yX7_partsAt), [671, 63, 672]) (List.mem_of_getElem? (i := 8) rfl)), by decide +kernel, by decide +kernel, by decide +kernel, by decide +kernel, by decide +kernel⟩
theorem mo_89 : mOK mt_89 0 := ⟨cw_89, kwd_ok (kw_4 ((0, yX7_within), [675, 63, 676]) (List.mem_of_getElem? (i := 9) rfl)), by decide +kernel, by decide +kernel, by decide +kernel, by decide +kernel, by decide +kernel⟩
theorem mo_90 : mOK mt_90 0 := ⟨cw_90, kwd_ok (kw_4 ((0, yX7_show), [679, 63, 680]) (List.mem_of_getElem? (i := 10) rfl)), by decide +kernel, by decide +kernel, by decide +kernel, by decide +kernel, by decide +kernel⟩
theorem mo_91 : mOK mt_91 0 := ⟨cw_91, kwd_ok (kw_4 ((0, yX7_findLeast), [645, 63, 24]) (List.mem_of_getElem? (i := 11) rfl)), by decide +kernel, by decide +kernel, by decide +kernel, by decide +kernel, by decide +kernel⟩
theorem mo_92 : mOK mt_92 0 := ⟨cw_92, kwd_ok (kw_4 ((0, yX7_leastAt), [664, 63, 25]) (List.mem_of_getElem? (i := 12) rfl)), by decide +kernel, by decide +kernel, by decide +kernel, by decide +kernel, by decide +kernel⟩
theorem mo_93 : mOK mt_93 0 := ⟨cw_93, kwd_ok (kw_4 ((0, yX7_watch), [689, 63, 690]) (List.mem_of_getElem? (i := 13) rfl)), by decide +kernel, by decide +kernel, by decide +kernel, by decide +kernel, by decide +kernel⟩
theorem mo_94 : mOK mt_94 0 := ⟨cw_94, kwd_ok (kw_4 ((0, yX7_see), [699, 63, 700]) (List.mem_of_getElem? (i := 14) rfl)), by decide +kernel, by decide +kernel, by decide +kernel, by decide +kernel, by decide +kernel⟩
theorem mo_95 : mOK mt_95 0 := ⟨cw_95, kwd_ok (kw_4 ((0, yX7_seen), [717, 63, 718]) (List.mem_of_getElem? (i := 15) rfl)), by decide +kernel, by decide +kernel, by decide +kernel, by decide +kernel, by decide +kernel⟩
theorem mo_96 : mOK mt_96 0 := ⟨cw_96, kwd_ok (kw_4 ((0, yX7_watchAt), [704, 63, 26]) (List.mem_of_getElem? (i := 16) rfl)), by decide +kernel, by decide +kernel, by decide +kernel, by decide +kernel, by decide +kernel⟩
theorem mo_97 : mOK mt_97 0 := ⟨cw_97, kwd_ok (kw_4 ((0, yX7_sheet), [721, 63, 722]) (List.mem_of_getElem? (i := 17) rfl)), by decide +kernel, by decide +kernel, by decide +kernel, by decide +kernel, by decide +kernel⟩
theorem mo_98 : mOK mt_98 0 := ⟨cw_98, kwd_ok (kw_4 ((0, yX7_lay), [733, 63, 734]) (List.mem_of_getElem? (i := 18) rfl)), by decide +kernel, by decide +kernel, by decide +kernel, by decide +kernel, by decide +kernel⟩
theorem mo_99 : mOK mt_99 0 := ⟨cw_99, kwd_ok (kw_4 ((0, yX7_scan), [750, 63, 751]) (List.mem_of_getElem? (i := 19) rfl)), by decide +kernel, by decide +kernel, by decide +kernel, by decide +kernel, by decide +kernel⟩
theorem mo_100 : mOK mt_100 0 := ⟨cw_100, kwd_ok (kw_5 ((0, yX7_scanPlace), [755, 63, 28]) (List.mem_of_getElem? (i := 0) rfl)), by decide +kernel, by decide +kernel, by decide +kernel, by decide +kernel, by decide +kernel⟩
theorem mo_101 : mOK mt_101 0 := ⟨cw_101, kwd_ok (kw_5 ((0, yX7_sheetAt), [726, 63, 27]) (List.mem_of_getElem? (i := 1) rfl)), by decide +kernel, by decide +kernel, by decide +kernel, by decide +kernel, by decide +kernel⟩
theorem mo_102 : mOK mt_102 0 := ⟨cw_102, kwd_ok (kw_5 ((0, yX7_count), [758, 63, 759]) (List.mem_of_getElem? (i := 2) rfl)), by decide +kernel, by decide +kernel, by decide +kernel, by decide +kernel, by decide +kernel⟩
theorem mo_103 : mOK mt_103 0 := ⟨cw_103, kwd_ok (kw_5 ((0, yX7_watchesDone), [763, 63, 29]) (List.mem_of_getElem? (i := 3) rfl)), by decide +kernel, by decide +kernel, by decide +kernel, by decide +kernel, by decide +kernel⟩
theorem mo_104 : mOK mt_104 0 := ⟨cw_104, kwd_ok (kw_5 ((0, yX7_countUnlikeMachines), [768, 63, 30]) (List.mem_of_getElem? (i := 4) rfl)), by decide +kernel, by decide +kernel, by decide +kernel, by decide +kernel, by decide +kernel⟩
theorem mo_105 : mOK mt_105 0 := ⟨cw_105, kwd_ok (kw_5 ((0, yX7_isAsEarlierOne), [772, 63, 31]) (List.mem_of_getElem? (i := 5) rfl)), by decide +kernel, by decide +kernel, by decide +kernel, by decide +kernel, by decide +kernel⟩
theorem mo_106 : mOK mt_106 2 := ⟨cw_106, kwd_ok (kw_5 ((2, yX8_init), [777, 72]) (List.mem_of_getElem? (i := 6) rfl)), by decide +kernel, by decide +kernel, by decide +kernel, by decide +kernel, by decide +kernel⟩
theorem mo_107 : mOK mt_107 1 := ⟨cw_107, kwd_ok (kw_5 ((1, yX8_in), [913, 72]) (List.mem_of_getElem? (i := 7) rfl)), by decide +kernel, by decide +kernel, by decide +kernel, by decide +kernel, by decide +kernel⟩
theorem mo_108 : mOK mt_108 0 := ⟨cw_108, kwd_ok (kw_5 ((0, yX8_place), [908, 72, 909]) (List.mem_of_getElem? (i := 8) rfl)), by decide +kernel, by decide +kernel, by decide +kernel, by decide +kernel, by decide +kernel⟩
theorem mo_109 : mOK mt_109 0 := ⟨cw_109, kwd_ok (kw_5 ((0, yX8_cut), [916, 72, 917]) (List.mem_of_getElem? (i := 9) rfl)), by decide +kernel, by decide +kernel, by decide +kernel, by decide +kernel, by decide +kernel⟩
theorem mo_110 : mOK mt_110 0 := ⟨cw_110, kwd_ok (kw_5 ((0, yX8_firstOf), [925, 72, 32]) (List.mem_of_getElem? (i := 10) rfl)), by decide +kernel, by decide +kernel, by decide +kernel, by decide +kernel, by decide +kernel⟩
theorem mo_111 : mOK mt_111 0 := ⟨cw_111, kwd_ok (kw_5 ((0, yX8_first), [920, 72, 921]) (List.mem_of_getElem? (i := 11) rfl)), by decide +kernel, by decide +kernel, by decide +kernel, by decide +kernel, by decide +kernel⟩
theorem mo_112 : mOK mt_112 0 := ⟨cw_112, kwd_ok (kw_5 ((0, yX8_names), [928, 72, 929]) (List.mem_of_getElem? (i := 12) rfl)), by decide +kernel, by decide +kernel, by decide +kernel, by decide +kernel, by decide +kernel⟩
theorem mo_113 : mOK mt_113 0 := ⟨cw_113, kwd_ok (kw_5 ((0, yX8_isMachine), [954, 72, 36]) (List.mem_of_getElem? (i := 13) rfl)), by decide +kernel, by decide +kernel, by decide +kernel, by decide +kernel, by decide +kernel⟩
theorem mo_114 : mOK mt_114 0 := ⟨cw_114, kwd_ok (kw_5 ((0, yX8_isState), [950, 72, 35]) (List.mem_of_getElem? (i := 14) rfl)), by decide +kernel, by decide +kernel, by decide +kernel, by decide +kernel, by decide +kernel⟩
theorem mo_115 : mOK mt_115 1 := ⟨cw_115, kwd_ok (kw_5 ((1, yX8_stepAt), [965, 72]) (List.mem_of_getElem? (i := 15) rfl)), by decide +kernel, by decide +kernel, by decide +kernel, by decide +kernel, by decide +kernel⟩
theorem mo_116 : mOK mt_116 0 := ⟨cw_116, kwd_ok (kw_5 ((0, yX8_isCase), [958, 72, 37]) (List.mem_of_getElem? (i := 16) rfl)), by decide +kernel, by decide +kernel, by decide +kernel, by decide +kernel, by decide +kernel⟩
theorem mo_117 : mOK mt_117 0 := ⟨cw_117, kwd_ok (kw_5 ((0, yX8_isStep), [946, 72, 34]) (List.mem_of_getElem? (i := 17) rfl)), by decide +kernel, by decide +kernel, by decide +kernel, by decide +kernel, by decide +kernel⟩
theorem mo_118 : mOK mt_118 0 := ⟨cw_118, kwd_ok (kw_5 ((0, yX8_begins), [938, 72, 33]) (List.mem_of_getElem? (i := 18) rfl)), by decide +kernel, by decide +kernel, by decide +kernel, by decide +kernel, by decide +kernel⟩
theorem mo_119 : mOK mt_119 0 := ⟨cw_119, kwd_ok (kw_5 ((0, yX8_machine), [932, 72, 933]) (List.mem_of_getElem? (i := 19) rfl)), by decide +kernel, by decide +kernel, by decide +kernel, by decide +kernel, by decide +kernel⟩
theorem mo_120 : mOK mt_120 0 := ⟨cw_120, kwd_ok (kw_6 ((0, yX8_isWatched), [962, 72, 38]) (List.mem_of_getElem? (i := 0) rfl)), by decide +kernel, by decide +kernel, by decide +kernel, by decide +kernel, by decide +kernel⟩
theorem mo_121 : mOK mt_121 0 := ⟨cw_121, kwd_ok (kw_6 ((0, yX8_step), [941, 72, 942]) (List.mem_of_getElem? (i := 1) rfl)), by decide +kernel, by decide +kernel, by decide +kernel, by decide +kernel, by decide +kernel⟩
theorem mo_122 : mOK mt_122 0 := ⟨cw_122, kwd_ok (kw_6 ((0, yX8_good), [968, 72, 969]) (List.mem_of_getElem? (i := 2) rfl)), by decide +kernel, by decide +kernel, by decide +kernel, by decide +kernel, by decide +kernel⟩
theorem mo_123 : mOK mt_123 0 := ⟨cw_123, kwd_ok (kw_6 ((0, yX8_told), [972, 72, 973]) (List.mem_of_getElem? (i := 3) rfl)), by decide +kernel, by decide +kernel, by decide +kernel, by decide +kernel, by decide +kernel⟩
theorem mo_124 : mOK mt_124 0 := ⟨cw_124, kwd_ok (kw_6 ((0, yX8_stepOf), [976, 72, 977]) (List.mem_of_getElem? (i := 4) rfl)), by decide +kernel, by decide +kernel, by decide +kernel, by decide +kernel, by decide +kernel⟩
theorem mo_125 : mOK mt_125 0 := ⟨cw_125, kwd_ok (kw_6 ((0, yX8_drop), [980, 72, 981]) (List.mem_of_getElem? (i := 5) rfl)), by decide +kernel, by decide +kernel, by decide +kernel, by decide +kernel, by decide +kernel⟩
theorem mo_126 : mOK mt_126 0 := ⟨cw_126, kwd_ok (kw_6 ((0, yX8_turned), [984, 72, 985]) (List.mem_of_getElem? (i := 6) rfl)), by decide +kernel, by decide +kernel, by decide +kernel, by decide +kernel, by decide +kernel⟩
theorem mo_127 : mOK mt_127 0 := ⟨cw_127, kwd_ok (kw_6 ((0, yX8_pairAt), [993, 72, 39]) (List.mem_of_getElem? (i := 7) rfl)), by decide +kernel, by decide +kernel, by decide +kernel, by decide +kernel, by decide +kernel⟩
theorem mo_128 : mOK mt_128 0 := ⟨cw_128, kwd_ok (kw_6 ((0, yX8_both), [988, 72, 989]) (List.mem_of_getElem? (i := 8) rfl)), by decide +kernel, by decide +kernel, by decide +kernel, by decide +kernel, by decide +kernel⟩
theorem mo_129 : mOK mt_129 0 := ⟨cw_129, kwd_ok (kw_6 ((0, yX8_starts), [1005, 72, 41]) (List.mem_of_getElem? (i := 9) rfl)), by decide +kernel, by decide +kernel, by decide +kernel, by decide +kernel, by decide +kernel⟩
theorem mo_130 : mOK mt_130 0 := ⟨cw_130, kwd_ok (kw_6 ((0, yX8_goes), [1009, 72, 42]) (List.mem_of_getElem? (i := 10) rfl)), by decide +kernel, by decide +kernel, by decide +kernel, by decide +kernel, by decide +kernel⟩
theorem mo_131 : mOK mt_131 0 := ⟨cw_131, kwd_ok (kw_6 ((0, yX8_runs), [1001, 72, 40]) (List.mem_of_getElem? (i := 11) rfl)), by decide +kernel, by decide +kernel, by decide +kernel, by decide +kernel, by decide +kernel⟩
theorem mo_132 : mOK mt_132 0 := ⟨cw_132, kwd_ok (kw_6 ((0, yX8_takes), [996, 72, 997]) (List.mem_of_getElem? (i := 12) rfl)), by decide +kernel, by decide +kernel, by decide +kernel, by decide +kernel, by decide +kernel⟩
theorem mo_133 : mOK mt_133 0 := ⟨cw_133, kwd_ok (kw_6 ((0, yX8_ran), [1012, 72, 1013]) (List.mem_of_getElem? (i := 13) rfl)), by decide +kernel, by decide +kernel, by decide +kernel, by decide +kernel, by decide +kernel⟩
theorem mo_134 : mOK mt_134 0 := ⟨cw_134, kwd_ok (kw_6 ((0, yX8_apart), [1034, 72, 46]) (List.mem_of_getElem? (i := 14) rfl)), by decide +kernel, by decide +kernel, by decide +kernel, by decide +kernel, by decide +kernel⟩
theorem mo_135 : mOK mt_135 0 := ⟨cw_135, kwd_ok (kw_6 ((0, yX8_put), [1050, 72, 50]) (List.mem_of_getElem? (i := 15) rfl)), by decide +kernel, by decide +kernel, by decide +kernel, by decide +kernel, by decide +kernel⟩
theorem mo_136 : mOK mt_136 0 := ⟨cw_136, kwd_ok (kw_6 ((0, yX8_most), [1038, 72, 47]) (List.mem_of_getElem? (i := 16) rfl)), by decide +kernel, by decide +kernel, by decide +kernel, by decide +kernel, by decide +kernel⟩
theorem mo_137 : mOK mt_137 0 := ⟨cw_137, kwd_ok (kw_6 ((0, yX8_goesOn), [1046, 72, 49]) (List.mem_of_getElem? (i := 17) rfl)), by decide +kernel, by decide +kernel, by decide +kernel, by decide +kernel, by decide +kernel⟩
theorem mo_138 : mOK mt_138 0 := ⟨cw_138, kwd_ok (kw_6 ((0, yX8_behind), [1042, 72, 48]) (List.mem_of_getElem? (i := 18) rfl)), by decide +kernel, by decide +kernel, by decide +kernel, by decide +kernel, by decide +kernel⟩
theorem mo_139 : mOK mt_139 0 := ⟨cw_139, kwd_ok (kw_6 ((0, yX8_labelsIn), [1030, 72, 45]) (List.mem_of_getElem? (i := 19) rfl)), by decide +kernel, by decide +kernel, by decide +kernel, by decide +kernel, by decide +kernel⟩
theorem mo_140 : mOK mt_140 0 := ⟨cw_140, kwd_ok (kw_7 ((0, yX8_explores), [1026, 72, 44]) (List.mem_of_getElem? (i := 0) rfl)), by decide +kernel, by decide +kernel, by decide +kernel, by decide +kernel, by decide +kernel⟩
theorem mo_141 : mOK mt_141 0 := ⟨cw_141, kwd_ok (kw_7 ((0, yX8_isGoodA), [1054, 72, 51]) (List.mem_of_getElem? (i := 1) rfl)), by decide +kernel, by decide +kernel, by decide +kernel, by decide +kernel, by decide +kernel⟩
theorem mo_142 : mOK mt_142 0 := ⟨cw_142, kwd_ok (kw_7 ((0, yX8_isGoodB), [1082, 72, 56]) (List.mem_of_getElem? (i := 2) rfl)), by decide +kernel, by decide +kernel, by decide +kernel, by decide +kernel, by decide +kernel⟩
theorem mo_143 : mOK mt_143 0 := ⟨cw_143, kwd_ok (kw_7 ((0, yX8_wanted), [1078, 72, 55]) (List.mem_of_getElem? (i := 3) rfl)), by decide +kernel, by decide +kernel, by decide +kernel, by decide +kernel, by decide +kernel⟩
theorem mo_144 : mOK mt_144 0 := ⟨cw_144, kwd_ok (kw_7 ((0, yX8_lines), [1086, 72, 57]) (List.mem_of_getElem? (i := 4) rfl)), by decide +kernel, by decide +kernel, by decide +kernel, by decide +kernel, by decide +kernel⟩
theorem mo_145 : mOK mt_145 0 := ⟨cw_145, kwd_ok (kw_7 ((0, yX8_tells), [1098, 72, 59]) (List.mem_of_getElem? (i := 5) rfl)), by decide +kernel, by decide +kernel, by decide +kernel, by decide +kernel, by decide +kernel⟩
theorem mo_146 : mOK mt_146 0 := ⟨cw_146, kwd_ok (kw_7 ((0, yX8_keepsReal), [1102, 72, 60]) (List.mem_of_getElem? (i := 6) rfl)), by decide +kernel, by decide +kernel, by decide +kernel, by decide +kernel, by decide +kernel⟩
theorem mo_147 : mOK mt_147 0 := ⟨cw_147, kwd_ok (kw_7 ((0, yX8_lengthOf), [1074, 72, 54]) (List.mem_of_getElem? (i := 7) rfl)), by decide +kernel, by decide +kernel, by decide +kernel, by decide +kernel, by decide +kernel⟩
theorem mo_148 : mOK mt_148 0 := ⟨cw_148, kwd_ok (kw_7 ((0, yX8_atOf), [1094, 72, 58]) (List.mem_of_getElem? (i := 8) rfl)), by decide +kernel, by decide +kernel, by decide +kernel, by decide +kernel, by decide +kernel⟩
theorem mo_149 : mOK mt_149 0 := ⟨cw_149, kwd_ok (kw_7 ((0, yX8_findAlive), [1022, 72, 43]) (List.mem_of_getElem? (i := 9) rfl)), by decide +kernel, by decide +kernel, by decide +kernel, by decide +kernel, by decide +kernel⟩
theorem mo_150 : mOK mt_150 0 := ⟨cw_150, kwd_ok (kw_7 ((0, yX8_leadsOn), [1058, 72, 52]) (List.mem_of_getElem? (i := 10) rfl)), by decide +kernel, by decide +kernel, by decide +kernel, by decide +kernel, by decide +kernel⟩
theorem mo_151 : mOK mt_151 0 := ⟨cw_151, kwd_ok (kw_7 ((0, yX8_orbitOf), [1062, 72, 53]) (List.mem_of_getElem? (i := 11) rfl)), by decide +kernel, by decide +kernel, by decide +kernel, by decide +kernel, by decide +kernel⟩
theorem mo_152 : mOK mt_152 0 := ⟨cw_152, kwd_ok (kw_7 ((0, yX8_doomed), [1017, 72, 1018]) (List.mem_of_getElem? (i := 12) rfl)), by decide +kernel, by decide +kernel, by decide +kernel, by decide +kernel, by decide +kernel⟩
theorem mo_153 : mOK mt_153 0 := ⟨cw_153, kwd_ok (kw_7 ((0, yX8_orbits), [1065, 72, 1066]) (List.mem_of_getElem? (i := 13) rfl)), by decide +kernel, by decide +kernel, by decide +kernel, by decide +kernel, by decide +kernel⟩
theorem mo_154 : mOK mt_154 0 := ⟨cw_154, kwd_ok (kw_7 ((0, yX8_shortest), [1069, 72, 1070]) (List.mem_of_getElem? (i := 14) rfl)), by decide +kernel, by decide +kernel, by decide +kernel, by decide +kernel, by decide +kernel⟩
theorem mo_155 : mOK mt_155 0 := ⟨cw_155, kwd_ok (kw_7 ((0, yX8_shortestAt), [1089, 72, 1090]) (List.mem_of_getElem? (i := 15) rfl)), by decide +kernel, by decide +kernel, by decide +kernel, by decide +kernel, by decide +kernel⟩
theorem mo_156 : mOK mt_156 0 := ⟨cw_156, kwd_ok (kw_7 ((0, yX8_parts), [1105, 72, 1106]) (List.mem_of_getElem? (i := 16) rfl)), by decide +kernel, by decide +kernel, by decide +kernel, by decide +kernel, by decide +kernel⟩
theorem mo_157 : mOK mt_157 0 := ⟨cw_157, kwd_ok (kw_7 ((0, yX8_partsAt), [1109, 72, 1110]) (List.mem_of_getElem? (i := 17) rfl)), by decide +kernel, by decide +kernel, by decide +kernel, by decide +kernel, by decide +kernel⟩
theorem mo_158 : mOK mt_158 0 := ⟨cw_158, kwd_ok (kw_7 ((0, yX8_within), [1113, 72, 1114]) (List.mem_of_getElem? (i := 18) rfl)), by decide +kernel, by decide +kernel, by decide +kernel, by decide +kernel, by decide +kernel⟩
theorem mo_159 : mOK mt_159 0 := ⟨cw_159, kwd_ok (kw_7 ((0, yX8_show), [1117, 72, 1118]) (List.mem_of_getElem? (i := 19) rfl)), by decide +kernel, by decide +kernel, by decide +kernel, by decide +kernel, by decide +kernel⟩
theorem mo_160 : mOK mt_160 0 := ⟨cw_160, kwd_ok (kw_8 ((0, yX8_isDead), [1126, 72, 61]) (List.mem_of_getElem? (i := 0) rfl)), by decide +kernel, by decide +kernel, by decide +kernel, by decide +kernel, by decide +kernel⟩
theorem mo_161 : mOK mt_161 0 := ⟨cw_161, kwd_ok (kw_8 ((0, yX8_watch), [1121, 72, 1122]) (List.mem_of_getElem? (i := 1) rfl)), by decide +kernel, by decide +kernel, by decide +kernel, by decide +kernel, by decide +kernel⟩
theorem mo_162 : mOK mt_162 0 := ⟨cw_162, kwd_ok (kw_8 ((0, yX8_see), [1129, 72, 1130]) (List.mem_of_getElem? (i := 2) rfl)), by decide +kernel, by decide +kernel, by decide +kernel, by decide +kernel, by decide +kernel⟩
theorem mo_163 : mOK mt_163 0 := ⟨cw_163, kwd_ok (kw_8 ((0, yX8_seen), [1133, 72, 1134]) (List.mem_of_getElem? (i := 3) rfl)), by decide +kernel, by decide +kernel, by decide +kernel, by decide +kernel, by decide +kernel⟩
theorem mo_164 : mOK mt_164 1 := ⟨cw_164, kwd_ok (kw_8 ((1, yX8_isSheet), [1141, 72]) (List.mem_of_getElem? (i := 4) rfl)), by decide +kernel, by decide +kernel, by decide +kernel, by decide +kernel, by decide +kernel⟩
theorem mo_165 : mOK mt_165 0 := ⟨cw_165, kwd_ok (kw_8 ((0, yX8_sheet), [1137, 72, 1138]) (List.mem_of_getElem? (i := 5) rfl)), by decide +kernel, by decide +kernel, by decide +kernel, by decide +kernel, by decide +kernel⟩
theorem mo_166 : mOK mt_166 0 := ⟨cw_166, kwd_ok (kw_8 ((0, yX8_lay), [1144, 72, 1145]) (List.mem_of_getElem? (i := 6) rfl)), by decide +kernel, by decide +kernel, by decide +kernel, by decide +kernel, by decide +kernel⟩
theorem mo_167 : mOK mt_167 0 := ⟨cw_167, kwd_ok (kw_8 ((0, yX8_scan), [1148, 72, 1149]) (List.mem_of_getElem? (i := 7) rfl)), by decide +kernel, by decide +kernel, by decide +kernel, by decide +kernel, by decide +kernel⟩
theorem mo_168 : mOK mt_168 0 := ⟨cw_168, kwd_ok (kw_8 ((0, yX8_count), [1154, 72, 1155]) (List.mem_of_getElem? (i := 8) rfl)), by decide +kernel, by decide +kernel, by decide +kernel, by decide +kernel, by decide +kernel⟩
theorem mt_ok : ∀ (y : Nat) (q : MT), mtab[y]? = some q → y ≠ 169 → ∃ k, mkd[y]? = some k ∧ mOK q k := by
  intro y q h hy
  have hlt : y < 170 := (List.getElem?_eq_some_iff.mp h).1
  have H : ∀ x ∈ (mtab.zip mkd).zipIdx, x.2 ≠ 169 → mOK x.1.1 x.1.2 := by
    unfold mtab mkd
    simp only [List.zip_cons_cons, List.zip_nil_right, List.zipIdx_cons, List.zipIdx_nil, List.forall_mem_cons]
    refine ⟨fun _ => mo_0, fun _ => mo_1, fun _ => mo_2, fun _ => mo_3, fun _ => mo_4, fun _ => mo_5, fun _ => mo_6, fun _ => mo_7, fun _ => mo_8, fun _ => mo_9, fun _ => mo_10, fun _ => mo_11, fun _ => mo_12, fun _ => mo_13, fun _ => mo_14, fun _ => mo_15, fun _ => mo_16, fun _ => mo_17, fun _ => mo_18, fun _ => mo_19, fun _ => mo_20, fun _ => mo_21, fun _ => mo_22, fun _ => mo_23, fun _ => mo_24, fun _ => mo_25, fun _ => mo_26, fun _ => mo_27, fun _ => mo_28, fun _ => mo_29, fun _ => mo_30, fun _ => mo_31, fun _ => mo_32, fun _ => mo_33, fun _ => mo_34, fun _ => mo_35, fun _ => mo_36, fun _ => mo_37, fun _ => mo_38, fun _ => mo_39, fun _ => mo_40, fun _ => mo_41, fun _ => mo_42, fun _ => mo_43, fun _ => mo_44, fun _ => mo_45, fun _ => mo_46, fun _ => mo_47, fun _ => mo_48, fun _ => mo_49, fun _ => mo_50, fun _ => mo_51, fun _ => mo_52, fun _ => mo_53, fun _ => mo_54, fun _ => mo_55, fun _ => mo_56, fun _ => mo_57, fun _ => mo_58, fun _ => mo_59, fun _ => mo_60, fun _ => mo_61, fun _ => mo_62, fun _ => mo_63, fun _ => mo_64, fun _ => mo_65, fun _ => mo_66, fun _ => mo_67, fun _ => mo_68, fun _ => mo_69, fun _ => mo_70, fun _ => mo_71, fun _ => mo_72, fun _ => mo_73, fun _ => mo_74, fun _ => mo_75, fun _ => mo_76, fun _ => mo_77, fun _ => mo_78, fun _ => mo_79, fun _ => mo_80, fun _ => mo_81, fun _ => mo_82, fun _ => mo_83, fun _ => mo_84, fun _ => mo_85, fun _ => mo_86, fun _ => mo_87, fun _ => mo_88, fun _ => mo_89, fun _ => mo_90, fun _ => mo_91, fun _ => mo_92, fun _ => mo_93, fun _ => mo_94, fun _ => mo_95, fun _ => mo_96, fun _ => mo_97, fun _ => mo_98, fun _ => mo_99, fun _ => mo_100, fun _ => mo_101, fun _ => mo_102, fun _ => mo_103, fun _ => mo_104, fun _ => mo_105, fun _ => mo_106, fun _ => mo_107, fun _ => mo_108, fun _ => mo_109, fun _ => mo_110, fun _ => mo_111, fun _ => mo_112, fun _ => mo_113, fun _ => mo_114, fun _ => mo_115, fun _ => mo_116, fun _ => mo_117, fun _ => mo_118, fun _ => mo_119, fun _ => mo_120, fun _ => mo_121, fun _ => mo_122, fun _ => mo_123, fun _ => mo_124, fun _ => mo_125, fun _ => mo_126, fun _ => mo_127, fun _ => mo_128, fun _ => mo_129, fun _ => mo_130, fun _ => mo_131, fun _ => mo_132, fun _ => mo_133, fun _ => mo_134, fun _ => mo_135, fun _ => mo_136, fun _ => mo_137, fun _ => mo_138, fun _ => mo_139, fun _ => mo_140, fun _ => mo_141, fun _ => mo_142, fun _ => mo_143, fun _ => mo_144, fun _ => mo_145, fun _ => mo_146, fun _ => mo_147, fun _ => mo_148, fun _ => mo_149, fun _ => mo_150, fun _ => mo_151, fun _ => mo_152, fun _ => mo_153, fun _ => mo_154, fun _ => mo_155, fun _ => mo_156, fun _ => mo_157, fun _ => mo_158, fun _ => mo_159, fun _ => mo_160, fun _ => mo_161, fun _ => mo_162, fun _ => mo_163, fun _ => mo_164, fun _ => mo_165, fun _ => mo_166, fun _ => mo_167, fun _ => mo_168, fun h => absurd rfl h, ?_⟩
    intro x hx
    cases hx
  obtain ⟨k, hk⟩ : ∃ k, mkd[y]? = some k := ⟨_, List.getElem?_eq_getElem (by show y < 170; exact hlt)⟩
  refine ⟨k, hk, H ((q, k), y) (List.mem_zipIdx_iff_getElem?.mpr ?_) hy⟩
  rw [List.getElem?_zip_eq_some]
  exact ⟨h, hk⟩
def mlP : List ((Nat × Nat × Nat) × Nat) := [((0, 39, 1), 119), ((0, 49, 3), 439), ((0, 53, 15), 634), ((0, 56, 12), 638), ((1, 30, 1), 480), ((1, 34, 19), 481), ((1, 38, 18), 485), ((1, 42, 7), 491), ((1, 46, 20), 492), ((1, 49, 8), 495), ((1, 56, 4), 489), ((1, 66, 6), 490), ((3, 28, 31), 512), ((3, 32, 4), 516), ((3, 41, 30), 517), ((3, 48, 33), 613), ((3, 52, 12), 618), ((3, 56, 40), 617), ((4, 22, 37), 748), ((5, 72, 42), 541), ((5, 75, 43), 545), ((5, 79, 45), 549), ((5, 83, 7), 561), ((5, 89, 44), 562), ((5, 93, 46), 565), ((5, 97, 47), 553), ((5, 101, 48), 557), ((5, 105, 4), 569), ((5, 113, 49), 570), ((5, 122, 50), 575), ((5, 124, 51), 579), ((5, 138, 28), 656), ((5, 144, 29), 657), ((5, 148, 41), 537), ((5, 151, 55), 583), ((5, 155, 56), 587), ((5, 159, 10), 598), ((5, 162, 40), 602), ((5, 165, 11), 605), ((5, 177, 57), 594), ((6, 29, 28), 696), ((6, 32, 32), 697), ((6, 36, 60), 710), ((6, 40, 29), 714), ((6, 50, 7), 715), ((7, 11, 21), 84), ((7, 43, 0), 115), ((7, 90, 24), 362), ((7, 94, 23), 370), ((7, 101, 22), 378), ((7, 104, 25), 382), ((7, 108, 76), 394), ((7, 112, 1), 398), ((7, 116, 77), 399), ((7, 120, 75), 411), ((7, 124, 3), 415), ((7, 127, 5), 419), ((7, 130, 4), 423), ((7, 137, 6), 427), ((7, 141, 78), 403), ((7, 144, 7), 435), ((7, 147, 8), 440), ((7, 157, 9), 448), ((7, 167, 2), 464), ((7, 171, 17), 475), ((7, 175, 82), 500), ((7, 188, 83), 529), ((7, 191, 28), 504), ((7, 193, 32), 609), ((7, 203, 29), 508), ((7, 210, 54), 533), ((7, 214, 13), 626), ((7, 217, 14), 630), ((7, 220, 91), 643), ((7, 223, 92), 662), ((7, 227, 41), 647), ((7, 231, 26), 682), ((7, 235, 52), 648), ((7, 239, 53), 652), ((7, 243, 59), 692), ((7, 245, 96), 702), ((7, 249, 61), 706), ((7, 262, 101), 724), ((7, 266, 35), 728), ((7, 267, 36), 736), ((7, 271, 37), 740), ((7, 274, 38), 744), ((7, 280, 100), 753), ((7, 287, 103), 761), ((7, 290, 104), 766), ((7, 293, 60), 765), ((7, 296, 105), 770), ((8, 109, 107), 912), ((8, 117, 110), 923), ((8, 124, 113), 952), ((8, 128, 114), 948), ((8, 132, 116), 956), ((8, 137, 118), 936), ((8, 144, 117), 944), ((8, 148, 120), 960), ((8, 151, 115), 964), ((8, 155, 127), 991), ((8, 165, 129), 1003), ((8, 168, 130), 1007), ((8, 172, 131), 999), ((8, 184, 134), 1032), ((8, 188, 137), 1044), ((8, 192, 135), 1048), ((8, 196, 136), 1036), ((8, 202, 139), 1028), ((8, 205, 138), 1040), ((8, 208, 140), 1024), ((8, 211, 141), 1052), ((8, 214, 142), 1080), ((8, 223, 146), 1100), ((8, 226, 143), 1076), ((8, 229, 144), 1084), ((8, 232, 147), 1072), ((8, 235, 145), 1096), ((8, 238, 150), 1056), ((8, 241, 149), 1020), ((8, 244, 151), 1060), ((8, 248, 148), 1092), ((8, 251, 160), 1124), ((8, 254, 164), 1140), ((8, 259, 108), 1152), ((9, 9, 62), 76), ((9, 12, 106), 776), ((9, 13, 63), 358), ((9, 17, 108), 907), ((9, 18, 64), 366), ((9, 22, 109), 915), ((9, 23, 65), 374), ((9, 26, 111), 919), ((9, 27, 66), 386), ((9, 31, 112), 927), ((9, 32, 67), 390), ((9, 35, 119), 931), ((9, 36, 68), 407), ((9, 40, 121), 940), ((9, 41, 69), 431), ((9, 45, 122), 967), ((9, 46, 70), 444), ((9, 49, 123), 971), ((9, 50, 71), 452), ((9, 54, 124), 975), ((9, 55, 72), 456), ((9, 58, 125), 979), ((9, 59, 73), 460), ((9, 62, 126), 983), ((9, 63, 74), 471), ((9, 67, 128), 987), ((9, 68, 79), 496), ((9, 71, 132), 995), ((9, 72, 80), 521), ((9, 75, 133), 1011), ((9, 76, 81), 525), ((9, 79, 152), 1016), ((9, 80, 84), 622), ((9, 83, 153), 1064), ((9, 84, 85), 639), ((9, 87, 154), 1068), ((9, 88, 86), 658), ((9, 91, 155), 1088), ((9, 92, 87), 666), ((9, 95, 156), 1104), ((9, 96, 88), 670), ((9, 100, 157), 1108), ((9, 101, 89), 674), ((9, 104, 158), 1112), ((9, 105, 90), 678), ((9, 108, 159), 1116), ((9, 109, 93), 688), ((9, 112, 161), 1120), ((9, 113, 94), 698), ((9, 116, 162), 1128), ((9, 117, 95), 716), ((9, 120, 163), 1132), ((9, 121, 97), 720), ((9, 124, 165), 1136), ((9, 125, 98), 732), ((9, 128, 166), 1143), ((9, 129, 99), 749), ((9, 132, 167), 1147), ((9, 133, 102), 757), ((9, 136, 168), 1153)]
theorem ml_eq : mlP.map (fun x => x.1) = mlT := by decide +kernel
theorem ml_ok : ∀ x ∈ mlP, lw_tbl[x.2]? = some (Cond.methodLink (cnm x.1.1) x.1.2.1 (mnm x.1.2.2)) := by decide +kernel
def nlP : List ((Nat × Nat × Nat) × Nat) := [((5, 64, 27), 213), ((6, 11, 27), 275), ((7, 50, 16), 166), ((7, 57, 27), 179), ((7, 64, 39), 208), ((7, 88, 58), 270), ((7, 89, 34), 293)]
theorem nl_eq : nlP.map (fun x => x.1) = nlT := by decide +kernel
theorem nl_ok : ∀ x ∈ nlP, lw_tbl[x.2]? = some (Cond.methodLinkNest (cnm x.1.1) x.1.2.1 (mnm x.1.2.2) "NameRows") := by decide +kernel
def klP : List ((Nat × Nat × Nat) × List Nat) := [((5, 62, 3), [212, 178, 68]), ((6, 9, 3), [274, 178, 68]), ((7, 7, 2), [82, 83, 64]), ((7, 18, 0), [108, 114, 66]), ((7, 28, 6), [110, 269, 70]), ((7, 37, 4), [112, 292, 71]), ((7, 48, 1), [164, 165, 67]), ((7, 55, 3), [177, 178, 68]), ((7, 62, 5), [206, 207, 69]), ((9, 7, 7), [74, 75, 63]), ((9, 10, 8), [774, 775, 72])]
def klw (q : Nat × Nat × Nat) : List Cond := match cls9[q.2.2]? with
  | some r => [.classLink (cnm q.1) q.2.1 r.1, .instantiable r.1 r.2.2, .initialized r.1]
  | none => []
theorem kl_eq : klP.map (fun x => x.1) = klT := by decide +kernel
theorem kl_ok : ∀ x ∈ klP, klw x.1 = x.2.filterMap (fun i => lw_tbl[i]?) ∧ (klw x.1).all goodWord = true ∧ (cls9[x.1.2.2]?).isSome = true := by decide +kernel
def qlP : List ((Nat × Nat × Nat) × List Nat) := [((7, 18, 2), [108]), ((7, 28, 3), [110]), ((7, 37, 4), [112])]
def qlc (t : Nat) : String := match t with
  | 2 => RX0
  | 3 => RX6
  | _ => RX4
theorem ql_eq : qlP.map (fun x => x.1) = qlT := by decide +kernel
theorem ql_ok : ∀ x ∈ qlP, [Cond.classLink (cnm x.1.1) x.1.2.1 (qlc x.1.2.2)] = x.2.filterMap (fun i => lw_tbl[i]?) ∧ (x.1.2.2 = 2 ∨ x.1.2.2 = 3 ∨ x.1.2.2 = 4) := by decide +kernel
def llP : List ((Nat × Nat × Nat) × Nat) := [((8, 107, 2), 911), ((8, 135, 6), 935), ((8, 176, 3), 1015), ((8, 257, 30), 1151)]
theorem ll_eq : llP.map (fun x => x.1) = llT := by decide +kernel
theorem ll_ok : ∀ x ∈ llP, lw_tbl[x.2]? = some (Cond.constantLong (cnm x.1.1) x.1.2.1 (Int64.ofNat x.1.2.2)) ∧ goodWord (Cond.constantLong (cnm x.1.1) x.1.2.1 (Int64.ofNat x.1.2.2)) = true := by decide +kernel
def olP : List ((Nat × Nat) × Nat) := [((0, 3), 118), ((1, 3), 169), ((2, 3), 87), ((3, 3), 182), ((4, 3), 296), ((5, 5), 211), ((6, 3), 273), ((7, 1), 79), ((8, 1), 779)]
theorem ol_eq : olP.map (fun x => x.1) = olT := by decide +kernel
theorem ol_ok : ∀ x ∈ olP, lw_tbl[x.2]? = some (Cond.methodLink (cnm x.1.1) x.1.2 objectInit) := by decide +kernel
def alP : List ((Nat × Nat) × Nat) := [((0, 43), 468), ((2, 31), 687), ((5, 116), 574)]
theorem al_eq : alP.map (fun x => x.1) = alT := by decide +kernel
theorem al_ok : ∀ x ∈ alP, lw_tbl[x.2]? = some (Cond.methodLink (cnm x.1.1) x.1.2 arraycopyName) := by decide +kernel
def xnm (t : Nat) : MethodName := match t with
  | 1001 => Lib.Math.max.name
  | _ => Lib.Math.min.name
def xlP : List ((Nat × Nat × Nat) × Nat) := [((1, 24, 1001), 479), ((2, 15, 1001), 88), ((2, 28, 1002), 686), ((5, 172, 1002), 591)]
theorem xl_eq : xlP.map (fun x => x.1) = xlT := by decide +kernel
theorem xl_ok : ∀ x ∈ xlP, lw_tbl[x.2]? = some (Cond.methodLink (cnm x.1.1) x.1.2.1 (xnm x.1.2.2)) ∧ (x.1.2.2 = 1001 ∨ x.1.2.2 = 1002) := by decide +kernel
theorem w_oi : Cond.instanceMethod objectInit ∈ gtbl := gt_of (i := 80) (by decide +kernel) rfl
theorem w_oc : Cond.code objectInit ⟨#[0xb1]⟩ 1 none ∈ gtbl := List.mem_filter.mpr ⟨tb_in1 (List.mem_of_getElem? (i := 19) rfl), rfl⟩
theorem w_mxc : Cond.code Lib.Math.max.name Lib.Math.max.code 2 (some .int) ∈ gtbl := List.mem_filter.mpr ⟨tb_in1 (List.mem_of_getElem? (i := 28) rfl), rfl⟩
theorem w_mnc : Cond.code Lib.Math.min.name Lib.Math.min.code 2 (some .int) ∈ gtbl := List.mem_filter.mpr ⟨tb_in3 (List.mem_of_getElem? (i := 51) rfl), rfl⟩
theorem w_mxs : Cond.static Lib.Math.max.name ∈ gtbl := gt_of (i := 89) (by decide +kernel) rfl
theorem w_mns : Cond.static Lib.Math.min.name ∈ gtbl := gt_of (i := 592) (by decide +kernel) rfl
theorem w_mi : Cond.initialized "java/lang/Math" ∈ gtbl := gt_of (i := 65) (by decide +kernel) rfl
theorem w_an : Cond.native arraycopyName ∈ gtbl := gt_of (i := 470) (by decide +kernel) rfl
theorem w_as : Cond.static arraycopyName ∈ gtbl := gt_of (i := 469) (by decide +kernel) rfl
theorem w_ai : Cond.initialized "java/lang/System" ∈ gtbl := gt_of (i := 73) (by decide +kernel) rfl
theorem w_ci : Cond.arrayClass .int ∈ gtbl := gt_of (i := 107) (by decide +kernel) rfl
theorem w_cz : Cond.arrayClass .boolean ∈ gtbl := gt_of (i := 163) (by decide +kernel) rfl
