/-! the words behind fields and calls -/
def xfchk (q : Nat × Nat × Nat × Nat × Nat) : Bool := match vwCl[q.2.2.1]? with
  | some r => decide (q.2.2.2.1 < r.2.2) && decide (lw_tbl[q.2.2.2.2]? = some (Cond.fieldLink (xown q.1) q.2.1 r.1 (r.2.1 q.2.2.2.1).2.1 (r.2.1 q.2.2.2.1).2.2.1))
  | none => false
theorem xfT_ok : xfT.all xfchk = true := by decide +kernel
theorem xfT_use {own i a b : Nat} (h : xfT.any (fun q => decide (q.1 = own ∧ q.2.1 = i ∧ q.2.2.1 = a ∧ q.2.2.2.1 = b)) = true) : ∃ r, vwCl[a]? = some r ∧ b < r.2.2 ∧ Cond.fieldLink (xown own) i r.1 (r.2.1 b).2.1 (r.2.1 b).2.2.1 ∈ lwG := by
  obtain ⟨q, hq, h1⟩ := List.any_eq_true.mp h
  obtain ⟨rfl, rfl, rfl, rfl⟩ := of_decide_eq_true h1
  have h2 := List.all_eq_true.mp xfT_ok q hq
  unfold xfchk at h2
  cases hr : vwCl[q.2.2.1]? with
  | none => rw [hr] at h2; cases h2
  | some r =>
    rw [hr] at h2
    obtain ⟨h3, h4⟩ := Bool.and_eq_true_iff.mp h2
    exact ⟨r, rfl, of_decide_eq_true h3, lwG_of (of_decide_eq_true h4) rfl⟩
def xhost : String := "CapitalMoved"
def xmchk (q : Nat × Nat × Nat × Nat × Nat) : Bool := match q.2.2.1 with
  | 3 => decide (lw_tbl[q.2.2.2.2]? = some (Cond.methodLink (xown q.1) q.2.1 arraycopyName))
  | 2 => (match xms[q.2.2.2.1]? with | some md => decide (tables_1[q.2.2.2.2 - 45]? = some (Cond.methodLinkNest (xown q.1) q.2.1 md.1 xhost)) && xst q.2.2.2.1 | none => false)
  | 1 => (match xms[q.2.2.2.1]? with | some md => decide (lw_tbl[q.2.2.2.2]? = some (Cond.methodLink (xown q.1) q.2.1 md.1)) && xst q.2.2.2.1 | none => false)
  | _ => (match xms[q.2.2.2.1]? with | some md => decide (lw_tbl[q.2.2.2.2]? = some (Cond.methodLink (xown q.1) q.2.1 md.1)) && !(xst q.2.2.2.1) | none => false)
theorem xmT_ok : xmT.all xmchk = true := by decide +kernel
def xnest : List Cond := xmT.filterMap (fun q => bif Nat.beq q.2.2.1 2 then tables_1[q.2.2.2.2 - 45]? else none)
theorem xmT_mem {own i a b : Nat} (h : xmT.any (fun q => decide (q.1 = own ∧ q.2.1 = i ∧ q.2.2.1 = a ∧ q.2.2.2.1 = b)) = true) : ∃ z, (own, i, a, b, z) ∈ xmT ∧ xmchk (own, i, a, b, z) = true := by
  obtain ⟨q, hq, h1⟩ := List.any_eq_true.mp h
  obtain ⟨rfl, rfl, rfl, rfl⟩ := of_decide_eq_true h1
  exact ⟨q.2.2.2.2, hq, List.all_eq_true.mp xmT_ok q hq⟩
theorem xmT_3 {own i b : Nat} (h : xmT.any (fun q => decide (q.1 = own ∧ q.2.1 = i ∧ q.2.2.1 = 3 ∧ q.2.2.2.1 = b)) = true) : Cond.methodLink (xown own) i arraycopyName ∈ lwG := by
  obtain ⟨z, -, h2⟩ := xmT_mem h
  exact lwG_of (of_decide_eq_true h2) rfl
theorem xmT_1 {own i b : Nat} {md : xMd} (hb : xms[b]? = some md) (h : xmT.any (fun q => decide (q.1 = own ∧ q.2.1 = i ∧ q.2.2.1 = 1 ∧ q.2.2.2.1 = b)) = true) : Cond.methodLink (xown own) i md.1 ∈ lwG ∧ xst b = true := by
  obtain ⟨z, -, h2⟩ := xmT_mem h
  simp only [xmchk, hb] at h2
  obtain ⟨h3, h4⟩ := Bool.and_eq_true_iff.mp h2
  exact ⟨lwG_of (of_decide_eq_true h3) rfl, h4⟩
theorem xmT_0 {own i b : Nat} {md : xMd} (hb : xms[b]? = some md) (h : xmT.any (fun q => decide (q.1 = own ∧ q.2.1 = i ∧ q.2.2.1 = 0 ∧ q.2.2.2.1 = b)) = true) : Cond.methodLink (xown own) i md.1 ∈ lwG ∧ xst b = false := by
  obtain ⟨z, -, h2⟩ := xmT_mem h
  simp only [xmchk, hb] at h2
  obtain ⟨h3, h4⟩ := Bool.and_eq_true_iff.mp h2
  exact ⟨lwG_of (of_decide_eq_true h3) rfl, by simpa using h4⟩
theorem xmT_2 {own i b : Nat} {md : xMd} (hb : xms[b]? = some md) (h : xmT.any (fun q => decide (q.1 = own ∧ q.2.1 = i ∧ q.2.2.1 = 2 ∧ q.2.2.2.1 = b)) = true) : Cond.methodLinkNest (xown own) i md.1 xhost ∈ xnest ∧ xst b = true := by
  obtain ⟨z, h1, h2⟩ := xmT_mem h
  simp only [xmchk, hb] at h2
  obtain ⟨h3, h4⟩ := Bool.and_eq_true_iff.mp h2
  exact ⟨List.mem_filterMap.mpr ⟨_, h1, of_decide_eq_true h3⟩, h4⟩
/-- each method's own words, by their places -/
def xmP : List (Nat × Nat × Nat × Nat) := [(0, 0, 0, 0), (812, 51, 810, 811), (828, 51, 827, 19), (832, 51, 831, 20), (824, 51, 822, 823), (841, 52, 839, 840), (757, 52, 755, 756), (860, 52, 858, 859), (454, 49, 452, 453), (462, 49, 460, 461), (588, 49, 586, 587), (600, 49, 599, 4), (596, 49, 595, 3), (592, 49, 590, 591), (766, 49, 764, 765), (580, 48, 578, 579), (716, 49, 714, 715), (725, 50, 723, 724), (737, 49, 736, 16), (741, 49, 740, 17), (732, 49, 731, 15), (721, 49, 719, 720), (746, 49, 744, 745), (750, 49, 748, 749), (485, 53, 483, 484), (395, 46, 394, 0), (518, 53, 516, 517), (423, 46, 422, 0), (783, 50, 782, 18), (778, 50, 776, 777), (789, 50, 787, 788), (584, 48, 582, 583), (576, 55, 574, 575), (604, 55, 602, 603), (663, 55, 661, 662), (623, 55, 621, 622), (411, 47, 409, 410), (403, 47, 401, 402), (416, 47, 414, 415), (551, 47, 549, 550), (555, 47, 553, 554), (547, 47, 545, 546), (567, 47, 565, 566), (708, 47, 706, 707), (688, 47, 686, 687), (650, 47, 648, 649), (700, 54, 698, 699), (572, 54, 570, 571), (627, 54, 626, 6), (631, 54, 630, 7), (617, 54, 616, 0), (613, 54, 612, 5), (642, 54, 641, 9), (638, 54, 637, 8), (659, 54, 658, 12), (655, 54, 654, 11), (671, 54, 670, 14), (667, 54, 666, 13), (646, 54, 645, 10), (609, 54, 607, 608), (675, 54, 673, 674), (489, 53, 487, 488), (501, 53, 499, 500), (507, 53, 505, 506), (473, 53, 471, 472), (493, 53, 491, 492), (427, 48, 425, 426), (439, 48, 437, 438), (399, 46, 398, 0), (392, 46, 390, 391), (407, 46, 405, 406), (420, 46, 418, 419), (431, 46, 429, 430), (435, 46, 433, 434), (446, 46, 445, 0), (443, 46, 441, 442), (450, 46, 448, 449), (458, 46, 456, 457), (469, 46, 468, 0), (466, 46, 464, 465), (481, 46, 480, 1), (477, 46, 475, 476), (497, 46, 495, 496), (514, 46, 512, 513), (523, 46, 521, 522), (527, 46, 525, 526), (531, 46, 529, 530), (535, 46, 533, 534), (543, 46, 542, 2), (539, 46, 537, 538), (559, 46, 557, 558), (563, 46, 561, 562), (680, 46, 678, 679), (684, 46, 682, 683), (692, 46, 690, 691), (696, 46, 694, 695), (704, 46, 702, 703), (712, 46, 710, 711), (761, 46, 759, 760), (770, 46, 768, 769), (774, 46, 772, 773), (793, 46, 791, 792), (800, 46, 799, 0), (797, 46, 795, 796), (804, 46, 802, 803), (808, 46, 806, 807), (816, 46, 814, 815), (820, 46, 818, 819), (837, 46, 835, 836), (845, 46, 843, 844), (849, 46, 847, 848), (856, 46, 855, 0), (863, 46, 862, 0), (853, 46, 851, 852), (1031, 56, 1030, 21), (1039, 56, 1038, 22), (1046, 56, 1045, 0), (1065, 56, 1064, 0), (1076, 56, 1075, 0), (1027, 56, 1025, 1026), (1035, 56, 1033, 1034), (1043, 56, 1041, 1042), (1050, 56, 1048, 1049), (1054, 56, 1052, 1053), (1058, 56, 1056, 1057), (1062, 56, 1060, 1061), (1069, 56, 1067, 1068), (1073, 56, 1071, 1072), (1080, 56, 1078, 1079), (1084, 56, 1082, 1083), (1088, 56, 1086, 1087), (1092, 56, 1090, 1091), (1096, 56, 1094, 1095), (1100, 56, 1098, 1099), (1104, 56, 1102, 1103), (1112, 56, 1111, 23), (1108, 56, 1106, 1107), (1116, 56, 1114, 1115), (1148, 56, 1147, 30), (1144, 56, 1143, 29), (1140, 56, 1139, 28), (1156, 56, 1155, 32), (1128, 56, 1127, 25), (1136, 56, 1135, 27), (1132, 56, 1131, 26), (1160, 56, 1159, 33), (1152, 56, 1151, 31), (1168, 56, 1167, 35), (1176, 56, 1175, 37), (1172, 56, 1171, 36), (1164, 56, 1163, 34), (1124, 56, 1123, 24), (1120, 56, 1118, 1119), (1180, 56, 1178, 1179), (1184, 56, 1182, 1183), (1188, 56, 1186, 1187), (1192, 56, 1190, 1191), (1196, 56, 1194, 1195), (1212, 56, 1211, 40), (1208, 56, 1207, 39), (1204, 56, 1203, 38), (1200, 56, 1198, 1199), (1216, 56, 1214, 1215), (1220, 56, 1218, 1219), (1232, 56, 1231, 42), (1236, 56, 1235, 43), (1228, 56, 1227, 41), (1240, 56, 1239, 44), (1224, 56, 1222, 1223), (1244, 56, 1242, 1243), (1248, 56, 1246, 1247), (1252, 56, 1250, 1251), (1256, 56, 1254, 1255), (1260, 56, 1258, 1259), (1267, 56, 1266, 0), (1264, 56, 1262, 1263), (1271, 56, 1269, 1270), (1275, 56, 1273, 1274), (1279, 56, 1277, 1278), (1283, 56, 1281, 1282), (634, 58, 633, 0), (728, 58, 727, 0), (753, 58, 752, 0)]
def xgm (f : Nat) (md : xMd) (q : Nat × Nat × Nat × Nat) : Bool :=
  decide (lw_tbl[q.1]? = some (Cond.code md.1 md.2.1 (xml f) md.2.2.1)) && decide (lw_tbl[q.2.1]? = some (Cond.initialized md.1.cls)) && decide (md.1.cls = xown (xmo f)) && decide (md.1.cls ≠ "java/lang/invoke/MethodHandle") && decide (md.1.cls ≠ "java/lang/invoke/VarHandle") && plainName md.1.cls && decide (xml f ≤ 40) &&
  (bif xst f then decide (lw_tbl[q.2.2.1]? = some (Cond.static md.1)) && decide ((parseMethodDescriptor md.1.desc).map (fun d => d.parameters.length) = some (xnar f))
  else decide (lw_tbl[q.2.2.1]? = some (Cond.instanceMethod md.1)) && decide (lw_tbl[q.2.2.2]? = some (Cond.selects md.1.cls md.1 md.1)) && decide ((parseMethodDescriptor md.1.desc).map (fun d => d.parameters.length + 1) = some (xnar f)))
def xgmAll : Bool := (List.range 182).all (fun i => match xms[i + 1]?, xmP[i + 1]? with | some md, some q => xgm (i + 1) md q | _, _ => false)
theorem xgmAll_ok : xgmAll = true := by decide +kernel
theorem xms_len : xms.length = 183 := by decide +kernel
theorem xgm_use {f : Nat} (h0 : f ≠ 0) {md : xMd} (hf : xms[f]? = some md) : ∃ q, xgm f md q = true := by
  have hl : f < 183 := by rw [← xms_len]; exact (List.getElem?_eq_some_iff.mp hf).1
  have h := List.all_eq_true.mp xgmAll_ok (f - 1) (List.mem_range.mpr (by omega))
  rw [show f - 1 + 1 = f by omega, hf] at h
  cases hq : xmP[f]? with
  | none => rw [hq] at h; cases h
  | some q => rw [hq] at h; exact ⟨q, h⟩
/-- what is known of a method that is called -/
theorem xgm_all {f : Nat} (h0 : f ≠ 0) {md : xMd} (hf : xms[f]? = some md) : Cond.code md.1 md.2.1 (xml f) md.2.2.1 ∈ lwG ∧ Cond.initialized md.1.cls ∈ lwG ∧ md.1.cls = xown (xmo f) ∧ md.1.cls ≠ "java/lang/invoke/MethodHandle" ∧ md.1.cls ≠ "java/lang/invoke/VarHandle" ∧ plainName md.1.cls = true ∧ xml f ≤ 40 := by
  obtain ⟨q, h⟩ := xgm_use h0 hf
  unfold xgm at h
  simp only [Bool.and_eq_true, decide_eq_true_eq] at h
  obtain ⟨⟨⟨⟨⟨⟨⟨h1, h2⟩, h3⟩, h4⟩, h5⟩, h6⟩, h7⟩, -⟩ := h
  exact ⟨lwG_of h1 rfl, lwG_of h2 rfl, h3, h4, h5, h6, h7⟩
theorem xgm_st {f : Nat} (h0 : f ≠ 0) {md : xMd} (hf : xms[f]? = some md) (hs : xst f = true) : Cond.static md.1 ∈ lwG ∧ (parseMethodDescriptor md.1.desc).map (fun d => d.parameters.length) = some (xnar f) := by
  obtain ⟨q, h⟩ := xgm_use h0 hf
  unfold xgm at h
  simp only [Bool.and_eq_true, decide_eq_true_eq, hs, cond_true] at h
  exact ⟨lwG_of h.2.1 rfl, h.2.2⟩
theorem xgm_in {f : Nat} (h0 : f ≠ 0) {md : xMd} (hf : xms[f]? = some md) (hs : xst f = false) : Cond.instanceMethod md.1 ∈ lwG ∧ Cond.selects md.1.cls md.1 md.1 ∈ lwG ∧ (parseMethodDescriptor md.1.desc).map (fun d => d.parameters.length + 1) = some (xnar f) := by
  obtain ⟨q, h⟩ := xgm_use h0 hf
  unfold xgm at h
  simp only [Bool.and_eq_true, decide_eq_true_eq, hs, cond_false] at h
  exact ⟨lwG_of h.2.1.1 rfl, lwG_of h.2.1.2 rfl, h.2.2⟩
/-- the classes' own words -/
theorem xcl_in : ∀ (ci : Nat) (r : vw_C), vwCl[ci]? = some r → ∀ w ∈ u_ws r.1 r.2.1 r.2.2, w ∈ lwG := by
  intro ci r h
  match ci, h with
  | 0, h => cases h; exact fun w hw => (goodIn_p (big := lw_tbl) _ [233, 235, 237] rfl (by decide +kernel)) |> fun g => List.mem_filter.mpr ⟨(g w hw).1, by have := (goodIn_p (big := lw_tbl) (u_ws RX0 TX0 3) [233, 235, 237] rfl (by decide +kernel)); exact (List.all_eq_true.mp (show (u_ws RX0 TX0 3).all goodWord = true by decide +kernel)) w hw⟩
  | 1, h => cases h; exact fun w hw => (goodIn_p (big := lw_tbl) _ [250, 252] rfl (by decide +kernel)) |> fun g => List.mem_filter.mpr ⟨(g w hw).1, by have := (goodIn_p (big := lw_tbl) (u_ws RX1 TX1 2) [250, 252] rfl (by decide +kernel)); exact (List.all_eq_true.mp (show (u_ws RX1 TX1 2).all goodWord = true by decide +kernel)) w hw⟩
  | 2, h => cases h; exact fun w hw => (goodIn_p (big := lw_tbl) _ [162, 164, 166, 168, 170, 172, 174, 176, 178, 180, 182] rfl (by decide +kernel)) |> fun g => List.mem_filter.mpr ⟨(g w hw).1, by have := (goodIn_p (big := lw_tbl) (u_ws RX2 TX2 11) [162, 164, 166, 168, 170, 172, 174, 176, 178, 180, 182] rfl (by decide +kernel)); exact (List.all_eq_true.mp (show (u_ws RX2 TX2 11).all goodWord = true by decide +kernel)) w hw⟩
  | 3, h => cases h; exact fun w hw => (goodIn_p (big := lw_tbl) _ [203, 205, 207, 209, 211, 213, 215, 217, 219] rfl (by decide +kernel)) |> fun g => List.mem_filter.mpr ⟨(g w hw).1, by have := (goodIn_p (big := lw_tbl) (u_ws RX3 TX3 9) [203, 205, 207, 209, 211, 213, 215, 217, 219] rfl (by decide +kernel)); exact (List.all_eq_true.mp (show (u_ws RX3 TX3 9).all goodWord = true by decide +kernel)) w hw⟩
  | 4, h => cases h; exact fun w hw => (goodIn_p (big := lw_tbl) _ [301, 303, 305, 307, 309, 311, 313, 315, 317, 319, 321] rfl (by decide +kernel)) |> fun g => List.mem_filter.mpr ⟨(g w hw).1, by have := (goodIn_p (big := lw_tbl) (u_ws RX4 TX4 11) [301, 303, 305, 307, 309, 311, 313, 315, 317, 319, 321] rfl (by decide +kernel)); exact (List.all_eq_true.mp (show (u_ws RX4 TX4 11).all goodWord = true by decide +kernel)) w hw⟩
  | 5, h => cases h; exact fun w hw => (goodIn_p (big := lw_tbl) _ [93, 95, 97, 99, 101, 103, 105] rfl (by decide +kernel)) |> fun g => List.mem_filter.mpr ⟨(g w hw).1, by have := (goodIn_p (big := lw_tbl) (u_ws RX5 TX5 7) [93, 95, 97, 99, 101, 103, 105] rfl (by decide +kernel)); exact (List.all_eq_true.mp (show (u_ws RX5 TX5 7).all goodWord = true by decide +kernel)) w hw⟩
  | 6, h => cases h; exact fun w hw => (goodIn_p (big := lw_tbl) _ [334, 336, 338, 340, 342, 344, 346, 348, 350, 352] rfl (by decide +kernel)) |> fun g => List.mem_filter.mpr ⟨(g w hw).1, by have := (goodIn_p (big := lw_tbl) (u_ws RX6 TX6 10) [334, 336, 338, 340, 342, 344, 346, 348, 350, 352] rfl (by decide +kernel)); exact (List.all_eq_true.mp (show (u_ws RX6 TX6 10).all goodWord = true by decide +kernel)) w hw⟩
  | 7, h => cases h; exact fun w hw => (goodIn_p (big := lw_tbl) _ [270, 272, 274] rfl (by decide +kernel)) |> fun g => List.mem_filter.mpr ⟨(g w hw).1, by have := (goodIn_p (big := lw_tbl) (u_ws RX7 TX7 3) [270, 272, 274] rfl (by decide +kernel)); exact (List.all_eq_true.mp (show (u_ws RX7 TX7 3).all goodWord = true by decide +kernel)) w hw⟩
  | 8, h => cases h; exact fun w hw => (goodIn_p (big := lw_tbl) _ [125, 127, 129, 131, 133] rfl (by decide +kernel)) |> fun g => List.mem_filter.mpr ⟨(g w hw).1, by have := (goodIn_p (big := lw_tbl) (u_ws RX8 TX8 5) [125, 127, 129, 131, 133] rfl (by decide +kernel)); exact (List.all_eq_true.mp (show (u_ws RX8 TX8 5).all goodWord = true by decide +kernel)) w hw⟩
  | 9, h => cases h; exact fun w hw => (goodIn_p (big := lw_tbl) _ [366, 368, 370, 372, 374, 376, 378, 380, 382, 384, 386] rfl (by decide +kernel)) |> fun g => List.mem_filter.mpr ⟨(g w hw).1, by have := (goodIn_p (big := lw_tbl) (u_ws RX9 TX9 11) [366, 368, 370, 372, 374, 376, 378, 380, 382, 384, 386] rfl (by decide +kernel)); exact (List.all_eq_true.mp (show (u_ws RX9 TX9 11).all goodWord = true by decide +kernel)) w hw⟩
  | 10, h => cases h; exact fun w hw => (goodIn_p (big := lw_tbl) _ [921, 923, 925, 927, 929, 931, 933, 935, 937, 939, 941, 943, 945, 947, 949, 951, 953, 955, 957, 959, 961, 963, 965, 967, 969, 971, 973, 975, 977, 979, 981, 983, 985, 987, 989, 991, 993, 995, 997, 999, 1001, 1003, 1005, 1007, 1009, 1011, 1013, 1015, 1017, 1019, 1021] rfl (by decide +kernel)) |> fun g => List.mem_filter.mpr ⟨(g w hw).1, by have := (goodIn_p (big := lw_tbl) (u_ws RX10 TX10 51) [921, 923, 925, 927, 929, 931, 933, 935, 937, 939, 941, 943, 945, 947, 949, 951, 953, 955, 957, 959, 961, 963, 965, 967, 969, 971, 973, 975, 977, 979, 981, 983, 985, 987, 989, 991, 993, 995, 997, 999, 1001, 1003, 1005, 1007, 1009, 1011, 1013, 1015, 1017, 1019, 1021] rfl (by decide +kernel)); exact (List.all_eq_true.mp (show (u_ws RX10 TX10 51).all goodWord = true by decide +kernel)) w hw⟩
  | k + 11, h => cases h
def xcty (ci : Nat) : Nat → FieldType := match ci with
  | 0 => tyX0
  | 1 => tyX1
  | 2 => tyX2
  | 3 => tyX3
  | 4 => tyX4
  | 5 => tyX5
  | 6 => tyX6
  | 7 => tyX7
  | 8 => tyX8
  | 9 => tyX9
  | _ => tyX10
theorem xcl_ty : ∀ (ci : Nat) (r : vw_C), vwCl[ci]? = some r → ∀ k, k < r.2.2 → parseFieldDescriptor (r.2.1 k).2.2.1 = some (xcty ci k) := by
  intro ci r h
  match ci, h with
  | 0, h => cases h; exact tyX0_ok
  | 1, h => cases h; exact tyX1_ok
  | 2, h => cases h; exact tyX2_ok
  | 3, h => cases h; exact tyX3_ok
  | 4, h => cases h; exact tyX4_ok
  | 5, h => cases h; exact tyX5_ok
  | 6, h => cases h; exact tyX6_ok
  | 7, h => cases h; exact tyX7_ok
  | 8, h => cases h; exact tyX8_ok
  | 9, h => cases h; exact tyX9_ok
  | 10, h => cases h; exact tyX10_ok
  | k + 11, h => cases h
theorem xcl_nm : ∀ (ci : Nat) (r : vw_C), vwCl[ci]? = some r → ∀ a, a < r.2.2 → ∀ b, b < r.2.2 → a ≠ b → (r.2.1 a).2.1 ≠ (r.2.1 b).2.1 := by
  intro ci r h
  match ci, h with
  | 0, h => cases h; exact nmX0
  | 1, h => cases h; exact nmX1
  | 2, h => cases h; exact nmX2
  | 3, h => cases h; exact nmX3
  | 4, h => cases h; exact nmX4
  | 5, h => cases h; exact nmX5
  | 6, h => cases h; exact nmX6
  | 7, h => cases h; exact nmX7
  | 8, h => cases h; exact nmX8
  | 9, h => cases h; exact nmX9
  | 10, h => cases h; exact nmX10
  | k + 11, h => cases h
/-- a cell of the world that is an object has its class's slots; a slot that holds a number is an int or a boolean, and not final -/
def xshok (c : Nat) : Bool := match xsh c with
  | .inl (ci, fl) => (match vwCl[ci]? with
    | some r => decide (fl.length = r.2.2) && (List.range fl.length).all (fun k => match fl[k]? with | some none => !(r.2.1 k).2.2.2 && (bif xbool ci k then decide (xcty ci k = .boolean) else decide (xcty ci k = .int)) | _ => true)
    | none => false)
  | .inr (kd, _, _) => Nat.ble kd 3
theorem xsh_ok : (List.range xNC).all xshok = true := by decide +kernel

