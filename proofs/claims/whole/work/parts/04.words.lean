/-! the words behind fields and calls -/
def xfchk (q : Nat × Nat × Nat × Nat × Nat) : Bool := match vwCl[q.2.2.1]? with
  | some r => decide (q.2.2.2.1 < r.2.2) && decide (lw_tbl[q.2.2.2.2]? = some (Cond.fieldLink (xown q.1) q.2.1 r.1 (r.2.1 q.2.2.2.1).2.1 (r.2.1 q.2.2.2.1).2.2.1))
  | none => false
theorem xfT_ok : xfT.all xfchk = true := by decide +kernel
theorem xfT_use {own i a b : Nat} (h : xfT.any (fun q => decide (q.1 = own ∧ q.2.1 = i ∧ q.2.2.1 = a ∧ q.2.2.2.1 = b)) = true) : ∃ r, vwCl[a]? = some r ∧ b < r.2.2 ∧ Cond.fieldLink (xown own) i r.1 (r.2.1 b).2.1 (r.2.1 b).2.2.1 ∈ lwG := by
  obtain ⟨q, hq, h1⟩ := List.any_eq_true.mp h
  obtain ⟨rfl, rfl, rfl, rfl⟩ := of_decide_eq_true h1
  have h2 := List.all_eq_true.mp xfT_ok q hq
  unfold xfchk at h2
  cases hr : vwCl[q.2.2.1]? with
  | none => rw [hr] at h2; cases h2
  | some r =>
    rw [hr] at h2
    obtain ⟨h3, h4⟩ := Bool.and_eq_true_iff.mp h2
    exact ⟨r, rfl, of_decide_eq_true h3, lwG_of (of_decide_eq_true h4) rfl⟩
def xhost : String := "CapitalMoved"
def xmchk (q : Nat × Nat × Nat × Nat × Nat) : Bool := match q.2.2.1 with
  | 3 => decide (lw_tbl[q.2.2.2.2]? = some (Cond.methodLink (xown q.1) q.2.1 arraycopyName))
  | 4 => decide (lw_tbl[q.2.2.2.2]? = some (Cond.methodLink (xown q.1) q.2.1 Lib.Math.abs.name))
  | 5 => decide (lw_tbl[q.2.2.2.2]? = some (Cond.methodLink (xown q.1) q.2.1 Lib.Math.max.name))
  | 6 => decide (lw_tbl[q.2.2.2.2]? = some (Cond.methodLink (xown q.1) q.2.1 Lib.Math.min.name))
  | 2 => (match xms[q.2.2.2.1]? with | some md => decide (tables_1[q.2.2.2.2 - 45]? = some (Cond.methodLinkNest (xown q.1) q.2.1 md.1 xhost)) && xst q.2.2.2.1 | none => false)
  | 1 => (match xms[q.2.2.2.1]? with | some md => decide (lw_tbl[q.2.2.2.2]? = some (Cond.methodLink (xown q.1) q.2.1 md.1)) && xst q.2.2.2.1 | none => false)
  | _ => (match xms[q.2.2.2.1]? with | some md => decide (lw_tbl[q.2.2.2.2]? = some (Cond.methodLink (xown q.1) q.2.1 md.1)) && !(xst q.2.2.2.1) | none => false)
theorem xmT_ok : xmT.all xmchk = true := by decide +kernel
def xnest : List Cond := xmT.filterMap (fun q => bif Nat.beq q.2.2.1 2 then tables_1[q.2.2.2.2 - 45]? else none)
theorem xmT_mem {own i a b : Nat} (h : xmT.any (fun q => decide (q.1 = own ∧ q.2.1 = i ∧ q.2.2.1 = a ∧ q.2.2.2.1 = b)) = true) : ∃ z, (own, i, a, b, z) ∈ xmT ∧ xmchk (own, i, a, b, z) = true := by
  obtain ⟨q, hq, h1⟩ := List.any_eq_true.mp h
  obtain ⟨rfl, rfl, rfl, rfl⟩ := of_decide_eq_true h1
  exact ⟨q.2.2.2.2, hq, List.all_eq_true.mp xmT_ok q hq⟩
theorem xmT_3 {own i b : Nat} (h : xmT.any (fun q => decide (q.1 = own ∧ q.2.1 = i ∧ q.2.2.1 = 3 ∧ q.2.2.2.1 = b)) = true) : Cond.methodLink (xown own) i arraycopyName ∈ lwG := by
  obtain ⟨z, -, h2⟩ := xmT_mem h
  exact lwG_of (of_decide_eq_true h2) rfl
theorem xmT_4 {own i b : Nat} (h : xmT.any (fun q => decide (q.1 = own ∧ q.2.1 = i ∧ q.2.2.1 = 4 ∧ q.2.2.2.1 = b)) = true) : Cond.methodLink (xown own) i Lib.Math.abs.name ∈ lwG := by
  obtain ⟨z, -, h2⟩ := xmT_mem h
  exact lwG_of (of_decide_eq_true h2) rfl
theorem xmT_5 {own i b : Nat} (h : xmT.any (fun q => decide (q.1 = own ∧ q.2.1 = i ∧ q.2.2.1 = 5 ∧ q.2.2.2.1 = b)) = true) : Cond.methodLink (xown own) i Lib.Math.max.name ∈ lwG := by
  obtain ⟨z, -, h2⟩ := xmT_mem h
  exact lwG_of (of_decide_eq_true h2) rfl
theorem xmT_6 {own i b : Nat} (h : xmT.any (fun q => decide (q.1 = own ∧ q.2.1 = i ∧ q.2.2.1 = 6 ∧ q.2.2.2.1 = b)) = true) : Cond.methodLink (xown own) i Lib.Math.min.name ∈ lwG := by
  obtain ⟨z, -, h2⟩ := xmT_mem h
  exact lwG_of (of_decide_eq_true h2) rfl
theorem xmT_1 {own i b : Nat} {md : xMd} (hb : xms[b]? = some md) (h : xmT.any (fun q => decide (q.1 = own ∧ q.2.1 = i ∧ q.2.2.1 = 1 ∧ q.2.2.2.1 = b)) = true) : Cond.methodLink (xown own) i md.1 ∈ lwG ∧ xst b = true := by
  obtain ⟨z, -, h2⟩ := xmT_mem h
  simp only [xmchk, hb] at h2
  obtain ⟨h3, h4⟩ := Bool.and_eq_true_iff.mp h2
  exact ⟨lwG_of (of_decide_eq_true h3) rfl, h4⟩
theorem xmT_0 {own i b : Nat} {md : xMd} (hb : xms[b]? = some md) (h : xmT.any (fun q => decide (q.1 = own ∧ q.2.1 = i ∧ q.2.2.1 = 0 ∧ q.2.2.2.1 = b)) = true) : Cond.methodLink (xown own) i md.1 ∈ lwG ∧ xst b = false := by
  obtain ⟨z, -, h2⟩ := xmT_mem h
  simp only [xmchk, hb] at h2
  obtain ⟨h3, h4⟩ := Bool.and_eq_true_iff.mp h2
  exact ⟨lwG_of (of_decide_eq_true h3) rfl, by simpa using h4⟩
theorem xmT_2 {own i b : Nat} {md : xMd} (hb : xms[b]? = some md) (h : xmT.any (fun q => decide (q.1 = own ∧ q.2.1 = i ∧ q.2.2.1 = 2 ∧ q.2.2.2.1 = b)) = true) : Cond.methodLinkNest (xown own) i md.1 xhost ∈ xnest ∧ xst b = true := by
  obtain ⟨z, h1, h2⟩ := xmT_mem h
  simp only [xmchk, hb] at h2
  obtain ⟨h3, h4⟩ := Bool.and_eq_true_iff.mp h2
  exact ⟨List.mem_filterMap.mpr ⟨_, h1, of_decide_eq_true h3⟩, h4⟩
/-- each method's own words, by their places -/
def xgm (f : Nat) (md : xMd) (q : Nat × Nat × Nat × Nat) : Bool :=
  decide (lw_tbl[q.1]? = some (Cond.code md.1 md.2.1 (xml f) md.2.2.1)) && decide (lw_tbl[q.2.1]? = some (Cond.initialized md.1.cls)) && decide (md.1.cls = xown (xmo f)) && decide (md.1.cls ≠ "java/lang/invoke/MethodHandle") && decide (md.1.cls ≠ "java/lang/invoke/VarHandle") && plainName md.1.cls && decide (xml f ≤ 40) &&
  (bif xst f then decide (lw_tbl[q.2.2.1]? = some (Cond.static md.1)) && decide ((parseMethodDescriptor md.1.desc).map (fun d => d.parameters.length) = some (xnar f))
  else decide (lw_tbl[q.2.2.1]? = some (Cond.instanceMethod md.1)) && decide (lw_tbl[q.2.2.2]? = some (Cond.selects md.1.cls md.1 md.1)) && decide ((parseMethodDescriptor md.1.desc).map (fun d => d.parameters.length + 1) = some (xnar f)))

theorem xgp1 : xgm 1 xmd1 (811, 51, 809, 810) = true := by decide +kernel
theorem xgp2 : xgm 2 xmd2 (827, 51, 826, 19) = true := by decide +kernel
theorem xgp3 : xgm 3 xmd3 (831, 51, 830, 20) = true := by decide +kernel
theorem xgp4 : xgm 4 xmd4 (823, 51, 821, 822) = true := by decide +kernel
theorem xgp5 : xgm 5 xmd5 (840, 52, 838, 839) = true := by decide +kernel
theorem xgp6 : xgm 6 xmd6 (756, 52, 754, 755) = true := by decide +kernel
theorem xgp7 : xgm 7 xmd7 (859, 52, 857, 858) = true := by decide +kernel
theorem xgp8 : xgm 8 xmd8 (454, 49, 452, 453) = true := by decide +kernel
theorem xgp9 : xgm 9 xmd9 (462, 49, 460, 461) = true := by decide +kernel
theorem xgp10 : xgm 10 xmd10 (588, 49, 586, 587) = true := by decide +kernel
theorem xgp11 : xgm 11 xmd11 (600, 49, 599, 4) = true := by decide +kernel
theorem xgp12 : xgm 12 xmd12 (596, 49, 595, 3) = true := by decide +kernel
theorem xgp13 : xgm 13 xmd13 (592, 49, 590, 591) = true := by decide +kernel
theorem xgp14 : xgm 14 xmd14 (765, 49, 763, 764) = true := by decide +kernel
theorem xgp15 : xgm 15 xmd15 (580, 48, 578, 579) = true := by decide +kernel
theorem xgp16 : xgm 16 xmd16 (715, 49, 713, 714) = true := by decide +kernel
theorem xgp17 : xgm 17 xmd17 (724, 50, 722, 723) = true := by decide +kernel
theorem xgp18 : xgm 18 xmd18 (736, 49, 735, 16) = true := by decide +kernel
theorem xgp19 : xgm 19 xmd19 (740, 49, 739, 17) = true := by decide +kernel
theorem xgp20 : xgm 20 xmd20 (731, 49, 730, 15) = true := by decide +kernel
theorem xgp21 : xgm 21 xmd21 (720, 49, 718, 719) = true := by decide +kernel
theorem xgp22 : xgm 22 xmd22 (745, 49, 743, 744) = true := by decide +kernel
theorem xgp23 : xgm 23 xmd23 (749, 49, 747, 748) = true := by decide +kernel
theorem xgp24 : xgm 24 xmd24 (485, 53, 483, 484) = true := by decide +kernel
theorem xgp25 : xgm 25 xmd25 (395, 46, 394, 0) = true := by decide +kernel
theorem xgp26 : xgm 26 xmd26 (518, 53, 516, 517) = true := by decide +kernel
theorem xgp27 : xgm 27 xmd27 (423, 46, 422, 0) = true := by decide +kernel
theorem xgp28 : xgm 28 xmd28 (782, 50, 781, 18) = true := by decide +kernel
theorem xgp29 : xgm 29 xmd29 (777, 50, 775, 776) = true := by decide +kernel
theorem xgp30 : xgm 30 xmd30 (788, 50, 786, 787) = true := by decide +kernel
theorem xgp31 : xgm 31 xmd31 (584, 48, 582, 583) = true := by decide +kernel
theorem xgp32 : xgm 32 xmd32 (576, 55, 574, 575) = true := by decide +kernel
theorem xgp33 : xgm 33 xmd33 (604, 55, 602, 603) = true := by decide +kernel
theorem xgp34 : xgm 34 xmd34 (662, 55, 660, 661) = true := by decide +kernel
theorem xgp35 : xgm 35 xmd35 (622, 55, 620, 621) = true := by decide +kernel
theorem xgp36 : xgm 36 xmd36 (411, 47, 409, 410) = true := by decide +kernel
theorem xgp37 : xgm 37 xmd37 (403, 47, 401, 402) = true := by decide +kernel
theorem xgp38 : xgm 38 xmd38 (416, 47, 414, 415) = true := by decide +kernel
theorem xgp39 : xgm 39 xmd39 (551, 47, 549, 550) = true := by decide +kernel
theorem xgp40 : xgm 40 xmd40 (555, 47, 553, 554) = true := by decide +kernel
theorem xgp41 : xgm 41 xmd41 (547, 47, 545, 546) = true := by decide +kernel
theorem xgp42 : xgm 42 xmd42 (567, 47, 565, 566) = true := by decide +kernel
theorem xgp43 : xgm 43 xmd43 (707, 47, 705, 706) = true := by decide +kernel
theorem xgp44 : xgm 44 xmd44 (687, 47, 685, 686) = true := by decide +kernel
theorem xgp45 : xgm 45 xmd45 (649, 47, 647, 648) = true := by decide +kernel
theorem xgp46 : xgm 46 xmd46 (699, 54, 697, 698) = true := by decide +kernel
theorem xgp47 : xgm 47 xmd47 (572, 54, 570, 571) = true := by decide +kernel
theorem xgp48 : xgm 48 xmd48 (626, 54, 625, 6) = true := by decide +kernel
theorem xgp49 : xgm 49 xmd49 (630, 54, 629, 7) = true := by decide +kernel
theorem xgp50 : xgm 50 xmd50 (616, 54, 615, 0) = true := by decide +kernel
theorem xgp51 : xgm 51 xmd51 (612, 54, 611, 5) = true := by decide +kernel
theorem xgp52 : xgm 52 xmd52 (641, 54, 640, 9) = true := by decide +kernel
theorem xgp53 : xgm 53 xmd53 (637, 54, 636, 8) = true := by decide +kernel
theorem xgp54 : xgm 54 xmd54 (658, 54, 657, 12) = true := by decide +kernel
theorem xgp55 : xgm 55 xmd55 (654, 54, 653, 11) = true := by decide +kernel
theorem xgp56 : xgm 56 xmd56 (670, 54, 669, 14) = true := by decide +kernel
theorem xgp57 : xgm 57 xmd57 (666, 54, 665, 13) = true := by decide +kernel
theorem xgp58 : xgm 58 xmd58 (645, 54, 644, 10) = true := by decide +kernel
theorem xgp59 : xgm 59 xmd59 (608, 54, 606, 607) = true := by decide +kernel
theorem xgp60 : xgm 60 xmd60 (674, 54, 672, 673) = true := by decide +kernel
theorem xgp61 : xgm 61 xmd61 (489, 53, 487, 488) = true := by decide +kernel
theorem xgp62 : xgm 62 xmd62 (501, 53, 499, 500) = true := by decide +kernel
theorem xgp63 : xgm 63 xmd63 (507, 53, 505, 506) = true := by decide +kernel
theorem xgp64 : xgm 64 xmd64 (473, 53, 471, 472) = true := by decide +kernel
theorem xgp65 : xgm 65 xmd65 (493, 53, 491, 492) = true := by decide +kernel
theorem xgp66 : xgm 66 xmd66 (427, 48, 425, 426) = true := by decide +kernel
theorem xgp67 : xgm 67 xmd67 (439, 48, 437, 438) = true := by decide +kernel
theorem xgp68 : xgm 68 xmd68 (399, 46, 398, 0) = true := by decide +kernel
theorem xgp69 : xgm 69 xmd69 (392, 46, 390, 391) = true := by decide +kernel
theorem xgp70 : xgm 70 xmd70 (407, 46, 405, 406) = true := by decide +kernel
theorem xgp71 : xgm 71 xmd71 (420, 46, 418, 419) = true := by decide +kernel
theorem xgp72 : xgm 72 xmd72 (431, 46, 429, 430) = true := by decide +kernel
theorem xgp73 : xgm 73 xmd73 (435, 46, 433, 434) = true := by decide +kernel
theorem xgp74 : xgm 74 xmd74 (446, 46, 445, 0) = true := by decide +kernel
theorem xgp75 : xgm 75 xmd75 (443, 46, 441, 442) = true := by decide +kernel
theorem xgp76 : xgm 76 xmd76 (450, 46, 448, 449) = true := by decide +kernel
theorem xgp77 : xgm 77 xmd77 (458, 46, 456, 457) = true := by decide +kernel
theorem xgp78 : xgm 78 xmd78 (469, 46, 468, 0) = true := by decide +kernel
theorem xgp79 : xgm 79 xmd79 (466, 46, 464, 465) = true := by decide +kernel
theorem xgp80 : xgm 80 xmd80 (481, 46, 480, 1) = true := by decide +kernel
theorem xgp81 : xgm 81 xmd81 (477, 46, 475, 476) = true := by decide +kernel
theorem xgp82 : xgm 82 xmd82 (497, 46, 495, 496) = true := by decide +kernel
theorem xgp83 : xgm 83 xmd83 (514, 46, 512, 513) = true := by decide +kernel
theorem xgp84 : xgm 84 xmd84 (523, 46, 521, 522) = true := by decide +kernel
theorem xgp85 : xgm 85 xmd85 (527, 46, 525, 526) = true := by decide +kernel
theorem xgp86 : xgm 86 xmd86 (531, 46, 529, 530) = true := by decide +kernel
theorem xgp87 : xgm 87 xmd87 (535, 46, 533, 534) = true := by decide +kernel
theorem xgp88 : xgm 88 xmd88 (543, 46, 542, 2) = true := by decide +kernel
theorem xgp89 : xgm 89 xmd89 (539, 46, 537, 538) = true := by decide +kernel
theorem xgp90 : xgm 90 xmd90 (559, 46, 557, 558) = true := by decide +kernel
theorem xgp91 : xgm 91 xmd91 (563, 46, 561, 562) = true := by decide +kernel
theorem xgp92 : xgm 92 xmd92 (679, 46, 677, 678) = true := by decide +kernel
theorem xgp93 : xgm 93 xmd93 (683, 46, 681, 682) = true := by decide +kernel
theorem xgp94 : xgm 94 xmd94 (691, 46, 689, 690) = true := by decide +kernel
theorem xgp95 : xgm 95 xmd95 (695, 46, 693, 694) = true := by decide +kernel
theorem xgp96 : xgm 96 xmd96 (703, 46, 701, 702) = true := by decide +kernel
theorem xgp97 : xgm 97 xmd97 (711, 46, 709, 710) = true := by decide +kernel
theorem xgp98 : xgm 98 xmd98 (760, 46, 758, 759) = true := by decide +kernel
theorem xgp99 : xgm 99 xmd99 (769, 46, 767, 768) = true := by decide +kernel
theorem xgp100 : xgm 100 xmd100 (773, 46, 771, 772) = true := by decide +kernel
theorem xgp101 : xgm 101 xmd101 (792, 46, 790, 791) = true := by decide +kernel
theorem xgp102 : xgm 102 xmd102 (799, 46, 798, 0) = true := by decide +kernel
theorem xgp103 : xgm 103 xmd103 (796, 46, 794, 795) = true := by decide +kernel
theorem xgp104 : xgm 104 xmd104 (803, 46, 801, 802) = true := by decide +kernel
theorem xgp105 : xgm 105 xmd105 (807, 46, 805, 806) = true := by decide +kernel
theorem xgp106 : xgm 106 xmd106 (815, 46, 813, 814) = true := by decide +kernel
theorem xgp107 : xgm 107 xmd107 (819, 46, 817, 818) = true := by decide +kernel
theorem xgp108 : xgm 108 xmd108 (836, 46, 834, 835) = true := by decide +kernel
theorem xgp109 : xgm 109 xmd109 (844, 46, 842, 843) = true := by decide +kernel
theorem xgp110 : xgm 110 xmd110 (848, 46, 846, 847) = true := by decide +kernel
theorem xgp111 : xgm 111 xmd111 (855, 46, 854, 0) = true := by decide +kernel
theorem xgp112 : xgm 112 xmd112 (862, 46, 861, 0) = true := by decide +kernel
theorem xgp113 : xgm 113 xmd113 (852, 46, 850, 851) = true := by decide +kernel
theorem xgp114 : xgm 114 xmd114 (1030, 56, 1029, 21) = true := by decide +kernel
theorem xgp115 : xgm 115 xmd115 (1038, 56, 1037, 22) = true := by decide +kernel
theorem xgp116 : xgm 116 xmd116 (1045, 56, 1044, 0) = true := by decide +kernel
theorem xgp117 : xgm 117 xmd117 (1064, 56, 1063, 0) = true := by decide +kernel
theorem xgp118 : xgm 118 xmd118 (1075, 56, 1074, 0) = true := by decide +kernel
theorem xgp119 : xgm 119 xmd119 (1026, 56, 1024, 1025) = true := by decide +kernel
theorem xgp120 : xgm 120 xmd120 (1034, 56, 1032, 1033) = true := by decide +kernel
theorem xgp121 : xgm 121 xmd121 (1042, 56, 1040, 1041) = true := by decide +kernel
theorem xgp122 : xgm 122 xmd122 (1049, 56, 1047, 1048) = true := by decide +kernel
theorem xgp123 : xgm 123 xmd123 (1053, 56, 1051, 1052) = true := by decide +kernel
theorem xgp124 : xgm 124 xmd124 (1057, 56, 1055, 1056) = true := by decide +kernel
theorem xgp125 : xgm 125 xmd125 (1061, 56, 1059, 1060) = true := by decide +kernel
theorem xgp126 : xgm 126 xmd126 (1068, 56, 1066, 1067) = true := by decide +kernel
theorem xgp127 : xgm 127 xmd127 (1072, 56, 1070, 1071) = true := by decide +kernel
theorem xgp128 : xgm 128 xmd128 (1079, 56, 1077, 1078) = true := by decide +kernel
theorem xgp129 : xgm 129 xmd129 (1083, 56, 1081, 1082) = true := by decide +kernel
theorem xgp130 : xgm 130 xmd130 (1087, 56, 1085, 1086) = true := by decide +kernel
theorem xgp131 : xgm 131 xmd131 (1091, 56, 1089, 1090) = true := by decide +kernel
theorem xgp132 : xgm 132 xmd132 (1095, 56, 1093, 1094) = true := by decide +kernel
theorem xgp133 : xgm 133 xmd133 (1099, 56, 1097, 1098) = true := by decide +kernel
theorem xgp134 : xgm 134 xmd134 (1103, 56, 1101, 1102) = true := by decide +kernel
theorem xgp135 : xgm 135 xmd135 (1111, 56, 1110, 23) = true := by decide +kernel
theorem xgp136 : xgm 136 xmd136 (1107, 56, 1105, 1106) = true := by decide +kernel
theorem xgp137 : xgm 137 xmd137 (1115, 56, 1113, 1114) = true := by decide +kernel
theorem xgp138 : xgm 138 xmd138 (1147, 56, 1146, 30) = true := by decide +kernel
theorem xgp139 : xgm 139 xmd139 (1143, 56, 1142, 29) = true := by decide +kernel
theorem xgp140 : xgm 140 xmd140 (1139, 56, 1138, 28) = true := by decide +kernel
theorem xgp141 : xgm 141 xmd141 (1155, 56, 1154, 32) = true := by decide +kernel
theorem xgp142 : xgm 142 xmd142 (1127, 56, 1126, 25) = true := by decide +kernel
theorem xgp143 : xgm 143 xmd143 (1135, 56, 1134, 27) = true := by decide +kernel
theorem xgp144 : xgm 144 xmd144 (1131, 56, 1130, 26) = true := by decide +kernel
theorem xgp145 : xgm 145 xmd145 (1159, 56, 1158, 33) = true := by decide +kernel
theorem xgp146 : xgm 146 xmd146 (1151, 56, 1150, 31) = true := by decide +kernel
theorem xgp147 : xgm 147 xmd147 (1167, 56, 1166, 35) = true := by decide +kernel
theorem xgp148 : xgm 148 xmd148 (1175, 56, 1174, 37) = true := by decide +kernel
theorem xgp149 : xgm 149 xmd149 (1171, 56, 1170, 36) = true := by decide +kernel
theorem xgp150 : xgm 150 xmd150 (1163, 56, 1162, 34) = true := by decide +kernel
theorem xgp151 : xgm 151 xmd151 (1123, 56, 1122, 24) = true := by decide +kernel
theorem xgp152 : xgm 152 xmd152 (1119, 56, 1117, 1118) = true := by decide +kernel
theorem xgp153 : xgm 153 xmd153 (1179, 56, 1177, 1178) = true := by decide +kernel
theorem xgp154 : xgm 154 xmd154 (1183, 56, 1181, 1182) = true := by decide +kernel
theorem xgp155 : xgm 155 xmd155 (1187, 56, 1185, 1186) = true := by decide +kernel
theorem xgp156 : xgm 156 xmd156 (1191, 56, 1189, 1190) = true := by decide +kernel
theorem xgp157 : xgm 157 xmd157 (1195, 56, 1193, 1194) = true := by decide +kernel
theorem xgp158 : xgm 158 xmd158 (1211, 56, 1210, 40) = true := by decide +kernel
theorem xgp159 : xgm 159 xmd159 (1207, 56, 1206, 39) = true := by decide +kernel
theorem xgp160 : xgm 160 xmd160 (1203, 56, 1202, 38) = true := by decide +kernel
theorem xgp161 : xgm 161 xmd161 (1199, 56, 1197, 1198) = true := by decide +kernel
theorem xgp162 : xgm 162 xmd162 (1215, 56, 1213, 1214) = true := by decide +kernel
theorem xgp163 : xgm 163 xmd163 (1219, 56, 1217, 1218) = true := by decide +kernel
theorem xgp164 : xgm 164 xmd164 (1231, 56, 1230, 42) = true := by decide +kernel
theorem xgp165 : xgm 165 xmd165 (1235, 56, 1234, 43) = true := by decide +kernel
theorem xgp166 : xgm 166 xmd166 (1227, 56, 1226, 41) = true := by decide +kernel
theorem xgp167 : xgm 167 xmd167 (1239, 56, 1238, 44) = true := by decide +kernel
theorem xgp168 : xgm 168 xmd168 (1223, 56, 1221, 1222) = true := by decide +kernel
theorem xgp169 : xgm 169 xmd169 (1243, 56, 1241, 1242) = true := by decide +kernel
theorem xgp170 : xgm 170 xmd170 (1247, 56, 1245, 1246) = true := by decide +kernel
theorem xgp171 : xgm 171 xmd171 (1251, 56, 1249, 1250) = true := by decide +kernel
theorem xgp172 : xgm 172 xmd172 (1255, 56, 1253, 1254) = true := by decide +kernel
theorem xgp173 : xgm 173 xmd173 (1259, 56, 1257, 1258) = true := by decide +kernel
theorem xgp174 : xgm 174 xmd174 (1266, 56, 1265, 0) = true := by decide +kernel
theorem xgp175 : xgm 175 xmd175 (1263, 56, 1261, 1262) = true := by decide +kernel
theorem xgp176 : xgm 176 xmd176 (1270, 56, 1268, 1269) = true := by decide +kernel
theorem xgp177 : xgm 177 xmd177 (1274, 56, 1272, 1273) = true := by decide +kernel
theorem xgp178 : xgm 178 xmd178 (1278, 56, 1276, 1277) = true := by decide +kernel
theorem xgp179 : xgm 179 xmd179 (1282, 56, 1280, 1281) = true := by decide +kernel
theorem xms_len : xms.length = 180 := by decide +kernel
theorem xgm_use {f : Nat} (h0 : f ≠ 0) {md : xMd} (hf : xms[f]? = some md) : ∃ q, xgm f md q = true := by
  match f, hf with
  | 0, _ => exact absurd rfl h0
  | 1, hf => cases hf; exact ⟨_, xgp1⟩
  | 2, hf => cases hf; exact ⟨_, xgp2⟩
  | 3, hf => cases hf; exact ⟨_, xgp3⟩
  | 4, hf => cases hf; exact ⟨_, xgp4⟩
  | 5, hf => cases hf; exact ⟨_, xgp5⟩
  | 6, hf => cases hf; exact ⟨_, xgp6⟩
  | 7, hf => cases hf; exact ⟨_, xgp7⟩
  | 8, hf => cases hf; exact ⟨_, xgp8⟩
  | 9, hf => cases hf; exact ⟨_, xgp9⟩
  | 10, hf => cases hf; exact ⟨_, xgp10⟩
  | 11, hf => cases hf; exact ⟨_, xgp11⟩
  | 12, hf => cases hf; exact ⟨_, xgp12⟩
  | 13, hf => cases hf; exact ⟨_, xgp13⟩
  | 14, hf => cases hf; exact ⟨_, xgp14⟩
  | 15, hf => cases hf; exact ⟨_, xgp15⟩
  | 16, hf => cases hf; exact ⟨_, xgp16⟩
  | 17, hf => cases hf; exact ⟨_, xgp17⟩
  | 18, hf => cases hf; exact ⟨_, xgp18⟩
  | 19, hf => cases hf; exact ⟨_, xgp19⟩
  | 20, hf => cases hf; exact ⟨_, xgp20⟩
  | 21, hf => cases hf; exact ⟨_, xgp21⟩
  | 22, hf => cases hf; exact ⟨_, xgp22⟩
  | 23, hf => cases hf; exact ⟨_, xgp23⟩
  | 24, hf => cases hf; exact ⟨_, xgp24⟩
  | 25, hf => cases hf; exact ⟨_, xgp25⟩
  | 26, hf => cases hf; exact ⟨_, xgp26⟩
  | 27, hf => cases hf; exact ⟨_, xgp27⟩
  | 28, hf => cases hf; exact ⟨_, xgp28⟩
  | 29, hf => cases hf; exact ⟨_, xgp29⟩
  | 30, hf => cases hf; exact ⟨_, xgp30⟩
  | 31, hf => cases hf; exact ⟨_, xgp31⟩
  | 32, hf => cases hf; exact ⟨_, xgp32⟩
  | 33, hf => cases hf; exact ⟨_, xgp33⟩
  | 34, hf => cases hf; exact ⟨_, xgp34⟩
  | 35, hf => cases hf; exact ⟨_, xgp35⟩
  | 36, hf => cases hf; exact ⟨_, xgp36⟩
  | 37, hf => cases hf; exact ⟨_, xgp37⟩
  | 38, hf => cases hf; exact ⟨_, xgp38⟩
  | 39, hf => cases hf; exact ⟨_, xgp39⟩
  | 40, hf => cases hf; exact ⟨_, xgp40⟩
  | 41, hf => cases hf; exact ⟨_, xgp41⟩
  | 42, hf => cases hf; exact ⟨_, xgp42⟩
  | 43, hf => cases hf; exact ⟨_, xgp43⟩
  | 44, hf => cases hf; exact ⟨_, xgp44⟩
  | 45, hf => cases hf; exact ⟨_, xgp45⟩
  | 46, hf => cases hf; exact ⟨_, xgp46⟩
  | 47, hf => cases hf; exact ⟨_, xgp47⟩
  | 48, hf => cases hf; exact ⟨_, xgp48⟩
  | 49, hf => cases hf; exact ⟨_, xgp49⟩
  | 50, hf => cases hf; exact ⟨_, xgp50⟩
  | 51, hf => cases hf; exact ⟨_, xgp51⟩
  | 52, hf => cases hf; exact ⟨_, xgp52⟩
  | 53, hf => cases hf; exact ⟨_, xgp53⟩
  | 54, hf => cases hf; exact ⟨_, xgp54⟩
  | 55, hf => cases hf; exact ⟨_, xgp55⟩
  | 56, hf => cases hf; exact ⟨_, xgp56⟩
  | 57, hf => cases hf; exact ⟨_, xgp57⟩
  | 58, hf => cases hf; exact ⟨_, xgp58⟩
  | 59, hf => cases hf; exact ⟨_, xgp59⟩
  | 60, hf => cases hf; exact ⟨_, xgp60⟩
  | 61, hf => cases hf; exact ⟨_, xgp61⟩
  | 62, hf => cases hf; exact ⟨_, xgp62⟩
  | 63, hf => cases hf; exact ⟨_, xgp63⟩
  | 64, hf => cases hf; exact ⟨_, xgp64⟩
  | 65, hf => cases hf; exact ⟨_, xgp65⟩
  | 66, hf => cases hf; exact ⟨_, xgp66⟩
  | 67, hf => cases hf; exact ⟨_, xgp67⟩
  | 68, hf => cases hf; exact ⟨_, xgp68⟩
  | 69, hf => cases hf; exact ⟨_, xgp69⟩
  | 70, hf => cases hf; exact ⟨_, xgp70⟩
  | 71, hf => cases hf; exact ⟨_, xgp71⟩
  | 72, hf => cases hf; exact ⟨_, xgp72⟩
  | 73, hf => cases hf; exact ⟨_, xgp73⟩
  | 74, hf => cases hf; exact ⟨_, xgp74⟩
  | 75, hf => cases hf; exact ⟨_, xgp75⟩
  | 76, hf => cases hf; exact ⟨_, xgp76⟩
  | 77, hf => cases hf; exact ⟨_, xgp77⟩
  | 78, hf => cases hf; exact ⟨_, xgp78⟩
  | 79, hf => cases hf; exact ⟨_, xgp79⟩
  | 80, hf => cases hf; exact ⟨_, xgp80⟩
  | 81, hf => cases hf; exact ⟨_, xgp81⟩
  | 82, hf => cases hf; exact ⟨_, xgp82⟩
  | 83, hf => cases hf; exact ⟨_, xgp83⟩
  | 84, hf => cases hf; exact ⟨_, xgp84⟩
  | 85, hf => cases hf; exact ⟨_, xgp85⟩
  | 86, hf => cases hf; exact ⟨_, xgp86⟩
  | 87, hf => cases hf; exact ⟨_, xgp87⟩
  | 88, hf => cases hf; exact ⟨_, xgp88⟩
  | 89, hf => cases hf; exact ⟨_, xgp89⟩
  | 90, hf => cases hf; exact ⟨_, xgp90⟩
  | 91, hf => cases hf; exact ⟨_, xgp91⟩
  | 92, hf => cases hf; exact ⟨_, xgp92⟩
  | 93, hf => cases hf; exact ⟨_, xgp93⟩
  | 94, hf => cases hf; exact ⟨_, xgp94⟩
  | 95, hf => cases hf; exact ⟨_, xgp95⟩
  | 96, hf => cases hf; exact ⟨_, xgp96⟩
  | 97, hf => cases hf; exact ⟨_, xgp97⟩
  | 98, hf => cases hf; exact ⟨_, xgp98⟩
  | 99, hf => cases hf; exact ⟨_, xgp99⟩
  | 100, hf => cases hf; exact ⟨_, xgp100⟩
  | 101, hf => cases hf; exact ⟨_, xgp101⟩
  | 102, hf => cases hf; exact ⟨_, xgp102⟩
  | 103, hf => cases hf; exact ⟨_, xgp103⟩
  | 104, hf => cases hf; exact ⟨_, xgp104⟩
  | 105, hf => cases hf; exact ⟨_, xgp105⟩
  | 106, hf => cases hf; exact ⟨_, xgp106⟩
  | 107, hf => cases hf; exact ⟨_, xgp107⟩
  | 108, hf => cases hf; exact ⟨_, xgp108⟩
  | 109, hf => cases hf; exact ⟨_, xgp109⟩
  | 110, hf => cases hf; exact ⟨_, xgp110⟩
  | 111, hf => cases hf; exact ⟨_, xgp111⟩
  | 112, hf => cases hf; exact ⟨_, xgp112⟩
  | 113, hf => cases hf; exact ⟨_, xgp113⟩
  | 114, hf => cases hf; exact ⟨_, xgp114⟩
  | 115, hf => cases hf; exact ⟨_, xgp115⟩
  | 116, hf => cases hf; exact ⟨_, xgp116⟩
  | 117, hf => cases hf; exact ⟨_, xgp117⟩
  | 118, hf => cases hf; exact ⟨_, xgp118⟩
  | 119, hf => cases hf; exact ⟨_, xgp119⟩
  | 120, hf => cases hf; exact ⟨_, xgp120⟩
  | 121, hf => cases hf; exact ⟨_, xgp121⟩
  | 122, hf => cases hf; exact ⟨_, xgp122⟩
  | 123, hf => cases hf; exact ⟨_, xgp123⟩
  | 124, hf => cases hf; exact ⟨_, xgp124⟩
  | 125, hf => cases hf; exact ⟨_, xgp125⟩
  | 126, hf => cases hf; exact ⟨_, xgp126⟩
  | 127, hf => cases hf; exact ⟨_, xgp127⟩
  | 128, hf => cases hf; exact ⟨_, xgp128⟩
  | 129, hf => cases hf; exact ⟨_, xgp129⟩
  | 130, hf => cases hf; exact ⟨_, xgp130⟩
  | 131, hf => cases hf; exact ⟨_, xgp131⟩
  | 132, hf => cases hf; exact ⟨_, xgp132⟩
  | 133, hf => cases hf; exact ⟨_, xgp133⟩
  | 134, hf => cases hf; exact ⟨_, xgp134⟩
  | 135, hf => cases hf; exact ⟨_, xgp135⟩
  | 136, hf => cases hf; exact ⟨_, xgp136⟩
  | 137, hf => cases hf; exact ⟨_, xgp137⟩
  | 138, hf => cases hf; exact ⟨_, xgp138⟩
  | 139, hf => cases hf; exact ⟨_, xgp139⟩
  | 140, hf => cases hf; exact ⟨_, xgp140⟩
  | 141, hf => cases hf; exact ⟨_, xgp141⟩
  | 142, hf => cases hf; exact ⟨_, xgp142⟩
  | 143, hf => cases hf; exact ⟨_, xgp143⟩
  | 144, hf => cases hf; exact ⟨_, xgp144⟩
  | 145, hf => cases hf; exact ⟨_, xgp145⟩
  | 146, hf => cases hf; exact ⟨_, xgp146⟩
  | 147, hf => cases hf; exact ⟨_, xgp147⟩
  | 148, hf => cases hf; exact ⟨_, xgp148⟩
  | 149, hf => cases hf; exact ⟨_, xgp149⟩
  | 150, hf => cases hf; exact ⟨_, xgp150⟩
  | 151, hf => cases hf; exact ⟨_, xgp151⟩
  | 152, hf => cases hf; exact ⟨_, xgp152⟩
  | 153, hf => cases hf; exact ⟨_, xgp153⟩
  | 154, hf => cases hf; exact ⟨_, xgp154⟩
  | 155, hf => cases hf; exact ⟨_, xgp155⟩
  | 156, hf => cases hf; exact ⟨_, xgp156⟩
  | 157, hf => cases hf; exact ⟨_, xgp157⟩
  | 158, hf => cases hf; exact ⟨_, xgp158⟩
  | 159, hf => cases hf; exact ⟨_, xgp159⟩
  | 160, hf => cases hf; exact ⟨_, xgp160⟩
  | 161, hf => cases hf; exact ⟨_, xgp161⟩
  | 162, hf => cases hf; exact ⟨_, xgp162⟩
  | 163, hf => cases hf; exact ⟨_, xgp163⟩
  | 164, hf => cases hf; exact ⟨_, xgp164⟩
  | 165, hf => cases hf; exact ⟨_, xgp165⟩
  | 166, hf => cases hf; exact ⟨_, xgp166⟩
  | 167, hf => cases hf; exact ⟨_, xgp167⟩
  | 168, hf => cases hf; exact ⟨_, xgp168⟩
  | 169, hf => cases hf; exact ⟨_, xgp169⟩
  | 170, hf => cases hf; exact ⟨_, xgp170⟩
  | 171, hf => cases hf; exact ⟨_, xgp171⟩
  | 172, hf => cases hf; exact ⟨_, xgp172⟩
  | 173, hf => cases hf; exact ⟨_, xgp173⟩
  | 174, hf => cases hf; exact ⟨_, xgp174⟩
  | 175, hf => cases hf; exact ⟨_, xgp175⟩
  | 176, hf => cases hf; exact ⟨_, xgp176⟩
  | 177, hf => cases hf; exact ⟨_, xgp177⟩
  | 178, hf => cases hf; exact ⟨_, xgp178⟩
  | 179, hf => cases hf; exact ⟨_, xgp179⟩
  | k + 180, hf => cases hf
/-- what is known of a method that is called -/
theorem xgm_all {f : Nat} (h0 : f ≠ 0) {md : xMd} (hf : xms[f]? = some md) : Cond.code md.1 md.2.1 (xml f) md.2.2.1 ∈ lwG ∧ Cond.initialized md.1.cls ∈ lwG ∧ md.1.cls = xown (xmo f) ∧ md.1.cls ≠ "java/lang/invoke/MethodHandle" ∧ md.1.cls ≠ "java/lang/invoke/VarHandle" ∧ plainName md.1.cls = true ∧ xml f ≤ 40 := by
  obtain ⟨q, h⟩ := xgm_use h0 hf
  unfold xgm at h
  simp only [Bool.and_eq_true, decide_eq_true_eq] at h
  obtain ⟨⟨⟨⟨⟨⟨⟨h1, h2⟩, h3⟩, h4⟩, h5⟩, h6⟩, h7⟩, -⟩ := h
  exact ⟨lwG_of h1 rfl, lwG_of h2 rfl, h3, h4, h5, h6, h7⟩
theorem xgm_st {f : Nat} (h0 : f ≠ 0) {md : xMd} (hf : xms[f]? = some md) (hs : xst f = true) : Cond.static md.1 ∈ lwG ∧ (parseMethodDescriptor md.1.desc).map (fun d => d.parameters.length) = some (xnar f) := by
  obtain ⟨q, h⟩ := xgm_use h0 hf
  unfold xgm at h
  simp only [Bool.and_eq_true, decide_eq_true_eq, hs, cond_true] at h
  exact ⟨lwG_of h.2.1 rfl, h.2.2⟩
theorem xgm_in {f : Nat} (h0 : f ≠ 0) {md : xMd} (hf : xms[f]? = some md) (hs : xst f = false) : Cond.instanceMethod md.1 ∈ lwG ∧ Cond.selects md.1.cls md.1 md.1 ∈ lwG ∧ (parseMethodDescriptor md.1.desc).map (fun d => d.parameters.length + 1) = some (xnar f) := by
  obtain ⟨q, h⟩ := xgm_use h0 hf
  unfold xgm at h
  simp only [Bool.and_eq_true, decide_eq_true_eq, hs, cond_false] at h
  exact ⟨lwG_of h.2.1.1 rfl, lwG_of h.2.1.2 rfl, h.2.2⟩
theorem lwG_pos (ws : List Cond) (ps : List Nat) (hp : ws = ps.filterMap (fun i => lw_tbl[i]?)) (h : ws.all goodWord = true) : ∀ w ∈ ws, w ∈ lwG := by
  intro w hw
  have h1 := List.all_eq_true.mp h w hw
  rw [hp] at hw
  obtain ⟨i, -, hi⟩ := List.mem_filterMap.mp hw
  exact lwG_of hi h1
/-- the classes' own words -/
theorem xcl_in : ∀ (ci : Nat) (r : vw_C), vwCl[ci]? = some r → ∀ w ∈ u_ws r.1 r.2.1 r.2.2, w ∈ lwG := by
  intro ci r h
  match ci, h with
  | 0, h => cases h; exact lwG_pos (u_ws RX0 TX0 3) [233, 235, 237] (by decide +kernel) (by decide +kernel)
  | 1, h => cases h; exact lwG_pos (u_ws RX1 TX1 2) [250, 252] (by decide +kernel) (by decide +kernel)
  | 2, h => cases h; exact lwG_pos (u_ws RX2 TX2 11) [162, 164, 166, 168, 170, 172, 174, 176, 178, 180, 182] (by decide +kernel) (by decide +kernel)
  | 3, h => cases h; exact lwG_pos (u_ws RX3 TX3 9) [203, 205, 207, 209, 211, 213, 215, 217, 219] (by decide +kernel) (by decide +kernel)
  | 4, h => cases h; exact lwG_pos (u_ws RX4 TX4 11) [301, 303, 305, 307, 309, 311, 313, 315, 317, 319, 321] (by decide +kernel) (by decide +kernel)
  | 5, h => cases h; exact lwG_pos (u_ws RX5 TX5 7) [93, 95, 97, 99, 101, 103, 105] (by decide +kernel) (by decide +kernel)
  | 6, h => cases h; exact lwG_pos (u_ws RX6 TX6 10) [334, 336, 338, 340, 342, 344, 346, 348, 350, 352] (by decide +kernel) (by decide +kernel)
  | 7, h => cases h; exact lwG_pos (u_ws RX7 TX7 3) [270, 272, 274] (by decide +kernel) (by decide +kernel)
  | 8, h => cases h; exact lwG_pos (u_ws RX8 TX8 5) [125, 127, 129, 131, 133] (by decide +kernel) (by decide +kernel)
  | 9, h => cases h; exact lwG_pos (u_ws RX9 TX9 11) [366, 368, 370, 372, 374, 376, 378, 380, 382, 384, 386] (by decide +kernel) (by decide +kernel)
  | 10, h => cases h; exact lwG_pos (u_ws RX10 TX10 51) [920, 922, 924, 926, 928, 930, 932, 934, 936, 938, 940, 942, 944, 946, 948, 950, 952, 954, 956, 958, 960, 962, 964, 966, 968, 970, 972, 974, 976, 978, 980, 982, 984, 986, 988, 990, 992, 994, 996, 998, 1000, 1002, 1004, 1006, 1008, 1010, 1012, 1014, 1016, 1018, 1020] (by decide +kernel) (by decide +kernel)
  | k + 11, h => cases h
def xcty (ci : Nat) : Nat → FieldType := match ci with
  | 0 => tyX0
  | 1 => tyX1
  | 2 => tyX2
  | 3 => tyX3
  | 4 => tyX4
  | 5 => tyX5
  | 6 => tyX6
  | 7 => tyX7
  | 8 => tyX8
  | 9 => tyX9
  | _ => tyX10
theorem xcl_ty : ∀ (ci : Nat) (r : vw_C), vwCl[ci]? = some r → ∀ k, k < r.2.2 → parseFieldDescriptor (r.2.1 k).2.2.1 = some (xcty ci k) := by
  intro ci r h
  match ci, h with
  | 0, h => cases h; exact tyX0_ok
  | 1, h => cases h; exact tyX1_ok
  | 2, h => cases h; exact tyX2_ok
  | 3, h => cases h; exact tyX3_ok
  | 4, h => cases h; exact tyX4_ok
  | 5, h => cases h; exact tyX5_ok
  | 6, h => cases h; exact tyX6_ok
  | 7, h => cases h; exact tyX7_ok
  | 8, h => cases h; exact tyX8_ok
  | 9, h => cases h; exact tyX9_ok
  | 10, h => cases h; exact tyX10_ok
  | k + 11, h => cases h
theorem xcl_nm : ∀ (ci : Nat) (r : vw_C), vwCl[ci]? = some r → ∀ a, a < r.2.2 → ∀ b, b < r.2.2 → a ≠ b → (r.2.1 a).2.1 ≠ (r.2.1 b).2.1 := by
  intro ci r h
  match ci, h with
  | 0, h => cases h; exact nmX0
  | 1, h => cases h; exact nmX1
  | 2, h => cases h; exact nmX2
  | 3, h => cases h; exact nmX3
  | 4, h => cases h; exact nmX4
  | 5, h => cases h; exact nmX5
  | 6, h => cases h; exact nmX6
  | 7, h => cases h; exact nmX7
  | 8, h => cases h; exact nmX8
  | 9, h => cases h; exact nmX9
  | 10, h => cases h; exact nmX10
  | k + 11, h => cases h
/-- a cell of the world that is an object has its class's slots; a slot that holds a number is an int or a boolean, and not final -/
def xshok (c : Nat) : Bool := match xsh c with
  | .inl (ci, fl) => (match vwCl[ci]? with
    | some r => decide (fl.length = r.2.2) && (List.range fl.length).all (fun k => match fl[k]? with | some none => !(r.2.1 k).2.2.2 && (bif xbool ci k then decide (xcty ci k = .boolean) else decide (xcty ci k = .int)) | _ => true)
    | none => false)
  | .inr (kd, _, _) => Nat.ble kd 3
theorem xsh_ok : (List.range xNC).all xshok = true := by decide +kernel

