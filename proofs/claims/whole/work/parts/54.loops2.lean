/-- Offices.countWithWave -/
theorem t43 (d : Nat) (S : xS) (r : Option Value × xS) {n : Nat} (hn : n ≤ 10) (hc : S.1 2 0 = nI n) : xX d 43 0 [(0, .ref 2)] [] S r ↔ r = (some (.int (xsum (fun k => if S.1 5 k = 5 then 0 else 1) n)), S) := by
  have key := xX_loop (d := d) (f := 43) (pc := 4) (st := []) (fun j => ([(0, .ref 2), (1, .int (xsum (fun k => if S.1 5 k = 5 then 0 else 1) j)), (2, .int (nI j))], S)) n (fun j hj r => by
    refine (b43_4 _ _ _ _ _).trans ?_
    rw [hc, if_pos (nI_lt hj (by omega))]
    have hv : vp_in (nI j) 10 := vp_in_nI (by omega) (by omega)
    have hcl : (nI j).toNatClampNeg = j := nI_clamp (by omega)
    by_cases c1 : S.1 5 j = 5 <;> simp (decide := true) only [b43_12, b43_25, b43_22, hv, hcl, c1, ↓reduceIte, xtl, exists_eq_left, true_and, xbit_0, xbit_1, xsum, nI_1, xadd0]) r
  rw [b43_0]
  refine key.trans ?_
  refine (b43_4 _ _ _ _ _).trans ?_
  rw [hc, if_neg (nI_nlt (Nat.le_refl n) (by omega)), b43_31]
/-- Files.countOnRoad -/
theorem t7 (d : Nat) (S : xS) (r : Option Value × xS) {n : Nat} (hn : n ≤ 12) (hc : S.1 26 0 = nI n) : xX d 7 0 [(0, .ref 26)] [] S r ↔ r = (some (.int (xsum (fun k => if S.1 27 k = 1 then 1 else 0) n)), S) := by
  have key := xX_loop (d := d) (f := 7) (pc := 4) (st := []) (fun j => ([(0, .ref 26), (1, .int (xsum (fun k => if S.1 27 k = 1 then 1 else 0) j)), (2, .int (nI j))], S)) n (fun j hj r => by
    refine (b7_4 _ _ _ _ _).trans ?_
    rw [hc, if_pos (nI_lt hj (by omega))]
    have hv : vp_in (nI j) 12 := vp_in_nI (by omega) (by omega)
    have hcl : (nI j).toNatClampNeg = j := nI_clamp (by omega)
    by_cases c1 : S.1 27 j = 1 <;> simp (decide := true) only [b7_12, b7_22, b7_25, hv, hcl, c1, ↓reduceIte, xtl, exists_eq_left, true_and, xbit_0, xbit_1, xsum, nI_1, xadd0]) r
  rw [b7_0]
  refine key.trans ?_
  refine (b7_4 _ _ _ _ _).trans ?_
  rw [hc, if_neg (nI_nlt (Nat.le_refl n) (by omega)), b7_31]
/-- countTrue -/
theorem t111_7 (d : Nat) (S : xS) (r : Option Value × xS) : xX d 111 0 [(0, .ref 7)] [] S r ↔ r = (some (.int (xsum (fun k => if S.1 7 k = 0 then 0 else 1) 10)), S) := by
  have key := xX_loop (d := d) (f := 111) (pc := 4) (st := []) (fun j => ([(0, .ref 7), (1, .int (xsum (fun k => if S.1 7 k = 0 then 0 else 1) j)), (2, .int (nI j))], S)) 10 (fun j hj r => by
    refine (b111_7_4 _ _ _ _ _).trans ?_
    rw [show (10 : Int32) = nI 10 by decide, if_pos (nI_lt hj (by omega))]
    have hv : vp_in (nI j) 10 := vp_in_nI (by omega) (by omega)
    have hcl : (nI j).toNatClampNeg = j := nI_clamp (by omega)
    by_cases c1 : S.1 7 j = 0 <;> simp (decide := true) only [b111_7_10, b111_7_19, b111_7_16, hv, hcl, c1, ↓reduceIte, xtl, exists_eq_left, true_and, xbit_0, xbit_1, xsum, nI_1, xadd0]) r
  rw [b111_7_0]
  refine key.trans ?_
  refine (b111_7_4 _ _ _ _ _).trans ?_
  rw [show (10 : Int32) = nI 10 by decide, if_neg (nI_nlt (Nat.le_refl 10) (by omega)), b111_7_25]
/-- countTrue -/
theorem t111_6 (d : Nat) (S : xS) (r : Option Value × xS) : xX d 111 0 [(0, .ref 6)] [] S r ↔ r = (some (.int (xsum (fun k => if S.1 6 k = 0 then 0 else 1) 10)), S) := by
  have key := xX_loop (d := d) (f := 111) (pc := 4) (st := []) (fun j => ([(0, .ref 6), (1, .int (xsum (fun k => if S.1 6 k = 0 then 0 else 1) j)), (2, .int (nI j))], S)) 10 (fun j hj r => by
    refine (b111_6_4 _ _ _ _ _).trans ?_
    rw [show (10 : Int32) = nI 10 by decide, if_pos (nI_lt hj (by omega))]
    have hv : vp_in (nI j) 10 := vp_in_nI (by omega) (by omega)
    have hcl : (nI j).toNatClampNeg = j := nI_clamp (by omega)
    by_cases c1 : S.1 6 j = 0 <;> simp (decide := true) only [b111_6_10, b111_6_19, b111_6_16, hv, hcl, c1, ↓reduceIte, xtl, exists_eq_left, true_and, xbit_0, xbit_1, xsum, nI_1, xadd0]) r
  rw [b111_6_0]
  refine key.trans ?_
  refine (b111_6_4 _ _ _ _ _).trans ?_
  rw [show (10 : Int32) = nI 10 by decide, if_neg (nI_nlt (Nat.le_refl 10) (by omega)), b111_6_25]
/-- countTrue -/
theorem t111_23 (d : Nat) (S : xS) (r : Option Value × xS) : xX d 111 0 [(0, .ref 23)] [] S r ↔ r = (some (.int (xsum (fun k => if S.1 23 k = 0 then 0 else 1) 6)), S) := by
  have key := xX_loop (d := d) (f := 111) (pc := 4) (st := []) (fun j => ([(0, .ref 23), (1, .int (xsum (fun k => if S.1 23 k = 0 then 0 else 1) j)), (2, .int (nI j))], S)) 6 (fun j hj r => by
    refine (b111_23_4 _ _ _ _ _).trans ?_
    rw [show (6 : Int32) = nI 6 by decide, if_pos (nI_lt hj (by omega))]
    have hv : vp_in (nI j) 6 := vp_in_nI (by omega) (by omega)
    have hcl : (nI j).toNatClampNeg = j := nI_clamp (by omega)
    by_cases c1 : S.1 23 j = 0 <;> simp (decide := true) only [b111_23_10, b111_23_19, b111_23_16, hv, hcl, c1, ↓reduceIte, xtl, exists_eq_left, true_and, xbit_0, xbit_1, xsum, nI_1, xadd0]) r
  rw [b111_23_0]
  refine key.trans ?_
  refine (b111_23_4 _ _ _ _ _).trans ?_
  rw [show (6 : Int32) = nI 6 by decide, if_neg (nI_nlt (Nat.le_refl 6) (by omega)), b111_23_25]
/-- reference: freeOnes -/
def xfreeM (S : xS) (k : Nat) : Int32 := if S.1 59 k = 0 then (if S.1 58 k = 0 then 1 else 0) else 0
theorem t151 (d : Nat) (S : xS) (r : Option Value × xS) {n : Nat} (hn : n ≤ 10) (hc : S.1 54 0 = nI n) : xX (d + 1) 151 0 [(0, .ref 54)] [] S r ↔ r = (some (.int (xsum (xfreeM S) n)), S) := by
  have key := xX_loop (d := (d + 1)) (f := 151) (pc := 4) (st := []) (fun j => ([(0, .ref 54), (1, .int (xsum (xfreeM S) j)), (2, .int (nI j))], S)) n (fun j hj r => by
    refine (b151_4 _ _ _ _ _).trans ?_
    rw [hc, if_pos (nI_lt hj (by omega))]
    have hv : vp_in (nI j) 10 := vp_in_nI (by omega) (by omega)
    have hcl : (nI j).toNatClampNeg = j := nI_clamp (by omega)
    by_cases c1 : S.1 59 j = 0 <;> by_cases c2 : S.1 58 j = 0 <;> simp (decide := true) only [b151_12, b151_17, b151_23, b151_20, b142_0, b142_9, b142_18, b142_22, xfreeM, hv, hcl, c1, c2, ↓reduceIte, xtl, exists_eq_left, true_and, xbit_0, xbit_1, xsum, nI_1, xadd0]) r
  rw [b151_0]
  refine key.trans ?_
  refine (b151_4 _ _ _ _ _).trans ?_
  rw [hc, if_neg (nI_nlt (Nat.le_refl n) (by omega)), b151_29]
/-- the greatest number of laws -/
def xpf (o i w n : Nat → Int32) (v1 v2 : Int32) : Nat → Int32
  | 0 => 0
  | j + 1 => if (o j = -1 ∨ o j = v1) ∧ ¬ i j = 0 ∧ ¬ v2 < w j ∧ xpf o i w n v1 v2 j < n j then n j else xpf o i w n v1 v2 j
theorem t17 (d : Nat) (v1 v2 : Int32) (S : xS) (r : Option Value × xS) {n : Nat} (hn : n ≤ 6) (hc : S.1 19 0 = nI n) : xX d 17 0 [(0, .ref 19), (1, .int v1), (2, .int v2)] [] S r ↔ r = (some (.int (xpf (S.1 20) (S.1 23) (S.1 22) (S.1 21) v1 v2 n)), S) := by
  have key := xX_loop (d := d) (f := 17) (pc := 5) (st := []) (fun j => ([(0, .ref 19), (1, .int v1), (2, .int v2), (3, .int (xpf (S.1 20) (S.1 23) (S.1 22) (S.1 21) v1 v2 j)), (4, .int (nI j))], S)) n (fun j hj r => by
    refine (b17_5 _ _ _ _ _ _ _).trans ?_
    rw [hc, if_pos (nI_lt hj (by omega))]
    have hv : vp_in (nI j) 6 := vp_in_nI (by omega) (by omega)
    have hcl : (nI j).toNatClampNeg = j := nI_clamp (by omega)
    rcases Classical.propComplete (S.1 20 j = -1) with c1 | c1 <;> rcases Classical.propComplete (S.1 20 j = v1) with c2 | c2 <;> by_cases c3 : S.1 23 j = 0 <;> by_cases c4 : v2 < S.1 22 j <;> by_cases c5 : xpf (S.1 20) (S.1 23) (S.1 22) (S.1 21) v1 v2 j < S.1 21 j <;> simp (decide := true) only [b17_14, b17_36, b17_25, b17_81, b17_53, b17_40, b17_58, b17_69, hv, hcl, c1, c2, c3, c4, c5, ↓reduceIte, true_and, and_true, false_and, and_false, or_true, true_or, or_false, false_or, not_true, not_false_iff, xpf, nI_1]) r
  rw [b17_0]
  refine key.trans ?_
  refine (b17_5 _ _ _ _ _ _ _).trans ?_
  rw [hc, if_neg (nI_nlt (Nat.le_refl n) (by omega)), b17_87]
theorem t159 (d : Nat) (v1 v2 : Int32) (S : xS) (r : Option Value × xS) {n : Nat} (hn : n ≤ 6) (hc : S.1 54 2 = nI n) : xX d 159 0 [(0, .ref 54), (1, .int v1), (2, .int v2)] [] S r ↔ r = (some (.int (xpf (S.1 77) (S.1 80) (S.1 79) (S.1 78) v1 v2 n)), S) := by
  have key := xX_loop (d := d) (f := 159) (pc := 5) (st := []) (fun j => ([(0, .ref 54), (1, .int v1), (2, .int v2), (3, .int (xpf (S.1 77) (S.1 80) (S.1 79) (S.1 78) v1 v2 j)), (4, .int (nI j))], S)) n (fun j hj r => by
    refine (b159_5 _ _ _ _ _ _ _).trans ?_
    rw [hc, if_pos (nI_lt hj (by omega))]
    have hv : vp_in (nI j) 6 := vp_in_nI (by omega) (by omega)
    have hcl : (nI j).toNatClampNeg = j := nI_clamp (by omega)
    rcases Classical.propComplete (S.1 77 j = -1) with c1 | c1 <;> rcases Classical.propComplete (S.1 77 j = v1) with c2 | c2 <;> by_cases c3 : S.1 80 j = 0 <;> by_cases c4 : v2 < S.1 79 j <;> by_cases c5 : xpf (S.1 77) (S.1 80) (S.1 79) (S.1 78) v1 v2 j < S.1 78 j <;> simp (decide := true) only [b159_14, b159_76, b159_24, b159_46, b159_35, b159_57, b159_68, hv, hcl, c1, c2, c3, c4, c5, ↓reduceIte, true_and, and_true, false_and, and_false, or_true, true_or, or_false, false_or, not_true, not_false_iff, xpf, nI_1]) r
  rw [b159_0]
  refine key.trans ?_
  refine (b159_5 _ _ _ _ _ _ _).trans ?_
  rw [hc, if_neg (nI_nlt (Nat.le_refl n) (by omega)), b159_82]
