theorem nI_60m (a b : Nat) : 60 * nI a + nI b = nI (60 * a + b) := by
  rw [show (60 : Int32) = nI 60 by decide, ← nI_add]
  unfold nI
  rw [Int32.ofNat_mul]
/-- reference: row's loop -/
theorem t127_77 (d s : Nat) (hs : s < 8) (S : xS) (r : Option Value × xS) : xX d 127 77 [(0, .ref 54), (1, .int (nI s)), (4, .int 0)] [] S r ↔ r = (some (.int 1), xsetJ S 75 (xzf (S.2.1 75) (60 * s) 60)) := by
  have key := xX_loop (d := d) (f := 127) (pc := 77) (st := []) (fun j => ([(0, .ref 54), (1, .int (nI s)), (4, .int (nI j))], xsetJ S 75 (xzf (S.2.1 75) (60 * s) j))) 60 (fun j hj r => by
    refine (b127_77 _ _ _ _ _).trans ?_
    have h60 : nI j < 60 := by rw [show (60 : Int32) = nI 60 by decide]; exact nI_lt hj (by omega)
    rw [if_pos h60]
    have hv : vp_in (nI (60 * s + j)) 480 := vp_in_nI (by omega) (by omega)
    have hcl : (nI (60 * s + j)).toNatClampNeg = 60 * s + j := nI_clamp (by omega)
    simp only [b127_84, nI_60m, hv, hcl, true_and, nI_1, xsetJ_wJ, xzf_1]) r
  simp only [xzf_0, xsetJ_id, nI_0] at key
  refine key.trans ?_
  refine (b127_77 _ _ _ _ _).trans ?_
  have h60 : ¬ nI 60 < 60 := by decide
  rw [if_neg h60, b127_103]
/-- row, the class: a shelf that is there -/
theorem t79 (d s : Nat) (hs : s < 8) (v2 v3 : Int32) (S : xS) (r : Option Value × xS) : xX (d + 2) 79 0 [(0, .ref 0), (1, .int (nI s)), (2, .int v2), (3, .int v3)] [] S r ↔ r = if v3 < 0 then (some (.int (-4)), xwI S 1 4 (S.1 1 4 + 1)) else if v2 < 0 then (some (.int (-6)), xwI S 1 6 (S.1 1 6 + 1)) else if 3 < v2 then (some (.int (-6)), xwI S 1 6 (S.1 1 6 + 1)) else if 60 < v3 then (some (.int (-7)), xwI S 1 7 (S.1 1 7 + 1)) else (some (.int 1), xsetJ (xwI (xwI S 29 s (100 + v2)) 30 s v3) (xrb + s) (xzf (S.2.1 (xrb + s)) 0 60)) := by
  have h := fun (d : Nat) (S : xS) (r : Option Value × xS) => t64 d s hs v2 v3 S r
  have c5 : ¬ nI s < 0 := nI_pos (by omega)
  have c6 : ¬ (7 : Int32) < nI s := by
    rw [show (7 : Int32) = nI 7 by decide]
    exact nI_nlt (by omega) (by omega)
  by_cases c1 : v3 < 0 <;> by_cases c2 : v2 < 0 <;> by_cases c3 : 3 < v2 <;> by_cases c4 : 60 < v3 <;> simp (decide := true) only [b79_0, b79_4, b79_7, b79_13, b79_12, b79_17, b79_24, b79_23, b79_30, b79_33, b79_40, b79_39, b79_46, b79_53, b79_52, b79_63, b78_0, b78_7, b68_0, b68_7, b68_10, b68_21, b25_0, b25_5, b25_10, b25_14, h, c1, c2, c3, c4, c5, c6, ↓reduceIte, xtl, xtl0, exists_eq_left, and_assoc, exists_and_left, true_and, xbit_0, xbit_1, Int32.neg_neg, xn4, xn6, xn7, xv4, xv6, xv7]
/-- row, the reference: a shelf that is there -/
theorem t127 (d s : Nat) (hs : s < 8) (v2 v3 : Int32) (S : xS) (r : Option Value × xS) : xX (d + 1) 127 0 [(0, .ref 54), (1, .int (nI s)), (2, .int v2), (3, .int v3)] [] S r ↔ r = if v3 < 0 then (some (.int (-4)), xwI S 84 4 (S.1 84 4 + 1)) else if v2 < 0 then (some (.int (-6)), xwI S 84 6 (S.1 84 6 + 1)) else if 3 < v2 then (some (.int (-6)), xwI S 84 6 (S.1 84 6 + 1)) else if 60 < v3 then (some (.int (-7)), xwI S 84 7 (S.1 84 7 + 1)) else (some (.int 1), xsetJ (xwI (xwI (xwI S 71 s 1) 72 s v2) 73 s v3) 75 (xzf (S.2.1 75) (60 * s) 60)) := by
  have h := fun (d : Nat) (S : xS) (r : Option Value × xS) => t127_77 d s hs S r
  have hvs : vp_in (nI s) 8 := vp_in_nI (by omega) (by omega)
  have hcs : (nI s).toNatClampNeg = s := nI_clamp (by omega)
  have c5 : ¬ nI s < 0 := nI_pos (by omega)
  have c6 : nI s < 8 := by
    rw [show (8 : Int32) = nI 8 by decide]
    exact nI_lt hs (by omega)
  by_cases c1 : v3 < 0 <;> by_cases c2 : v2 < 0 <;> by_cases c3 : 3 < v2 <;> by_cases c4 : 60 < v3 <;> simp (decide := true) only [b127_0, b127_4, b127_7, b127_13, b127_12, b127_17, b127_24, b127_23, b127_33, b127_28, b127_39, b127_40, b127_46, b127_53, b127_52, b118_0, b118_4, b118_10, b118_14, b114_0, h, hvs, hcs, c1, c2, c3, c4, c5, c6, ↓reduceIte, xtl, xtl0, exists_eq_left, and_assoc, exists_and_left, true_and, xbit_0, xbit_1, Int32.neg_neg, xn4, xn6, xn7, xv4, xv6, xv7, xrd_K]
