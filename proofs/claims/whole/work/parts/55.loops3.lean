theorem xlt1 {n : Nat} (hn : n ≤ 1000) (x : Int32) : (nI n - 1 < x) ↔ ¬ (x < nI n) := by
  have h1 : (nI n - 1).toInt = (n : Int) - 1 := by
    rw [Int32.toInt_sub, nI_toInt (by omega)]
    have h2 : (1 : Int32).toInt = 1 := rfl
    rw [h2]
    exact Int.bmod_eq_of_le (by omega) (by omega)
  rw [Int32.lt_iff_toInt_lt, Int32.lt_iff_toInt_lt, h1, nI_toInt (by omega)]
  omega
/-- pay, the class -/
theorem t104 (d : Nat) (v1 v2 : Int32) (S : xS) (r : Option Value × xS) {n : Nat} (hn : n ≤ 6) (hc : S.1 19 0 = nI n) : xX (d + 2) 104 0 [(0, .ref 0), (1, .int v1), (2, .int v2)] [] S r ↔ r = (some (.int (if v1 < 0 then -1 else if S.1 2 0 - 1 < v1 then -1 else if v2 < 0 then -1 else if v2 < 5 then xpf (S.1 20) (S.1 23) (S.1 22) (S.1 21) v1 v2 n else -1)), S) := by
  have h17 := fun (d : Nat) (r : Option Value × xS) => t17 d v1 v2 S r hn hc
  by_cases c1 : v1 < 0 <;> by_cases c2 : S.1 2 0 - 1 < v1 <;> by_cases c3 : v2 < 0 <;> by_cases c4 : v2 < 5 <;> simp (decide := true) only [b104_0, b104_8, b104_30, b104_11, b104_15, b104_18, b104_27, b36_0, b36_11, b25_0, b25_5, b25_10, b25_14, b27_0, b27_4, b27_9, b27_13, h17, c1, c2, c3, c4, ↓reduceIte, xtl, exists_eq_left, and_assoc, exists_and_left, true_and, xbit_0, xbit_1]
/-- pay, the reference -/
theorem t171 (d : Nat) (v1 v2 : Int32) (S : xS) (r : Option Value × xS) {n : Nat} (hn : n ≤ 6) (hc : S.1 54 2 = nI n) : xX (d + 1) 171 0 [(0, .ref 54), (1, .int v1), (2, .int v2)] [] S r ↔ r = (some (.int (if v1 < 0 then -1 else if v1 < S.1 54 0 then (if v2 < 0 then -1 else if v2 < 5 then xpf (S.1 77) (S.1 80) (S.1 79) (S.1 78) v1 v2 n else -1) else -1)), S) := by
  have h17 := fun (d : Nat) (r : Option Value × xS) => t159 d v1 v2 S r hn hc
  by_cases c1 : v1 < 0 <;> by_cases c2 : v1 < S.1 54 0 <;> by_cases c3 : v2 < 0 <;> by_cases c4 : v2 < 5 <;> simp (decide := true) only [b171_0, b171_5, b171_24, b171_8, b171_12, b171_15, b171_21, b115_0, b115_16, b115_4, b115_12, b116_0, b116_4, b116_9, b116_13, h17, c1, c2, c3, c4, ↓reduceIte, xtl, exists_eq_left, and_assoc, exists_and_left, true_and, xbit_0, xbit_1]
/-- begin, the class -/
theorem t96 (d : Nat) (S : xS) (r : Option Value × xS) {n : Nat} (hn : n ≤ 10) (hc : S.1 2 0 = nI n) : xX (d + 2) 96 0 [(0, .ref 0)] [] S r ↔ r = if S.1 0 9 = 0 then (some (.int (xsum (fun k => if S.1 5 k = 5 then 0 else 1) n)), xwI S 0 9 1) else (some (.int (-6)), xwI S 1 6 (S.1 1 6 + 1)) := by
  have h43 := fun (d : Nat) (r : Option Value × xS) => t43 d (xwI S 0 9 1) r hn (by rw [xrd_ne _ _ _ _ _ (by decide)]; exact hc)
  have h68 := fun (d : Nat) (r : Option Value × xS) => t68 d (-6) S r
  by_cases c1 : S.1 0 9 = 0
  · simp (decide := true) only [b96_0, b96_14, b96_26, h43, c1, ↓reduceIte, xtl, exists_eq_left, xbit_1, true_and, xrd_ne]
  · simp (decide := true) only [b96_0, b96_7, b96_13, b68_0, b68_7, b68_10, b68_21, b25_0, b25_5, b25_10, b25_14, c1, ↓reduceIte, xtl, exists_eq_left, and_assoc, exists_and_left, xbit_1, xbit_0, true_and, Int32.neg_neg, xn6, xv6]
/-- begin, the reference -/
theorem t157 (d : Nat) (S : xS) (r : Option Value × xS) {n : Nat} (hn : n ≤ 10) (hc : S.1 54 0 = nI n) : xX (d + 1) 157 0 [(0, .ref 54)] [] S r ↔ r = if S.1 54 15 = 0 then (some (.int (xsum (fun k => if S.1 57 k = -1 then 0 else 1) n)), xwI S 54 15 1) else (some (.int (-6)), xwI S 84 6 (S.1 84 6 + 1)) := by
  have hc' : (xwI S 54 15 1).1 54 0 = nI n := by rw [xrd_n2 _ _ _ _ _ (by decide)]; exact hc
  have key := xX_loop (d := d + 1) (f := 157) (pc := 23) (st := []) (fun j => ([(0, .ref 54), (1, .int (xsum (fun k => if S.1 57 k = -1 then 0 else 1) j)), (2, .int (nI j))], xwI S 54 15 1)) n (fun j hj r => by
    refine (b157_23 _ _ _ _ _).trans ?_
    rw [hc', if_pos (nI_lt hj (by omega))]
    have hv : vp_in (nI j) 10 := vp_in_nI (by omega) (by omega)
    have hcl : (nI j).toNatClampNeg = j := nI_clamp (by omega)
    by_cases c1 : S.1 57 j = -1 <;> simp (decide := true) only [b157_31, b157_44, b157_41, hv, hcl, xrd_ne, c1, ↓reduceIte, true_and, xsum, nI_1, xadd0])
  by_cases c1 : S.1 54 15 = 0
  · rw [b157_0, if_pos c1, if_pos c1, b157_14]
    have hb := (b157_23 (d + 1) (xsum (fun k => if S.1 57 k = -1 then 0 else 1) n) (nI n) (xwI S 54 15 1) r)
    rw [hc', if_neg (nI_nlt (Nat.le_refl n) (by omega)), b157_50] at hb
    exact (and_iff_right xbit_1).trans ((key r).trans hb)
  · simp (decide := true) only [b157_0, b157_7, b157_13, b114_0, c1, ↓reduceIte, xtl, exists_eq_left, and_assoc, exists_and_left, true_and, Int32.neg_neg, xn6, xv6]
