/-- cost, the class -/
theorem t94 (d : Nat) (S : xS) (r : Option Value × xS) {n : Nat} (hn : n ≤ 10) (hc : S.1 2 0 = nI n) : xX (d + 1) 94 0 [(0, .ref 0)] [] S r ↔ r = (some (.int (xcost (S.1 8) (S.1 5) n)), S) := by
  have h := fun (d : Nat) (r : Option Value × xS) => t45_5 d S r hn hc
  simp only [b94_0, b94_14, h, exists_eq_left, xtl]
/-- cost, the reference -/
theorem t155 (d : Nat) (S : xS) (r : Option Value × xS) {n : Nat} (hn : n ≤ 10) (hc : S.1 54 0 = nI n) : xX (d + 1) 155 0 [(0, .ref 54)] [] S r ↔ r = (some (.int (xcostM (S.1 60) (S.1 57) n)), S) := by
  have h := fun (d : Nat) (r : Option Value × xS) => t141_57 d S r hn hc
  simp only [b155_0, b155_8, h, exists_eq_left, xtl]
/-- desks of the buildings ready by a wave -/
def xdk (k y : Nat → Int32) (w : Int32) : Nat → Int32 := xsum (fun b => if w < y b then 0 else k b)
theorem t31 (d : Nat) (v1 : Int32) (S : xS) (r : Option Value × xS) {n : Nat} (hn : n ≤ 6) (hc : S.1 9 0 = nI n) : xX d 31 0 [(0, .ref 9), (1, .int v1)] [] S r ↔ r = (some (.int (xdk (S.1 10) (S.1 11) v1 n)), S) := by
  have key := xX_loop (d := d) (f := 31) (pc := 4) (st := []) (fun j => ([(0, .ref 9), (1, .int v1), (2, .int (xdk (S.1 10) (S.1 11) v1 j)), (3, .int (nI j))], S)) n (fun j hj r => by
    refine (b31_4 _ _ _ _ _ _).trans ?_
    rw [hc, if_pos (nI_lt hj (by omega))]
    have hv : vp_in (nI j) 6 := vp_in_nI (by omega) (by omega)
    have hcl : (nI j).toNatClampNeg = j := nI_clamp (by omega)
    by_cases c1 : v1 < S.1 11 j <;> simp (decide := true) only [b31_12, b31_31, b31_22, hv, hcl, c1, ↓reduceIte, true_and, xdk, xsum, nI_1, xadd0]) r
  rw [b31_0]
  refine key.trans ?_
  refine (b31_4 _ _ _ _ _ _).trans ?_
  rw [hc, if_neg (nI_nlt (Nat.le_refl n) (by omega)), b31_37]
