/-! loops by hand: sums over the first n places -/
def xsum (f : Nat → Int32) : Nat → Int32
  | 0 => 0
  | n + 1 => xsum f n + f n
theorem xadd0 (x : Int32) : x + 0 = x := Int32.add_zero x
def xfree (S : xS) (k : Nat) : Int32 := if S.1 7 k = 0 then (if S.1 6 k = 0 then 1 else 0) else 0
/-- Offices.countFree -/
theorem t42 (d : Nat) (S : xS) (r : Option Value × xS) {n : Nat} (hn : n ≤ 10) (hc : S.1 2 0 = nI n) : xX (d + 1) 42 0 [(0, .ref 2)] [] S r ↔ r = (some (.int (xsum (xfree S) n)), S) := by
  have key := xX_loop (d := d + 1) (f := 42) (pc := 4) (st := []) (fun j => ([(0, .ref 2), (1, .int (xsum (xfree S) j)), (2, .int (nI j))], S)) n (fun j hj r => by
    refine (b42_4 _ _ _ _ _).trans ?_
    rw [hc, if_pos (nI_lt hj (by omega))]
    have hv : vp_in (nI j) 10 := vp_in_nI (by omega) (by omega)
    have hcl : (nI j).toNatClampNeg = j := nI_clamp (by omega)
    by_cases c1 : S.1 7 j = 0 <;> by_cases c2 : S.1 6 j = 0 <;> simp (decide := true) only [b42_12, b41_0, b41_9, b41_18, b41_22, hv, hcl, c1, c2, ↓reduceIte, xtl, exists_eq_left, true_and, xbit_0, xbit_1, b42_17, b42_20, b42_23, xsum, nI_1, xfree, xadd0]) r
  rw [b42_0]
  refine key.trans ?_
  refine (b42_4 _ _ _ _ _).trans ?_
  rw [hc, if_neg (nI_nlt (Nat.le_refl n) (by omega)), b42_29]
