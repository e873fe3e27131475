/-- what two offices' tie adds to a cut -/
def xprC (t p : Nat → Int32) (w : Int32) (a b : Nat) : Int32 := if w < p a then (if w < p b then 0 else t (10 * a + b)) else (if w < p b then t (10 * a + b) else 0)
def xcut (t p : Nat → Int32) (w : Int32) (n : Nat) : Int32 := xsum (fun a => xsum (xprC t p w a) a) n
/-- Offices.cutOf -/
theorem t44 (d : Nat) (v1 : Int32) (S : xS) (r : Option Value × xS) {n : Nat} (hn : n ≤ 10) (hc : S.1 2 0 = nI n) : xX d 44 0 [(0, .ref 2), (1, .int v1)] [] S r ↔ r = (some (.int (xcut (S.1 8) (S.1 5) v1 n)), S) := by
  have inner := fun (a : Nat) (ha : a < n) (T : Int32) => xX_loop (d := d) (f := 44) (pc := 15) (st := []) (fun j => ([(0, .ref 2), (1, .int v1), (2, .int (T + xsum (xprC (S.1 8) (S.1 5) v1 a) j)), (3, .int (nI a)), (4, .int (nI j))], S)) a (fun j hj r => by
    refine (b44_15 _ _ _ _ _ _ _).trans ?_
    rw [if_pos (nI_lt hj (by omega))]
    have hv : vp_in (nI j) 10 := vp_in_nI (by omega) (by omega)
    have hva : vp_in (nI a) 10 := vp_in_nI (by omega) (by omega)
    have hvt : vp_in (nI (10 * a + j)) 100 := vp_in_nI (by omega) (by omega)
    have hcl : (nI j).toNatClampNeg = j := nI_clamp (by omega)
    have hca : (nI a).toNatClampNeg = a := nI_clamp (by omega)
    have hct : (nI (10 * a + j)).toNatClampNeg = 10 * a + j := nI_clamp (by omega)
    by_cases c1 : v1 < S.1 5 a <;> by_cases c2 : v1 < S.1 5 j <;> simp (decide := true) only [b44_21, b44_35, b44_31, b44_51, b44_47, b44_70, b44_55, nI_m10, hv, hva, hvt, hcl, hca, hct, c1, c2, ↓reduceIte, true_and, xsum, xprC, nI_1, Int32.add_assoc, xadd0])
  have key := xX_loop (d := d) (f := 44) (pc := 4) (st := []) (fun j => ([(0, .ref 2), (1, .int v1), (2, .int (xcut (S.1 8) (S.1 5) v1 j)), (3, .int (nI j))], S)) n (fun a ha r => by
    refine (b44_4 _ _ _ _ _ _).trans ?_
    rw [hc, if_pos (nI_lt ha (by omega)), b44_12]
    have h1 := inner a ha (xcut (S.1 8) (S.1 5) v1 a) r
    simp only [show ∀ f : Nat → Int32, xsum f 0 = 0 from fun _ => rfl, xadd0, nI_0] at h1
    refine h1.trans ((b44_15 _ _ _ _ _ _ _).trans ?_)
    rw [if_neg (nI_nlt (Nat.le_refl a) (by omega)), b44_76, nI_1]
    rfl) r
  rw [b44_0]
  refine key.trans ?_
  refine (b44_4 _ _ _ _ _ _).trans ?_
  rw [hc, if_neg (nI_nlt (Nat.le_refl n) (by omega)), b44_82]
