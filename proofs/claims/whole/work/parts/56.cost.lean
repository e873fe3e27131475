theorem nI_m10 (a b : Nat) : nI a * 10 + nI b = nI (10 * a + b) := by
  rw [show (10 : Int32) = nI 10 by decide, Nat.mul_comm 10 a, ← nI_add]
  unfold nI
  rw [Int32.ofNat_mul]
/-- what two offices' tie adds to the cost -/
def xpr (t p : Nat → Int32) (a b : Nat) : Int32 := t (10 * a + b) * (if 0 ≤ p a - p b then p a - p b else 0 - (p a - p b))
def xcost (t p : Nat → Int32) (n : Nat) : Int32 := xsum (fun a => xsum (xpr t p a) a) n
/-- Offices.costOf over cell 5 -/
theorem t45_5 (d : Nat) (S : xS) (r : Option Value × xS) {n : Nat} (hn : n ≤ 10) (hc : S.1 2 0 = nI n) : xX d 45 0 [(0, .ref 2), (1, .ref 5)] [] S r ↔ r = (some (.int (xcost (S.1 8) (S.1 5) n)), S) := by
  have inner := fun (a : Nat) (ha : a < n) (T : Int32) => xX_loop (d := d) (f := 45) (pc := 15) (st := []) (fun j => ([(0, .ref 2), (1, .ref 5), (2, .int (T + xsum (xpr (S.1 8) (S.1 5) a) j)), (3, .int (nI a)), (4, .int (nI j))], S)) a (fun j hj r => by
    refine (b45_5_15 _ _ _ _ _ _).trans ?_
    rw [if_pos (nI_lt hj (by omega))]
    have hv : vp_in (nI j) 10 := vp_in_nI (by omega) (by omega)
    have hva : vp_in (nI a) 10 := vp_in_nI (by omega) (by omega)
    have hvt : vp_in (nI (10 * a + j)) 100 := vp_in_nI (by omega) (by omega)
    have hcl : (nI j).toNatClampNeg = j := nI_clamp (by omega)
    have hca : (nI a).toNatClampNeg = a := nI_clamp (by omega)
    have hct : (nI (10 * a + j)).toNatClampNeg = 10 * a + j := nI_clamp (by omega)
    simp only [b45_5_21, nI_m10, hv, hva, hvt, hcl, hca, hct, true_and, xsum, xpr, nI_1, Int32.add_assoc])
  have key := xX_loop (d := d) (f := 45) (pc := 4) (st := []) (fun j => ([(0, .ref 2), (1, .ref 5), (2, .int (xcost (S.1 8) (S.1 5) j)), (3, .int (nI j))], S)) n (fun a ha r => by
    refine (b45_5_4 _ _ _ _ _).trans ?_
    rw [hc, if_pos (nI_lt ha (by omega)), b45_5_12]
    have h1 := inner a ha (xcost (S.1 8) (S.1 5) a) r
    simp only [show ∀ f : Nat → Int32, xsum f 0 = 0 from fun _ => rfl, xadd0, nI_0] at h1
    refine h1.trans ((b45_5_15 _ _ _ _ _ _).trans ?_)
    rw [if_neg (nI_nlt (Nat.le_refl a) (by omega)), b45_5_54, nI_1]
    rfl) r
  rw [b45_5_0]
  refine key.trans ?_
  refine (b45_5_4 _ _ _ _ _).trans ?_
  rw [hc, if_neg (nI_nlt (Nat.le_refl n) (by omega)), b45_5_60]
/-- Offices.costOf over cell 52 -/
theorem t45_52 (d : Nat) (S : xS) (r : Option Value × xS) {n : Nat} (hn : n ≤ 10) (hc : S.1 2 0 = nI n) : xX d 45 0 [(0, .ref 2), (1, .ref 52)] [] S r ↔ r = (some (.int (xcost (S.1 8) (S.1 52) n)), S) := by
  have inner := fun (a : Nat) (ha : a < n) (T : Int32) => xX_loop (d := d) (f := 45) (pc := 15) (st := []) (fun j => ([(0, .ref 2), (1, .ref 52), (2, .int (T + xsum (xpr (S.1 8) (S.1 52) a) j)), (3, .int (nI a)), (4, .int (nI j))], S)) a (fun j hj r => by
    refine (b45_52_15 _ _ _ _ _ _).trans ?_
    rw [if_pos (nI_lt hj (by omega))]
    have hv : vp_in (nI j) 10 := vp_in_nI (by omega) (by omega)
    have hva : vp_in (nI a) 10 := vp_in_nI (by omega) (by omega)
    have hvt : vp_in (nI (10 * a + j)) 100 := vp_in_nI (by omega) (by omega)
    have hcl : (nI j).toNatClampNeg = j := nI_clamp (by omega)
    have hca : (nI a).toNatClampNeg = a := nI_clamp (by omega)
    have hct : (nI (10 * a + j)).toNatClampNeg = 10 * a + j := nI_clamp (by omega)
    simp only [b45_52_21, nI_m10, hv, hva, hvt, hcl, hca, hct, true_and, xsum, xpr, nI_1, Int32.add_assoc])
  have key := xX_loop (d := d) (f := 45) (pc := 4) (st := []) (fun j => ([(0, .ref 2), (1, .ref 52), (2, .int (xcost (S.1 8) (S.1 52) j)), (3, .int (nI j))], S)) n (fun a ha r => by
    refine (b45_52_4 _ _ _ _ _).trans ?_
    rw [hc, if_pos (nI_lt ha (by omega)), b45_52_12]
    have h1 := inner a ha (xcost (S.1 8) (S.1 52) a) r
    simp only [show ∀ f : Nat → Int32, xsum f 0 = 0 from fun _ => rfl, xadd0, nI_0] at h1
    refine h1.trans ((b45_52_15 _ _ _ _ _ _).trans ?_)
    rw [if_neg (nI_nlt (Nat.le_refl a) (by omega)), b45_52_54, nI_1]
    rfl) r
  rw [b45_52_0]
  refine key.trans ?_
  refine (b45_52_4 _ _ _ _ _).trans ?_
  rw [hc, if_neg (nI_nlt (Nat.le_refl n) (by omega)), b45_52_60]
