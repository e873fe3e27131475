theorem nI_10m (a b : Nat) : 10 * nI a + nI b = nI (10 * a + b) := by
  rw [Int32.mul_comm, nI_m10]
def xwv (x : Int32) : Int32 := if x = -1 then 5 else x
/-- what two offices' tie adds to the cost, the reference's way -/
def xprM (t p : Nat → Int32) (a b : Nat) : Int32 := t (10 * a + b) * (if xwv (p a) < xwv (p b) then xwv (p b) - xwv (p a) else xwv (p a) - xwv (p b))
def xcostM (t p : Nat → Int32) (n : Nat) : Int32 := xsum (fun a => xsum (xprM t p a) a) n
/-- reference: costOf over cell 57 -/
theorem t141_57 (d : Nat) (S : xS) (r : Option Value × xS) {n : Nat} (hn : n ≤ 10) (hc : S.1 54 0 = nI n) : xX d 141 0 [(0, .ref 54), (1, .ref 57)] [] S r ↔ r = (some (.int (xcostM (S.1 60) (S.1 57) n)), S) := by
  have inner := fun (a : Nat) (ha : a < n) (T : Int32) => xX_loop (d := d) (f := 141) (pc := 15) (st := []) (fun j => ([(0, .ref 54), (1, .ref 57), (2, .int (T + xsum (xprM (S.1 60) (S.1 57) a) j)), (3, .int (nI a)), (4, .int (nI j))], S)) a (fun j hj r => by
    refine (b141_57_15 _ _ _ _ _ _).trans ?_
    rw [if_pos (nI_lt hj (by omega))]
    have hv : vp_in (nI j) 10 := vp_in_nI (by omega) (by omega)
    have hva : vp_in (nI a) 10 := vp_in_nI (by omega) (by omega)
    have hvt : vp_in (nI (10 * a + j)) 100 := vp_in_nI (by omega) (by omega)
    have hcl : (nI j).toNatClampNeg = j := nI_clamp (by omega)
    have hca : (nI a).toNatClampNeg = a := nI_clamp (by omega)
    have hct : (nI (10 * a + j)).toNatClampNeg = 10 * a + j := nI_clamp (by omega)
    rcases Classical.propComplete (S.1 57 a = -1) with c1 | c1 <;> rcases Classical.propComplete (S.1 57 j = -1) with c2 | c2 <;> rcases Classical.propComplete (xwv (S.1 57 a) < xwv (S.1 57 j)) with c3 | c3 <;> simp (decide := true) only [xwv, c1, c2, ↓reduceIte] at c3 <;> simp (decide := true) only [b141_57_21, b141_57_28, b141_57_32, b141_57_45, b141_57_49, b141_57_75, b141_57_83, nI_10m, hv, hva, hvt, hcl, hca, hct, c1, c2, c3, ↓reduceIte, true_and, xsum, xprM, xwv, nI_1, Int32.add_assoc])
  have key := xX_loop (d := d) (f := 141) (pc := 4) (st := []) (fun j => ([(0, .ref 54), (1, .ref 57), (2, .int (xcostM (S.1 60) (S.1 57) j)), (3, .int (nI j))], S)) n (fun a ha r => by
    refine (b141_57_4 _ _ _ _ _).trans ?_
    rw [hc, if_pos (nI_lt ha (by omega)), b141_57_12]
    have h1 := inner a ha (xcostM (S.1 60) (S.1 57) a) r
    simp only [show ∀ f : Nat → Int32, xsum f 0 = 0 from fun _ => rfl, xadd0, nI_0] at h1
    refine h1.trans ((b141_57_15 _ _ _ _ _ _).trans ?_)
    rw [if_neg (nI_nlt (Nat.le_refl a) (by omega)), b141_57_97, nI_1]
    rfl) r
  rw [b141_57_0]
  refine key.trans ?_
  refine (b141_57_4 _ _ _ _ _).trans ?_
  rw [hc, if_neg (nI_nlt (Nat.le_refl n) (by omega)), b141_57_103]
/-- reference: costOf over cell 85 -/
theorem t141_85 (d : Nat) (S : xS) (r : Option Value × xS) {n : Nat} (hn : n ≤ 10) (hc : S.1 54 0 = nI n) : xX d 141 0 [(0, .ref 54), (1, .ref 85)] [] S r ↔ r = (some (.int (xcostM (S.1 60) (S.1 85) n)), S) := by
  have inner := fun (a : Nat) (ha : a < n) (T : Int32) => xX_loop (d := d) (f := 141) (pc := 15) (st := []) (fun j => ([(0, .ref 54), (1, .ref 85), (2, .int (T + xsum (xprM (S.1 60) (S.1 85) a) j)), (3, .int (nI a)), (4, .int (nI j))], S)) a (fun j hj r => by
    refine (b141_85_15 _ _ _ _ _ _).trans ?_
    rw [if_pos (nI_lt hj (by omega))]
    have hv : vp_in (nI j) 10 := vp_in_nI (by omega) (by omega)
    have hva : vp_in (nI a) 10 := vp_in_nI (by omega) (by omega)
    have hvt : vp_in (nI (10 * a + j)) 100 := vp_in_nI (by omega) (by omega)
    have hcl : (nI j).toNatClampNeg = j := nI_clamp (by omega)
    have hca : (nI a).toNatClampNeg = a := nI_clamp (by omega)
    have hct : (nI (10 * a + j)).toNatClampNeg = 10 * a + j := nI_clamp (by omega)
    rcases Classical.propComplete (S.1 85 a = -1) with c1 | c1 <;> rcases Classical.propComplete (S.1 85 j = -1) with c2 | c2 <;> rcases Classical.propComplete (xwv (S.1 85 a) < xwv (S.1 85 j)) with c3 | c3 <;> simp (decide := true) only [xwv, c1, c2, ↓reduceIte] at c3 <;> simp (decide := true) only [b141_85_21, b141_85_28, b141_85_32, b141_85_45, b141_85_49, b141_85_75, b141_85_83, nI_10m, hv, hva, hvt, hcl, hca, hct, c1, c2, c3, ↓reduceIte, true_and, xsum, xprM, xwv, nI_1, Int32.add_assoc])
  have key := xX_loop (d := d) (f := 141) (pc := 4) (st := []) (fun j => ([(0, .ref 54), (1, .ref 85), (2, .int (xcostM (S.1 60) (S.1 85) j)), (3, .int (nI j))], S)) n (fun a ha r => by
    refine (b141_85_4 _ _ _ _ _).trans ?_
    rw [hc, if_pos (nI_lt ha (by omega)), b141_85_12]
    have h1 := inner a ha (xcostM (S.1 60) (S.1 85) a) r
    simp only [show ∀ f : Nat → Int32, xsum f 0 = 0 from fun _ => rfl, xadd0, nI_0] at h1
    refine h1.trans ((b141_85_15 _ _ _ _ _ _).trans ?_)
    rw [if_neg (nI_nlt (Nat.le_refl a) (by omega)), b141_85_97, nI_1]
    rfl) r
  rw [b141_85_0]
  refine key.trans ?_
  refine (b141_85_4 _ _ _ _ _).trans ?_
  rw [hc, if_neg (nI_nlt (Nat.le_refl n) (by omega)), b141_85_103]
