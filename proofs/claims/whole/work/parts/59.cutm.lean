def xov (x w : Int32) : Int32 := if x = -1 then 0 else if w < x then 0 else 1
def xprCM (t p : Nat → Int32) (w : Int32) (a b : Nat) : Int32 := if xov (p a) w = xov (p b) w then 0 else t (10 * a + b)
def xcutM (t p : Nat → Int32) (w : Int32) (n : Nat) : Int32 := xsum (fun a => xsum (xprCM t p w a) a) n
theorem x01ne : ¬ (0 : Int32) = 1 := by decide
theorem x10ne : ¬ (1 : Int32) = 0 := by decide
/-- reference: isOver over the plan -/
theorem t138_57 (d : Nat) (w : Int32) (S : xS) (r : Option Value × xS) {k : Nat} (hk : k < 10) : xX d 138 0 [(0, .ref 54), (1, .ref 57), (2, .int (nI k)), (3, .int w)] [] S r ↔ r = (some (.int (xov (S.1 57 k) w)), S) := by
  have hv : vp_in (nI k) 10 := vp_in_nI (by omega) (by omega)
  have hcl : (nI k).toNatClampNeg = k := nI_clamp (by omega)
  rcases Classical.propComplete (S.1 57 k = -1) with c1 | c1 <;> by_cases c2 : w < S.1 57 k <;> simp (decide := true) only [b138_57_0, b138_57_18, b138_57_7, b138_57_14, hv, hcl, c1, c2, ↓reduceIte, true_and, xov, xbit_0, xbit_1]
/-- reference: cut -/
theorem t154 (d : Nat) (v1 : Int32) (S : xS) (r : Option Value × xS) {n : Nat} (hn : n ≤ 10) (hc : S.1 54 0 = nI n) : xX (d + 1) 154 0 [(0, .ref 54), (1, .int v1)] [] S r ↔ r = (some (.int (if v1 < 0 then -1 else if v1 < 5 then xcutM (S.1 60) (S.1 57) v1 n else -1)), S) := by
  have inner := fun (a : Nat) (ha : a < n) (T : Int32) => xX_loop (d := d + 1) (f := 154) (pc := 24) (st := []) (fun j => ([(0, .ref 54), (1, .int v1), (2, .int (T + xsum (xprCM (S.1 60) (S.1 57) v1 a) j)), (3, .int (nI a)), (4, .int (nI j))], S)) a (fun j hj r => by
    refine (b154_24 _ _ _ _ _ _ _).trans ?_
    rw [if_pos (nI_lt hj (by omega))]
    have hvt : vp_in (nI (10 * a + j)) 100 := vp_in_nI (by omega) (by omega)
    have hct : (nI (10 * a + j)).toNatClampNeg = 10 * a + j := nI_clamp (by omega)
    have ha1 := fun (d : Nat) (r : Option Value × xS) => t138_57 d v1 S r (k := a) (by omega)
    have hj1 := fun (d : Nat) (r : Option Value × xS) => t138_57 d v1 S r (k := j) (by omega)
    rcases Classical.propComplete (xov (S.1 57 a) v1 = xov (S.1 57 j) v1) with c1 | c1 <;> simp (decide := true) only [b154_30, b154_40, b154_51, b154_69, b154_54, ha1, hj1, nI_10m, hvt, hct, c1, ↓reduceIte, xtl, exists_eq_left, true_and, xsum, xprCM, nI_1, Int32.add_assoc, xadd0])
  have key := xX_loop (d := d + 1) (f := 154) (pc := 13) (st := []) (fun j => ([(0, .ref 54), (1, .int v1), (2, .int (xcutM (S.1 60) (S.1 57) v1 j)), (3, .int (nI j))], S)) n (fun a ha r => by
    refine (b154_13 _ _ _ _ _ _).trans ?_
    rw [hc, if_pos (nI_lt ha (by omega)), b154_21]
    have h1 := inner a ha (xcutM (S.1 60) (S.1 57) v1 a) r
    simp only [show ∀ f : Nat → Int32, xsum f 0 = 0 from fun _ => rfl, xadd0, nI_0] at h1
    refine h1.trans ((b154_24 _ _ _ _ _ _ _).trans ?_)
    rw [if_neg (nI_nlt (Nat.le_refl a) (by omega)), b154_75, nI_1]
    rfl) r
  have fin : xX (d + 1) 154 13 [(0, .ref 54), (1, .int v1), (2, .int 0), (3, .int 0)] [] S r ↔ r = (some (.int (xcutM (S.1 60) (S.1 57) v1 n)), S) := by
    refine key.trans ?_
    refine (b154_13 _ _ _ _ _ _).trans ?_
    rw [hc, if_neg (nI_nlt (Nat.le_refl n) (by omega)), b154_81]
  by_cases c1 : v1 < 0 <;> by_cases c2 : v1 < 5 <;> simp (decide := true) only [b154_0, b154_4, b154_7, b154_9, b116_0, b116_4, b116_9, b116_13, fin, c1, c2, ↓reduceIte, xtl, exists_eq_left, and_assoc, exists_and_left, true_and, xbit_0, xbit_1]
/-- cut, the class -/
theorem t93 (d : Nat) (v1 : Int32) (S : xS) (r : Option Value × xS) {n : Nat} (hn : n ≤ 10) (hc : S.1 2 0 = nI n) : xX (d + 1) 93 0 [(0, .ref 0), (1, .int v1)] [] S r ↔ r = (some (.int (if v1 < 0 then -1 else if v1 < 5 then xcut (S.1 8) (S.1 5) v1 n else -1)), S) := by
  have h44 := fun (d : Nat) (r : Option Value × xS) => t44 d v1 S r hn hc
  by_cases c1 : v1 < 0 <;> by_cases c2 : v1 < 5 <;> simp (decide := true) only [b93_0, b93_4, b93_18, b93_7, b93_15, b27_0, b27_4, b27_9, b27_13, h44, c1, c2, ↓reduceIte, xtl, exists_eq_left, and_assoc, exists_and_left, true_and, xbit_0, xbit_1]
