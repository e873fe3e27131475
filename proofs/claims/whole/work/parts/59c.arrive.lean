/-- a state with one cell's numbers replaced -/
def xset (S : xS) (c : Nat) (f : Nat → Int32) : xS := (fun a b => if a = c then f b else S.1 a b, S.2.1, S.2.2)
theorem xset_same (S : xS) (c : Nat) (f : Nat → Int32) : (xset S c f).1 c = f := by funext b; exact if_pos rfl
theorem xset_ne (S : xS) (c : Nat) (f : Nat → Int32) (c' : Nat) (h : c' ≠ c) : (xset S c f).1 c' = S.1 c' := by funext b; exact if_neg h
theorem xset_id (S : xS) (c : Nat) : xset S c (S.1 c) = S := by
  unfold xset
  refine Prod.ext ?_ rfl
  funext a b
  by_cases h : a = c
  · subst h; exact if_pos rfl
  · exact if_neg h
theorem xset_wI (S : xS) (c k : Nat) (f : Nat → Int32) (v : Int32) : xwI (xset S c f) c k v = xset S c (fun b => if b = k then v else f b) := by
  unfold xset xwI
  refine Prod.ext ?_ rfl
  funext a b
  by_cases h : a = c
  · subst h; simp
  · simp [h]
/-- files on the road among the first j are in the new town -/
def xarv (f : Nat → Int32) (j : Nat) : Nat → Int32 := fun k => if k < j then (if f k = 1 then 2 else f k) else f k
theorem xarv_1 (f : Nat → Int32) (j : Nat) (h : f j = 1) : (fun b => if b = j then 2 else xarv f j b) = xarv f (j + 1) := by
  funext b
  unfold xarv
  by_cases e : b = j
  · subst e; rw [if_pos rfl, if_pos (Nat.lt_succ_self b), if_pos h]
  · rw [if_neg e]
    by_cases l : b < j
    · rw [if_pos l, if_pos (show b < j + 1 by omega)]
    · rw [if_neg l, if_neg (show ¬ b < j + 1 by omega)]
theorem xarv_0 (f : Nat → Int32) (j : Nat) (h : ¬ f j = 1) : xarv f j = xarv f (j + 1) := by
  funext b
  unfold xarv
  by_cases e : b = j
  · subst e; rw [if_neg (Nat.lt_irrefl b), if_pos (Nat.lt_succ_self b), if_neg h]
  · by_cases l : b < j
    · rw [if_pos l, if_pos (show b < j + 1 by omega)]
    · rw [if_neg l, if_neg (show ¬ b < j + 1 by omega)]
/-- Files.arrive -/
theorem t6 (d : Nat) (S : xS) (r : Option Value × xS) {n : Nat} (hn : n ≤ 12) (hc : S.1 26 0 = nI n) : xX d 6 0 [(0, .ref 26)] [] S r ↔ r = (none, xset S 27 (xarv (S.1 27) n)) := by
  have hc' : ∀ f, (xset S 27 f).1 26 0 = nI n := fun f => by rw [xset_ne _ _ _ _ (by decide)]; exact hc
  have key := xX_loop (d := d) (f := 6) (pc := 2) (st := []) (fun j => ([(0, .ref 26), (1, .int (nI j))], xset S 27 (xarv (S.1 27) j))) n (fun j hj r => by
    refine (b6_2 _ _ _ _).trans ?_
    rw [hc', if_pos (nI_lt hj (by omega))]
    have hv : vp_in (nI j) 12 := vp_in_nI (by omega) (by omega)
    have hcl : (nI j).toNatClampNeg = j := nI_clamp (by omega)
    have hj0 : xarv (S.1 27) j j = S.1 27 j := if_neg (Nat.lt_irrefl j)
    rcases Classical.em (S.1 27 j = 1) with c1 | c1
    · rw [← xarv_1 _ _ c1, ← xset_wI]
      simp (decide := true) only [b6_10, b6_20, hv, hcl, xset_same, hj0, c1, ↓reduceIte, true_and, nI_1]
    · rw [← xarv_0 _ _ c1]
      simp (decide := true) only [b6_10, b6_27, hv, hcl, xset_same, hj0, c1, ↓reduceIte, true_and, nI_1]) r
  rw [b6_0]
  have e0 : xset S 27 (xarv (S.1 27) 0) = S := by
    rw [show xarv (S.1 27) 0 = S.1 27 from by funext k; exact if_neg (Nat.not_lt_zero k), xset_id]
  have k2 : xX d 6 2 [(0, .ref 26), (1, .int 0)] [] S r ↔ xX d 6 2 [(0, .ref 26), (1, .int (nI n))] [] (xset S 27 (xarv (S.1 27) n)) r := by
    have k3 := key
    simp only [e0, nI_0] at k3
    exact k3
  refine k2.trans ?_
  refine (b6_2 _ _ _ _).trans ?_
  rw [hc', if_neg (nI_nlt (Nat.le_refl n) (by omega)), b6_33]
