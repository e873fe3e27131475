/-- a state with one cell's longs replaced -/
def xsetJ (S : xS) (c : Nat) (f : Nat → Int64) : xS := (S.1, fun a b => if a = c then f b else S.2.1 a b, S.2.2)
theorem xsetJ_id (S : xS) (c : Nat) : xsetJ S c (S.2.1 c) = S := by
  unfold xsetJ
  refine Prod.ext rfl (Prod.ext ?_ rfl)
  funext a b
  by_cases h : a = c
  · subst h; exact if_pos rfl
  · exact if_neg h
theorem xsetJ_wJ (S : xS) (c k : Nat) (f : Nat → Int64) (v : Int64) : xwJ (xsetJ S c f) c k v = xsetJ S c (fun b => if b = k then v else f b) := by
  unfold xsetJ xwJ
  refine Prod.ext rfl (Prod.ext ?_ rfl)
  funext a b
  by_cases h : a = c
  · subst h; simp
  · simp [h]
/-- noughts from lo on, j of them -/
def xzf (f : Nat → Int64) (lo j : Nat) : Nat → Int64 := fun k => if lo ≤ k ∧ k < lo + j then 0 else f k
theorem xzf_0 (f : Nat → Int64) (lo : Nat) : xzf f lo 0 = f := by
  funext k
  exact if_neg (by omega)
theorem xzf_1 (f : Nat → Int64) (lo j : Nat) : (fun b => if b = lo + j then 0 else xzf f lo j b) = xzf f lo (j + 1) := by
  funext b
  unfold xzf
  by_cases e : b = lo + j
  · rw [if_pos e, if_pos (show lo ≤ b ∧ b < lo + (j + 1) by omega)]
  · rw [if_neg e]
    by_cases l : lo ≤ b ∧ b < lo + j
    · rw [if_pos l, if_pos (show lo ≤ b ∧ b < lo + (j + 1) by omega)]
    · rw [if_neg l, if_neg (show ¬ (lo ≤ b ∧ b < lo + (j + 1)) by omega)]
/-- Shelves.putRow: the loop -/
theorem t64_20 (d s : Nat) (hs : s < 8) (S : xS) (r : Option Value × xS) : xX d 64 20 [(0, .ref 28), (1, .int (nI s)), (4, .int 0)] [] S r ↔ r = (none, xsetJ S (xrb + s) (xzf (S.2.1 (xrb + s)) 0 60)) := by
  have key := xX_loop (d := d) (f := 64) (pc := 20) (st := []) (fun j => ([(0, .ref 28), (1, .int (nI s)), (4, .int (nI j))], xsetJ S (xrb + s) (xzf (S.2.1 (xrb + s)) 0 j))) 60 (fun j hj r => by
    refine (b64_20 _ _ _ _ _).trans ?_
    rw [show (60 : Int32) = nI 60 by decide, if_pos (nI_lt hj (by omega))]
    have hv : vp_in (nI j) 60 := vp_in_nI (by omega) (by omega)
    have hvs : vp_in (nI s) 8 := vp_in_nI (by omega) (by omega)
    have hcl : (nI j).toNatClampNeg = j := nI_clamp (by omega)
    have hcs : (nI s).toNatClampNeg = s := nI_clamp (by omega)
    have hz := xzf_1 (S.2.1 (xrb + s)) 0 j
    rw [Nat.zero_add] at hz
    simp only [b64_27, hv, hvs, hcl, hcs, hs, true_and, nI_1, xsetJ_wJ, hz]) r
  simp only [xzf_0, xsetJ_id, nI_0] at key
  refine key.trans ?_
  refine (b64_20 _ _ _ _ _).trans ?_
  rw [show (60 : Int32) = nI 60 by decide, if_neg (nI_nlt (Nat.le_refl 60) (by omega)), b64_43]
/-- Shelves.putRow -/
theorem t64 (d s : Nat) (hs : s < 8) (v2 v3 : Int32) (S : xS) (r : Option Value × xS) : xX d 64 0 [(0, .ref 28), (1, .int (nI s)), (2, .int v2), (3, .int v3)] [] S r ↔ r = (none, xsetJ (xwI (xwI S 29 s (100 + v2)) 30 s v3) (xrb + s) (xzf (S.2.1 (xrb + s)) 0 60)) := by
  have hvs : vp_in (nI s) 8 := vp_in_nI (by omega) (by omega)
  have hcs : (nI s).toNatClampNeg = s := nI_clamp (by omega)
  have h := fun (S : xS) (r : Option Value × xS) => t64_20 d s hs S r
  simp only [b64_0, hvs, hcs, true_and, h, xrd_K]
