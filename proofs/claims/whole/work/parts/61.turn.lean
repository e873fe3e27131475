/-! the law's turn out of its operations, by program -/
theorem y6 : (6 : Int32) + 1 = 7 := by decide
theorem y7 : (7 : Int32) + 1 = 8 := by decide
theorem y8 : (8 : Int32) + 1 = 9 := by decide
theorem y9 : (9 : Int32) + 1 = 10 := by decide
theorem y10 : (10 : Int32) + 1 = 11 := by decide
theorem y11 : (11 : Int32) + 1 = 12 := by decide
theorem y12 : (12 : Int32) + 1 = 13 := by decide
theorem y13 : (13 : Int32) + 1 = 14 := by decide
theorem y14 : (14 : Int32) + 1 = 15 := by decide
theorem y15 : (15 : Int32) + 1 = 16 := by decide
theorem y16 : (16 : Int32) + 1 = 17 := by decide
theorem y17 : (17 : Int32) + 1 = 18 := by decide
theorem y18 : (18 : Int32) + 1 = 19 := by decide
theorem y19 : (19 : Int32) + 1 = 20 := by decide
theorem y20 : (20 : Int32) + 1 = 21 := by decide
theorem y21 : (21 : Int32) + 1 = 22 := by decide
theorem y22 : (22 : Int32) + 1 = 23 := by decide
theorem y23 : (23 : Int32) + 1 = 24 := by decide
theorem y24 : (24 : Int32) + 1 = 25 := by decide
theorem y25 : (25 : Int32) + 1 = 26 := by decide
theorem y26 : (26 : Int32) + 1 = 27 := by decide
theorem y27 : (27 : Int32) + 1 = 28 := by decide
theorem y28 : (28 : Int32) + 1 = 29 := by decide
theorem y29 : (29 : Int32) + 1 = 30 := by decide
theorem y30 : (30 : Int32) + 1 = 31 := by decide
theorem y31 : (31 : Int32) + 1 = 32 := by decide
theorem y32 : (32 : Int32) + 1 = 33 := by decide
theorem y33 : (33 : Int32) + 1 = 34 := by decide
theorem y34 : (34 : Int32) + 1 = 35 := by decide
theorem y35 : (35 : Int32) + 1 = 36 := by decide
theorem y36 : (36 : Int32) + 1 = 37 := by decide
abbrev xArg (k : Nat) (v : Int32) : Nat × Value := (k, .int v)
/-- an operation on both sides: equal answers, and I is kept -/
def xOpI (I : xS → Prop) (fx fm : Nat) (as : xL) (S : xS) : Prop := ∃ (z : Int32) (S1 S2 : xS), xX 59 fx 0 ((0, .ref 0) :: as) [] S (some (.int z), S1) ∧ xX 59 fm 0 ((0, .ref 54) :: as) [] S1 (some (.int z), S2) ∧ I S2
def xOpJ (I : xS → Prop) (fx fm : Nat) (as : xL) (S : xS) : Prop := ∃ (z : Int64) (S1 S2 : xS), xX 59 fx 0 ((0, .ref 0) :: as) [] S (some (.long z), S1) ∧ xX 59 fm 0 ((0, .ref 54) :: as) [] S1 (some (.long z), S2) ∧ I S2
theorem xlg_0 (z : Int64) : lg_cmp z z = 0 := (lg_cmp_eq z z).mpr rfl
/-- what a turn owes -/
def xTo (I : xS → Prop) (S : xS) (v3 : Int32) : Prop := ∃ S2, I S2 ∧ S2.1 999 = S.1 999 ∧ S2.2.2 = S.2.2 ∧ ∀ r, xX 60 0 18 (xlw (v3 + 6)) [] S2 r → xX 60 0 27 (xlw v3) [] S r
theorem xvp {i j L : Nat} {x : Int32} (hx : nI (6 * i) + x = nI (6 * i + j)) (h : 6 * i + 6 ≤ L) (hj : j < 6) (hL : L ≤ 3072) : vp_in (nI (6 * i) + x) L := by
  rw [hx]
  exact vp_in_nI (by omega) (by omega)
theorem turn0 (I : xS → Prop) (hop : ∀ (S : xS) (v1 : Int32) (v2 : Int32), I S → xOpI I 69 119 [(1, .int v1), (2, .int v2)] S) (S : xS) (i : Nat) (hI : I S) (hi : 6 * i + 6 ≤ S.2.2) (hL : S.2.2 ≤ 3072) (hk : (S.1 999 (nI (6 * i)).toNatClampNeg) &&& 63 = 0) : xTo I S (nI (6 * i)) := by
  have v0 : vp_in (nI (6 * i)) S.2.2 := vp_in_nI (by omega) (by omega)
  have v1 : vp_in (nI (6 * i) + 1) S.2.2 := xvp (j := 1) (by rw [show (1 : Int32) = nI 1 by decide, nI_add]) hi (by decide) hL
  have v2 : vp_in (nI (6 * i) + 2) S.2.2 := xvp (j := 2) (by rw [show (2 : Int32) = nI 2 by decide, nI_add]) hi (by decide) hL
  have v3 : vp_in (nI (6 * i) + 3) S.2.2 := xvp (j := 3) (by rw [show (3 : Int32) = nI 3 by decide, nI_add]) hi (by decide) hL
  have v4 : vp_in (nI (6 * i) + 4) S.2.2 := xvp (j := 4) (by rw [show (4 : Int32) = nI 4 by decide, nI_add]) hi (by decide) hL
  have v5 : vp_in (nI (6 * i) + 5) S.2.2 := xvp (j := 5) (by rw [show (5 : Int32) = nI 5 by decide, nI_add]) hi (by decide) hL
  obtain ⟨z, S1, S2, h1, h2, hI2⟩ := hop S ((S.1 999 ((nI (6 * i)) + 1).toNatClampNeg)) ((S.1 999 ((nI (6 * i)) + 2).toNatClampNeg)) hI
  have e1 : S1.1 999 = S.1 999 ∧ S1.2.2 = S.2.2 := xX_scr h1
  have e2 : S2.1 999 = S1.1 999 ∧ S2.2.2 = S1.2.2 := xX_scr h2
  refine ⟨S2, hI2, e2.1.trans e1.1, e2.2.trans e1.2, fun r hr => ?_⟩
  refine (b0_27 _ _ _ _).mpr ⟨v0, ?_⟩
  simp (decide := true) only [hk, if_true, if_false]
  simp (decide := true) only [b0_200, b0_214, b0_228, b0_231, xX_iff h1, xX_iff h2, exists_eq_left, xtl, v1, v2, v3, v4, v5, e1.1, e1.2, true_and, if_true, if_false, b0_1381, xlg_0]
  exact hr
theorem turn1 (I : xS → Prop) (hop : ∀ (S : xS) (v1 : Int32) (v2 : Int32) (v3 : Int32), I S → xOpI I 70 120 [(1, .int v1), (2, .int v2), (3, .int v3)] S) (S : xS) (i : Nat) (hI : I S) (hi : 6 * i + 6 ≤ S.2.2) (hL : S.2.2 ≤ 3072) (hk : (S.1 999 (nI (6 * i)).toNatClampNeg) &&& 63 = 1) : xTo I S (nI (6 * i)) := by
  have v0 : vp_in (nI (6 * i)) S.2.2 := vp_in_nI (by omega) (by omega)
  have v1 : vp_in (nI (6 * i) + 1) S.2.2 := xvp (j := 1) (by rw [show (1 : Int32) = nI 1 by decide, nI_add]) hi (by decide) hL
  have v2 : vp_in (nI (6 * i) + 2) S.2.2 := xvp (j := 2) (by rw [show (2 : Int32) = nI 2 by decide, nI_add]) hi (by decide) hL
  have v3 : vp_in (nI (6 * i) + 3) S.2.2 := xvp (j := 3) (by rw [show (3 : Int32) = nI 3 by decide, nI_add]) hi (by decide) hL
  have v4 : vp_in (nI (6 * i) + 4) S.2.2 := xvp (j := 4) (by rw [show (4 : Int32) = nI 4 by decide, nI_add]) hi (by decide) hL
  have v5 : vp_in (nI (6 * i) + 5) S.2.2 := xvp (j := 5) (by rw [show (5 : Int32) = nI 5 by decide, nI_add]) hi (by decide) hL
  obtain ⟨z, S1, S2, h1, h2, hI2⟩ := hop S ((S.1 999 ((nI (6 * i)) + 1).toNatClampNeg)) ((S.1 999 ((nI (6 * i)) + 2).toNatClampNeg)) ((S.1 999 ((nI (6 * i)) + 3).toNatClampNeg)) hI
  have e1 : S1.1 999 = S.1 999 ∧ S1.2.2 = S.2.2 := xX_scr h1
  have e2 : S2.1 999 = S1.1 999 ∧ S2.2.2 = S1.2.2 := xX_scr h2
  refine ⟨S2, hI2, e2.1.trans e1.1, e2.2.trans e1.2, fun r hr => ?_⟩
  refine (b0_27 _ _ _ _).mpr ⟨v0, ?_⟩
  simp (decide := true) only [hk, if_true, if_false]
  simp (decide := true) only [b0_233, b0_252, b0_271, b0_274, xX_iff h1, xX_iff h2, exists_eq_left, xtl, v1, v2, v3, v4, v5, e1.1, e1.2, true_and, if_true, if_false, b0_1381, xlg_0]
  exact hr
theorem turn2 (I : xS → Prop) (hop : ∀ (S : xS) (v1 : Int32) (v2 : Int32), I S → xOpI I 71 121 [(1, .int v1), (2, .int v2)] S) (S : xS) (i : Nat) (hI : I S) (hi : 6 * i + 6 ≤ S.2.2) (hL : S.2.2 ≤ 3072) (hk : (S.1 999 (nI (6 * i)).toNatClampNeg) &&& 63 = 2) : xTo I S (nI (6 * i)) := by
  have v0 : vp_in (nI (6 * i)) S.2.2 := vp_in_nI (by omega) (by omega)
  have v1 : vp_in (nI (6 * i) + 1) S.2.2 := xvp (j := 1) (by rw [show (1 : Int32) = nI 1 by decide, nI_add]) hi (by decide) hL
  have v2 : vp_in (nI (6 * i) + 2) S.2.2 := xvp (j := 2) (by rw [show (2 : Int32) = nI 2 by decide, nI_add]) hi (by decide) hL
  have v3 : vp_in (nI (6 * i) + 3) S.2.2 := xvp (j := 3) (by rw [show (3 : Int32) = nI 3 by decide, nI_add]) hi (by decide) hL
  have v4 : vp_in (nI (6 * i) + 4) S.2.2 := xvp (j := 4) (by rw [show (4 : Int32) = nI 4 by decide, nI_add]) hi (by decide) hL
  have v5 : vp_in (nI (6 * i) + 5) S.2.2 := xvp (j := 5) (by rw [show (5 : Int32) = nI 5 by decide, nI_add]) hi (by decide) hL
  obtain ⟨z, S1, S2, h1, h2, hI2⟩ := hop S ((S.1 999 ((nI (6 * i)) + 1).toNatClampNeg)) ((S.1 999 ((nI (6 * i)) + 2).toNatClampNeg)) hI
  have e1 : S1.1 999 = S.1 999 ∧ S1.2.2 = S.2.2 := xX_scr h1
  have e2 : S2.1 999 = S1.1 999 ∧ S2.2.2 = S1.2.2 := xX_scr h2
  refine ⟨S2, hI2, e2.1.trans e1.1, e2.2.trans e1.2, fun r hr => ?_⟩
  refine (b0_27 _ _ _ _).mpr ⟨v0, ?_⟩
  simp (decide := true) only [hk, if_true, if_false]
  simp (decide := true) only [b0_276, b0_290, b0_304, b0_307, xX_iff h1, xX_iff h2, exists_eq_left, xtl, v1, v2, v3, v4, v5, e1.1, e1.2, true_and, if_true, if_false, b0_1381, xlg_0]
  exact hr
theorem turn3 (I : xS → Prop) (hop : ∀ (S : xS) (v1 : Int32) (v2 : Int32), I S → xOpI I 72 122 [(1, .int v1), (2, .int v2)] S) (S : xS) (i : Nat) (hI : I S) (hi : 6 * i + 6 ≤ S.2.2) (hL : S.2.2 ≤ 3072) (hk : (S.1 999 (nI (6 * i)).toNatClampNeg) &&& 63 = 3) : xTo I S (nI (6 * i)) := by
  have v0 : vp_in (nI (6 * i)) S.2.2 := vp_in_nI (by omega) (by omega)
  have v1 : vp_in (nI (6 * i) + 1) S.2.2 := xvp (j := 1) (by rw [show (1 : Int32) = nI 1 by decide, nI_add]) hi (by decide) hL
  have v2 : vp_in (nI (6 * i) + 2) S.2.2 := xvp (j := 2) (by rw [show (2 : Int32) = nI 2 by decide, nI_add]) hi (by decide) hL
  have v3 : vp_in (nI (6 * i) + 3) S.2.2 := xvp (j := 3) (by rw [show (3 : Int32) = nI 3 by decide, nI_add]) hi (by decide) hL
  have v4 : vp_in (nI (6 * i) + 4) S.2.2 := xvp (j := 4) (by rw [show (4 : Int32) = nI 4 by decide, nI_add]) hi (by decide) hL
  have v5 : vp_in (nI (6 * i) + 5) S.2.2 := xvp (j := 5) (by rw [show (5 : Int32) = nI 5 by decide, nI_add]) hi (by decide) hL
  obtain ⟨z, S1, S2, h1, h2, hI2⟩ := hop S ((S.1 999 ((nI (6 * i)) + 1).toNatClampNeg)) ((S.1 999 ((nI (6 * i)) + 2).toNatClampNeg)) hI
  have e1 : S1.1 999 = S.1 999 ∧ S1.2.2 = S.2.2 := xX_scr h1
  have e2 : S2.1 999 = S1.1 999 ∧ S2.2.2 = S1.2.2 := xX_scr h2
  refine ⟨S2, hI2, e2.1.trans e1.1, e2.2.trans e1.2, fun r hr => ?_⟩
  refine (b0_27 _ _ _ _).mpr ⟨v0, ?_⟩
  simp (decide := true) only [hk, if_true, if_false]
  simp (decide := true) only [b0_309, b0_323, b0_337, b0_340, xX_iff h1, xX_iff h2, exists_eq_left, xtl, v1, v2, v3, v4, v5, e1.1, e1.2, true_and, if_true, if_false, b0_1381, xlg_0]
  exact hr
theorem turn4 (I : xS → Prop) (hop : ∀ (S : xS) (v1 : Int32) (v2 : Int32) (v3 : Int32), I S → xOpI I 73 123 [(1, .int v1), (2, .int v2), (3, .int v3)] S) (S : xS) (i : Nat) (hI : I S) (hi : 6 * i + 6 ≤ S.2.2) (hL : S.2.2 ≤ 3072) (hk : (S.1 999 (nI (6 * i)).toNatClampNeg) &&& 63 = 4) : xTo I S (nI (6 * i)) := by
  have v0 : vp_in (nI (6 * i)) S.2.2 := vp_in_nI (by omega) (by omega)
  have v1 : vp_in (nI (6 * i) + 1) S.2.2 := xvp (j := 1) (by rw [show (1 : Int32) = nI 1 by decide, nI_add]) hi (by decide) hL
  have v2 : vp_in (nI (6 * i) + 2) S.2.2 := xvp (j := 2) (by rw [show (2 : Int32) = nI 2 by decide, nI_add]) hi (by decide) hL
  have v3 : vp_in (nI (6 * i) + 3) S.2.2 := xvp (j := 3) (by rw [show (3 : Int32) = nI 3 by decide, nI_add]) hi (by decide) hL
  have v4 : vp_in (nI (6 * i) + 4) S.2.2 := xvp (j := 4) (by rw [show (4 : Int32) = nI 4 by decide, nI_add]) hi (by decide) hL
  have v5 : vp_in (nI (6 * i) + 5) S.2.2 := xvp (j := 5) (by rw [show (5 : Int32) = nI 5 by decide, nI_add]) hi (by decide) hL
  obtain ⟨z, S1, S2, h1, h2, hI2⟩ := hop S ((S.1 999 ((nI (6 * i)) + 1).toNatClampNeg)) ((S.1 999 ((nI (6 * i)) + 2).toNatClampNeg)) ((S.1 999 ((nI (6 * i)) + 3).toNatClampNeg)) hI
  have e1 : S1.1 999 = S.1 999 ∧ S1.2.2 = S.2.2 := xX_scr h1
  have e2 : S2.1 999 = S1.1 999 ∧ S2.2.2 = S1.2.2 := xX_scr h2
  refine ⟨S2, hI2, e2.1.trans e1.1, e2.2.trans e1.2, fun r hr => ?_⟩
  refine (b0_27 _ _ _ _).mpr ⟨v0, ?_⟩
  simp (decide := true) only [hk, if_true, if_false]
  simp (decide := true) only [b0_342, b0_361, b0_380, b0_383, xX_iff h1, xX_iff h2, exists_eq_left, xtl, v1, v2, v3, v4, v5, e1.1, e1.2, true_and, if_true, if_false, b0_1381, xlg_0]
  exact hr
theorem turn5 (I : xS → Prop) (hop : ∀ (S : xS) (v1 : Int32) (v2 : Int32), I S → xOpI I 75 124 [(1, .int v1), (2, .int v2)] S) (S : xS) (i : Nat) (hI : I S) (hi : 6 * i + 6 ≤ S.2.2) (hL : S.2.2 ≤ 3072) (hk : (S.1 999 (nI (6 * i)).toNatClampNeg) &&& 63 = 5) : xTo I S (nI (6 * i)) := by
  have v0 : vp_in (nI (6 * i)) S.2.2 := vp_in_nI (by omega) (by omega)
  have v1 : vp_in (nI (6 * i) + 1) S.2.2 := xvp (j := 1) (by rw [show (1 : Int32) = nI 1 by decide, nI_add]) hi (by decide) hL
  have v2 : vp_in (nI (6 * i) + 2) S.2.2 := xvp (j := 2) (by rw [show (2 : Int32) = nI 2 by decide, nI_add]) hi (by decide) hL
  have v3 : vp_in (nI (6 * i) + 3) S.2.2 := xvp (j := 3) (by rw [show (3 : Int32) = nI 3 by decide, nI_add]) hi (by decide) hL
  have v4 : vp_in (nI (6 * i) + 4) S.2.2 := xvp (j := 4) (by rw [show (4 : Int32) = nI 4 by decide, nI_add]) hi (by decide) hL
  have v5 : vp_in (nI (6 * i) + 5) S.2.2 := xvp (j := 5) (by rw [show (5 : Int32) = nI 5 by decide, nI_add]) hi (by decide) hL
  obtain ⟨z, S1, S2, h1, h2, hI2⟩ := hop S ((S.1 999 ((nI (6 * i)) + 1).toNatClampNeg)) ((S.1 999 ((nI (6 * i)) + 2).toNatClampNeg)) hI
  have e1 : S1.1 999 = S.1 999 ∧ S1.2.2 = S.2.2 := xX_scr h1
  have e2 : S2.1 999 = S1.1 999 ∧ S2.2.2 = S1.2.2 := xX_scr h2
  refine ⟨S2, hI2, e2.1.trans e1.1, e2.2.trans e1.2, fun r hr => ?_⟩
  refine (b0_27 _ _ _ _).mpr ⟨v0, ?_⟩
  simp (decide := true) only [hk, if_true, if_false]
  simp (decide := true) only [b0_385, b0_399, b0_413, b0_416, xX_iff h1, xX_iff h2, exists_eq_left, xtl, v1, v2, v3, v4, v5, e1.1, e1.2, true_and, if_true, if_false, b0_1381, xlg_0]
  exact hr
theorem turn6 (I : xS → Prop) (hop : ∀ (S : xS) (v1 : Int32) (v2 : Int32) (v3 : Int32), I S → xOpI I 76 125 [(1, .int v1), (2, .int v2), (3, .int v3)] S) (S : xS) (i : Nat) (hI : I S) (hi : 6 * i + 6 ≤ S.2.2) (hL : S.2.2 ≤ 3072) (hk : (S.1 999 (nI (6 * i)).toNatClampNeg) &&& 63 = 6) : xTo I S (nI (6 * i)) := by
  have v0 : vp_in (nI (6 * i)) S.2.2 := vp_in_nI (by omega) (by omega)
  have v1 : vp_in (nI (6 * i) + 1) S.2.2 := xvp (j := 1) (by rw [show (1 : Int32) = nI 1 by decide, nI_add]) hi (by decide) hL
  have v2 : vp_in (nI (6 * i) + 2) S.2.2 := xvp (j := 2) (by rw [show (2 : Int32) = nI 2 by decide, nI_add]) hi (by decide) hL
  have v3 : vp_in (nI (6 * i) + 3) S.2.2 := xvp (j := 3) (by rw [show (3 : Int32) = nI 3 by decide, nI_add]) hi (by decide) hL
  have v4 : vp_in (nI (6 * i) + 4) S.2.2 := xvp (j := 4) (by rw [show (4 : Int32) = nI 4 by decide, nI_add]) hi (by decide) hL
  have v5 : vp_in (nI (6 * i) + 5) S.2.2 := xvp (j := 5) (by rw [show (5 : Int32) = nI 5 by decide, nI_add]) hi (by decide) hL
  obtain ⟨z, S1, S2, h1, h2, hI2⟩ := hop S ((S.1 999 ((nI (6 * i)) + 1).toNatClampNeg)) ((S.1 999 ((nI (6 * i)) + 2).toNatClampNeg)) ((S.1 999 ((nI (6 * i)) + 3).toNatClampNeg)) hI
  have e1 : S1.1 999 = S.1 999 ∧ S1.2.2 = S.2.2 := xX_scr h1
  have e2 : S2.1 999 = S1.1 999 ∧ S2.2.2 = S1.2.2 := xX_scr h2
  refine ⟨S2, hI2, e2.1.trans e1.1, e2.2.trans e1.2, fun r hr => ?_⟩
  refine (b0_27 _ _ _ _).mpr ⟨v0, ?_⟩
  simp (decide := true) only [hk, if_true, if_false]
  simp (decide := true) only [b0_418, b0_437, b0_456, b0_459, xX_iff h1, xX_iff h2, exists_eq_left, xtl, v1, v2, v3, v4, v5, e1.1, e1.2, true_and, if_true, if_false, b0_1381, xlg_0]
  exact hr
theorem turn7 (I : xS → Prop) (hop : ∀ (S : xS) (v1 : Int32) (v2 : Int32) (v3 : Int32), I S → xOpI I 77 126 [(1, .int v1), (2, .int v2), (3, .int v3)] S) (S : xS) (i : Nat) (hI : I S) (hi : 6 * i + 6 ≤ S.2.2) (hL : S.2.2 ≤ 3072) (hk : (S.1 999 (nI (6 * i)).toNatClampNeg) &&& 63 = 7) : xTo I S (nI (6 * i)) := by
  have v0 : vp_in (nI (6 * i)) S.2.2 := vp_in_nI (by omega) (by omega)
  have v1 : vp_in (nI (6 * i) + 1) S.2.2 := xvp (j := 1) (by rw [show (1 : Int32) = nI 1 by decide, nI_add]) hi (by decide) hL
  have v2 : vp_in (nI (6 * i) + 2) S.2.2 := xvp (j := 2) (by rw [show (2 : Int32) = nI 2 by decide, nI_add]) hi (by decide) hL
  have v3 : vp_in (nI (6 * i) + 3) S.2.2 := xvp (j := 3) (by rw [show (3 : Int32) = nI 3 by decide, nI_add]) hi (by decide) hL
  have v4 : vp_in (nI (6 * i) + 4) S.2.2 := xvp (j := 4) (by rw [show (4 : Int32) = nI 4 by decide, nI_add]) hi (by decide) hL
  have v5 : vp_in (nI (6 * i) + 5) S.2.2 := xvp (j := 5) (by rw [show (5 : Int32) = nI 5 by decide, nI_add]) hi (by decide) hL
  obtain ⟨z, S1, S2, h1, h2, hI2⟩ := hop S ((S.1 999 ((nI (6 * i)) + 1).toNatClampNeg)) ((S.1 999 ((nI (6 * i)) + 2).toNatClampNeg)) ((S.1 999 ((nI (6 * i)) + 3).toNatClampNeg)) hI
  have e1 : S1.1 999 = S.1 999 ∧ S1.2.2 = S.2.2 := xX_scr h1
  have e2 : S2.1 999 = S1.1 999 ∧ S2.2.2 = S1.2.2 := xX_scr h2
  refine ⟨S2, hI2, e2.1.trans e1.1, e2.2.trans e1.2, fun r hr => ?_⟩
  refine (b0_27 _ _ _ _).mpr ⟨v0, ?_⟩
  simp (decide := true) only [hk, if_true, if_false]
  simp (decide := true) only [b0_461, b0_480, b0_499, b0_502, xX_iff h1, xX_iff h2, exists_eq_left, xtl, v1, v2, v3, v4, v5, e1.1, e1.2, true_and, if_true, if_false, b0_1381, xlg_0]
  exact hr
theorem turn8 (I : xS → Prop) (hop : ∀ (S : xS) (v1 : Int32) (v2 : Int32) (v3 : Int32), I S → xOpI I 79 127 [(1, .int v1), (2, .int v2), (3, .int v3)] S) (S : xS) (i : Nat) (hI : I S) (hi : 6 * i + 6 ≤ S.2.2) (hL : S.2.2 ≤ 3072) (hk : (S.1 999 (nI (6 * i)).toNatClampNeg) &&& 63 = 8) : xTo I S (nI (6 * i)) := by
  have v0 : vp_in (nI (6 * i)) S.2.2 := vp_in_nI (by omega) (by omega)
  have v1 : vp_in (nI (6 * i) + 1) S.2.2 := xvp (j := 1) (by rw [show (1 : Int32) = nI 1 by decide, nI_add]) hi (by decide) hL
  have v2 : vp_in (nI (6 * i) + 2) S.2.2 := xvp (j := 2) (by rw [show (2 : Int32) = nI 2 by decide, nI_add]) hi (by decide) hL
  have v3 : vp_in (nI (6 * i) + 3) S.2.2 := xvp (j := 3) (by rw [show (3 : Int32) = nI 3 by decide, nI_add]) hi (by decide) hL
  have v4 : vp_in (nI (6 * i) + 4) S.2.2 := xvp (j := 4) (by rw [show (4 : Int32) = nI 4 by decide, nI_add]) hi (by decide) hL
  have v5 : vp_in (nI (6 * i) + 5) S.2.2 := xvp (j := 5) (by rw [show (5 : Int32) = nI 5 by decide, nI_add]) hi (by decide) hL
  obtain ⟨z, S1, S2, h1, h2, hI2⟩ := hop S ((S.1 999 ((nI (6 * i)) + 1).toNatClampNeg)) ((S.1 999 ((nI (6 * i)) + 2).toNatClampNeg)) ((S.1 999 ((nI (6 * i)) + 3).toNatClampNeg)) hI
  have e1 : S1.1 999 = S.1 999 ∧ S1.2.2 = S.2.2 := xX_scr h1
  have e2 : S2.1 999 = S1.1 999 ∧ S2.2.2 = S1.2.2 := xX_scr h2
  refine ⟨S2, hI2, e2.1.trans e1.1, e2.2.trans e1.2, fun r hr => ?_⟩
  refine (b0_27 _ _ _ _).mpr ⟨v0, ?_⟩
  simp (decide := true) only [hk, if_true, if_false]
  simp (decide := true) only [b0_504, b0_523, b0_542, b0_545, xX_iff h1, xX_iff h2, exists_eq_left, xtl, v1, v2, v3, v4, v5, e1.1, e1.2, true_and, if_true, if_false, b0_1381, xlg_0]
  exact hr
theorem turn9 (I : xS → Prop) (hop : ∀ (S : xS) (v1 : Int32) (v2 : Int32) (v3 : Int64), I S → xOpI I 81 128 [(1, .int v1), (2, .int v2), (3, .long v3)] S) (S : xS) (i : Nat) (hI : I S) (hi : 6 * i + 6 ≤ S.2.2) (hL : S.2.2 ≤ 3072) (hk : (S.1 999 (nI (6 * i)).toNatClampNeg) &&& 63 = 9) : xTo I S (nI (6 * i)) := by
  have v0 : vp_in (nI (6 * i)) S.2.2 := vp_in_nI (by omega) (by omega)
  have v1 : vp_in (nI (6 * i) + 1) S.2.2 := xvp (j := 1) (by rw [show (1 : Int32) = nI 1 by decide, nI_add]) hi (by decide) hL
  have v2 : vp_in (nI (6 * i) + 2) S.2.2 := xvp (j := 2) (by rw [show (2 : Int32) = nI 2 by decide, nI_add]) hi (by decide) hL
  have v3 : vp_in (nI (6 * i) + 3) S.2.2 := xvp (j := 3) (by rw [show (3 : Int32) = nI 3 by decide, nI_add]) hi (by decide) hL
  have v4 : vp_in (nI (6 * i) + 4) S.2.2 := xvp (j := 4) (by rw [show (4 : Int32) = nI 4 by decide, nI_add]) hi (by decide) hL
  have v5 : vp_in (nI (6 * i) + 5) S.2.2 := xvp (j := 5) (by rw [show (5 : Int32) = nI 5 by decide, nI_add]) hi (by decide) hL
  obtain ⟨z, S1, S2, h1, h2, hI2⟩ := hop S ((S.1 999 ((nI (6 * i)) + 1).toNatClampNeg)) ((S.1 999 ((nI (6 * i)) + 2).toNatClampNeg)) ((((Int32.toInt64 (S.1 999 ((nI (6 * i)) + 3).toNatClampNeg)) <<< ((32 : Int32).toInt64 &&& 63)) ||| ((Int32.toInt64 (S.1 999 ((nI (6 * i)) + 4).toNatClampNeg)) &&& 4294967295))) hI
  have e1 : S1.1 999 = S.1 999 ∧ S1.2.2 = S.2.2 := xX_scr h1
  have e2 : S2.1 999 = S1.1 999 ∧ S2.2.2 = S1.2.2 := xX_scr h2
  refine ⟨S2, hI2, e2.1.trans e1.1, e2.2.trans e1.2, fun r hr => ?_⟩
  refine (b0_27 _ _ _ _).mpr ⟨v0, ?_⟩
  simp (decide := true) only [hk, if_true, if_false]
  simp (decide := true) only [b0_547, b0_581, b0_615, b0_618, xX_iff h1, xX_iff h2, exists_eq_left, xtl, v1, v2, v3, v4, v5, e1.1, e1.2, true_and, if_true, if_false, b0_1381, xlg_0]
  exact hr
theorem turn10 (I : xS → Prop) (hop : ∀ (S : xS) (v1 : Int32) (v2 : Int32) (v3 : Int32) (v4 : Int32) (v5 : Int32), I S → xOpI I 82 129 [(1, .int v1), (2, .int v2), (3, .int v3), (4, .int v4), (5, .int v5)] S) (S : xS) (i : Nat) (hI : I S) (hi : 6 * i + 6 ≤ S.2.2) (hL : S.2.2 ≤ 3072) (hk : (S.1 999 (nI (6 * i)).toNatClampNeg) &&& 63 = 10) : xTo I S (nI (6 * i)) := by
  have v0 : vp_in (nI (6 * i)) S.2.2 := vp_in_nI (by omega) (by omega)
  have v1 : vp_in (nI (6 * i) + 1) S.2.2 := xvp (j := 1) (by rw [show (1 : Int32) = nI 1 by decide, nI_add]) hi (by decide) hL
  have v2 : vp_in (nI (6 * i) + 2) S.2.2 := xvp (j := 2) (by rw [show (2 : Int32) = nI 2 by decide, nI_add]) hi (by decide) hL
  have v3 : vp_in (nI (6 * i) + 3) S.2.2 := xvp (j := 3) (by rw [show (3 : Int32) = nI 3 by decide, nI_add]) hi (by decide) hL
  have v4 : vp_in (nI (6 * i) + 4) S.2.2 := xvp (j := 4) (by rw [show (4 : Int32) = nI 4 by decide, nI_add]) hi (by decide) hL
  have v5 : vp_in (nI (6 * i) + 5) S.2.2 := xvp (j := 5) (by rw [show (5 : Int32) = nI 5 by decide, nI_add]) hi (by decide) hL
  obtain ⟨z, S1, S2, h1, h2, hI2⟩ := hop S ((S.1 999 ((nI (6 * i)) + 1).toNatClampNeg)) ((S.1 999 ((nI (6 * i)) + 2).toNatClampNeg)) ((S.1 999 ((nI (6 * i)) + 3).toNatClampNeg)) ((S.1 999 ((nI (6 * i)) + 4).toNatClampNeg)) ((S.1 999 ((nI (6 * i)) + 5).toNatClampNeg)) hI
  have e1 : S1.1 999 = S.1 999 ∧ S1.2.2 = S.2.2 := xX_scr h1
  have e2 : S2.1 999 = S1.1 999 ∧ S2.2.2 = S1.2.2 := xX_scr h2
  refine ⟨S2, hI2, e2.1.trans e1.1, e2.2.trans e1.2, fun r hr => ?_⟩
  refine (b0_27 _ _ _ _).mpr ⟨v0, ?_⟩
  simp (decide := true) only [hk, if_true, if_false]
  simp (decide := true) only [b0_620, b0_649, b0_678, b0_681, xX_iff h1, xX_iff h2, exists_eq_left, xtl, v1, v2, v3, v4, v5, e1.1, e1.2, true_and, if_true, if_false, b0_1381, xlg_0]
  exact hr
theorem turn11 (I : xS → Prop) (hop : ∀ (S : xS) (v1 : Int32) (v2 : Int32), I S → xOpJ I 83 130 [(1, .int v1), (2, .int v2)] S) (S : xS) (i : Nat) (hI : I S) (hi : 6 * i + 6 ≤ S.2.2) (hL : S.2.2 ≤ 3072) (hk : (S.1 999 (nI (6 * i)).toNatClampNeg) &&& 63 = 11) : xTo I S (nI (6 * i)) := by
  have v0 : vp_in (nI (6 * i)) S.2.2 := vp_in_nI (by omega) (by omega)
  have v1 : vp_in (nI (6 * i) + 1) S.2.2 := xvp (j := 1) (by rw [show (1 : Int32) = nI 1 by decide, nI_add]) hi (by decide) hL
  have v2 : vp_in (nI (6 * i) + 2) S.2.2 := xvp (j := 2) (by rw [show (2 : Int32) = nI 2 by decide, nI_add]) hi (by decide) hL
  have v3 : vp_in (nI (6 * i) + 3) S.2.2 := xvp (j := 3) (by rw [show (3 : Int32) = nI 3 by decide, nI_add]) hi (by decide) hL
  have v4 : vp_in (nI (6 * i) + 4) S.2.2 := xvp (j := 4) (by rw [show (4 : Int32) = nI 4 by decide, nI_add]) hi (by decide) hL
  have v5 : vp_in (nI (6 * i) + 5) S.2.2 := xvp (j := 5) (by rw [show (5 : Int32) = nI 5 by decide, nI_add]) hi (by decide) hL
  obtain ⟨z, S1, S2, h1, h2, hI2⟩ := hop S ((S.1 999 ((nI (6 * i)) + 1).toNatClampNeg)) ((S.1 999 ((nI (6 * i)) + 2).toNatClampNeg)) hI
  have e1 : S1.1 999 = S.1 999 ∧ S1.2.2 = S.2.2 := xX_scr h1
  have e2 : S2.1 999 = S1.1 999 ∧ S2.2.2 = S1.2.2 := xX_scr h2
  refine ⟨S2, hI2, e2.1.trans e1.1, e2.2.trans e1.2, fun r hr => ?_⟩
  refine (b0_27 _ _ _ _).mpr ⟨v0, ?_⟩
  simp (decide := true) only [hk, if_true, if_false]
  simp (decide := true) only [b0_683, b0_697, b0_711, b0_715, xX_iff h1, xX_iff h2, exists_eq_left, xtl, v1, v2, v3, v4, v5, e1.1, e1.2, true_and, if_true, if_false, b0_1381, xlg_0]
  exact hr
theorem turn12 (I : xS → Prop) (hop : ∀ (S : xS) (v1 : Int32) (v2 : Int32), I S → xOpI I 84 131 [(1, .int v1), (2, .int v2)] S) (S : xS) (i : Nat) (hI : I S) (hi : 6 * i + 6 ≤ S.2.2) (hL : S.2.2 ≤ 3072) (hk : (S.1 999 (nI (6 * i)).toNatClampNeg) &&& 63 = 12) : xTo I S (nI (6 * i)) := by
  have v0 : vp_in (nI (6 * i)) S.2.2 := vp_in_nI (by omega) (by omega)
  have v1 : vp_in (nI (6 * i) + 1) S.2.2 := xvp (j := 1) (by rw [show (1 : Int32) = nI 1 by decide, nI_add]) hi (by decide) hL
  have v2 : vp_in (nI (6 * i) + 2) S.2.2 := xvp (j := 2) (by rw [show (2 : Int32) = nI 2 by decide, nI_add]) hi (by decide) hL
  have v3 : vp_in (nI (6 * i) + 3) S.2.2 := xvp (j := 3) (by rw [show (3 : Int32) = nI 3 by decide, nI_add]) hi (by decide) hL
  have v4 : vp_in (nI (6 * i) + 4) S.2.2 := xvp (j := 4) (by rw [show (4 : Int32) = nI 4 by decide, nI_add]) hi (by decide) hL
  have v5 : vp_in (nI (6 * i) + 5) S.2.2 := xvp (j := 5) (by rw [show (5 : Int32) = nI 5 by decide, nI_add]) hi (by decide) hL
  obtain ⟨z, S1, S2, h1, h2, hI2⟩ := hop S ((S.1 999 ((nI (6 * i)) + 1).toNatClampNeg)) ((S.1 999 ((nI (6 * i)) + 2).toNatClampNeg)) hI
  have e1 : S1.1 999 = S.1 999 ∧ S1.2.2 = S.2.2 := xX_scr h1
  have e2 : S2.1 999 = S1.1 999 ∧ S2.2.2 = S1.2.2 := xX_scr h2
  refine ⟨S2, hI2, e2.1.trans e1.1, e2.2.trans e1.2, fun r hr => ?_⟩
  refine (b0_27 _ _ _ _).mpr ⟨v0, ?_⟩
  simp (decide := true) only [hk, if_true, if_false]
  simp (decide := true) only [b0_717, b0_731, b0_745, b0_748, xX_iff h1, xX_iff h2, exists_eq_left, xtl, v1, v2, v3, v4, v5, e1.1, e1.2, true_and, if_true, if_false, b0_1381, xlg_0]
  exact hr
theorem turn13 (I : xS → Prop) (hop : ∀ (S : xS) (v1 : Int32), I S → xOpI I 85 132 [(1, .int v1)] S) (S : xS) (i : Nat) (hI : I S) (hi : 6 * i + 6 ≤ S.2.2) (hL : S.2.2 ≤ 3072) (hk : (S.1 999 (nI (6 * i)).toNatClampNeg) &&& 63 = 13) : xTo I S (nI (6 * i)) := by
  have v0 : vp_in (nI (6 * i)) S.2.2 := vp_in_nI (by omega) (by omega)
  have v1 : vp_in (nI (6 * i) + 1) S.2.2 := xvp (j := 1) (by rw [show (1 : Int32) = nI 1 by decide, nI_add]) hi (by decide) hL
  have v2 : vp_in (nI (6 * i) + 2) S.2.2 := xvp (j := 2) (by rw [show (2 : Int32) = nI 2 by decide, nI_add]) hi (by decide) hL
  have v3 : vp_in (nI (6 * i) + 3) S.2.2 := xvp (j := 3) (by rw [show (3 : Int32) = nI 3 by decide, nI_add]) hi (by decide) hL
  have v4 : vp_in (nI (6 * i) + 4) S.2.2 := xvp (j := 4) (by rw [show (4 : Int32) = nI 4 by decide, nI_add]) hi (by decide) hL
  have v5 : vp_in (nI (6 * i) + 5) S.2.2 := xvp (j := 5) (by rw [show (5 : Int32) = nI 5 by decide, nI_add]) hi (by decide) hL
  obtain ⟨z, S1, S2, h1, h2, hI2⟩ := hop S ((S.1 999 ((nI (6 * i)) + 1).toNatClampNeg)) hI
  have e1 : S1.1 999 = S.1 999 ∧ S1.2.2 = S.2.2 := xX_scr h1
  have e2 : S2.1 999 = S1.1 999 ∧ S2.2.2 = S1.2.2 := xX_scr h2
  refine ⟨S2, hI2, e2.1.trans e1.1, e2.2.trans e1.2, fun r hr => ?_⟩
  refine (b0_27 _ _ _ _).mpr ⟨v0, ?_⟩
  simp (decide := true) only [hk, if_true, if_false]
  simp (decide := true) only [b0_750, b0_759, b0_768, b0_771, xX_iff h1, xX_iff h2, exists_eq_left, xtl, v1, v2, v3, v4, v5, e1.1, e1.2, true_and, if_true, if_false, b0_1381, xlg_0]
  exact hr
theorem turn14 (I : xS → Prop) (hop : ∀ (S : xS) (v1 : Int32), I S → xOpI I 86 133 [(1, .int v1)] S) (S : xS) (i : Nat) (hI : I S) (hi : 6 * i + 6 ≤ S.2.2) (hL : S.2.2 ≤ 3072) (hk : (S.1 999 (nI (6 * i)).toNatClampNeg) &&& 63 = 14) : xTo I S (nI (6 * i)) := by
  have v0 : vp_in (nI (6 * i)) S.2.2 := vp_in_nI (by omega) (by omega)
  have v1 : vp_in (nI (6 * i) + 1) S.2.2 := xvp (j := 1) (by rw [show (1 : Int32) = nI 1 by decide, nI_add]) hi (by decide) hL
  have v2 : vp_in (nI (6 * i) + 2) S.2.2 := xvp (j := 2) (by rw [show (2 : Int32) = nI 2 by decide, nI_add]) hi (by decide) hL
  have v3 : vp_in (nI (6 * i) + 3) S.2.2 := xvp (j := 3) (by rw [show (3 : Int32) = nI 3 by decide, nI_add]) hi (by decide) hL
  have v4 : vp_in (nI (6 * i) + 4) S.2.2 := xvp (j := 4) (by rw [show (4 : Int32) = nI 4 by decide, nI_add]) hi (by decide) hL
  have v5 : vp_in (nI (6 * i) + 5) S.2.2 := xvp (j := 5) (by rw [show (5 : Int32) = nI 5 by decide, nI_add]) hi (by decide) hL
  obtain ⟨z, S1, S2, h1, h2, hI2⟩ := hop S ((S.1 999 ((nI (6 * i)) + 1).toNatClampNeg)) hI
  have e1 : S1.1 999 = S.1 999 ∧ S1.2.2 = S.2.2 := xX_scr h1
  have e2 : S2.1 999 = S1.1 999 ∧ S2.2.2 = S1.2.2 := xX_scr h2
  refine ⟨S2, hI2, e2.1.trans e1.1, e2.2.trans e1.2, fun r hr => ?_⟩
  refine (b0_27 _ _ _ _).mpr ⟨v0, ?_⟩
  simp (decide := true) only [hk, if_true, if_false]
  simp (decide := true) only [b0_773, b0_782, b0_791, b0_794, xX_iff h1, xX_iff h2, exists_eq_left, xtl, v1, v2, v3, v4, v5, e1.1, e1.2, true_and, if_true, if_false, b0_1381, xlg_0]
  exact hr
theorem turn15 (I : xS → Prop) (hop : ∀ (S : xS) (v1 : Int32) (v2 : Int32), I S → (v2 = 0 ∨ v2 = 1) → xOpI I 87 134 [(1, .int v1), (2, .int v2)] S) (S : xS) (i : Nat) (hI : I S) (hi : 6 * i + 6 ≤ S.2.2) (hL : S.2.2 ≤ 3072) (hk : (S.1 999 (nI (6 * i)).toNatClampNeg) &&& 63 = 15) : xTo I S (nI (6 * i)) := by
  have v0 : vp_in (nI (6 * i)) S.2.2 := vp_in_nI (by omega) (by omega)
  have v1 : vp_in (nI (6 * i) + 1) S.2.2 := xvp (j := 1) (by rw [show (1 : Int32) = nI 1 by decide, nI_add]) hi (by decide) hL
  have v2 : vp_in (nI (6 * i) + 2) S.2.2 := xvp (j := 2) (by rw [show (2 : Int32) = nI 2 by decide, nI_add]) hi (by decide) hL
  have v3 : vp_in (nI (6 * i) + 3) S.2.2 := xvp (j := 3) (by rw [show (3 : Int32) = nI 3 by decide, nI_add]) hi (by decide) hL
  have v4 : vp_in (nI (6 * i) + 4) S.2.2 := xvp (j := 4) (by rw [show (4 : Int32) = nI 4 by decide, nI_add]) hi (by decide) hL
  have v5 : vp_in (nI (6 * i) + 5) S.2.2 := xvp (j := 5) (by rw [show (5 : Int32) = nI 5 by decide, nI_add]) hi (by decide) hL
  by_cases hz : S.1 999 (nI (6 * i) + 2).toNatClampNeg = 0
  · skip
    obtain ⟨z, S1, S2, h1, h2, hI2⟩ := hop S (S.1 999 (nI (6 * i) + 1).toNatClampNeg) 0 hI (Or.inl rfl)
    have e1 : S1.1 999 = S.1 999 ∧ S1.2.2 = S.2.2 := xX_scr h1
    have e2 : S2.1 999 = S1.1 999 ∧ S2.2.2 = S1.2.2 := xX_scr h2
    refine ⟨S2, hI2, e2.1.trans e1.1, e2.2.trans e1.2, fun r hr => ?_⟩
    refine (b0_27 _ _ _ _).mpr ⟨v0, ?_⟩
    simp (decide := true) only [hk, if_true, if_false]
    simp (decide := true) only [b0_796, b0_810, b0_814, b0_818, b0_832, b0_836, b0_840, b0_843, xX_iff h1, xX_iff h2, exists_eq_left, xtl, v1, v2, v3, v4, v5, e1.1, e1.2, true_and, if_true, if_false, b0_1381, xlg_0, hz]
    exact hr
  · skip
    obtain ⟨z, S1, S2, h1, h2, hI2⟩ := hop S (S.1 999 (nI (6 * i) + 1).toNatClampNeg) 1 hI (Or.inr rfl)
    have e1 : S1.1 999 = S.1 999 ∧ S1.2.2 = S.2.2 := xX_scr h1
    have e2 : S2.1 999 = S1.1 999 ∧ S2.2.2 = S1.2.2 := xX_scr h2
    refine ⟨S2, hI2, e2.1.trans e1.1, e2.2.trans e1.2, fun r hr => ?_⟩
    refine (b0_27 _ _ _ _).mpr ⟨v0, ?_⟩
    simp (decide := true) only [hk, if_true, if_false]
    simp (decide := true) only [b0_796, b0_810, b0_814, b0_818, b0_832, b0_836, b0_840, b0_843, xX_iff h1, xX_iff h2, exists_eq_left, xtl, v1, v2, v3, v4, v5, e1.1, e1.2, true_and, if_true, if_false, b0_1381, xlg_0, hz]
    exact hr
theorem turn16 (I : xS → Prop) (hop : ∀ (S : xS) (v1 : Int32) (v2 : Int32), I S → xOpI I 89 136 [(1, .int v1), (2, .int v2)] S) (S : xS) (i : Nat) (hI : I S) (hi : 6 * i + 6 ≤ S.2.2) (hL : S.2.2 ≤ 3072) (hk : (S.1 999 (nI (6 * i)).toNatClampNeg) &&& 63 = 16) : xTo I S (nI (6 * i)) := by
  have v0 : vp_in (nI (6 * i)) S.2.2 := vp_in_nI (by omega) (by omega)
  have v1 : vp_in (nI (6 * i) + 1) S.2.2 := xvp (j := 1) (by rw [show (1 : Int32) = nI 1 by decide, nI_add]) hi (by decide) hL
  have v2 : vp_in (nI (6 * i) + 2) S.2.2 := xvp (j := 2) (by rw [show (2 : Int32) = nI 2 by decide, nI_add]) hi (by decide) hL
  have v3 : vp_in (nI (6 * i) + 3) S.2.2 := xvp (j := 3) (by rw [show (3 : Int32) = nI 3 by decide, nI_add]) hi (by decide) hL
  have v4 : vp_in (nI (6 * i) + 4) S.2.2 := xvp (j := 4) (by rw [show (4 : Int32) = nI 4 by decide, nI_add]) hi (by decide) hL
  have v5 : vp_in (nI (6 * i) + 5) S.2.2 := xvp (j := 5) (by rw [show (5 : Int32) = nI 5 by decide, nI_add]) hi (by decide) hL
  obtain ⟨z, S1, S2, h1, h2, hI2⟩ := hop S ((S.1 999 ((nI (6 * i)) + 1).toNatClampNeg)) ((S.1 999 ((nI (6 * i)) + 2).toNatClampNeg)) hI
  have e1 : S1.1 999 = S.1 999 ∧ S1.2.2 = S.2.2 := xX_scr h1
  have e2 : S2.1 999 = S1.1 999 ∧ S2.2.2 = S1.2.2 := xX_scr h2
  refine ⟨S2, hI2, e2.1.trans e1.1, e2.2.trans e1.2, fun r hr => ?_⟩
  refine (b0_27 _ _ _ _).mpr ⟨v0, ?_⟩
  simp (decide := true) only [hk, if_true, if_false]
  simp (decide := true) only [b0_845, b0_859, b0_873, b0_876, xX_iff h1, xX_iff h2, exists_eq_left, xtl, v1, v2, v3, v4, v5, e1.1, e1.2, true_and, if_true, if_false, b0_1381, xlg_0]
  exact hr
theorem turn17 (I : xS → Prop) (hop : ∀ (S : xS) (v1 : Int32), I S → xOpI I 90 137 [(1, .int v1)] S) (S : xS) (i : Nat) (hI : I S) (hi : 6 * i + 6 ≤ S.2.2) (hL : S.2.2 ≤ 3072) (hk : (S.1 999 (nI (6 * i)).toNatClampNeg) &&& 63 = 17) : xTo I S (nI (6 * i)) := by
  have v0 : vp_in (nI (6 * i)) S.2.2 := vp_in_nI (by omega) (by omega)
  have v1 : vp_in (nI (6 * i) + 1) S.2.2 := xvp (j := 1) (by rw [show (1 : Int32) = nI 1 by decide, nI_add]) hi (by decide) hL
  have v2 : vp_in (nI (6 * i) + 2) S.2.2 := xvp (j := 2) (by rw [show (2 : Int32) = nI 2 by decide, nI_add]) hi (by decide) hL
  have v3 : vp_in (nI (6 * i) + 3) S.2.2 := xvp (j := 3) (by rw [show (3 : Int32) = nI 3 by decide, nI_add]) hi (by decide) hL
  have v4 : vp_in (nI (6 * i) + 4) S.2.2 := xvp (j := 4) (by rw [show (4 : Int32) = nI 4 by decide, nI_add]) hi (by decide) hL
  have v5 : vp_in (nI (6 * i) + 5) S.2.2 := xvp (j := 5) (by rw [show (5 : Int32) = nI 5 by decide, nI_add]) hi (by decide) hL
  obtain ⟨z, S1, S2, h1, h2, hI2⟩ := hop S ((S.1 999 ((nI (6 * i)) + 1).toNatClampNeg)) hI
  have e1 : S1.1 999 = S.1 999 ∧ S1.2.2 = S.2.2 := xX_scr h1
  have e2 : S2.1 999 = S1.1 999 ∧ S2.2.2 = S1.2.2 := xX_scr h2
  refine ⟨S2, hI2, e2.1.trans e1.1, e2.2.trans e1.2, fun r hr => ?_⟩
  refine (b0_27 _ _ _ _).mpr ⟨v0, ?_⟩
  simp (decide := true) only [hk, if_true, if_false]
  simp (decide := true) only [b0_878, b0_887, b0_896, b0_899, xX_iff h1, xX_iff h2, exists_eq_left, xtl, v1, v2, v3, v4, v5, e1.1, e1.2, true_and, if_true, if_false, b0_1381, xlg_0]
  exact hr
theorem turn18 (I : xS → Prop) (hop : ∀ (S : xS) (v1 : Int32), I S → xOpI I 91 152 [(1, .int v1)] S) (S : xS) (i : Nat) (hI : I S) (hi : 6 * i + 6 ≤ S.2.2) (hL : S.2.2 ≤ 3072) (hk : (S.1 999 (nI (6 * i)).toNatClampNeg) &&& 63 = 18) : xTo I S (nI (6 * i)) := by
  have v0 : vp_in (nI (6 * i)) S.2.2 := vp_in_nI (by omega) (by omega)
  have v1 : vp_in (nI (6 * i) + 1) S.2.2 := xvp (j := 1) (by rw [show (1 : Int32) = nI 1 by decide, nI_add]) hi (by decide) hL
  have v2 : vp_in (nI (6 * i) + 2) S.2.2 := xvp (j := 2) (by rw [show (2 : Int32) = nI 2 by decide, nI_add]) hi (by decide) hL
  have v3 : vp_in (nI (6 * i) + 3) S.2.2 := xvp (j := 3) (by rw [show (3 : Int32) = nI 3 by decide, nI_add]) hi (by decide) hL
  have v4 : vp_in (nI (6 * i) + 4) S.2.2 := xvp (j := 4) (by rw [show (4 : Int32) = nI 4 by decide, nI_add]) hi (by decide) hL
  have v5 : vp_in (nI (6 * i) + 5) S.2.2 := xvp (j := 5) (by rw [show (5 : Int32) = nI 5 by decide, nI_add]) hi (by decide) hL
  obtain ⟨z, S1, S2, h1, h2, hI2⟩ := hop S ((S.1 999 ((nI (6 * i)) + 1).toNatClampNeg)) hI
  have e1 : S1.1 999 = S.1 999 ∧ S1.2.2 = S.2.2 := xX_scr h1
  have e2 : S2.1 999 = S1.1 999 ∧ S2.2.2 = S1.2.2 := xX_scr h2
  refine ⟨S2, hI2, e2.1.trans e1.1, e2.2.trans e1.2, fun r hr => ?_⟩
  refine (b0_27 _ _ _ _).mpr ⟨v0, ?_⟩
  simp (decide := true) only [hk, if_true, if_false]
  simp (decide := true) only [b0_901, b0_910, b0_919, b0_922, xX_iff h1, xX_iff h2, exists_eq_left, xtl, v1, v2, v3, v4, v5, e1.1, e1.2, true_and, if_true, if_false, b0_1381, xlg_0]
  exact hr
theorem turn19 (I : xS → Prop) (hop : ∀ (S : xS) (v1 : Int32), I S → xOpI I 92 153 [(1, .int v1)] S) (S : xS) (i : Nat) (hI : I S) (hi : 6 * i + 6 ≤ S.2.2) (hL : S.2.2 ≤ 3072) (hk : (S.1 999 (nI (6 * i)).toNatClampNeg) &&& 63 = 19) : xTo I S (nI (6 * i)) := by
  have v0 : vp_in (nI (6 * i)) S.2.2 := vp_in_nI (by omega) (by omega)
  have v1 : vp_in (nI (6 * i) + 1) S.2.2 := xvp (j := 1) (by rw [show (1 : Int32) = nI 1 by decide, nI_add]) hi (by decide) hL
  have v2 : vp_in (nI (6 * i) + 2) S.2.2 := xvp (j := 2) (by rw [show (2 : Int32) = nI 2 by decide, nI_add]) hi (by decide) hL
  have v3 : vp_in (nI (6 * i) + 3) S.2.2 := xvp (j := 3) (by rw [show (3 : Int32) = nI 3 by decide, nI_add]) hi (by decide) hL
  have v4 : vp_in (nI (6 * i) + 4) S.2.2 := xvp (j := 4) (by rw [show (4 : Int32) = nI 4 by decide, nI_add]) hi (by decide) hL
  have v5 : vp_in (nI (6 * i) + 5) S.2.2 := xvp (j := 5) (by rw [show (5 : Int32) = nI 5 by decide, nI_add]) hi (by decide) hL
  obtain ⟨z, S1, S2, h1, h2, hI2⟩ := hop S ((S.1 999 ((nI (6 * i)) + 1).toNatClampNeg)) hI
  have e1 : S1.1 999 = S.1 999 ∧ S1.2.2 = S.2.2 := xX_scr h1
  have e2 : S2.1 999 = S1.1 999 ∧ S2.2.2 = S1.2.2 := xX_scr h2
  refine ⟨S2, hI2, e2.1.trans e1.1, e2.2.trans e1.2, fun r hr => ?_⟩
  refine (b0_27 _ _ _ _).mpr ⟨v0, ?_⟩
  simp (decide := true) only [hk, if_true, if_false]
  simp (decide := true) only [b0_924, b0_933, b0_942, b0_945, xX_iff h1, xX_iff h2, exists_eq_left, xtl, v1, v2, v3, v4, v5, e1.1, e1.2, true_and, if_true, if_false, b0_1381, xlg_0]
  exact hr
theorem turn20 (I : xS → Prop) (hop : ∀ (S : xS) (v1 : Int32), I S → xOpI I 93 154 [(1, .int v1)] S) (S : xS) (i : Nat) (hI : I S) (hi : 6 * i + 6 ≤ S.2.2) (hL : S.2.2 ≤ 3072) (hk : (S.1 999 (nI (6 * i)).toNatClampNeg) &&& 63 = 20) : xTo I S (nI (6 * i)) := by
  have v0 : vp_in (nI (6 * i)) S.2.2 := vp_in_nI (by omega) (by omega)
  have v1 : vp_in (nI (6 * i) + 1) S.2.2 := xvp (j := 1) (by rw [show (1 : Int32) = nI 1 by decide, nI_add]) hi (by decide) hL
  have v2 : vp_in (nI (6 * i) + 2) S.2.2 := xvp (j := 2) (by rw [show (2 : Int32) = nI 2 by decide, nI_add]) hi (by decide) hL
  have v3 : vp_in (nI (6 * i) + 3) S.2.2 := xvp (j := 3) (by rw [show (3 : Int32) = nI 3 by decide, nI_add]) hi (by decide) hL
  have v4 : vp_in (nI (6 * i) + 4) S.2.2 := xvp (j := 4) (by rw [show (4 : Int32) = nI 4 by decide, nI_add]) hi (by decide) hL
  have v5 : vp_in (nI (6 * i) + 5) S.2.2 := xvp (j := 5) (by rw [show (5 : Int32) = nI 5 by decide, nI_add]) hi (by decide) hL
  obtain ⟨z, S1, S2, h1, h2, hI2⟩ := hop S ((S.1 999 ((nI (6 * i)) + 1).toNatClampNeg)) hI
  have e1 : S1.1 999 = S.1 999 ∧ S1.2.2 = S.2.2 := xX_scr h1
  have e2 : S2.1 999 = S1.1 999 ∧ S2.2.2 = S1.2.2 := xX_scr h2
  refine ⟨S2, hI2, e2.1.trans e1.1, e2.2.trans e1.2, fun r hr => ?_⟩
  refine (b0_27 _ _ _ _).mpr ⟨v0, ?_⟩
  simp (decide := true) only [hk, if_true, if_false]
  simp (decide := true) only [b0_947, b0_956, b0_965, b0_968, xX_iff h1, xX_iff h2, exists_eq_left, xtl, v1, v2, v3, v4, v5, e1.1, e1.2, true_and, if_true, if_false, b0_1381, xlg_0]
  exact hr
theorem turn21 (I : xS → Prop) (hop : ∀ (S : xS), I S → xOpI I 94 155 [] S) (S : xS) (i : Nat) (hI : I S) (hi : 6 * i + 6 ≤ S.2.2) (hL : S.2.2 ≤ 3072) (hk : (S.1 999 (nI (6 * i)).toNatClampNeg) &&& 63 = 21) : xTo I S (nI (6 * i)) := by
  have v0 : vp_in (nI (6 * i)) S.2.2 := vp_in_nI (by omega) (by omega)
  have v1 : vp_in (nI (6 * i) + 1) S.2.2 := xvp (j := 1) (by rw [show (1 : Int32) = nI 1 by decide, nI_add]) hi (by decide) hL
  have v2 : vp_in (nI (6 * i) + 2) S.2.2 := xvp (j := 2) (by rw [show (2 : Int32) = nI 2 by decide, nI_add]) hi (by decide) hL
  have v3 : vp_in (nI (6 * i) + 3) S.2.2 := xvp (j := 3) (by rw [show (3 : Int32) = nI 3 by decide, nI_add]) hi (by decide) hL
  have v4 : vp_in (nI (6 * i) + 4) S.2.2 := xvp (j := 4) (by rw [show (4 : Int32) = nI 4 by decide, nI_add]) hi (by decide) hL
  have v5 : vp_in (nI (6 * i) + 5) S.2.2 := xvp (j := 5) (by rw [show (5 : Int32) = nI 5 by decide, nI_add]) hi (by decide) hL
  obtain ⟨z, S1, S2, h1, h2, hI2⟩ := hop S  hI
  have e1 : S1.1 999 = S.1 999 ∧ S1.2.2 = S.2.2 := xX_scr h1
  have e2 : S2.1 999 = S1.1 999 ∧ S2.2.2 = S1.2.2 := xX_scr h2
  refine ⟨S2, hI2, e2.1.trans e1.1, e2.2.trans e1.2, fun r hr => ?_⟩
  refine (b0_27 _ _ _ _).mpr ⟨v0, ?_⟩
  simp (decide := true) only [hk, if_true, if_false]
  simp (decide := true) only [b0_970, b0_974, b0_978, b0_981, xX_iff h1, xX_iff h2, exists_eq_left, xtl, v1, v2, v3, v4, v5, e1.1, e1.2, true_and, if_true, if_false, b0_1381, xlg_0]
  exact hr
theorem turn22 (I : xS → Prop) (hop : ∀ (S : xS), I S → xOpI I 95 156 [] S) (S : xS) (i : Nat) (hI : I S) (hi : 6 * i + 6 ≤ S.2.2) (hL : S.2.2 ≤ 3072) (hk : (S.1 999 (nI (6 * i)).toNatClampNeg) &&& 63 = 22) : xTo I S (nI (6 * i)) := by
  have v0 : vp_in (nI (6 * i)) S.2.2 := vp_in_nI (by omega) (by omega)
  have v1 : vp_in (nI (6 * i) + 1) S.2.2 := xvp (j := 1) (by rw [show (1 : Int32) = nI 1 by decide, nI_add]) hi (by decide) hL
  have v2 : vp_in (nI (6 * i) + 2) S.2.2 := xvp (j := 2) (by rw [show (2 : Int32) = nI 2 by decide, nI_add]) hi (by decide) hL
  have v3 : vp_in (nI (6 * i) + 3) S.2.2 := xvp (j := 3) (by rw [show (3 : Int32) = nI 3 by decide, nI_add]) hi (by decide) hL
  have v4 : vp_in (nI (6 * i) + 4) S.2.2 := xvp (j := 4) (by rw [show (4 : Int32) = nI 4 by decide, nI_add]) hi (by decide) hL
  have v5 : vp_in (nI (6 * i) + 5) S.2.2 := xvp (j := 5) (by rw [show (5 : Int32) = nI 5 by decide, nI_add]) hi (by decide) hL
  obtain ⟨z, S1, S2, h1, h2, hI2⟩ := hop S  hI
  have e1 : S1.1 999 = S.1 999 ∧ S1.2.2 = S.2.2 := xX_scr h1
  have e2 : S2.1 999 = S1.1 999 ∧ S2.2.2 = S1.2.2 := xX_scr h2
  refine ⟨S2, hI2, e2.1.trans e1.1, e2.2.trans e1.2, fun r hr => ?_⟩
  refine (b0_27 _ _ _ _).mpr ⟨v0, ?_⟩
  simp (decide := true) only [hk, if_true, if_false]
  simp (decide := true) only [b0_983, b0_987, b0_991, b0_994, xX_iff h1, xX_iff h2, exists_eq_left, xtl, v1, v2, v3, v4, v5, e1.1, e1.2, true_and, if_true, if_false, b0_1381, xlg_0]
  exact hr
theorem turn23 (I : xS → Prop) (hop : ∀ (S : xS), I S → xOpI I 96 157 [] S) (S : xS) (i : Nat) (hI : I S) (hi : 6 * i + 6 ≤ S.2.2) (hL : S.2.2 ≤ 3072) (hk : (S.1 999 (nI (6 * i)).toNatClampNeg) &&& 63 = 23) : xTo I S (nI (6 * i)) := by
  have v0 : vp_in (nI (6 * i)) S.2.2 := vp_in_nI (by omega) (by omega)
  have v1 : vp_in (nI (6 * i) + 1) S.2.2 := xvp (j := 1) (by rw [show (1 : Int32) = nI 1 by decide, nI_add]) hi (by decide) hL
  have v2 : vp_in (nI (6 * i) + 2) S.2.2 := xvp (j := 2) (by rw [show (2 : Int32) = nI 2 by decide, nI_add]) hi (by decide) hL
  have v3 : vp_in (nI (6 * i) + 3) S.2.2 := xvp (j := 3) (by rw [show (3 : Int32) = nI 3 by decide, nI_add]) hi (by decide) hL
  have v4 : vp_in (nI (6 * i) + 4) S.2.2 := xvp (j := 4) (by rw [show (4 : Int32) = nI 4 by decide, nI_add]) hi (by decide) hL
  have v5 : vp_in (nI (6 * i) + 5) S.2.2 := xvp (j := 5) (by rw [show (5 : Int32) = nI 5 by decide, nI_add]) hi (by decide) hL
  obtain ⟨z, S1, S2, h1, h2, hI2⟩ := hop S  hI
  have e1 : S1.1 999 = S.1 999 ∧ S1.2.2 = S.2.2 := xX_scr h1
  have e2 : S2.1 999 = S1.1 999 ∧ S2.2.2 = S1.2.2 := xX_scr h2
  refine ⟨S2, hI2, e2.1.trans e1.1, e2.2.trans e1.2, fun r hr => ?_⟩
  refine (b0_27 _ _ _ _).mpr ⟨v0, ?_⟩
  simp (decide := true) only [hk, if_true, if_false]
  simp (decide := true) only [b0_996, b0_1000, b0_1004, b0_1007, xX_iff h1, xX_iff h2, exists_eq_left, xtl, v1, v2, v3, v4, v5, e1.1, e1.2, true_and, if_true, if_false, b0_1381, xlg_0]
  exact hr
theorem turn24 (I : xS → Prop) (hop : ∀ (S : xS), I S → xOpI I 97 161 [] S) (S : xS) (i : Nat) (hI : I S) (hi : 6 * i + 6 ≤ S.2.2) (hL : S.2.2 ≤ 3072) (hk : (S.1 999 (nI (6 * i)).toNatClampNeg) &&& 63 = 24) : xTo I S (nI (6 * i)) := by
  have v0 : vp_in (nI (6 * i)) S.2.2 := vp_in_nI (by omega) (by omega)
  have v1 : vp_in (nI (6 * i) + 1) S.2.2 := xvp (j := 1) (by rw [show (1 : Int32) = nI 1 by decide, nI_add]) hi (by decide) hL
  have v2 : vp_in (nI (6 * i) + 2) S.2.2 := xvp (j := 2) (by rw [show (2 : Int32) = nI 2 by decide, nI_add]) hi (by decide) hL
  have v3 : vp_in (nI (6 * i) + 3) S.2.2 := xvp (j := 3) (by rw [show (3 : Int32) = nI 3 by decide, nI_add]) hi (by decide) hL
  have v4 : vp_in (nI (6 * i) + 4) S.2.2 := xvp (j := 4) (by rw [show (4 : Int32) = nI 4 by decide, nI_add]) hi (by decide) hL
  have v5 : vp_in (nI (6 * i) + 5) S.2.2 := xvp (j := 5) (by rw [show (5 : Int32) = nI 5 by decide, nI_add]) hi (by decide) hL
  obtain ⟨z, S1, S2, h1, h2, hI2⟩ := hop S  hI
  have e1 : S1.1 999 = S.1 999 ∧ S1.2.2 = S.2.2 := xX_scr h1
  have e2 : S2.1 999 = S1.1 999 ∧ S2.2.2 = S1.2.2 := xX_scr h2
  refine ⟨S2, hI2, e2.1.trans e1.1, e2.2.trans e1.2, fun r hr => ?_⟩
  refine (b0_27 _ _ _ _).mpr ⟨v0, ?_⟩
  simp (decide := true) only [hk, if_true, if_false]
  simp (decide := true) only [b0_1009, b0_1013, b0_1017, b0_1020, xX_iff h1, xX_iff h2, exists_eq_left, xtl, v1, v2, v3, v4, v5, e1.1, e1.2, true_and, if_true, if_false, b0_1381, xlg_0]
  exact hr
theorem turn25 (I : xS → Prop) (hop : ∀ (S : xS) (v1 : Int32) (v2 : Int32), I S → xOpI I 98 162 [(1, .int v1), (2, .int v2)] S) (S : xS) (i : Nat) (hI : I S) (hi : 6 * i + 6 ≤ S.2.2) (hL : S.2.2 ≤ 3072) (hk : (S.1 999 (nI (6 * i)).toNatClampNeg) &&& 63 = 25) : xTo I S (nI (6 * i)) := by
  have v0 : vp_in (nI (6 * i)) S.2.2 := vp_in_nI (by omega) (by omega)
  have v1 : vp_in (nI (6 * i) + 1) S.2.2 := xvp (j := 1) (by rw [show (1 : Int32) = nI 1 by decide, nI_add]) hi (by decide) hL
  have v2 : vp_in (nI (6 * i) + 2) S.2.2 := xvp (j := 2) (by rw [show (2 : Int32) = nI 2 by decide, nI_add]) hi (by decide) hL
  have v3 : vp_in (nI (6 * i) + 3) S.2.2 := xvp (j := 3) (by rw [show (3 : Int32) = nI 3 by decide, nI_add]) hi (by decide) hL
  have v4 : vp_in (nI (6 * i) + 4) S.2.2 := xvp (j := 4) (by rw [show (4 : Int32) = nI 4 by decide, nI_add]) hi (by decide) hL
  have v5 : vp_in (nI (6 * i) + 5) S.2.2 := xvp (j := 5) (by rw [show (5 : Int32) = nI 5 by decide, nI_add]) hi (by decide) hL
  obtain ⟨z, S1, S2, h1, h2, hI2⟩ := hop S ((S.1 999 ((nI (6 * i)) + 1).toNatClampNeg)) ((S.1 999 ((nI (6 * i)) + 2).toNatClampNeg)) hI
  have e1 : S1.1 999 = S.1 999 ∧ S1.2.2 = S.2.2 := xX_scr h1
  have e2 : S2.1 999 = S1.1 999 ∧ S2.2.2 = S1.2.2 := xX_scr h2
  refine ⟨S2, hI2, e2.1.trans e1.1, e2.2.trans e1.2, fun r hr => ?_⟩
  refine (b0_27 _ _ _ _).mpr ⟨v0, ?_⟩
  simp (decide := true) only [hk, if_true, if_false]
  simp (decide := true) only [b0_1022, b0_1036, b0_1050, b0_1053, xX_iff h1, xX_iff h2, exists_eq_left, xtl, v1, v2, v3, v4, v5, e1.1, e1.2, true_and, if_true, if_false, b0_1381, xlg_0]
  exact hr
theorem turn26 (I : xS → Prop) (hop : ∀ (S : xS) (v1 : Int32), I S → xOpI I 99 163 [(1, .int v1)] S) (S : xS) (i : Nat) (hI : I S) (hi : 6 * i + 6 ≤ S.2.2) (hL : S.2.2 ≤ 3072) (hk : (S.1 999 (nI (6 * i)).toNatClampNeg) &&& 63 = 26) : xTo I S (nI (6 * i)) := by
  have v0 : vp_in (nI (6 * i)) S.2.2 := vp_in_nI (by omega) (by omega)
  have v1 : vp_in (nI (6 * i) + 1) S.2.2 := xvp (j := 1) (by rw [show (1 : Int32) = nI 1 by decide, nI_add]) hi (by decide) hL
  have v2 : vp_in (nI (6 * i) + 2) S.2.2 := xvp (j := 2) (by rw [show (2 : Int32) = nI 2 by decide, nI_add]) hi (by decide) hL
  have v3 : vp_in (nI (6 * i) + 3) S.2.2 := xvp (j := 3) (by rw [show (3 : Int32) = nI 3 by decide, nI_add]) hi (by decide) hL
  have v4 : vp_in (nI (6 * i) + 4) S.2.2 := xvp (j := 4) (by rw [show (4 : Int32) = nI 4 by decide, nI_add]) hi (by decide) hL
  have v5 : vp_in (nI (6 * i) + 5) S.2.2 := xvp (j := 5) (by rw [show (5 : Int32) = nI 5 by decide, nI_add]) hi (by decide) hL
  obtain ⟨z, S1, S2, h1, h2, hI2⟩ := hop S ((S.1 999 ((nI (6 * i)) + 1).toNatClampNeg)) hI
  have e1 : S1.1 999 = S.1 999 ∧ S1.2.2 = S.2.2 := xX_scr h1
  have e2 : S2.1 999 = S1.1 999 ∧ S2.2.2 = S1.2.2 := xX_scr h2
  refine ⟨S2, hI2, e2.1.trans e1.1, e2.2.trans e1.2, fun r hr => ?_⟩
  refine (b0_27 _ _ _ _).mpr ⟨v0, ?_⟩
  simp (decide := true) only [hk, if_true, if_false]
  simp (decide := true) only [b0_1055, b0_1064, b0_1073, b0_1076, xX_iff h1, xX_iff h2, exists_eq_left, xtl, v1, v2, v3, v4, v5, e1.1, e1.2, true_and, if_true, if_false, b0_1381, xlg_0]
  exact hr
theorem turn27 (I : xS → Prop) (hop : ∀ (S : xS) (v1 : Int32), I S → xOpI I 100 168 [(1, .int v1)] S) (S : xS) (i : Nat) (hI : I S) (hi : 6 * i + 6 ≤ S.2.2) (hL : S.2.2 ≤ 3072) (hk : (S.1 999 (nI (6 * i)).toNatClampNeg) &&& 63 = 27) : xTo I S (nI (6 * i)) := by
  have v0 : vp_in (nI (6 * i)) S.2.2 := vp_in_nI (by omega) (by omega)
  have v1 : vp_in (nI (6 * i) + 1) S.2.2 := xvp (j := 1) (by rw [show (1 : Int32) = nI 1 by decide, nI_add]) hi (by decide) hL
  have v2 : vp_in (nI (6 * i) + 2) S.2.2 := xvp (j := 2) (by rw [show (2 : Int32) = nI 2 by decide, nI_add]) hi (by decide) hL
  have v3 : vp_in (nI (6 * i) + 3) S.2.2 := xvp (j := 3) (by rw [show (3 : Int32) = nI 3 by decide, nI_add]) hi (by decide) hL
  have v4 : vp_in (nI (6 * i) + 4) S.2.2 := xvp (j := 4) (by rw [show (4 : Int32) = nI 4 by decide, nI_add]) hi (by decide) hL
  have v5 : vp_in (nI (6 * i) + 5) S.2.2 := xvp (j := 5) (by rw [show (5 : Int32) = nI 5 by decide, nI_add]) hi (by decide) hL
  obtain ⟨z, S1, S2, h1, h2, hI2⟩ := hop S ((S.1 999 ((nI (6 * i)) + 1).toNatClampNeg)) hI
  have e1 : S1.1 999 = S.1 999 ∧ S1.2.2 = S.2.2 := xX_scr h1
  have e2 : S2.1 999 = S1.1 999 ∧ S2.2.2 = S1.2.2 := xX_scr h2
  refine ⟨S2, hI2, e2.1.trans e1.1, e2.2.trans e1.2, fun r hr => ?_⟩
  refine (b0_27 _ _ _ _).mpr ⟨v0, ?_⟩
  simp (decide := true) only [hk, if_true, if_false]
  simp (decide := true) only [b0_1078, b0_1087, b0_1096, b0_1099, xX_iff h1, xX_iff h2, exists_eq_left, xtl, v1, v2, v3, v4, v5, e1.1, e1.2, true_and, if_true, if_false, b0_1381, xlg_0]
  exact hr
theorem turn28 (I : xS → Prop) (hop : ∀ (S : xS), I S → xOpI I 101 169 [] S) (S : xS) (i : Nat) (hI : I S) (hi : 6 * i + 6 ≤ S.2.2) (hL : S.2.2 ≤ 3072) (hk : (S.1 999 (nI (6 * i)).toNatClampNeg) &&& 63 = 28) : xTo I S (nI (6 * i)) := by
  have v0 : vp_in (nI (6 * i)) S.2.2 := vp_in_nI (by omega) (by omega)
  have v1 : vp_in (nI (6 * i) + 1) S.2.2 := xvp (j := 1) (by rw [show (1 : Int32) = nI 1 by decide, nI_add]) hi (by decide) hL
  have v2 : vp_in (nI (6 * i) + 2) S.2.2 := xvp (j := 2) (by rw [show (2 : Int32) = nI 2 by decide, nI_add]) hi (by decide) hL
  have v3 : vp_in (nI (6 * i) + 3) S.2.2 := xvp (j := 3) (by rw [show (3 : Int32) = nI 3 by decide, nI_add]) hi (by decide) hL
  have v4 : vp_in (nI (6 * i) + 4) S.2.2 := xvp (j := 4) (by rw [show (4 : Int32) = nI 4 by decide, nI_add]) hi (by decide) hL
  have v5 : vp_in (nI (6 * i) + 5) S.2.2 := xvp (j := 5) (by rw [show (5 : Int32) = nI 5 by decide, nI_add]) hi (by decide) hL
  obtain ⟨z, S1, S2, h1, h2, hI2⟩ := hop S  hI
  have e1 : S1.1 999 = S.1 999 ∧ S1.2.2 = S.2.2 := xX_scr h1
  have e2 : S2.1 999 = S1.1 999 ∧ S2.2.2 = S1.2.2 := xX_scr h2
  refine ⟨S2, hI2, e2.1.trans e1.1, e2.2.trans e1.2, fun r hr => ?_⟩
  refine (b0_27 _ _ _ _).mpr ⟨v0, ?_⟩
  simp (decide := true) only [hk, if_true, if_false]
  simp (decide := true) only [b0_1101, b0_1105, b0_1109, b0_1112, xX_iff h1, xX_iff h2, exists_eq_left, xtl, v1, v2, v3, v4, v5, e1.1, e1.2, true_and, if_true, if_false, b0_1381, xlg_0]
  exact hr
theorem turn29 (I : xS → Prop) (hop : ∀ (S : xS) (v1 : Int32) (v2 : Int32) (v3 : Int32) (v4 : Int32) (v5 : Int32), I S → xOpI I 103 170 [(1, .int v1), (2, .int v2), (3, .int v3), (4, .int v4), (5, .int v5)] S) (S : xS) (i : Nat) (hI : I S) (hi : 6 * i + 6 ≤ S.2.2) (hL : S.2.2 ≤ 3072) (hk : (S.1 999 (nI (6 * i)).toNatClampNeg) &&& 63 = 29) : xTo I S (nI (6 * i)) := by
  have v0 : vp_in (nI (6 * i)) S.2.2 := vp_in_nI (by omega) (by omega)
  have v1 : vp_in (nI (6 * i) + 1) S.2.2 := xvp (j := 1) (by rw [show (1 : Int32) = nI 1 by decide, nI_add]) hi (by decide) hL
  have v2 : vp_in (nI (6 * i) + 2) S.2.2 := xvp (j := 2) (by rw [show (2 : Int32) = nI 2 by decide, nI_add]) hi (by decide) hL
  have v3 : vp_in (nI (6 * i) + 3) S.2.2 := xvp (j := 3) (by rw [show (3 : Int32) = nI 3 by decide, nI_add]) hi (by decide) hL
  have v4 : vp_in (nI (6 * i) + 4) S.2.2 := xvp (j := 4) (by rw [show (4 : Int32) = nI 4 by decide, nI_add]) hi (by decide) hL
  have v5 : vp_in (nI (6 * i) + 5) S.2.2 := xvp (j := 5) (by rw [show (5 : Int32) = nI 5 by decide, nI_add]) hi (by decide) hL
  obtain ⟨z, S1, S2, h1, h2, hI2⟩ := hop S ((S.1 999 ((nI (6 * i)) + 1).toNatClampNeg)) ((S.1 999 ((nI (6 * i)) + 2).toNatClampNeg)) ((S.1 999 ((nI (6 * i)) + 3).toNatClampNeg)) ((S.1 999 ((nI (6 * i)) + 4).toNatClampNeg)) ((S.1 999 ((nI (6 * i)) + 5).toNatClampNeg)) hI
  have e1 : S1.1 999 = S.1 999 ∧ S1.2.2 = S.2.2 := xX_scr h1
  have e2 : S2.1 999 = S1.1 999 ∧ S2.2.2 = S1.2.2 := xX_scr h2
  refine ⟨S2, hI2, e2.1.trans e1.1, e2.2.trans e1.2, fun r hr => ?_⟩
  refine (b0_27 _ _ _ _).mpr ⟨v0, ?_⟩
  simp (decide := true) only [hk, if_true, if_false]
  simp (decide := true) only [b0_1114, b0_1143, b0_1172, b0_1175, xX_iff h1, xX_iff h2, exists_eq_left, xtl, v1, v2, v3, v4, v5, e1.1, e1.2, true_and, if_true, if_false, b0_1381, xlg_0]
  exact hr
theorem turn30 (I : xS → Prop) (hop : ∀ (S : xS) (v1 : Int32) (v2 : Int32), I S → xOpI I 104 171 [(1, .int v1), (2, .int v2)] S) (S : xS) (i : Nat) (hI : I S) (hi : 6 * i + 6 ≤ S.2.2) (hL : S.2.2 ≤ 3072) (hk : (S.1 999 (nI (6 * i)).toNatClampNeg) &&& 63 = 30) : xTo I S (nI (6 * i)) := by
  have v0 : vp_in (nI (6 * i)) S.2.2 := vp_in_nI (by omega) (by omega)
  have v1 : vp_in (nI (6 * i) + 1) S.2.2 := xvp (j := 1) (by rw [show (1 : Int32) = nI 1 by decide, nI_add]) hi (by decide) hL
  have v2 : vp_in (nI (6 * i) + 2) S.2.2 := xvp (j := 2) (by rw [show (2 : Int32) = nI 2 by decide, nI_add]) hi (by decide) hL
  have v3 : vp_in (nI (6 * i) + 3) S.2.2 := xvp (j := 3) (by rw [show (3 : Int32) = nI 3 by decide, nI_add]) hi (by decide) hL
  have v4 : vp_in (nI (6 * i) + 4) S.2.2 := xvp (j := 4) (by rw [show (4 : Int32) = nI 4 by decide, nI_add]) hi (by decide) hL
  have v5 : vp_in (nI (6 * i) + 5) S.2.2 := xvp (j := 5) (by rw [show (5 : Int32) = nI 5 by decide, nI_add]) hi (by decide) hL
  obtain ⟨z, S1, S2, h1, h2, hI2⟩ := hop S ((S.1 999 ((nI (6 * i)) + 1).toNatClampNeg)) ((S.1 999 ((nI (6 * i)) + 2).toNatClampNeg)) hI
  have e1 : S1.1 999 = S.1 999 ∧ S1.2.2 = S.2.2 := xX_scr h1
  have e2 : S2.1 999 = S1.1 999 ∧ S2.2.2 = S1.2.2 := xX_scr h2
  refine ⟨S2, hI2, e2.1.trans e1.1, e2.2.trans e1.2, fun r hr => ?_⟩
  refine (b0_27 _ _ _ _).mpr ⟨v0, ?_⟩
  simp (decide := true) only [hk, if_true, if_false]
  simp (decide := true) only [b0_1177, b0_1191, b0_1205, b0_1208, xX_iff h1, xX_iff h2, exists_eq_left, xtl, v1, v2, v3, v4, v5, e1.1, e1.2, true_and, if_true, if_false, b0_1381, xlg_0]
  exact hr
theorem turn31 (I : xS → Prop) (hop : ∀ (S : xS) (v1 : Int32), I S → xOpI I 105 172 [(1, .int v1)] S) (S : xS) (i : Nat) (hI : I S) (hi : 6 * i + 6 ≤ S.2.2) (hL : S.2.2 ≤ 3072) (hk : (S.1 999 (nI (6 * i)).toNatClampNeg) &&& 63 = 31) : xTo I S (nI (6 * i)) := by
  have v0 : vp_in (nI (6 * i)) S.2.2 := vp_in_nI (by omega) (by omega)
  have v1 : vp_in (nI (6 * i) + 1) S.2.2 := xvp (j := 1) (by rw [show (1 : Int32) = nI 1 by decide, nI_add]) hi (by decide) hL
  have v2 : vp_in (nI (6 * i) + 2) S.2.2 := xvp (j := 2) (by rw [show (2 : Int32) = nI 2 by decide, nI_add]) hi (by decide) hL
  have v3 : vp_in (nI (6 * i) + 3) S.2.2 := xvp (j := 3) (by rw [show (3 : Int32) = nI 3 by decide, nI_add]) hi (by decide) hL
  have v4 : vp_in (nI (6 * i) + 4) S.2.2 := xvp (j := 4) (by rw [show (4 : Int32) = nI 4 by decide, nI_add]) hi (by decide) hL
  have v5 : vp_in (nI (6 * i) + 5) S.2.2 := xvp (j := 5) (by rw [show (5 : Int32) = nI 5 by decide, nI_add]) hi (by decide) hL
  obtain ⟨z, S1, S2, h1, h2, hI2⟩ := hop S ((S.1 999 ((nI (6 * i)) + 1).toNatClampNeg)) hI
  have e1 : S1.1 999 = S.1 999 ∧ S1.2.2 = S.2.2 := xX_scr h1
  have e2 : S2.1 999 = S1.1 999 ∧ S2.2.2 = S1.2.2 := xX_scr h2
  refine ⟨S2, hI2, e2.1.trans e1.1, e2.2.trans e1.2, fun r hr => ?_⟩
  refine (b0_27 _ _ _ _).mpr ⟨v0, ?_⟩
  simp (decide := true) only [hk, if_true, if_false]
  simp (decide := true) only [b0_1210, b0_1219, b0_1228, b0_1231, xX_iff h1, xX_iff h2, exists_eq_left, xtl, v1, v2, v3, v4, v5, e1.1, e1.2, true_and, if_true, if_false, b0_1381, xlg_0]
  exact hr
theorem turn32 (I : xS → Prop) (hop : ∀ (S : xS) (v1 : Int32), I S → xOpI I 106 173 [(1, .int v1)] S) (S : xS) (i : Nat) (hI : I S) (hi : 6 * i + 6 ≤ S.2.2) (hL : S.2.2 ≤ 3072) (hk : (S.1 999 (nI (6 * i)).toNatClampNeg) &&& 63 = 32) : xTo I S (nI (6 * i)) := by
  have v0 : vp_in (nI (6 * i)) S.2.2 := vp_in_nI (by omega) (by omega)
  have v1 : vp_in (nI (6 * i) + 1) S.2.2 := xvp (j := 1) (by rw [show (1 : Int32) = nI 1 by decide, nI_add]) hi (by decide) hL
  have v2 : vp_in (nI (6 * i) + 2) S.2.2 := xvp (j := 2) (by rw [show (2 : Int32) = nI 2 by decide, nI_add]) hi (by decide) hL
  have v3 : vp_in (nI (6 * i) + 3) S.2.2 := xvp (j := 3) (by rw [show (3 : Int32) = nI 3 by decide, nI_add]) hi (by decide) hL
  have v4 : vp_in (nI (6 * i) + 4) S.2.2 := xvp (j := 4) (by rw [show (4 : Int32) = nI 4 by decide, nI_add]) hi (by decide) hL
  have v5 : vp_in (nI (6 * i) + 5) S.2.2 := xvp (j := 5) (by rw [show (5 : Int32) = nI 5 by decide, nI_add]) hi (by decide) hL
  obtain ⟨z, S1, S2, h1, h2, hI2⟩ := hop S ((S.1 999 ((nI (6 * i)) + 1).toNatClampNeg)) hI
  have e1 : S1.1 999 = S.1 999 ∧ S1.2.2 = S.2.2 := xX_scr h1
  have e2 : S2.1 999 = S1.1 999 ∧ S2.2.2 = S1.2.2 := xX_scr h2
  refine ⟨S2, hI2, e2.1.trans e1.1, e2.2.trans e1.2, fun r hr => ?_⟩
  refine (b0_27 _ _ _ _).mpr ⟨v0, ?_⟩
  simp (decide := true) only [hk, if_true, if_false]
  simp (decide := true) only [b0_1233, b0_1242, b0_1251, b0_1254, xX_iff h1, xX_iff h2, exists_eq_left, xtl, v1, v2, v3, v4, v5, e1.1, e1.2, true_and, if_true, if_false, b0_1381, xlg_0]
  exact hr
theorem turn33 (I : xS → Prop) (hop : ∀ (S : xS) (v1 : Int32), I S → xOpI I 107 175 [(1, .int v1)] S) (S : xS) (i : Nat) (hI : I S) (hi : 6 * i + 6 ≤ S.2.2) (hL : S.2.2 ≤ 3072) (hk : (S.1 999 (nI (6 * i)).toNatClampNeg) &&& 63 = 33) : xTo I S (nI (6 * i)) := by
  have v0 : vp_in (nI (6 * i)) S.2.2 := vp_in_nI (by omega) (by omega)
  have v1 : vp_in (nI (6 * i) + 1) S.2.2 := xvp (j := 1) (by rw [show (1 : Int32) = nI 1 by decide, nI_add]) hi (by decide) hL
  have v2 : vp_in (nI (6 * i) + 2) S.2.2 := xvp (j := 2) (by rw [show (2 : Int32) = nI 2 by decide, nI_add]) hi (by decide) hL
  have v3 : vp_in (nI (6 * i) + 3) S.2.2 := xvp (j := 3) (by rw [show (3 : Int32) = nI 3 by decide, nI_add]) hi (by decide) hL
  have v4 : vp_in (nI (6 * i) + 4) S.2.2 := xvp (j := 4) (by rw [show (4 : Int32) = nI 4 by decide, nI_add]) hi (by decide) hL
  have v5 : vp_in (nI (6 * i) + 5) S.2.2 := xvp (j := 5) (by rw [show (5 : Int32) = nI 5 by decide, nI_add]) hi (by decide) hL
  obtain ⟨z, S1, S2, h1, h2, hI2⟩ := hop S ((S.1 999 ((nI (6 * i)) + 1).toNatClampNeg)) hI
  have e1 : S1.1 999 = S.1 999 ∧ S1.2.2 = S.2.2 := xX_scr h1
  have e2 : S2.1 999 = S1.1 999 ∧ S2.2.2 = S1.2.2 := xX_scr h2
  refine ⟨S2, hI2, e2.1.trans e1.1, e2.2.trans e1.2, fun r hr => ?_⟩
  refine (b0_27 _ _ _ _).mpr ⟨v0, ?_⟩
  simp (decide := true) only [hk, if_true, if_false]
  simp (decide := true) only [b0_1256, b0_1265, b0_1274, b0_1277, xX_iff h1, xX_iff h2, exists_eq_left, xtl, v1, v2, v3, v4, v5, e1.1, e1.2, true_and, if_true, if_false, b0_1381, xlg_0]
  exact hr
theorem turn34 (I : xS → Prop) (hop : ∀ (S : xS) (v1 : Int32), I S → xOpI I 108 176 [(1, .int v1)] S) (S : xS) (i : Nat) (hI : I S) (hi : 6 * i + 6 ≤ S.2.2) (hL : S.2.2 ≤ 3072) (hk : (S.1 999 (nI (6 * i)).toNatClampNeg) &&& 63 = 34) : xTo I S (nI (6 * i)) := by
  have v0 : vp_in (nI (6 * i)) S.2.2 := vp_in_nI (by omega) (by omega)
  have v1 : vp_in (nI (6 * i) + 1) S.2.2 := xvp (j := 1) (by rw [show (1 : Int32) = nI 1 by decide, nI_add]) hi (by decide) hL
  have v2 : vp_in (nI (6 * i) + 2) S.2.2 := xvp (j := 2) (by rw [show (2 : Int32) = nI 2 by decide, nI_add]) hi (by decide) hL
  have v3 : vp_in (nI (6 * i) + 3) S.2.2 := xvp (j := 3) (by rw [show (3 : Int32) = nI 3 by decide, nI_add]) hi (by decide) hL
  have v4 : vp_in (nI (6 * i) + 4) S.2.2 := xvp (j := 4) (by rw [show (4 : Int32) = nI 4 by decide, nI_add]) hi (by decide) hL
  have v5 : vp_in (nI (6 * i) + 5) S.2.2 := xvp (j := 5) (by rw [show (5 : Int32) = nI 5 by decide, nI_add]) hi (by decide) hL
  obtain ⟨z, S1, S2, h1, h2, hI2⟩ := hop S ((S.1 999 ((nI (6 * i)) + 1).toNatClampNeg)) hI
  have e1 : S1.1 999 = S.1 999 ∧ S1.2.2 = S.2.2 := xX_scr h1
  have e2 : S2.1 999 = S1.1 999 ∧ S2.2.2 = S1.2.2 := xX_scr h2
  refine ⟨S2, hI2, e2.1.trans e1.1, e2.2.trans e1.2, fun r hr => ?_⟩
  refine (b0_27 _ _ _ _).mpr ⟨v0, ?_⟩
  simp (decide := true) only [hk, if_true, if_false]
  simp (decide := true) only [b0_1279, b0_1288, b0_1297, b0_1300, xX_iff h1, xX_iff h2, exists_eq_left, xtl, v1, v2, v3, v4, v5, e1.1, e1.2, true_and, if_true, if_false, b0_1381, xlg_0]
  exact hr
theorem turn35 (I : xS → Prop) (hop : ∀ (S : xS) (v1 : Int32), I S → xOpI I 109 177 [(1, .int v1)] S) (S : xS) (i : Nat) (hI : I S) (hi : 6 * i + 6 ≤ S.2.2) (hL : S.2.2 ≤ 3072) (hk : (S.1 999 (nI (6 * i)).toNatClampNeg) &&& 63 = 35) : xTo I S (nI (6 * i)) := by
  have v0 : vp_in (nI (6 * i)) S.2.2 := vp_in_nI (by omega) (by omega)
  have v1 : vp_in (nI (6 * i) + 1) S.2.2 := xvp (j := 1) (by rw [show (1 : Int32) = nI 1 by decide, nI_add]) hi (by decide) hL
  have v2 : vp_in (nI (6 * i) + 2) S.2.2 := xvp (j := 2) (by rw [show (2 : Int32) = nI 2 by decide, nI_add]) hi (by decide) hL
  have v3 : vp_in (nI (6 * i) + 3) S.2.2 := xvp (j := 3) (by rw [show (3 : Int32) = nI 3 by decide, nI_add]) hi (by decide) hL
  have v4 : vp_in (nI (6 * i) + 4) S.2.2 := xvp (j := 4) (by rw [show (4 : Int32) = nI 4 by decide, nI_add]) hi (by decide) hL
  have v5 : vp_in (nI (6 * i) + 5) S.2.2 := xvp (j := 5) (by rw [show (5 : Int32) = nI 5 by decide, nI_add]) hi (by decide) hL
  obtain ⟨z, S1, S2, h1, h2, hI2⟩ := hop S ((S.1 999 ((nI (6 * i)) + 1).toNatClampNeg)) hI
  have e1 : S1.1 999 = S.1 999 ∧ S1.2.2 = S.2.2 := xX_scr h1
  have e2 : S2.1 999 = S1.1 999 ∧ S2.2.2 = S1.2.2 := xX_scr h2
  refine ⟨S2, hI2, e2.1.trans e1.1, e2.2.trans e1.2, fun r hr => ?_⟩
  refine (b0_27 _ _ _ _).mpr ⟨v0, ?_⟩
  simp (decide := true) only [hk, if_true, if_false]
  simp (decide := true) only [b0_1302, b0_1311, b0_1320, b0_1323, xX_iff h1, xX_iff h2, exists_eq_left, xtl, v1, v2, v3, v4, v5, e1.1, e1.2, true_and, if_true, if_false, b0_1381, xlg_0]
  exact hr
theorem turn36 (I : xS → Prop) (hop : ∀ (S : xS) (v1 : Int32) (v2 : Int32), I S → xOpI I 110 178 [(1, .int v1), (2, .int v2)] S) (S : xS) (i : Nat) (hI : I S) (hi : 6 * i + 6 ≤ S.2.2) (hL : S.2.2 ≤ 3072) (hk : (S.1 999 (nI (6 * i)).toNatClampNeg) &&& 63 = 36) : xTo I S (nI (6 * i)) := by
  have v0 : vp_in (nI (6 * i)) S.2.2 := vp_in_nI (by omega) (by omega)
  have v1 : vp_in (nI (6 * i) + 1) S.2.2 := xvp (j := 1) (by rw [show (1 : Int32) = nI 1 by decide, nI_add]) hi (by decide) hL
  have v2 : vp_in (nI (6 * i) + 2) S.2.2 := xvp (j := 2) (by rw [show (2 : Int32) = nI 2 by decide, nI_add]) hi (by decide) hL
  have v3 : vp_in (nI (6 * i) + 3) S.2.2 := xvp (j := 3) (by rw [show (3 : Int32) = nI 3 by decide, nI_add]) hi (by decide) hL
  have v4 : vp_in (nI (6 * i) + 4) S.2.2 := xvp (j := 4) (by rw [show (4 : Int32) = nI 4 by decide, nI_add]) hi (by decide) hL
  have v5 : vp_in (nI (6 * i) + 5) S.2.2 := xvp (j := 5) (by rw [show (5 : Int32) = nI 5 by decide, nI_add]) hi (by decide) hL
  obtain ⟨z, S1, S2, h1, h2, hI2⟩ := hop S ((S.1 999 ((nI (6 * i)) + 1).toNatClampNeg)) ((S.1 999 ((nI (6 * i)) + 2).toNatClampNeg)) hI
  have e1 : S1.1 999 = S.1 999 ∧ S1.2.2 = S.2.2 := xX_scr h1
  have e2 : S2.1 999 = S1.1 999 ∧ S2.2.2 = S1.2.2 := xX_scr h2
  refine ⟨S2, hI2, e2.1.trans e1.1, e2.2.trans e1.2, fun r hr => ?_⟩
  refine (b0_27 _ _ _ _).mpr ⟨v0, ?_⟩
  simp (decide := true) only [hk, if_true, if_false]
  simp (decide := true) only [b0_1325, b0_1339, b0_1353, b0_1356, xX_iff h1, xX_iff h2, exists_eq_left, xtl, v1, v2, v3, v4, v5, e1.1, e1.2, true_and, if_true, if_false, b0_1381, xlg_0]
  exact hr
theorem turn37 (I : xS → Prop) (hop : ∀ (S : xS) (v1 : Int32), I S → xOpI I 113 179 [(1, .int v1)] S) (S : xS) (i : Nat) (hI : I S) (hi : 6 * i + 6 ≤ S.2.2) (hL : S.2.2 ≤ 3072) (hk : (S.1 999 (nI (6 * i)).toNatClampNeg) &&& 63 = 37) : xTo I S (nI (6 * i)) := by
  have v0 : vp_in (nI (6 * i)) S.2.2 := vp_in_nI (by omega) (by omega)
  have v1 : vp_in (nI (6 * i) + 1) S.2.2 := xvp (j := 1) (by rw [show (1 : Int32) = nI 1 by decide, nI_add]) hi (by decide) hL
  have v2 : vp_in (nI (6 * i) + 2) S.2.2 := xvp (j := 2) (by rw [show (2 : Int32) = nI 2 by decide, nI_add]) hi (by decide) hL
  have v3 : vp_in (nI (6 * i) + 3) S.2.2 := xvp (j := 3) (by rw [show (3 : Int32) = nI 3 by decide, nI_add]) hi (by decide) hL
  have v4 : vp_in (nI (6 * i) + 4) S.2.2 := xvp (j := 4) (by rw [show (4 : Int32) = nI 4 by decide, nI_add]) hi (by decide) hL
  have v5 : vp_in (nI (6 * i) + 5) S.2.2 := xvp (j := 5) (by rw [show (5 : Int32) = nI 5 by decide, nI_add]) hi (by decide) hL
  obtain ⟨z, S1, S2, h1, h2, hI2⟩ := hop S ((S.1 999 ((nI (6 * i)) + 1).toNatClampNeg)) hI
  have e1 : S1.1 999 = S.1 999 ∧ S1.2.2 = S.2.2 := xX_scr h1
  have e2 : S2.1 999 = S1.1 999 ∧ S2.2.2 = S1.2.2 := xX_scr h2
  refine ⟨S2, hI2, e2.1.trans e1.1, e2.2.trans e1.2, fun r hr => ?_⟩
  refine (b0_27 _ _ _ _).mpr ⟨v0, ?_⟩
  simp (decide := true) only [hk, if_true, if_false]
  simp (decide := true) only [b0_1358, b0_1367, b0_1376, b0_1379, xX_iff h1, xX_iff h2, exists_eq_left, xtl, v1, v2, v3, v4, v5, e1.1, e1.2, true_and, if_true, if_false, b0_1381, xlg_0]
  exact hr
theorem xturn_of (I : xS → Prop) (h0 : ∀ (S : xS) (v1 : Int32) (v2 : Int32), I S → xOpI I 69 119 [(1, .int v1), (2, .int v2)] S) (h1 : ∀ (S : xS) (v1 : Int32) (v2 : Int32) (v3 : Int32), I S → xOpI I 70 120 [(1, .int v1), (2, .int v2), (3, .int v3)] S) (h2 : ∀ (S : xS) (v1 : Int32) (v2 : Int32), I S → xOpI I 71 121 [(1, .int v1), (2, .int v2)] S) (h3 : ∀ (S : xS) (v1 : Int32) (v2 : Int32), I S → xOpI I 72 122 [(1, .int v1), (2, .int v2)] S) (h4 : ∀ (S : xS) (v1 : Int32) (v2 : Int32) (v3 : Int32), I S → xOpI I 73 123 [(1, .int v1), (2, .int v2), (3, .int v3)] S) (h5 : ∀ (S : xS) (v1 : Int32) (v2 : Int32), I S → xOpI I 75 124 [(1, .int v1), (2, .int v2)] S) (h6 : ∀ (S : xS) (v1 : Int32) (v2 : Int32) (v3 : Int32), I S → xOpI I 76 125 [(1, .int v1), (2, .int v2), (3, .int v3)] S) (h7 : ∀ (S : xS) (v1 : Int32) (v2 : Int32) (v3 : Int32), I S → xOpI I 77 126 [(1, .int v1), (2, .int v2), (3, .int v3)] S) (h8 : ∀ (S : xS) (v1 : Int32) (v2 : Int32) (v3 : Int32), I S → xOpI I 79 127 [(1, .int v1), (2, .int v2), (3, .int v3)] S) (h9 : ∀ (S : xS) (v1 : Int32) (v2 : Int32) (v3 : Int64), I S → xOpI I 81 128 [(1, .int v1), (2, .int v2), (3, .long v3)] S) (h10 : ∀ (S : xS) (v1 : Int32) (v2 : Int32) (v3 : Int32) (v4 : Int32) (v5 : Int32), I S → xOpI I 82 129 [(1, .int v1), (2, .int v2), (3, .int v3), (4, .int v4), (5, .int v5)] S) (h11 : ∀ (S : xS) (v1 : Int32) (v2 : Int32), I S → xOpJ I 83 130 [(1, .int v1), (2, .int v2)] S) (h12 : ∀ (S : xS) (v1 : Int32) (v2 : Int32), I S → xOpI I 84 131 [(1, .int v1), (2, .int v2)] S) (h13 : ∀ (S : xS) (v1 : Int32), I S → xOpI I 85 132 [(1, .int v1)] S) (h14 : ∀ (S : xS) (v1 : Int32), I S → xOpI I 86 133 [(1, .int v1)] S) (h15 : ∀ (S : xS) (v1 : Int32) (v2 : Int32), I S → (v2 = 0 ∨ v2 = 1) → xOpI I 87 134 [(1, .int v1), (2, .int v2)] S) (h16 : ∀ (S : xS) (v1 : Int32) (v2 : Int32), I S → xOpI I 89 136 [(1, .int v1), (2, .int v2)] S) (h17 : ∀ (S : xS) (v1 : Int32), I S → xOpI I 90 137 [(1, .int v1)] S) (h18 : ∀ (S : xS) (v1 : Int32), I S → xOpI I 91 152 [(1, .int v1)] S) (h19 : ∀ (S : xS) (v1 : Int32), I S → xOpI I 92 153 [(1, .int v1)] S) (h20 : ∀ (S : xS) (v1 : Int32), I S → xOpI I 93 154 [(1, .int v1)] S) (h21 : ∀ (S : xS), I S → xOpI I 94 155 [] S) (h22 : ∀ (S : xS), I S → xOpI I 95 156 [] S) (h23 : ∀ (S : xS), I S → xOpI I 96 157 [] S) (h24 : ∀ (S : xS), I S → xOpI I 97 161 [] S) (h25 : ∀ (S : xS) (v1 : Int32) (v2 : Int32), I S → xOpI I 98 162 [(1, .int v1), (2, .int v2)] S) (h26 : ∀ (S : xS) (v1 : Int32), I S → xOpI I 99 163 [(1, .int v1)] S) (h27 : ∀ (S : xS) (v1 : Int32), I S → xOpI I 100 168 [(1, .int v1)] S) (h28 : ∀ (S : xS), I S → xOpI I 101 169 [] S) (h29 : ∀ (S : xS) (v1 : Int32) (v2 : Int32) (v3 : Int32) (v4 : Int32) (v5 : Int32), I S → xOpI I 103 170 [(1, .int v1), (2, .int v2), (3, .int v3), (4, .int v4), (5, .int v5)] S) (h30 : ∀ (S : xS) (v1 : Int32) (v2 : Int32), I S → xOpI I 104 171 [(1, .int v1), (2, .int v2)] S) (h31 : ∀ (S : xS) (v1 : Int32), I S → xOpI I 105 172 [(1, .int v1)] S) (h32 : ∀ (S : xS) (v1 : Int32), I S → xOpI I 106 173 [(1, .int v1)] S) (h33 : ∀ (S : xS) (v1 : Int32), I S → xOpI I 107 175 [(1, .int v1)] S) (h34 : ∀ (S : xS) (v1 : Int32), I S → xOpI I 108 176 [(1, .int v1)] S) (h35 : ∀ (S : xS) (v1 : Int32), I S → xOpI I 109 177 [(1, .int v1)] S) (h36 : ∀ (S : xS) (v1 : Int32) (v2 : Int32), I S → xOpI I 110 178 [(1, .int v1), (2, .int v2)] S) (h37 : ∀ (S : xS) (v1 : Int32), I S → xOpI I 113 179 [(1, .int v1)] S) : xTurn I := by
  intro S i hI hi hL
  show xTo I S (nI (6 * i))
  by_cases c0 : (S.1 999 (nI (6 * i)).toNatClampNeg) &&& 63 = 0
  · exact turn0 I h0 S i hI hi hL c0
  by_cases c1 : (S.1 999 (nI (6 * i)).toNatClampNeg) &&& 63 = 1
  · exact turn1 I h1 S i hI hi hL c1
  by_cases c2 : (S.1 999 (nI (6 * i)).toNatClampNeg) &&& 63 = 2
  · exact turn2 I h2 S i hI hi hL c2
  by_cases c3 : (S.1 999 (nI (6 * i)).toNatClampNeg) &&& 63 = 3
  · exact turn3 I h3 S i hI hi hL c3
  by_cases c4 : (S.1 999 (nI (6 * i)).toNatClampNeg) &&& 63 = 4
  · exact turn4 I h4 S i hI hi hL c4
  by_cases c5 : (S.1 999 (nI (6 * i)).toNatClampNeg) &&& 63 = 5
  · exact turn5 I h5 S i hI hi hL c5
  by_cases c6 : (S.1 999 (nI (6 * i)).toNatClampNeg) &&& 63 = 6
  · exact turn6 I h6 S i hI hi hL c6
  by_cases c7 : (S.1 999 (nI (6 * i)).toNatClampNeg) &&& 63 = 7
  · exact turn7 I h7 S i hI hi hL c7
  by_cases c8 : (S.1 999 (nI (6 * i)).toNatClampNeg) &&& 63 = 8
  · exact turn8 I h8 S i hI hi hL c8
  by_cases c9 : (S.1 999 (nI (6 * i)).toNatClampNeg) &&& 63 = 9
  · exact turn9 I h9 S i hI hi hL c9
  by_cases c10 : (S.1 999 (nI (6 * i)).toNatClampNeg) &&& 63 = 10
  · exact turn10 I h10 S i hI hi hL c10
  by_cases c11 : (S.1 999 (nI (6 * i)).toNatClampNeg) &&& 63 = 11
  · exact turn11 I h11 S i hI hi hL c11
  by_cases c12 : (S.1 999 (nI (6 * i)).toNatClampNeg) &&& 63 = 12
  · exact turn12 I h12 S i hI hi hL c12
  by_cases c13 : (S.1 999 (nI (6 * i)).toNatClampNeg) &&& 63 = 13
  · exact turn13 I h13 S i hI hi hL c13
  by_cases c14 : (S.1 999 (nI (6 * i)).toNatClampNeg) &&& 63 = 14
  · exact turn14 I h14 S i hI hi hL c14
  by_cases c15 : (S.1 999 (nI (6 * i)).toNatClampNeg) &&& 63 = 15
  · exact turn15 I h15 S i hI hi hL c15
  by_cases c16 : (S.1 999 (nI (6 * i)).toNatClampNeg) &&& 63 = 16
  · exact turn16 I h16 S i hI hi hL c16
  by_cases c17 : (S.1 999 (nI (6 * i)).toNatClampNeg) &&& 63 = 17
  · exact turn17 I h17 S i hI hi hL c17
  by_cases c18 : (S.1 999 (nI (6 * i)).toNatClampNeg) &&& 63 = 18
  · exact turn18 I h18 S i hI hi hL c18
  by_cases c19 : (S.1 999 (nI (6 * i)).toNatClampNeg) &&& 63 = 19
  · exact turn19 I h19 S i hI hi hL c19
  by_cases c20 : (S.1 999 (nI (6 * i)).toNatClampNeg) &&& 63 = 20
  · exact turn20 I h20 S i hI hi hL c20
  by_cases c21 : (S.1 999 (nI (6 * i)).toNatClampNeg) &&& 63 = 21
  · exact turn21 I h21 S i hI hi hL c21
  by_cases c22 : (S.1 999 (nI (6 * i)).toNatClampNeg) &&& 63 = 22
  · exact turn22 I h22 S i hI hi hL c22
  by_cases c23 : (S.1 999 (nI (6 * i)).toNatClampNeg) &&& 63 = 23
  · exact turn23 I h23 S i hI hi hL c23
  by_cases c24 : (S.1 999 (nI (6 * i)).toNatClampNeg) &&& 63 = 24
  · exact turn24 I h24 S i hI hi hL c24
  by_cases c25 : (S.1 999 (nI (6 * i)).toNatClampNeg) &&& 63 = 25
  · exact turn25 I h25 S i hI hi hL c25
  by_cases c26 : (S.1 999 (nI (6 * i)).toNatClampNeg) &&& 63 = 26
  · exact turn26 I h26 S i hI hi hL c26
  by_cases c27 : (S.1 999 (nI (6 * i)).toNatClampNeg) &&& 63 = 27
  · exact turn27 I h27 S i hI hi hL c27
  by_cases c28 : (S.1 999 (nI (6 * i)).toNatClampNeg) &&& 63 = 28
  · exact turn28 I h28 S i hI hi hL c28
  by_cases c29 : (S.1 999 (nI (6 * i)).toNatClampNeg) &&& 63 = 29
  · exact turn29 I h29 S i hI hi hL c29
  by_cases c30 : (S.1 999 (nI (6 * i)).toNatClampNeg) &&& 63 = 30
  · exact turn30 I h30 S i hI hi hL c30
  by_cases c31 : (S.1 999 (nI (6 * i)).toNatClampNeg) &&& 63 = 31
  · exact turn31 I h31 S i hI hi hL c31
  by_cases c32 : (S.1 999 (nI (6 * i)).toNatClampNeg) &&& 63 = 32
  · exact turn32 I h32 S i hI hi hL c32
  by_cases c33 : (S.1 999 (nI (6 * i)).toNatClampNeg) &&& 63 = 33
  · exact turn33 I h33 S i hI hi hL c33
  by_cases c34 : (S.1 999 (nI (6 * i)).toNatClampNeg) &&& 63 = 34
  · exact turn34 I h34 S i hI hi hL c34
  by_cases c35 : (S.1 999 (nI (6 * i)).toNatClampNeg) &&& 63 = 35
  · exact turn35 I h35 S i hI hi hL c35
  by_cases c36 : (S.1 999 (nI (6 * i)).toNatClampNeg) &&& 63 = 36
  · exact turn36 I h36 S i hI hi hL c36
  by_cases c37 : (S.1 999 (nI (6 * i)).toNatClampNeg) &&& 63 = 37
  · exact turn37 I h37 S i hI hi hL c37
  refine ⟨S, hI, rfl, rfl, fun r hr => (b0_27 _ _ _ _).mpr ⟨vp_in_nI (by omega) (by omega), ?_⟩⟩
  simp (decide := true) only [x01, x11, x21, x31, x41, x51, y6, y7, y8, y9, y10, y11, y12, y13, y14, y15, y16, y17, y18, y19, y20, y21, y22, y23, y24, y25, y26, y27, y28, y29, y30, y31, y32, y33, y34, y35, y36]
  simp only [c0, c1, c2, c3, c4, c5, c6, c7, c8, c9, c10, c11, c12, c13, c14, c15, c16, c17, c18, c19, c20, c21, c22, c23, c24, c25, c26, c27, c28, c29, c30, c31, c32, c33, c34, c35, c36, c37, if_false, b0_1381]
  exact hr
