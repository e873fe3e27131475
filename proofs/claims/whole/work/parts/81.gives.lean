/-! gives: waves by a row -/
def gOk (mv sty : Nat → Int32) (now : Int32) (c y : Nat → Int32) (k : Nat) : Prop := c k = y k ∨ (mv k = 0 ∧ sty k = 0 ∧ (c k = -1 ∨ (¬ c k < 0 ∧ c k < 5 ∧ ¬ c k < now)))
theorem least_not {P : Nat → Prop} : ∀ {n : Nat}, ¬ (∀ k, k < n → P k) → ∃ k0, k0 < n ∧ ¬ P k0 ∧ ∀ k, k < k0 → P k
  | 0, h => absurd (fun k hk => absurd hk (Nat.not_lt_zero k)) h
  | n + 1, h => by
    by_cases a : ∀ k, k < n → P k
    · refine ⟨n, Nat.lt_succ_self n, fun z => h (fun k hk => ?_), a⟩
      rcases Nat.lt_or_ge k n with x | x
      · exact a k x
      · rw [show k = n by omega]; exact z
    · obtain ⟨k0, h1, h2, h3⟩ := least_not a
      exact ⟨k0, by omega, h2, h3⟩
section GV
variable {S : xS} {s q m n : Nat} {c : Nat → Int32}
theorem x26s (h : lxC S s q m c) {p : Nat} (hp : p < m) {U : xS} (h29 : U.1 29 = S.1 29) (h30 : U.1 30 = S.1 30) (hU : U.2 = S.2) (d : Nat) (r : Option Value × xS) : xX (d + 1) 26 0 [(0, .ref 28), (1, .int (nI s)), (2, .int (nI p))] [] U r ↔ r = (some (.long (S.2.1 (xrb + s) p)), U) := by
  obtain ⟨h1, h2, h3, h4, h5, h6⟩ := h
  have a1 : (nI s).toNatClampNeg = s := nI_clamp (by omega)
  have a2 : (nI p).toNatClampNeg = p := nI_clamp (by omega)
  have a3 := vp_in_nI h1 (by omega : 8 < 2 ^ 31)
  have a4 := vp_in_nI (show p < 60 by omega) (by omega : 60 < 2 ^ 31)
  have a5 : ¬ nI (100 + q) < 100 := by rw [show (100 : Int32) = nI 100 by decide]; exact nI_nlt (by omega) (by omega)
  have a6 : ¬ nI p < 0 := nI_pos (by omega)
  have a7 : (nI m - 1 < nI p) = False := by rw [xhasE (by omega)]; exact eq_false (not_not_intro (nI_lt hp (by omega)))
  refine (t26 d (nI s) (nI p) U r (by simp (decide := true) only [g26, h29, h30, a1, a2, a3, a4, h1, h2, h3, a5, a6, a7, ↓reduceIte, and_true, true_and])).trans ?_
  simp (decide := true) only [p26, h29, h30, a1, a2, h2, h3, a5, a6, a7, ↓reduceIte, hU]
theorem x90s (h : lxC S s q m c) (hm : n ≤ m) (hn10 : n ≤ 10) (hn : S.1 2 0 = nI n) {y : Nat → Int32} {k : Nat} (hk : k < n) (hy : (if S.1 5 k = 5 then -1 else S.1 5 k) = y k) : (gOk (S.1 7) (S.1 6) (S.1 0 10) c y k → ∀ r, xX 59 90 44 [(0, .ref 0), (1, .int (nI s)), (3, .int (nI k))] [] S r ↔ xX 59 90 44 [(0, .ref 0), (1, .int (nI s)), (3, .int (nI (k + 1)))] [] S r) ∧ (¬ gOk (S.1 7) (S.1 6) (S.1 0 10) c y k → ∀ r, xX 59 90 44 [(0, .ref 0), (1, .int (nI s)), (3, .int (nI k))] [] S r ↔ xX 59 90 90 [(0, .ref 0)] [] S r) := by
  have a1 : (nI k).toNatClampNeg = k := nI_clamp (by omega)
  have a2 := vp_in_nI (show k < 10 by omega) (by omega : 10 < 2 ^ 31)
  have g1 := fun (r : Option Value × xS) => x26s h (show k < m by omega) rfl rfl rfl 57 r
  have g2 : ∀ r, xX 58 39 0 [(0, .ref 2), (1, .int (nI k))] [] S r ↔ r = (some (.int (y k)), S) := fun r => by
    by_cases z : S.1 5 k = 5
    · rw [if_pos z] at hy
      exact (t39 58 (nI k) S r (by simp only [g39, a1, a2, z, ↓reduceIte, and_true])).trans (by simp only [p39, a1, z, ↓reduceIte, hy])
    · rw [if_neg z] at hy
      exact (t39 58 (nI k) S r (by simp only [g39, a1, a2, z, ↓reduceIte, and_true])).trans (by simp only [p39, a1, z, ↓reduceIte]; rw [hy])
  have gc := h.2.2.2.2.2 k (by omega)
  have g3 := fun (r : Option Value × xS) => t88 57 (nI k) (c k) S r (by by_cases z : S.1 7 k = 0 <;> simp only [g88, a1, a2, z, ↓reduceIte, and_true])
  have base : ∀ r, xX 59 90 44 [(0, .ref 0), (1, .int (nI s)), (3, .int (nI k))] [] S r ↔ (if c k = y k then xX 59 90 97 [(0, .ref 0), (1, .int (nI s)), (3, .int (nI k))] [] S r else xX 59 90 80 [(0, .ref 0), (1, .int (nI s)), (3, .int (nI k)), (4, .int (c k))] [] S r) := fun r => by
    refine (b90_44 _ _ _ _ _).trans ?_
    rw [hn, if_pos (nI_lt hk (by omega))]
    simp only [b90_55, g1, exists_eq_left, xtl, b90_64, g2, b90_77, gc]
  by_cases e1 : c k = y k
  · refine ⟨fun _ r => ?_, fun z => absurd (Or.inl e1) z⟩
    rw [base, if_pos e1, b90_97, nI_1]
  · have b2 : ∀ r, xX 59 90 44 [(0, .ref 0), (1, .int (nI s)), (3, .int (nI k))] [] S r ↔ ∃ r1, r1 = p88 S (nI k) (c k) ∧ xX 59 90 87 [(0, .ref 0), (1, .int (nI s)), (3, .int (nI k)), (4, .int (c k))] (r1.1.toList ++ []) r1.2 r := fun r => by
      rw [base, if_neg e1, b90_80]
      simp only [g3]
    by_cases z7 : S.1 7 k = 0 <;> by_cases z6 : S.1 6 k = 0
    · by_cases w1 : c k = -1
      · refine ⟨fun _ r => ?_, fun z => absurd (Or.inr ⟨z7, z6, Or.inl w1⟩) z⟩
        rw [b2]
        simp (decide := true) only [p88, a1, z7, z6, w1, ↓reduceIte, exists_eq_left, xtl, b90_87, b90_97, nI_1]
      · by_cases w2 : c k < 0
        · refine ⟨fun z => absurd z (fun z => by rcases z with z | ⟨-, -, z | z⟩; exact e1 z; exact w1 z; exact z.1 w2), fun _ r => ?_⟩
          rw [b2]
          simp (decide := true) only [p88, a1, z7, z6, w1, w2, ↓reduceIte, exists_eq_left, xtl, b90_87]
        · by_cases w3 : c k < 5
          · by_cases w4 : c k < S.1 0 10
            · refine ⟨fun z => absurd z (fun z => by rcases z with z | ⟨-, -, z | z⟩; exact e1 z; exact w1 z; exact z.2.2 w4), fun _ r => ?_⟩
              rw [b2]
              simp (decide := true) only [p88, a1, z7, z6, w1, w2, w3, w4, ↓reduceIte, exists_eq_left, xtl, b90_87]
            · refine ⟨fun _ r => ?_, fun z => absurd (Or.inr ⟨z7, z6, Or.inr ⟨w2, w3, w4⟩⟩) z⟩
              rw [b2]
              simp (decide := true) only [p88, a1, z7, z6, w1, w2, w3, w4, ↓reduceIte, exists_eq_left, xtl, b90_87, b90_97, nI_1]
          · refine ⟨fun z => absurd z (fun z => by rcases z with z | ⟨-, -, z | z⟩; exact e1 z; exact w1 z; exact w3 z.2.1), fun _ r => ?_⟩
            rw [b2]
            simp (decide := true) only [p88, a1, z7, z6, w1, w2, w3, ↓reduceIte, exists_eq_left, xtl, b90_87]
    · refine ⟨fun z => absurd z (fun z => by rcases z with z | ⟨-, z, -⟩; exact e1 z; exact z6 z), fun _ r => ?_⟩
      rw [b2]
      simp (decide := true) only [p88, a1, z7, z6, ↓reduceIte, exists_eq_left, xtl, b90_87]
    · refine ⟨fun z => absurd z (fun z => by rcases z with z | ⟨z, -, -⟩; exact e1 z; exact z7 z), fun _ r => ?_⟩
      rw [b2]
      simp (decide := true) only [p88, a1, z7, z6, ↓reduceIte, exists_eq_left, xtl, b90_87]
    · refine ⟨fun z => absurd z (fun z => by rcases z with z | ⟨z, -, -⟩; exact e1 z; exact z7 z), fun _ r => ?_⟩
      rw [b2]
      simp (decide := true) only [p88, a1, z7, z6, ↓reduceIte, exists_eq_left, xtl, b90_87]
theorem m137s {T : xS} (hs : s < 8) (hc : ∀ p, p < m → (T.2.1 75 (60 * s + p)).toInt32 = c p) (hm60 : m ≤ 60) (hm : n ≤ m) (hn10 : n ≤ 10) (hn : T.1 54 0 = nI n) {k : Nat} (hk : k < n) (cn : Int32) : (gOk (T.1 59) (T.1 58) (T.1 54 5) c (T.1 57) k → ∀ r, xX 59 137 70 [(0, .ref 54), (1, .int (nI s)), (2, .int cn), (3, .int (nI k))] [] T r ↔ xX 59 137 70 [(0, .ref 54), (1, .int (nI s)), (2, .int (cn + if c k = T.1 57 k then 0 else 1)), (3, .int (nI (k + 1)))] [] T r) ∧ (¬ gOk (T.1 59) (T.1 58) (T.1 54 5) c (T.1 57) k → ∀ r, xX 59 137 70 [(0, .ref 54), (1, .int (nI s)), (2, .int cn), (3, .int (nI k))] [] T r ↔ xX 59 137 130 [(0, .ref 54)] [] T r) := by
  have a1 : (nI k).toNatClampNeg = k := nI_clamp (by omega)
  have a2 := vp_in_nI (show k < 10 by omega) (by omega : 10 < 2 ^ 31)
  have a3 : 60 * nI s + nI k = nI (60 * s + k) := nI_60m s k
  have a4 : (nI (60 * s + k)).toNatClampNeg = 60 * s + k := nI_clamp (by omega)
  have a5 := vp_in_nI (show 60 * s + k < 480 by omega) (by omega : 480 < 2 ^ 31)
  have gc := hc k (by omega)
  have g3 := fun (r : Option Value × xS) => t135 58 (nI k) (c k) T r (by by_cases z : T.1 59 k = 0 <;> simp only [g135, a1, a2, z, ↓reduceIte, and_true])
  have base : ∀ r, xX 59 137 70 [(0, .ref 54), (1, .int (nI s)), (2, .int cn), (3, .int (nI k))] [] T r ↔ (if c k = T.1 57 k then xX 59 137 103 [(0, .ref 54), (1, .int (nI s)), (2, .int cn), (3, .int (nI k))] [] T r else xX 59 137 106 [(0, .ref 54), (1, .int (nI s)), (2, .int cn), (3, .int (nI k)), (4, .int (c k))] [] T r) := fun r => by
    refine (b137_70 _ _ _ _ _ _).trans ?_
    rw [hn, if_pos (nI_lt hk (by omega))]
    simp only [b137_78, a1, a2, a3, a4, a5, gc, true_and]
  by_cases e1 : c k = T.1 57 k
  · refine ⟨fun _ r => ?_, fun z => absurd (Or.inl e1) z⟩
    rw [base, if_pos e1, if_pos e1, b137_103, nI_1, Int32.add_zero]
  · by_cases z7 : T.1 59 k = 0 <;> by_cases z6 : T.1 58 k = 0
    · by_cases w1 : c k = -1
      · refine ⟨fun _ r => ?_, fun z => absurd (Or.inr ⟨z7, z6, Or.inl w1⟩) z⟩
        rw [base, if_neg e1, if_neg e1, b137_106, if_pos w1]
        have g3' := g3
        rw [w1] at g3'
        simp (decide := true) only [b137_120, g3', p135, a1, z7, z6, w1, ↓reduceIte, exists_eq_left, xtl, b137_127, b137_137, nI_1]
      · by_cases w2 : c k < 0
        · refine ⟨fun z => absurd z (fun z => by rcases z with z | ⟨-, -, z | z⟩; exact e1 z; exact w1 z; exact z.1 w2), fun _ r => ?_⟩
          rw [base, if_neg e1, b137_106, if_neg w1]
          simp (decide := true) only [b137_112, b116_0, b116_4, b116_9, b116_13, w2, ↓reduceIte, exists_eq_left, xtl, b137_117, and_assoc, exists_and_left, true_and, xbit_0]
        · by_cases w3 : c k < 5
          · by_cases w4 : c k < T.1 54 5
            · refine ⟨fun z => absurd z (fun z => by rcases z with z | ⟨-, -, z | z⟩; exact e1 z; exact w1 z; exact z.2.2 w4), fun _ r => ?_⟩
              rw [base, if_neg e1, b137_106, if_neg w1]
              simp (decide := true) only [b137_112, b116_0, b116_4, b116_9, b116_13, w2, w3, ↓reduceIte, exists_eq_left, xtl, b137_117, and_assoc, exists_and_left, true_and, xbit_1, b137_120, g3, p135, a1, z7, z6, w1, w4, b137_127]
            · refine ⟨fun _ r => ?_, fun z => absurd (Or.inr ⟨z7, z6, Or.inr ⟨w2, w3, w4⟩⟩) z⟩
              rw [base, if_neg e1, if_neg e1, b137_106, if_neg w1]
              simp (decide := true) only [b137_112, b116_0, b116_4, b116_9, b116_13, w2, w3, ↓reduceIte, exists_eq_left, xtl, b137_117, and_assoc, exists_and_left, true_and, xbit_1, b137_120, g3, p135, a1, z7, z6, w1, w4, b137_127, b137_137, nI_1]
          · refine ⟨fun z => absurd z (fun z => by rcases z with z | ⟨-, -, z | z⟩; exact e1 z; exact w1 z; exact w3 z.2.1), fun _ r => ?_⟩
            rw [base, if_neg e1, b137_106, if_neg w1]
            simp (decide := true) only [b137_112, b116_0, b116_4, b116_9, b116_13, w2, w3, ↓reduceIte, exists_eq_left, xtl, b137_117, and_assoc, exists_and_left, true_and, xbit_0]
    all_goals
      refine ⟨fun z => absurd z (fun z => by rcases z with z | ⟨z, z', -⟩; exact e1 z; first | exact z7 z | exact z6 z'), fun _ r => ?_⟩
      rw [base, if_neg e1, b137_106]
      by_cases w1 : c k = -1
      · rw [if_pos w1]
        simp (decide := true) only [b137_120, g3, p135, a1, z7, z6, ↓reduceIte, exists_eq_left, xtl, b137_127]
      · rw [if_neg w1]
        by_cases w2 : c k < 0
        · simp (decide := true) only [b137_112, b116_0, b116_4, b116_9, b116_13, w2, ↓reduceIte, exists_eq_left, xtl, b137_117, and_assoc, exists_and_left, true_and, xbit_0]
        · by_cases w3 : c k < 5
          · simp (decide := true) only [b137_112, b116_0, b116_4, b116_9, b116_13, w2, w3, ↓reduceIte, exists_eq_left, xtl, b137_117, and_assoc, exists_and_left, true_and, xbit_1, b137_120, g3, p135, a1, z7, z6, b137_127]
          · simp (decide := true) only [b137_112, b116_0, b116_4, b116_9, b116_13, w2, w3, ↓reduceIte, exists_eq_left, xtl, b137_117, and_assoc, exists_and_left, true_and, xbit_0]
/-- the class's waves behind j offices -/
def gvX (f c y : Nat → Int32) (j : Nat) : Nat → Int32 := fun k => if k < j ∧ ¬ c k = y k then (if c k = -1 then 5 else c k) else f k
theorem gvX_n {f c y : Nat → Int32} {j : Nat} (h : c j = y j) : gvX f c y (j + 1) = gvX f c y j := by
  funext k
  unfold gvX
  by_cases e : k < j ∧ ¬ c k = y k
  · rw [if_pos e, if_pos ⟨by omega, e.2⟩]
  · rw [if_neg e, if_neg (fun z => e ⟨by
      rcases Nat.lt_or_ge k j with x | x
      · exact x
      · rw [show k = j by omega] at z; exact absurd h z.2, z.2⟩)]
theorem gvX_y {f c y : Nat → Int32} {j : Nat} (h : ¬ c j = y j) : gvX f c y (j + 1) = fun b => if b = j then (if c j = -1 then 5 else c j) else gvX f c y j b := by
  funext k
  by_cases e : k = j
  · subst e
    rw [if_pos rfl]
    unfold gvX
    rw [if_pos ⟨Nat.lt_succ_self k, h⟩]
  · rw [if_neg e]
    unfold gvX
    by_cases a : k < j ∧ ¬ c k = y k
    · rw [if_pos a, if_pos ⟨by omega, a.2⟩]
    · rw [if_neg a, if_neg (fun z => a ⟨by omega, z.2⟩)]
theorem x90w (h : lxC S s q m c) (hm : n ≤ m) (hn10 : n ≤ 10) (hn : S.1 2 0 = nI n) {y : Nat → Int32} (hy : ∀ k, k < n → (if S.1 5 k = 5 then -1 else S.1 5 k) = y k) (r : Option Value × xS) : xX 59 90 103 [(0, .ref 0), (1, .int (nI s))] [] S r ↔ r = (some (.int (xsum (fun k => if c k = y k then 0 else 1) n)), xset S 5 (gvX (S.1 5) c y n)) := by
  have key := xX_loop (d := 59) (f := 90) (pc := 108) (st := []) (fun j => ([(0, .ref 0), (1, .int (nI s)), (3, .int (xsum (fun k => if c k = y k then 0 else 1) j)), (4, .int (nI j))], xset S 5 (gvX (S.1 5) c y j))) n (fun j hj r => by
    have a1 : (nI j).toNatClampNeg = j := nI_clamp (by omega)
    have a2 := vp_in_nI (show j < 10 by omega) (by omega : 10 < 2 ^ 31)
    have g1 := fun (r : Option Value × xS) => x26s h (show j < m by omega) (U := xset S 5 (gvX (S.1 5) c y j)) (xset_ne _ _ _ _ (by decide)) (xset_ne _ _ _ _ (by decide)) rfl 57 r
    have hj5 : (xset S 5 (gvX (S.1 5) c y j)).1 5 j = S.1 5 j := by
      rw [xset_same]
      unfold gvX
      rw [if_neg (by omega)]
    have g2 : ∀ r, xX 58 39 0 [(0, .ref 2), (1, .int (nI j))] [] (xset S 5 (gvX (S.1 5) c y j)) r ↔ r = (some (.int (y j)), xset S 5 (gvX (S.1 5) c y j)) := fun r => by
      have hy' := hy j hj
      by_cases z : S.1 5 j = 5
      · rw [if_pos z] at hy'
        exact (t39 58 (nI j) _ r (by simp only [g39, a1, a2, hj5, z, ↓reduceIte, and_true])).trans (by simp only [p39, a1, hj5, z, ↓reduceIte, hy'])
      · rw [if_neg z] at hy'
        exact (t39 58 (nI j) _ r (by simp only [g39, a1, a2, hj5, z, ↓reduceIte, and_true])).trans (by simp only [p39, a1, hj5, z, ↓reduceIte]; rw [hy'])
    have gc := h.2.2.2.2.2 j (by omega)
    refine (b90_108 _ _ _ _ _ _).trans ?_
    rw [xset_ne _ _ _ _ (by decide), hn, if_pos (nI_lt hj (by omega))]
    by_cases e1 : c j = y j
    · have e1' : (if c j = y j then (0 : Int32) else 1) = 0 := if_pos e1
      simp only [b90_120, g1, exists_eq_left, xtl, b90_130, g2, b90_144, gc, if_pos e1, b90_161, nI_1, xsum, e1', Int32.add_zero, gvX_n e1]
    · have e1' : (if c j = y j then (0 : Int32) else 1) = 1 := if_neg e1
      have g4 : ∀ r, xX 58 40 0 [(0, .ref 2), (1, .int (nI j)), (2, .int (c j))] [] (xset S 5 (gvX (S.1 5) c y j)) r ↔ r = (none, xset S 5 (gvX (S.1 5) c y (j + 1))) := fun r => by
        refine (t40 58 (nI j) (c j) _ r (by by_cases z : c j = -1 <;> simp only [g40, a2, z, ↓reduceIte, and_true])).trans ?_
        rw [gvX_y e1, ← xset_wI]
        by_cases z : c j = -1
        · simp only [p40, z, ↓reduceIte, a1]
        · simp only [p40, z, ↓reduceIte, a1]
      simp only [b90_120, g1, exists_eq_left, xtl, b90_130, g2, b90_144, gc, if_neg e1, b90_147, g4, xtl0, b90_158, nI_1, xsum, e1']) r
  have e0 : xset S 5 (gvX (S.1 5) c y 0) = S := by
    rw [show gvX (S.1 5) c y 0 = S.1 5 from by funext k; exact if_neg (by omega), xset_id]
  simp only [e0, nI_0] at key
  rw [b90_103]
  refine key.trans ?_
  rw [b90_108, xset_ne _ _ _ _ (by decide), hn, if_neg (nI_nlt (Nat.le_refl n) (by omega)), b90_167]
/-- the reference's waves behind j offices -/
def gvM (f c : Nat → Int32) (j : Nat) : Nat → Int32 := fun k => if k < j then c k else f k
theorem m137w {T : xS} (hs : s < 8) (hc : ∀ p, p < m → (T.2.1 75 (60 * s + p)).toInt32 = c p) (hm60 : m ≤ 60) (hm : n ≤ m) (hn10 : n ≤ 10) (hn : T.1 54 0 = nI n) (cn : Int32) (r : Option Value × xS) : xX 59 137 146 [(0, .ref 54), (1, .int (nI s)), (2, .int cn)] [] T r ↔ r = (some (.int cn), xset T 57 (gvM (T.1 57) c n)) := by
  have key := xX_loop (d := 59) (f := 137) (pc := 148) (st := []) (fun j => ([(0, .ref 54), (1, .int (nI s)), (2, .int cn), (3, .int (nI j))], xset T 57 (gvM (T.1 57) c j))) n (fun j hj r => by
    have a1 : (nI j).toNatClampNeg = j := nI_clamp (by omega)
    have a2 := vp_in_nI (show j < 10 by omega) (by omega : 10 < 2 ^ 31)
    have a3 : 60 * nI s + nI j = nI (60 * s + j) := nI_60m s j
    have a4 : (nI (60 * s + j)).toNatClampNeg = 60 * s + j := nI_clamp (by omega)
    have a5 := vp_in_nI (show 60 * s + j < 480 by omega) (by omega : 480 < 2 ^ 31)
    have gc : ((xset T 57 (gvM (T.1 57) c j)).2.1 75 (60 * s + j)).toInt32 = c j := hc j (by omega)
    refine (b137_148 _ _ _ _ _ _).trans ?_
    rw [xset_ne _ _ _ _ (by decide), hn, if_pos (nI_lt hj (by omega))]
    have e : (fun b => if b = j then c j else gvM (T.1 57) c j b) = gvM (T.1 57) c (j + 1) := by
      funext b
      unfold gvM
      by_cases z : b = j
      · subst z; rw [if_pos rfl, if_pos (Nat.lt_succ_self b)]
      · rw [if_neg z]
        by_cases z2 : b < j
        · rw [if_pos z2, if_pos (by omega)]
        · rw [if_neg z2, if_neg (by omega)]
    simp only [b137_156, a1, a2, a3, a4, a5, gc, true_and, nI_1, xset_wI, e]) r
  have e0 : xset T 57 (gvM (T.1 57) c 0) = T := by
    rw [show gvM (T.1 57) c 0 = T.1 57 from by funext k; exact if_neg (by omega), xset_id]
  simp only [e0, nI_0] at key
  rw [b137_146]
  refine key.trans ?_
  rw [b137_148, xset_ne _ _ _ _ (by decide), hn, if_neg (nI_nlt (Nat.le_refl n) (by omega)), b137_180]
end GV
