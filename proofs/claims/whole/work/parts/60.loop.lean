/-! the law's loop: one turn after the other -/
theorem xX_scr {d f pc : Nat} {l : xL} {st : List Value} {S : xS} {r : Option Value × xS} (h : xX d f pc l st S r) : r.2.1 999 = S.1 999 ∧ r.2.2.2 = S.2.2 := by
  obtain ⟨n, h⟩ := h
  exact xRun_scr _ _ _ _ _ _ _ _ h
theorem xtoInt_sub6 {L : Nat} (h : L ≤ 3072) : (Int32.ofNat L - 6).toInt = (L : Int) - 6 := by
  rw [Int32.toInt_sub]
  have h1 : (Int32.ofNat L).toInt = (L : Int) := nI_toInt (n := L) (by omega)
  have h2 : (6 : Int32).toInt = 6 := rfl
  rw [h1, h2]
  exact Int.bmod_eq_of_le (by omega) (by omega)
abbrev xlw (v : Int32) : xL := [(0, .ref 999), (1, .ref 0), (2, .ref 54), (3, .int v)]
/-- one turn keeps I and comes to the next turn -/
def xTurn (I : xS → Prop) : Prop := ∀ (S : xS) (i : Nat), I S → 6 * i + 6 ≤ S.2.2 → S.2.2 ≤ 3072 → ∃ S2, I S2 ∧ S2.1 999 = S.1 999 ∧ S2.2.2 = S.2.2 ∧ ∀ r, xX 60 0 18 (xlw (nI (6 * i) + 6)) [] S2 r → xX 60 0 27 (xlw (nI (6 * i))) [] S r
theorem xpure_of (I : xS → Prop) (h0 : ∀ L xs, I (xS0 L xs)) (ht : xTurn I) : xPure := by
  intro L xs hL
  have key : ∀ (k i : Nat) (S : xS), I S → S.2.2 = L → L < 6 * i + 6 * k → 6 * i ≤ L + 6 → ∃ S1, xX 60 0 18 (xlw (nI (6 * i))) [] S (some (.int 1), S1) := by
    intro k
    induction k with
    | zero =>
      intro i S hI hS hk hi
      refine ⟨S, (b0_18 60 (nI (6 * i)) S _).mpr ?_⟩
      rw [if_pos (by rw [hS, Int32.lt_iff_toInt_lt, xtoInt_sub6 hL, nI_toInt (by omega)]; omega)]
      exact (b0_1387 _ _ _).mpr ⟨Or.inr rfl, rfl⟩
    | succ k ih =>
      intro i S hI hS hk hi
      by_cases hc : (L : Int) - 6 < ((6 * i : Nat) : Int)
      · refine ⟨S, (b0_18 60 (nI (6 * i)) S _).mpr ?_⟩
        rw [if_pos (by rw [hS, Int32.lt_iff_toInt_lt, xtoInt_sub6 hL, nI_toInt (by omega)]; omega)]
        exact (b0_1387 _ _ _).mpr ⟨Or.inr rfl, rfl⟩
      · obtain ⟨S2, hI2, -, hL2, hr⟩ := ht S i hI (by omega) (by omega)
        obtain ⟨S1, h1⟩ := ih (i + 1) S2 hI2 (by rw [hL2, hS]) (by omega) (by omega)
        refine ⟨S1, (b0_18 60 (nI (6 * i)) S _).mpr ?_⟩
        rw [if_neg (by rw [hS, Int32.lt_iff_toInt_lt, xtoInt_sub6 hL, nI_toInt (by omega)]; omega)]
        refine hr _ ?_
        have e : nI (6 * i) + 6 = nI (6 * (i + 1)) := by
          rw [show (6 : Int32) = nI 6 by decide, nI_add]
          rfl
        rw [e]
        exact h1
  exact key (L + 1) 0 (xS0 L xs) (h0 L xs) rfl (by omega) (by omega)
