/-! the load of a plan -/
/-- the invariant but for the refusals -/
def xInvR (S : xS) : Prop := iSc (S.1 2 0) (S.1 54 0) 10 ∧ iSc (S.1 9 0) (S.1 54 1) 6 ∧ iSc (S.1 9 1) (S.1 54 8) 400 ∧ iArr 10 40 (S.1 3) (S.1 55) ∧ jWav (S.1 5) (S.1 57) ∧ iArr 6 120 (S.1 10) (S.1 61) ∧ iArr 6 4 (S.1 11) (S.1 62) ∧ jBec (S.1 12) (S.1 63) (S.1 64) ∧ iArr 30 40 (S.1 14) (S.1 65) ∧ iArr 15 100 (S.1 15) (S.1 70)
theorem xInvR_fr' {S S' : xS} (h : ∀ c, (c = 2 ∨ c = 3 ∨ c = 5 ∨ c = 9 ∨ c = 10 ∨ c = 11 ∨ c = 12 ∨ c = 14 ∨ c = 15 ∨ c = 55 ∨ c = 57 ∨ c = 61 ∨ c = 62 ∨ c = 63 ∨ c = 64 ∨ c = 65 ∨ c = 70) → S'.1 c = S.1 c) (h54 : ∀ j, (j = 0 ∨ j = 1 ∨ j = 8) → S'.1 54 j = S.1 54 j) (hI : xInvR S) : xInvR S' := by
  unfold xInvR at *
  rw [h 2 (by decide), h 3 (by decide), h 5 (by decide), h 9 (by decide), h 10 (by decide), h 11 (by decide), h 12 (by decide), h 14 (by decide), h 15 (by decide), h 55 (by decide), h 57 (by decide), h 61 (by decide), h 62 (by decide), h 63 (by decide), h 64 (by decide), h 65 (by decide), h 70 (by decide), h54 0 (by decide), h54 1 (by decide), h54 8 (by decide)]
  exact hI
theorem xInvR_fr {S S' : xS} (h : ∀ c, (c < 40 ∨ 53 < c) → c < 85 → S'.1 c = S.1 c) (h2 : S'.2.1 = S.2.1) (hI : xInvR S) : xInvR S' := xInvR_fr' (fun c hc => h c (by omega) (by omega)) (fun j _ => by rw [h 54 (by decide) (by decide)]) hI
theorem xX_loopP {d f pc : Nat} {st : List Value} (P : Nat → xL → xS → Prop) (N : Nat) (h : ∀ j, j < N → ∀ l S, P j l S → ∃ l' S', P (j + 1) l' S' ∧ ∀ r, (xX d f pc l st S r ↔ xX d f pc l' st S' r)) : ∀ l S, P 0 l S → ∃ l' S', P N l' S' ∧ ∀ r, (xX d f pc l st S r ↔ xX d f pc l' st S' r) := by
  intro l S h0
  induction N with
  | zero => exact ⟨l, S, h0, fun _ => Iff.rfl⟩
  | succ N ih =>
    obtain ⟨l1, S1, h1, e1⟩ := ih (fun j hj => h j (Nat.lt_succ_of_lt hj))
    obtain ⟨l2, S2, h2, e2⟩ := h N (Nat.lt_succ_self N) l1 S1 h1
    exact ⟨l2, S2, h2, fun r => (e1 r).trans (e2 r)⟩
/-- what change() does -/
def xCh (S S' : xS) (k w : Nat) (sg : Int32) (m : Nat) : Prop :=
  (∀ v, v < 5 → S'.1 42 v = S.1 42 v + sg * (if w ≤ v ∧ v < m then S.1 49 k else 0)) ∧
  (∀ v, v < 5 → S'.1 43 v = S.1 43 v + sg * (if w = v then S.1 49 k else 0)) ∧
  (∀ v, v < 5 → S'.1 44 v = S.1 44 v + sg * (if w ≤ v ∧ v < m then S.1 50 k else 0)) ∧
  (∀ v, v < 5 → S'.1 45 v = S.1 45 v + sg * (if w ≤ v ∧ v < m then S.1 51 k else 0)) ∧
  (∀ c, (c < 42 ∨ 45 < c) → S'.1 c = S.1 c) ∧ S'.2 = S.2
theorem xCh_st {f g : Nat → Int32} {w m : Nat} {sg y : Int32} (hm : w ≤ m) (hm5 : m < 5) (h : ∀ v, v < 5 → g v = f v + sg * (if w ≤ v ∧ v < m then y else 0)) : ∀ v, v < 5 → vupd g m (g m + sg * y) v = f v + sg * (if w ≤ v ∧ v < m + 1 then y else 0) := by
  intro v hv
  by_cases e : v = m
  · subst e
    rw [vupd_eq, h v hv, if_neg (by omega), if_pos (by omega), Int32.mul_zero, Int32.add_zero]
  · rw [vupd_ne _ _ _ _ e, h v hv]
    by_cases c : w ≤ v ∧ v < m
    · rw [if_pos c, if_pos (by omega)]
    · rw [if_neg c, if_neg (by omega)]
theorem m33 (d : Nat) (S : xS) {k w : Nat} (hk : k < 10) (hw : w ≤ 5) (sg : Int32) : ∃ S', (∀ r, xX (d + 1) 33 0 [(0, .ref 41), (1, .int (nI k)), (2, .int (nI w)), (3, .int sg)] [] S r ↔ r = (none, S')) ∧ xCh S S' k w sg 5 := by
  have hik : vp_in (nI k) 10 := vp_in_nI hk (by omega)
  have hck : (nI k).toNatClampNeg = k := nI_clamp (by omega)
  have c1 : ¬ nI w < 0 := nI_pos (by omega)
  by_cases hw5 : w = 5
  · subst hw5
    have c2 : ¬ nI 5 < 5 := by decide
    refine ⟨S, fun r => by simp (decide := true) only [b33_0, b33_4, b33_9, c1, c2, ↓reduceIte, xtl, exists_eq_left, and_assoc, exists_and_left, true_and, xbit_0, xbit_1], ?_⟩
    refine ⟨fun v hv => ?_, fun v hv => ?_, fun v hv => ?_, fun v hv => ?_, fun _ _ => rfl, rfl⟩ <;> rw [if_neg (by omega), Int32.mul_zero, Int32.add_zero]
  · have hw5 : w < 5 := by omega
    have c2 : nI w < 5 := nI_lt (a := w) (b := 5) hw5 (by omega)
    have hiw : vp_in (nI w) 5 := vp_in_nI hw5 (by omega)
    have hcw : (nI w).toNatClampNeg = w := nI_clamp (by omega)
    obtain ⟨l', S', ⟨rfl, hS'⟩, e⟩ := xX_loopP (d := d + 1) (f := 33) (pc := 30) (st := []) (fun j l T => l = [(0, .ref 41), (1, .int (nI k)), (3, .int sg), (4, .int (nI (w + j)))] ∧ xCh S T k w sg (w + j)) (5 - w) (by
      rintro j hj l T ⟨rfl, hT⟩
      have hj5 : w + j < 5 := by omega
      have d1 : nI (w + j) < 5 := nI_lt (a := w + j) (b := 5) hj5 (by omega)
      have d2 : vp_in (nI (w + j)) 5 := vp_in_nI hj5 (by omega)
      have d3 : (nI (w + j)).toNatClampNeg = w + j := nI_clamp (by omega)
      obtain ⟨h1, h2, h3, h4, h5, h6⟩ := hT
      have q49 := h5 49 (by decide)
      have q50 := h5 50 (by decide)
      have q51 := h5 51 (by decide)
      refine ⟨_, xwI (xwI (xwI T 42 (w + j) (T.1 42 (w + j) + sg * T.1 49 k)) 44 (w + j) (T.1 44 (w + j) + sg * T.1 50 k)) 45 (w + j) (T.1 45 (w + j) + sg * T.1 51 k), ⟨rfl, ?_⟩, fun r => ?_⟩
      · rw [q49, q50, q51]
        refine ⟨?_, ?_, ?_, ?_, fun c hc => ?_, h6⟩
        · simp (decide := true) only [xrd_ne, xrd_same]; exact xCh_st (by omega) hj5 h1
        · simp (decide := true) only [xrd_ne]; exact h2
        · simp (decide := true) only [xrd_ne, xrd_same]; exact xCh_st (by omega) hj5 h3
        · simp (decide := true) only [xrd_ne, xrd_same]; exact xCh_st (by omega) hj5 h4
        · rw [xrd_ne _ _ _ _ _ (by omega), xrd_ne _ _ _ _ _ (by omega), xrd_ne _ _ _ _ _ (by omega)]; exact h5 c hc
      · refine (b33_30 _ _ _ _ _ _).trans ?_
        rw [if_pos d1]
        simp only [b33_36, d2, d3, hik, hck, true_and, nI_1, Nat.add_assoc]) _ (xwI S 43 w (S.1 43 w + sg * S.1 49 k)) ⟨rfl, by
        refine ⟨fun v hv => ?_, fun v hv => ?_, fun v hv => ?_, fun v hv => ?_, fun c hc => xrd_ne _ _ _ _ _ (by omega), rfl⟩
        · rw [xrd_ne _ _ _ _ _ (by decide), if_neg (by omega), Int32.mul_zero, Int32.add_zero]
        · rw [xrd_same]
          by_cases e : v = w
          · subst e; rw [vupd_eq, if_pos rfl]
          · rw [vupd_ne _ _ _ _ e, if_neg (Ne.symm e), Int32.mul_zero, Int32.add_zero]
        · rw [xrd_ne _ _ _ _ _ (by decide), if_neg (by omega), Int32.mul_zero, Int32.add_zero]
        · rw [xrd_ne _ _ _ _ _ (by decide), if_neg (by omega), Int32.mul_zero, Int32.add_zero]⟩
    have e5 : w + (5 - w) = 5 := by omega
    rw [e5] at hS' e
    refine ⟨S', fun r => ?_, hS'⟩
    have g1 : xX (d + 1) 33 0 [(0, .ref 41), (1, .int (nI k)), (2, .int (nI w)), (3, .int sg)] [] S r ↔ xX (d + 1) 33 30 [(0, .ref 41), (1, .int (nI k)), (3, .int sg), (4, .int (nI w))] [] (xwI S 43 w (S.1 43 w + sg * S.1 49 k)) r := by
      simp (decide := true) only [b33_0, b33_4, b33_10, c1, c2, hik, hck, hiw, hcw, ↓reduceIte, xtl, exists_eq_left, and_assoc, exists_and_left, true_and, xbit_0, xbit_1]
    refine g1.trans ((e r).trans ?_)
    have d1 : ¬ nI 5 < 5 := by decide
    rw [b33_30, if_neg d1, b33_96]
def LdR (S : xS) (n : Nat) : Prop := (∀ v, v < 5 → S.1 46 v = nI (aDR (S.1 9 0) (S.1 10) (S.1 11) v) ∧ S.1 47 v = nI (aFR (S.1 12) v) ∧ S.1 48 v = nI (aSR (S.1 12) v)) ∧ (∀ k, k < n → S.1 49 k = nI (xN (S.1 3 k)) ∧ S.1 50 k = nI (aH (S.1 14) k) ∧ S.1 51 k = nI (aP (S.1 14) (S.1 15) k)) ∧ S.1 41 10 = S.1 9 1
def LdO (S : xS) (t : Nat → Nat) (j : Nat) : Prop := ∀ v, v < 5 → S.1 42 v = nI (sN (fun k => if t k ≤ v then xN (S.1 3 k) else 0) j) ∧ S.1 43 v = nI (sN (fun k => if t k = v then xN (S.1 3 k) else 0) j) ∧ S.1 44 v = nI (sN (fun k => if t k ≤ v then aH (S.1 14) k else 0) j) ∧ S.1 45 v = nI (sN (fun k => if t k ≤ v then aP (S.1 14) (S.1 15) k else 0) j)
theorem LdR_fr {S S' : xS} {n : Nat} (h : ∀ c, (c < 40 ∨ (40 < c ∧ c < 42) ∨ (45 < c ∧ c < 52)) → S'.1 c = S.1 c) (hL : LdR S n) : LdR S' n := by
  unfold LdR at *
  rw [h 46 (by decide), h 47 (by decide), h 48 (by decide), h 49 (by decide), h 50 (by decide), h 51 (by decide), h 9 (by decide), h 10 (by decide), h 11 (by decide), h 12 (by decide), h 3 (by decide), h 14 (by decide), h 15 (by decide), h 41 (by decide)]
  exact hL
theorem LdO_fr {S S' : xS} {t : Nat → Nat} {n : Nat} (h : ∀ c, (c < 40 ∨ (41 < c ∧ c < 46)) → S'.1 c = S.1 c) (hL : LdO S t n) : LdO S' t n := by
  unfold LdO at *
  rw [h 42 (by decide), h 43 (by decide), h 44 (by decide), h 45 (by decide), h 3 (by decide), h 14 (by decide), h 15 (by decide)]
  exact hL
/-! folkOf and pupilsOf -/
theorem xtwo {S : xS} (h : xInvR S) {k : Nat} (hk : k < 30) : S.1 14 k = nI (xN (S.1 14 k)) ∧ xN (S.1 14 k) ≤ 40 := by
  obtain ⟨h1, h2, h3⟩ := (show iArr 30 40 (S.1 14) (S.1 65) from h.2.2.2.2.2.2.2.2.1).get (by omega) hk
  exact ⟨h2, h1⟩
theorem m10 (d : Nat) (S : xS) (h : xInvR S) {k : Nat} (hk : k < 10) (r : Option Value × xS) : xX d 10 0 [(0, .ref 13), (1, .int (nI k))] [] S r ↔ r = (some (.int (nI (aH (S.1 14) k))), S) := by
  have m0 : nI k * 3 + 0 = nI (3 * k) := by have := nI_m 3 3 (by decide) k 0; rw [nI_0] at this; exact this
  have m1 : nI k * 3 + 1 = nI (3 * k + 1) := nI_m 3 3 (by decide) k 1
  have m2 : nI k * 3 + 2 = nI (3 * k + 2) := nI_m 3 3 (by decide) k 2
  have x0 : (nI (3 * k)).toNatClampNeg = 3 * k := nI_clamp (by omega)
  have x1 : (nI (3 * k + 1)).toNatClampNeg = 3 * k + 1 := nI_clamp (by omega)
  have x2 : (nI (3 * k + 2)).toNatClampNeg = 3 * k + 2 := nI_clamp (by omega)
  have y0 := vp_in_nI (show 3 * k < 30 by omega) (by omega : 30 < 2 ^ 31)
  have y1 := vp_in_nI (show 3 * k + 1 < 30 by omega) (by omega : 30 < 2 ^ 31)
  have y2 := vp_in_nI (show 3 * k + 2 < 30 by omega) (by omega : 30 < 2 ^ 31)
  refine (t10 d (nI k) S r (by simp only [g10, m0, m1, m2, y0, y1, y2, and_true])).trans ?_
  simp only [p10, m0, m1, m2, x0, x1, x2, Int32.zero_add]
  rw [(xtwo h (show 3 * k < 30 by omega)).1, (xtwo h (show 3 * k + 1 < 30 by omega)).1, (xtwo h (show 3 * k + 2 < 30 by omega)).1, nI_add, nI_add]
  rfl
theorem m13 (d : Nat) (S : xS) (h : xInvR S) {k : Nat} (hk : k < 10) (r : Option Value × xS) : xX (d + 2) 13 0 [(0, .ref 13), (1, .int (nI k))] [] S r ↔ r = (some (.int (nI (aP (S.1 14) (S.1 15) k))), S) := by
  have m0 : nI k * 3 + 0 = nI (3 * k) := by have := nI_m 3 3 (by decide) k 0; rw [nI_0] at this; exact this
  have m1 : nI k * 3 + 1 = nI (3 * k + 1) := nI_m 3 3 (by decide) k 1
  have m2 : nI k * 3 + 2 = nI (3 * k + 2) := nI_m 3 3 (by decide) k 2
  have x0 : (nI (3 * k)).toNatClampNeg = 3 * k := nI_clamp (by omega)
  have x1 : (nI (3 * k + 1)).toNatClampNeg = 3 * k + 1 := nI_clamp (by omega)
  have x2 : (nI (3 * k + 2)).toNatClampNeg = 3 * k + 2 := nI_clamp (by omega)
  have y0 := vp_in_nI (show 3 * k < 30 by omega) (by omega : 30 < 2 ^ 31)
  have y1 := vp_in_nI (show 3 * k + 1 < 30 by omega) (by omega : 30 < 2 ^ 31)
  have y2 := vp_in_nI (show 3 * k + 2 < 30 by omega) (by omega : 30 < 2 ^ 31)
  have z0 := (xtwo h (show 3 * k < 30 by omega)).1
  have z1 := (xtwo h (show 3 * k + 1 < 30 by omega)).1
  have z2 := (xtwo h (show 3 * k + 2 < 30 by omega)).1
  by_cases c0 : 0 < S.1 15 2 <;> by_cases c1 : 0 < S.1 15 7 <;> by_cases c2 : 0 < S.1 15 12
  all_goals
    refine (t13 d (nI k) S r (by simp only [g13, c0, c1, c2, ↓reduceIte, m0, m1, m2, y0, y1, y2, and_true])).trans ?_
    simp only [p13, c0, c1, c2, ↓reduceIte, m0, m1, m2, x0, x1, x2, Int32.zero_add]
    simp only [aP, aK, c0, c1, c2, ↓reduceIte, Nat.mul_zero, Nat.mul_one, Nat.zero_add, Nat.reduceMul, Nat.reduceAdd, Nat.add_zero, nI_0, ← nI_add, ← z0, ← z1, ← z2]
