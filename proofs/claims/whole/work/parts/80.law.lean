/-! a law is read: both sides -/
def cS (S : xS) (fl ow nu fw : Int32) : xS := (fun a b => if a = 19 then (if b = 5 then fl else if b = 6 then ow else if b = 7 then nu else if b = 8 then fw else S.1 19 b) else S.1 a b, S.2)
theorem cS_ne (S : xS) (fl ow nu fw : Int32) (c : Nat) (h : c ≠ 19) : (cS S fl ow nu fw).1 c = S.1 c := by funext b; exact if_neg h
theorem cS_2 (S : xS) (fl ow nu fw : Int32) : (cS S fl ow nu fw).2 = S.2 := rfl
theorem cS_r0 (S : xS) (fl ow nu fw : Int32) : (cS S fl ow nu fw).1 19 0 = S.1 19 0 := rfl
theorem cS_r5 (S : xS) (fl ow nu fw : Int32) : (cS S fl ow nu fw).1 19 5 = fl := rfl
theorem cS_r6 (S : xS) (fl ow nu fw : Int32) : (cS S fl ow nu fw).1 19 6 = ow := rfl
theorem cS_r7 (S : xS) (fl ow nu fw : Int32) : (cS S fl ow nu fw).1 19 7 = nu := rfl
theorem cS_r8 (S : xS) (fl ow nu fw : Int32) : (cS S fl ow nu fw).1 19 8 = fw := rfl
theorem cS_w5 (S : xS) (fl ow nu fw v : Int32) : xwI (cS S fl ow nu fw) 19 5 v = cS S v ow nu fw := by
  refine Prod.ext ?_ rfl
  funext a b
  by_cases h : a = 19 <;> by_cases h5 : b = 5 <;> by_cases h6 : b = 6 <;> by_cases h7 : b = 7 <;> by_cases h8 : b = 8 <;> simp [xwI, cS, h, h5, h6, h7, h8]
theorem cS_w6 (S : xS) (fl ow nu fw v : Int32) : xwI (cS S fl ow nu fw) 19 6 v = cS S fl v nu fw := by
  refine Prod.ext ?_ rfl
  funext a b
  by_cases h : a = 19 <;> by_cases h5 : b = 5 <;> by_cases h6 : b = 6 <;> by_cases h7 : b = 7 <;> by_cases h8 : b = 8 <;> simp [xwI, cS, h, h5, h6, h7, h8]
theorem cS_w7 (S : xS) (fl ow nu fw v : Int32) : xwI (cS S fl ow nu fw) 19 7 v = cS S fl ow v fw := by
  refine Prod.ext ?_ rfl
  funext a b
  by_cases h : a = 19 <;> by_cases h5 : b = 5 <;> by_cases h6 : b = 6 <;> by_cases h7 : b = 7 <;> by_cases h8 : b = 8 <;> simp [xwI, cS, h, h5, h6, h7, h8]
theorem cS_w8 (S : xS) (fl ow nu fw v : Int32) : xwI (cS S fl ow nu fw) 19 8 v = cS S fl ow nu v := by
  refine Prod.ext ?_ rfl
  funext a b
  by_cases h : a = 19 <;> by_cases h5 : b = 5 <;> by_cases h6 : b = 6 <;> by_cases h7 : b = 7 <;> by_cases h8 : b = 8 <;> simp [xwI, cS, h, h5, h6, h7, h8]
theorem cS_in (S : xS) : xwI (xwI S 19 6 (-1)) 19 5 (-1) = cS S (-1) (-1) (S.1 19 7) (S.1 19 8) := by
  refine Prod.ext ?_ rfl
  funext a b
  by_cases h : a = 19 <;> by_cases h5 : b = 5 <;> by_cases h6 : b = 6 <;> by_cases h7 : b = 7 <;> by_cases h8 : b = 8 <;> simp [xwI, cS, h, h5, h6, h7, h8]
def pT (T : xS) (p : Nat) : xS := xwI T 54 50 (nI p)
theorem pT_s (T : xS) (p : Nat) : xwI (pT T p) 54 50 (nI p + 1) = pT T (p + 1) := by
  unfold pT
  rw [xwI_xwI, nI_1]
theorem pT_s' (T : xS) (p : Nat) : xwI (pT T p) 54 50 (nI (p + 1)) = pT T (p + 1) := by
  unfold pT
  rw [xwI_xwI]
theorem pT_r (T : xS) (p : Nat) : (pT T p).1 54 50 = nI p := xrd_eq _ _ _ _
theorem pT_ne (T : xS) (p : Nat) (c : Nat) (h : c ≠ 54) : (pT T p).1 c = T.1 c := xrd_ne _ _ _ _ _ h
theorem pT_2 (T : xS) (p : Nat) : (pT T p).2 = T.2 := rfl
section LAW
variable {S T : xS} {s q m : Nat} {c : Nat → Int32}
/-- the letters, as both sides see them -/
def lxC (S : xS) (s q m : Nat) (c : Nat → Int32) : Prop := s < 8 ∧ S.1 29 s = nI (100 + q) ∧ S.1 30 s = nI m ∧ m ≤ 60 ∧ q < 4 ∧ ∀ p, p < m → (S.2.1 (xrb + s) p).toInt32 = c p
def lmC (T : xS) (s m : Nat) (c : Nat → Int32) : Prop := s < 8 ∧ T.1 73 s = nI m ∧ m ≤ 60 ∧ ∀ p, p < m → (T.2.1 75 (60 * s + p)).toInt32 = c p
theorem x26l (h : lxC S s q m c) {p : Nat} (hp : p < m) (fl ow nu fw : Int32) (d : Nat) (r : Option Value × xS) : xX (d + 1) 26 0 [(0, .ref 28), (1, .int (nI s)), (2, .int (nI p))] [] (cS S fl ow nu fw) r ↔ r = (some (.long (S.2.1 (xrb + s) p)), cS S fl ow nu fw) := by
  obtain ⟨h1, h2, h3, h4, h5, h6⟩ := h
  have a1 : (nI s).toNatClampNeg = s := nI_clamp (by omega)
  have a2 : (nI p).toNatClampNeg = p := nI_clamp (by omega)
  have a3 := vp_in_nI h1 (by omega : 8 < 2 ^ 31)
  have a4 := vp_in_nI (show p < 60 by omega) (by omega : 60 < 2 ^ 31)
  have a5 : ¬ nI (100 + q) < 100 := by rw [show (100 : Int32) = nI 100 by decide]; exact nI_nlt (by omega) (by omega)
  have a6 : ¬ nI p < 0 := nI_pos (by omega)
  have a7 : (nI m - 1 < nI p) = False := by rw [xhasE (by omega)]; exact eq_false (not_not_intro (nI_lt hp (by omega)))
  have r29 := cS_ne S fl ow nu fw 29 (by decide)
  have r30 := cS_ne S fl ow nu fw 30 (by decide)
  refine (t26 d (nI s) (nI p) (cS S fl ow nu fw) r (by simp (decide := true) only [g26, r29, r30, a1, a2, a3, a4, h1, h2, h3, a5, a6, a7, ↓reduceIte, and_true, true_and])).trans ?_
  simp (decide := true) only [p26, r29, r30, a1, a2, h2, h3, a5, a6, a7, ↓reduceIte, cS_2]
theorem m164l (h : lmC T s m c) {p : Nat} (hp : p ≤ 60) (d : Nat) (r : Option Value × xS) : xX d 164 0 [(0, .ref 54), (1, .int (nI s))] [] (pT T p) r ↔ r = (some (.int (if p < m then 0 else 1)), pT T p) := by
  obtain ⟨h1, h2, h3, h4⟩ := h
  have a1 : (nI s).toNatClampNeg = s := nI_clamp (by omega)
  have a3 := vp_in_nI h1 (by omega : 8 < 2 ^ 31)
  refine (t164 d (nI s) (pT T p) r (by simp only [g164, a3, and_true])).trans ?_
  have e : (nI p < nI m) = (p < m) := propext (nI_ltI (by omega) (by omega))
  simp only [p164, pT_r, pT_ne _ _ 73 (by decide), a1, h2, e]
  by_cases k : p < m
  · rw [if_pos k, if_pos k]
  · rw [if_neg k, if_neg k]
theorem m165l (h : lmC T s m c) {p : Nat} (hp : p < m) (d : Nat) (r : Option Value × xS) : xX d 165 0 [(0, .ref 54), (1, .int (nI s))] [] (pT T p) r ↔ r = (some (.int (c p)), pT T p) := by
  obtain ⟨h1, h2, h3, h4⟩ := h
  have a1 : 60 * nI s + nI p = nI (60 * s + p) := nI_60m s p
  have a2 : (nI (60 * s + p)).toNatClampNeg = 60 * s + p := nI_clamp (by omega)
  have a3 := vp_in_nI (show 60 * s + p < 480 by omega) (by omega : 480 < 2 ^ 31)
  refine (t165 d (nI s) (pT T p) r (by simp only [g165, pT_r, a1, a3, and_true])).trans ?_
  simp only [p165, pT_r, a1, a2, pT_2, h4 p hp]
theorem m166l (h : lmC T s m c) {p : Nat} (hp : p ≤ 60) (ch : Int32) (d : Nat) (r : Option Value × xS) : xX (d + 1) 166 0 [(0, .ref 54), (1, .int (nI s)), (2, .int ch)] [] (pT T p) r ↔ r = (some (.int (if p < m ∧ c p = ch then 1 else 0)), pT T p) := by
  obtain ⟨h1, h2, h3, h4⟩ := h
  have a0 : (nI s).toNatClampNeg = s := nI_clamp (by omega)
  have a1 : 60 * nI s + nI p = nI (60 * s + p) := nI_60m s p
  have a2 : (nI (60 * s + p)).toNatClampNeg = 60 * s + p := nI_clamp (by omega)
  have a4 := vp_in_nI h1 (by omega : 8 < 2 ^ 31)
  have e : (nI p < nI m) = (p < m) := propext (nI_ltI (by omega) (by omega))
  by_cases k : p < m
  · have a3 := vp_in_nI (show 60 * s + p < 480 by omega) (by omega : 480 < 2 ^ 31)
    refine (t166 d (nI s) ch (pT T p) r (by simp only [g166, pT_r, pT_ne _ _ 73 (by decide), a0, h2, e, k, ↓reduceIte, a1, a3, a4, and_true])).trans ?_
    simp only [p166, pT_r, pT_ne _ _ 73 (by decide), a0, h2, e, k, ↓reduceIte, a1, a2, pT_2, h4 p k, true_and]
    rcases Classical.propComplete (c p = ch) with z | z <;> simp (decide := true) only [z, ↓reduceIte]
  · refine (t166 d (nI s) ch (pT T p) r (by simp only [g166, pT_r, pT_ne _ _ 73 (by decide), a0, h2, e, k, ↓reduceIte, a4, and_true])).trans ?_
    simp only [p166, pT_r, pT_ne _ _ 73 (by decide), a0, h2, e, k, ↓reduceIte, false_and]
/-- a digit -/
def dgt (c : Nat → Int32) (m p : Nat) : Prop := p < m ∧ ¬ c p < 48 ∧ ¬ 57 < c p
theorem dgt_of {p : Nat} (h : dgt c m p) : ∃ e, e ≤ 9 ∧ c p = nI (48 + e) := by
  have h0 : ¬ c p < 0 := fun z => h.2.1 (Int32.lt_trans z (by decide))
  obtain ⟨j, hj, e⟩ := xIdxL (n := 57) (b := 57) (by decide) (by omega) h0 h.2.2
  have : 48 ≤ j := by
    have h1 := h.2.1
    rw [e, show (48 : Int32) = nI 48 by decide, nI_ltI (by omega) (by omega)] at h1
    omega
  exact ⟨j - 48, by omega, by rw [e]; congr 1; omega⟩
/-- number(): where it stops -/
theorem m167s (h : lmC T s m c) {p : Nat} (hp : p ≤ 60) (hs : ¬ dgt c m p) (top v cn : Int32) (d : Nat) (r : Option Value × xS) : xX (d + 1) 167 5 [(0, .ref 54), (1, .int (nI s)), (2, .int top), (3, .int v), (4, .int cn)] [] (pT T p) r ↔ r = (some (.int (if cn = 0 then -1 else v)), pT T p) := by
  have g1 := fun (d : Nat) (r : Option Value × xS) => m164l h hp d r
  have fin : (if cn = 0 then xX (d + 1) 167 90 [] [] (pT T p) r else xX (d + 1) 167 94 [(3, .int v)] [] (pT T p) r) ↔ r = (some (.int (if cn = 0 then -1 else v)), pT T p) := by
    rcases Classical.propComplete (cn = 0) with z | z <;> simp (decide := true) only [z, ↓reduceIte, b167_90, b167_94]
  by_cases k : p < m
  · have g2 := fun (d : Nat) (r : Option Value × xS) => m165l h k d r
    by_cases c1 : c p < 48
    · simp (decide := true) only [b167_5, g1, k, ↓reduceIte, exists_eq_left, xtl, b167_10, b167_13, g2, b167_18, c1, b167_85, fin]
    · have c2 : 57 < c p := by
        by_cases z : 57 < c p
        · exact z
        · exact absurd ⟨k, c1, z⟩ hs
      simp (decide := true) only [b167_5, g1, k, ↓reduceIte, exists_eq_left, xtl, b167_10, b167_13, g2, b167_18, c1, c2, b167_23, b167_28, b167_85, fin]
  · simp (decide := true) only [b167_5, g1, k, ↓reduceIte, exists_eq_left, xtl, b167_10, b167_85, fin]
theorem m167d (h : lmC T s m c) {p e v cn top : Nat} (hp : p < m) (he : e ≤ 9) (hc : c p = nI (48 + e)) (hv : v ≤ 99) (hcn : cn ≤ 60) (ht : top ≤ 99) (d : Nat) (r : Option Value × xS) : xX (d + 1) 167 5 [(0, .ref 54), (1, .int (nI s)), (2, .int (nI top)), (3, .int (nI v)), (4, .int (nI cn))] [] (pT T p) r ↔ if (0 < cn ∧ v = 0) ∨ top < 10 * v + e then r = (some (.int (if cn = 0 then -1 else nI v)), pT T p) else xX (d + 1) 167 5 [(0, .ref 54), (1, .int (nI s)), (2, .int (nI top)), (3, .int (nI (10 * v + e))), (4, .int (nI (cn + 1)))] [] (pT T (p + 1)) r := by
  have hm := h.2.2.1
  have g1 := fun (d : Nat) (r : Option Value × xS) => m164l h (show p ≤ 60 by omega) d r
  have g2 := fun (d : Nat) (r : Option Value × xS) => m165l h hp d r
  have c1 : ¬ nI (48 + e) < 48 := by rw [show (48 : Int32) = nI 48 by decide]; exact nI_nlt (by omega) (by omega)
  have c2 : ¬ 57 < nI (48 + e) := by rw [show (57 : Int32) = nI 57 by decide]; exact nI_nlt (by omega) (by omega)
  have w : 10 * nI v + nI (48 + e) - 48 = nI (10 * v + e) := by
    rw [nI_10m, show (48 : Int32) = nI 48 by decide, nI_sub (by omega)]
    congr 1; omega
  have e1 : (0 < nI cn) = (0 < cn) := by rw [← nI_0]; exact propext (nI_ltI (by omega) (by omega))
  have e2 : (nI v = 0) = (v = 0) := by rw [← nI_0]; exact propext (nI_eq (by omega) (by omega))
  have e3 : (nI top < nI (10 * v + e)) = (top < 10 * v + e) := propext (nI_ltI (by omega) (by omega))
  have e4 : (nI cn = 0) = (cn = 0) := by rw [← nI_0]; exact propext (nI_eq (by omega) (by omega))
  refine (b167_5 _ _ _ _ _ _ _).trans ?_
  simp (decide := true) only [g1, hp, ↓reduceIte, exists_eq_left, xtl, b167_10, b167_13, g2, hc, b167_18, c1, c2, b167_23, b167_28, b167_33, b167_42, w, e1]
  by_cases k1 : 0 < cn
  · by_cases k2 : v = 0
    · have k3 : ¬ cn = 0 := by omega
      simp (decide := true) only [k1, k2, k3, e4, nI_0, true_and, true_or, ↓reduceIte, b167_53, b167_85, b167_94]
    · by_cases k4 : top < 10 * v + e
      · have k3 : ¬ cn = 0 := by omega
        simp (decide := true) only [k1, k2, k3, k4, e2, e3, e4, and_false, false_or, ↓reduceIte, b167_53, b167_57, b167_63, b167_94]
      · simp (decide := true) only [k1, k2, k4, e2, e3, and_false, or_false, ↓reduceIte, b167_53, b167_57, b167_66, pT_r, pT_s', nI_1]
  · have k3 : cn = 0 := by omega
    by_cases k4 : top < 10 * v + e
    · simp (decide := true) only [k1, k3, k4, e3, false_and, false_or, nI_0, ↓reduceIte, b167_57, b167_63, b167_90]
    · simp (decide := true) only [k1, k4, e3, false_and, or_false, ↓reduceIte, b167_57, b167_66, pT_r, pT_s', nI_1]
end LAW
