/-! clear, isLegal, firstBreach -/
theorem xdk_eq {S : xS} (h : xInvR S) {j : Nat} (hj : j < 5) : xdk (S.1 10) (S.1 11) (nI j) (xN (S.1 9 0)) = nI (aDR (S.1 9 0) (S.1 10) (S.1 11) j) := by
  have hb := h.bld.1
  refine xsum_nI (fun k hk => ?_)
  obtain ⟨r1, r2, r3⟩ := h.hRdy.get (by omega) (show k < 6 by omega)
  obtain ⟨d1, d2, d3⟩ := h.hRom.get (by omega) (show k < 6 by omega)
  by_cases c : xN (S.1 11 k) ≤ j
  · have c2 : ¬ nI j < S.1 11 k := by rw [r2]; exact nI_nlt c (by omega)
    rw [if_neg c2, if_pos c]; exact d2
  · have c2 : nI j < S.1 11 k := by rw [r2]; exact nI_lt (by omega) (by omega)
    rw [if_pos c2, if_neg c, nI_0]
def xCl1 (S T : xS) (j : Nat) : Prop := (∀ v, v < j → (T.1 46 v = nI (aDR (S.1 9 0) (S.1 10) (S.1 11) v) ∧ T.1 47 v = nI (aFR (S.1 12) v) ∧ T.1 48 v = nI (aSR (S.1 12) v)) ∧ (T.1 42 v = 0 ∧ T.1 43 v = 0 ∧ T.1 44 v = 0 ∧ T.1 45 v = 0)) ∧ (∀ c, (c < 42 ∨ 48 < c) → T.1 c = S.1 c) ∧ T.2 = S.2
def xCl2 (S T : xS) (j : Nat) : Prop := (∀ v, v < 5 → (T.1 46 v = nI (aDR (S.1 9 0) (S.1 10) (S.1 11) v) ∧ T.1 47 v = nI (aFR (S.1 12) v) ∧ T.1 48 v = nI (aSR (S.1 12) v)) ∧ (T.1 42 v = 0 ∧ T.1 43 v = 0 ∧ T.1 44 v = 0 ∧ T.1 45 v = 0)) ∧ (∀ k, k < j → T.1 49 k = nI (xN (S.1 3 k)) ∧ T.1 50 k = nI (aH (S.1 14) k) ∧ T.1 51 k = nI (aP (S.1 14) (S.1 15) k)) ∧ (∀ c, (c < 42 ∨ 51 < c) → T.1 c = S.1 c) ∧ T.2 = S.2
theorem m32 (d : Nat) (S : xS) (h : xInvR S) : ∃ S', (∀ r, xX (d + 3) 32 0 [(0, .ref 41), (1, .ref 2), (2, .ref 13), (3, .ref 9)] [] S r ↔ r = (none, S')) ∧ LdR S' (xN (S.1 2 0)) ∧ (∀ t, LdO S' t 0) ∧ (∀ c, (c < 41 ∨ 51 < c) → S'.1 c = S.1 c) ∧ S'.2 = S.2 := by
  obtain ⟨hn, hn1, hn2⟩ := h.cnt
  obtain ⟨hb, hb1, hb2⟩ := h.bld
  obtain ⟨l1, S1, ⟨rfl, p1⟩, e1⟩ := xX_loopP (d := d + 3) (f := 32) (pc := 9) (st := []) (fun j l T => l = [(0, .ref 41), (1, .ref 2), (2, .ref 13), (3, .ref 9), (4, .int (nI (sN (fun u => xN (S.1 12 u)) j))), (5, .int (nI (sN (fun u => xN (S.1 12 (5 + u))) j))), (6, .int (nI j))] ∧ xCl1 S T j) 5 (by
    rintro j hj l T ⟨rfl, hT⟩
    obtain ⟨h1, h2, h3⟩ := hT
    have hTi : xInvR T := xInvR_fr (fun c hc _ => h2 c (by omega)) (by rw [h3]) h
    have d1 : nI j < 5 := nI_lt (a := j) (b := 5) hj (by omega)
    have d2 : vp_in (nI j) 5 := vp_in_nI hj (by omega)
    have d3 : (nI j).toNatClampNeg = j := nI_clamp (by omega)
    have a0 : (0 : Int32) * 5 + nI j = nI j := by rw [Int32.zero_mul, Int32.zero_add]
    have a1 : (1 : Int32) * 5 + nI j = nI (5 + j) := nI_m 5 5 (by decide) 1 j
    have a2 : (nI (5 + j)).toNatClampNeg = 5 + j := nI_clamp (by omega)
    have v0 := vp_in_nI (show j < 10 by omega) (by omega : 10 < 2 ^ 31)
    have v1 := vp_in_nI (show 5 + j < 10 by omega) (by omega : 10 < 2 ^ 31)
    have q12 : T.1 12 = S.1 12 := h2 12 (by decide)
    have f0 : S.1 12 j = nI (xN (S.1 12 j)) := (h.hBec.1.get (by omega) hj).2.1
    have f1 : S.1 12 (5 + j) = nI (xN (S.1 12 (5 + j))) := (h.hBec.2.get (by omega) hj).2.1
    have g0 : ∀ (dd : Nat) (r : Option Value × xS), xX dd 15 0 [(0, .ref 9), (1, .int (nI j)), (2, .int 0)] [] T r ↔ r = (some (.int (nI (xN (S.1 12 j)))), T) := fun dd r => (t15 dd (nI j) 0 T r (by simp only [g15, a0, v0, and_true])).trans (by simp only [p15, a0, d3, q12, ← f0])
    have g1 : ∀ (dd : Nat) (r : Option Value × xS), xX dd 15 0 [(0, .ref 9), (1, .int (nI j)), (2, .int 1)] [] T r ↔ r = (some (.int (nI (xN (S.1 12 (5 + j))))), T) := fun dd r => (t15 dd (nI j) 1 T r (by simp only [g15, a1, v1, and_true])).trans (by simp only [p15, a1, a2, q12, ← f1])
    have g2 : ∀ (dd : Nat) (r : Option Value × xS), xX dd 31 0 [(0, .ref 9), (1, .int (nI j))] [] T r ↔ r = (some (.int (nI (aDR (S.1 9 0) (S.1 10) (S.1 11) j))), T) := fun dd r => (t31 dd (nI j) T r hTi.bld.1 hTi.bld.2.1).trans (by rw [xdk_eq hTi hj, h2 9 (by decide), h2 10 (by decide), h2 11 (by decide)])
    refine ⟨_, xwI (xwI (xwI (xwI (xwI (xwI (xwI T 46 j (nI (aDR (S.1 9 0) (S.1 10) (S.1 11) j))) 47 j (nI (sN (fun u => xN (S.1 12 u)) (j + 1)))) 48 j (nI (sN (fun u => xN (S.1 12 (5 + u))) (j + 1)))) 42 j 0) 43 j 0) 44 j 0) 45 j 0, ⟨rfl, ?_⟩, fun r => ?_⟩
    · refine ⟨fun v hv => ?_, fun c hc => ?_, h3⟩
      · simp (decide := true) only [xrd_ne, xrd_same]
        by_cases e : v = j
        · subst e; simp only [vupd_eq, aFR, aSR, and_self]
        · simp only [vupd_ne _ _ _ _ e]; exact h1 v (by omega)
      · rw [xrd_ne _ _ _ _ _ (by omega), xrd_ne _ _ _ _ _ (by omega), xrd_ne _ _ _ _ _ (by omega), xrd_ne _ _ _ _ _ (by omega), xrd_ne _ _ _ _ _ (by omega), xrd_ne _ _ _ _ _ (by omega), xrd_ne _ _ _ _ _ (by omega)]; exact h2 c hc
    · refine (b32_9 _ _ _ _ _ _).trans ?_
      rw [if_pos d1]
      simp only [b32_15, g0, exists_eq_left, xtl, b32_24, g1, b32_36, g2, b32_51, d2, d3, true_and, nI_1, nI_add, sN]) _ S ⟨rfl, fun v hv => absurd hv (Nat.not_lt_zero v), fun _ _ => rfl, rfl⟩
  obtain ⟨p11, p12, p13⟩ := p1
  have hS1 : xInvR S1 := xInvR_fr (fun c hc _ => p12 c (by omega)) (by rw [p13]) h
  have hc1 : S1.1 2 0 = nI (xN (S.1 2 0)) := by rw [p12 2 (by decide)]; exact hn1
  obtain ⟨l2, S2, ⟨rfl, p2⟩, e2⟩ := xX_loopP (d := d + 3) (f := 32) (pc := 111) (st := []) (fun j l T => l = [(0, .ref 41), (1, .ref 2), (2, .ref 13), (3, .ref 9), (6, .int (nI j))] ∧ xCl2 S T j) (xN (S.1 2 0)) (by
    rintro j hj l T ⟨rfl, hT⟩
    obtain ⟨h1, h2, h3, h4⟩ := hT
    have hTi : xInvR T := xInvR_fr (fun c hc _ => h3 c (by omega)) (by rw [h4]) h
    have hT2 : T.1 2 0 = nI (xN (S.1 2 0)) := by rw [h3 2 (by decide)]; exact hn1
    have d1 : nI j < nI (xN (S.1 2 0)) := nI_lt hj (by omega)
    have hj10 : j < 10 := by omega
    have d2 : vp_in (nI j) 10 := vp_in_nI hj10 (by omega)
    have d3 : (nI j).toNatClampNeg = j := nI_clamp (by omega)
    have f3 : T.1 3 j = nI (xN (S.1 3 j)) := by rw [h3 3 (by decide)]; exact (h.dsk hj10).2.1
    have i1 : xInvR (xwI T 49 j (nI (xN (S.1 3 j)))) := xInvR_fr (fun c hc _ => xrd_ne _ _ _ _ _ (by omega)) rfl hTi
    have i2 : ∀ y, xInvR (xwI (xwI T 49 j (nI (xN (S.1 3 j)))) 50 j y) := fun y => xInvR_fr (fun c hc _ => xrd_ne _ _ _ _ _ (by omega)) rfl i1
    have g0 := fun (dd : Nat) (r : Option Value × xS) => m10 dd _ i1 hj10 r
    have g1 := fun (dd : Nat) (y : Int32) (r : Option Value × xS) => m13 dd _ (i2 y) hj10 r
    simp (decide := true) only [xrd_ne, h3 14 (by decide), h3 15 (by decide)] at g0 g1
    refine ⟨_, xwI (xwI (xwI T 49 j (nI (xN (S.1 3 j)))) 50 j (nI (aH (S.1 14) j))) 51 j (nI (aP (S.1 14) (S.1 15) j)), ⟨rfl, ?_⟩, fun r => ?_⟩
    · refine ⟨fun v hv => ?_, fun k hk => ?_, fun c hc => ?_, h4⟩
      · simp (decide := true) only [xrd_ne]; exact h1 v hv
      · simp (decide := true) only [xrd_ne, xrd_same]
        by_cases e : k = j
        · subst e; simp only [vupd_eq, and_self]
        · simp only [vupd_ne _ _ _ _ e]; exact h2 k (by omega)
      · rw [xrd_ne _ _ _ _ _ (by omega), xrd_ne _ _ _ _ _ (by omega), xrd_ne _ _ _ _ _ (by omega)]; exact h3 c hc
    · refine (b32_111 _ _ _ _).trans ?_
      rw [hT2, if_pos d1]
      simp only [b32_120, d2, d3, f3, true_and, g0, exists_eq_left, xtl, b32_146, g1, b32_159, nI_1]) _ S1 ⟨rfl, p11, fun k hk => absurd hk (Nat.not_lt_zero k), fun c hc => p12 c (by omega), p13⟩
  obtain ⟨p21, p22, p23, p24⟩ := p2
  have hc2 : S2.1 2 0 = nI (xN (S.1 2 0)) := by rw [p23 2 (by decide)]; exact hn1
  refine ⟨xwI S2 41 10 (S2.1 9 1), fun r => ?_, ?_, fun t v hv => ?_, fun c hc => ?_, p24⟩
  · rw [b32_0]
    refine (e1 r).trans ?_
    have d1 : ¬ nI 5 < 5 := by decide
    rw [b32_9, if_neg d1, b32_108]
    refine (e2 r).trans ?_
    rw [b32_111, hc2, if_neg (nI_nlt (Nat.le_refl _) (by omega)), b32_166]
  · unfold LdR
    simp (decide := true) only [xrd_ne, xrd_eq]
    rw [p23 9 (by decide), p23 10 (by decide), p23 11 (by decide), p23 12 (by decide), p23 3 (by decide), p23 14 (by decide), p23 15 (by decide)]
    exact ⟨fun v hv => (p21 v hv).1, p22, trivial⟩
  · simp (decide := true) only [xrd_ne]
    obtain ⟨g1, g2, g3, g4⟩ := (p21 v hv).2
    exact ⟨g1, g2, g3, g4⟩
  · rw [xrd_ne _ _ _ _ _ (by omega)]; exact p23 c (by omega)
theorem sN_sub {f g : Nat → Nat} {n : Nat} (h : ∀ k, k < n → f k ≤ g k) : sN f n ≤ sN g n := sN_le h
theorem nI_ltB {a b : Nat} (ha : a < 100000) (hb : b < 100000) : (nI a < nI b) ↔ a < b := nI_ltI (by omega) (by omega)
/-- isLegal -/
theorem m34 (S : xS) (h : xInvR S) {t : Nat → Nat} (hR : LdR S (xN (S.1 2 0))) (hO : LdO S t (xN (S.1 2 0))) {v : Nat} (hv : v < 5) : (aLg S t v ∧ ∀ (d : Nat) (r : Option Value × xS), xX d 34 0 [(0, .ref 41), (1, .int (nI v))] [] S r ↔ r = (some (.int 1), S)) ∨ (¬ aLg S t v ∧ ∀ (d : Nat) (r : Option Value × xS), xX d 34 0 [(0, .ref 41), (1, .int (nI v))] [] S r ↔ r = (some (.int 0), S)) := by
  have d2 : vp_in (nI v) 5 := vp_in_nI hv (by omega)
  have d3 : (nI v).toNatClampNeg = v := nI_clamp (by omega)
  obtain ⟨hn, hn1, hn2⟩ := h.cnt
  obtain ⟨hm, hm1, hm2⟩ := h.mst
  obtain ⟨r1, r2, r3⟩ := hR.1 v hv
  have r4 := hR.2.2
  obtain ⟨o1, o2, o3, o4⟩ := hO v hv
  have b1 := xbDR h v
  have b2 := xbFR h hv
  have b3 := xbSR h hv
  have s1 := xbS (c := fun k => t k ≤ v) (n := xN (S.1 2 0)) (fun k hk => (h.dsk (show k < 10 by omega)).1)
  have s2 := xbS (c := fun k => t k = v) (n := xN (S.1 2 0)) (fun k hk => (h.dsk (show k < 10 by omega)).1)
  have s3 := xbS (c := fun k => t k ≤ v) (n := xN (S.1 2 0)) (fun k hk => xbH h (show k < 10 by omega))
  have s4 := xbS (c := fun k => t k ≤ v) (n := xN (S.1 2 0)) (fun k hk => xbP h (show k < 10 by omega))
  unfold aLg LgA
  rw [hm1] at r4
  have q1 : (S.1 46 v < S.1 42 v) ↔ aDR (S.1 9 0) (S.1 10) (S.1 11) v < sN (fun k => if t k ≤ v then xN (S.1 3 k) else 0) (xN (S.1 2 0)) := by rw [r1, o1]; exact nI_ltB (Nat.lt_of_le_of_lt b1 (by omega)) (Nat.lt_of_le_of_lt s1 (by omega))
  have q2 : (S.1 41 10 < S.1 43 v) ↔ xN (S.1 9 1) < sN (fun k => if t k = v then xN (S.1 3 k) else 0) (xN (S.1 2 0)) := by rw [r4, o2]; exact nI_ltB (Nat.lt_of_le_of_lt hm (by omega)) (Nat.lt_of_le_of_lt s2 (by omega))
  have q3 : (S.1 47 v < S.1 44 v) ↔ aFR (S.1 12) v < sN (fun k => if t k ≤ v then aH (S.1 14) k else 0) (xN (S.1 2 0)) := by rw [r2, o3]; exact nI_ltB (Nat.lt_of_le_of_lt b2 (by omega)) (Nat.lt_of_le_of_lt s3 (by omega))
  have q4 : (S.1 48 v < S.1 45 v) ↔ aSR (S.1 12) v < sN (fun k => if t k ≤ v then aP (S.1 14) (S.1 15) k else 0) (xN (S.1 2 0)) := by rw [r3, o4]; exact nI_ltB (Nat.lt_of_le_of_lt b3 (by omega)) (Nat.lt_of_le_of_lt s4 (by omega))
  by_cases c1 : S.1 46 v < S.1 42 v
  · refine Or.inr ⟨fun z => absurd z.1 (Nat.not_le.mpr (q1.mp c1)), fun d r => ?_⟩
    simp (decide := true) only [b34_0, b34_62, b34_15, b34_28, b34_43, b34_58, d2, d3, c1, ↓reduceIte, true_and, xbit_0, xbit_1]
  by_cases c2 : S.1 41 10 < S.1 43 v
  · refine Or.inr ⟨fun z => absurd z.2.1 (Nat.not_le.mpr (q2.mp c2)), fun d r => ?_⟩
    simp (decide := true) only [b34_0, b34_62, b34_15, b34_28, b34_43, b34_58, d2, d3, c1, c2, ↓reduceIte, true_and, xbit_0, xbit_1]
  by_cases c3 : S.1 47 v < S.1 44 v
  · refine Or.inr ⟨fun z => absurd z.2.2.1 (Nat.not_le.mpr (q3.mp c3)), fun d r => ?_⟩
    simp (decide := true) only [b34_0, b34_62, b34_15, b34_28, b34_43, b34_58, d2, d3, c1, c2, c3, ↓reduceIte, true_and, xbit_0, xbit_1]
  by_cases c4 : S.1 48 v < S.1 45 v
  · refine Or.inr ⟨fun z => absurd z.2.2.2 (Nat.not_le.mpr (q4.mp c4)), fun d r => ?_⟩
    simp (decide := true) only [b34_0, b34_62, b34_15, b34_28, b34_43, b34_58, d2, d3, c1, c2, c3, c4, ↓reduceIte, true_and, xbit_0, xbit_1]
  · refine Or.inl ⟨⟨Nat.not_lt.mp (fun z => c1 (q1.mpr z)), Nat.not_lt.mp (fun z => c2 (q2.mpr z)), Nat.not_lt.mp (fun z => c3 (q3.mpr z)), Nat.not_lt.mp (fun z => c4 (q4.mpr z))⟩, fun d r => ?_⟩
    simp (decide := true) only [b34_0, b34_62, b34_15, b34_28, b34_43, b34_58, d2, d3, c1, c2, c3, c4, ↓reduceIte, true_and, xbit_0, xbit_1]
