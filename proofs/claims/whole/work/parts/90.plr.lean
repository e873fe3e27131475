/-! plans: the reference's rule -/
def shP (T : xS) (l : Nat → Nat) (m p : Nat) : Prop := (∀ i, i < p → T.1 87 i = nI (l i)) ∧ ∀ i, p < i → i ≤ m → T.1 87 i = nI (l (i - 1))
theorem sh144 {Z : xS} {S : xS} (hS : xInv S) {k : Nat} (hk : k < 10) {l : Nat → Nat} {m : Nat} (hm : m ≤ k) (hl : ∀ i, i < m → l i < 10) {t : Nat → Nat} : ∀ p T, p ≤ m → plM Z S T t → shP T l m p → ∃ T', plM Z S T' t ∧ (∀ i, i < m + 1 → T'.1 87 i = nI (insL l (pO S l k p) k i)) ∧ ∀ (d : Nat) (r : Option Value × xS), xX d 144 32 [(0, .ref 54), (1, .int (nI (m + 1))), (2, .int (nI k)), (3, .int (nI p))] [] T r ↔ xX d 144 8 [(0, .ref 54), (1, .int (nI (m + 1))), (2, .int (nI (k + 1)))] [] T' r := by
  have fin : ∀ p T, p ≤ m → plM Z S T t → shP T l m p → ∃ T', plM Z S T' t ∧ (∀ i, i < m + 1 → T'.1 87 i = nI (insL l p k i)) ∧ ∀ (d : Nat) (r : Option Value × xS), xX d 144 78 [(0, .ref 54), (1, .int (nI (m + 1))), (2, .int (nI k)), (3, .int (nI p))] [] T r ↔ xX d 144 8 [(0, .ref 54), (1, .int (nI (m + 1))), (2, .int (nI (k + 1)))] [] T' r := by
    intro p T hp hT hs
    have d2 : vp_in (nI p) 10 := vp_in_nI (by omega) (by omega)
    have d3 : (nI p).toNatClampNeg = p := nI_clamp (by omega)
    refine ⟨xwI T 87 p (nI k), ⟨frM_wI hT.1 _ _ _ (by decide), by rw [xrd_ne _ _ _ _ _ (by decide)]; exact hT.2⟩, fun i hi => ?_, fun d r => ?_⟩
    · rw [xrd_same]
      unfold insL
      rcases Nat.lt_trichotomy i p with z | z | z
      · rw [if_pos z, vupd_ne _ _ _ _ (by omega)]; exact hs.1 i z
      · rw [if_neg (by omega), if_pos z, z, vupd_eq]
      · rw [if_neg (by omega), if_neg (by omega), vupd_ne _ _ _ _ (by omega)]; exact hs.2 i z (by omega)
    · rw [b144_78, d3, nI_1]
      exact ⟨fun z => z.2, fun z => ⟨d2, z⟩⟩
  intro p
  induction p with
  | zero =>
    intro T hp hT hs
    obtain ⟨T', h1, h2, h3⟩ := fin 0 T hp hT hs
    refine ⟨T', h1, h2, fun d r => ?_⟩
    have c : ¬ (0 : Int32) < nI 0 := by decide
    rw [b144_32, if_neg c]
    exact h3 d r
  | succ p ih =>
    intro T hp hT hs
    have c : (0 : Int32) < nI (p + 1) := nI_pos0 (by omega) (by omega)
    have e1 : nI (p + 1) - 1 = nI p := by rw [nI_dec (by omega)]; rfl
    have e1' : nI (p + 1) + (-1) = nI p := by rw [nI_addm1 (by omega)]; rfl
    have d2 : vp_in (nI p) 10 := vp_in_nI (by omega) (by omega)
    have d3 : (nI p).toNatClampNeg = p := nI_clamp (by omega)
    have d4 : vp_in (nI (p + 1)) 10 := vp_in_nI (by omega) (by omega)
    have d5 : (nI (p + 1)).toNatClampNeg = p + 1 := nI_clamp (by omega)
    have hlp := hl p (by omega)
    have d6 : vp_in (nI (l p)) 10 := vp_in_nI hlp (by omega)
    have d7 : (nI (l p)).toNatClampNeg = l p := nI_clamp (by omega)
    have d8 : vp_in (nI k) 10 := vp_in_nI hk (by omega)
    have d9 : (nI k).toNatClampNeg = k := nI_clamp (by omega)
    have f87 := hs.1 p (by omega)
    have f56 : T.1 56 = S.1 56 := hT.1.1 56 (by decide) (by decide) (by decide)
    obtain ⟨r1, r2, r3⟩ := hS.rnk hlp
    obtain ⟨q1, q2, q3⟩ := hS.rnk hk
    have cr : (S.1 56 (l p) < S.1 56 k) ↔ xN (S.1 4 (l p)) < xN (S.1 4 k) := by rw [r3, q3]; exact nI_ltI (by omega) (by omega)
    have st : ∀ (d : Nat) (r : Option Value × xS), xX d 144 32 [(0, .ref 54), (1, .int (nI (m + 1))), (2, .int (nI k)), (3, .int (nI (p + 1)))] [] T r ↔ (if S.1 56 (l p) < S.1 56 k then xX d 144 58 [(0, .ref 54), (1, .int (nI (m + 1))), (2, .int (nI k)), (3, .int (nI (p + 1)))] [] T r else xX d 144 78 [(0, .ref 54), (1, .int (nI (m + 1))), (2, .int (nI k)), (3, .int (nI (p + 1)))] [] T r) := fun d r => by
      rw [b144_32, if_pos c, b144_36, e1]
      simp only [d3, d2, f87, d6, d7, d8, d9, f56, true_and]
    unfold pO
    by_cases x : xN (S.1 4 (l p)) < xN (S.1 4 k)
    · rw [if_pos x]
      obtain ⟨T', h1, h2, h3⟩ := ih (xwI T 87 (p + 1) (nI (l p))) (by omega) ⟨frM_wI hT.1 _ _ _ (by decide), by rw [xrd_ne _ _ _ _ _ (by decide)]; exact hT.2⟩ ⟨fun i hi => by rw [xrd_same, vupd_ne _ _ _ _ (by omega)]; exact hs.1 i (by omega), fun i h1 h2 => by
        rw [xrd_same]
        by_cases e : i = p + 1
        · subst e; rw [vupd_eq]; rfl
        · rw [vupd_ne _ _ _ _ e]; exact hs.2 i (by omega) h2⟩
      refine ⟨T', h1, h2, fun d r => (st d r).trans ?_⟩
      rw [if_pos (cr.mpr x), b144_58, e1, e1', d3, d5, f87]
      exact ⟨fun z => (h3 d r).mp z.2.2, fun z => ⟨d2, d4, (h3 d r).mpr z⟩⟩
    · rw [if_neg x]
      obtain ⟨T', h1, h2, h3⟩ := fin (p + 1) T hp hT hs
      refine ⟨T', h1, h2, fun d r => (st d r).trans ?_⟩
      rw [if_neg (fun z => x (cr.mp z))]
      exact h3 d r
theorem list144 {Z : xS} {S T : xS} (hS : xInv S) {t : Nat → Nat} (h : plM Z S T t) : ∃ T', plM Z S T' t ∧ (∀ i, i < (lO S (xN (S.1 2 0))).2 → T'.1 87 i = nI ((lO S (xN (S.1 2 0))).1 i)) ∧ ∀ (d : Nat) (r : Option Value × xS), xX (d + 1) 144 4 [(0, .ref 54)] [] T r ↔ xX (d + 1) 144 93 [(0, .ref 54), (1, .int (nI (lO S (xN (S.1 2 0))).2)), (2, .int 0)] [] T' r := by
  obtain ⟨hn, hn1, hn2⟩ := hS.cnt
  obtain ⟨l2, T2, ⟨rfl, p2, q2⟩, e2⟩ := xX_loopD (e := 1) (f := 144) (pc := 8) (st := []) (fun j l T => l = [(0, .ref 54), (1, .int (nI (lO S j).2)), (2, .int (nI j))] ∧ plM Z S T t ∧ ∀ i, i < (lO S j).2 → T.1 87 i = nI ((lO S j).1 i)) (xN (S.1 2 0)) (by
    rintro j hj L T ⟨rfl, hT, hL⟩
    have hj10 : j < 10 := by omega
    have hO := lO_s hS j (by omega)
    have hc : T.1 54 0 = nI (xN (S.1 2 0)) := by rw [hT.1.1 54 (by decide) (by decide) (by decide)]; exact hn2
    have d1 : nI j < nI (xN (S.1 2 0)) := nI_lt hj (by omega)
    have pf : fr S j ↔ (T.1 59 j = 0 ∧ T.1 58 j = 0) := by
      rw [hT.1.1 59 (by decide) (by decide) (by decide), hT.1.1 58 (by decide) (by decide) (by decide), hS.hMov.eq hj10, hS.hSty.eq hj10]
      exact Iff.rfl

    rcases m142 T hj10 pf with ⟨c, e⟩ | ⟨c, e⟩
    · obtain ⟨T', h1, h2, h3⟩ := sh144 hS hj10 hO.1 (fun i hi => by have := (hO.2.1 i hi).1; omega) (lO S j).2 T (Nat.le_refl _) hT ⟨hL, fun i h1 h2 => absurd h1 (by omega)⟩
      have e1 : (lO S (j + 1)) = (insL (lO S j).1 (pO S (lO S j).1 j (lO S j).2) j, (lO S j).2 + 1) := if_pos c
      refine ⟨_, T', ⟨rfl, h1, fun i hi => ?_⟩, fun d r => ?_⟩
      · rw [e1] at hi ⊢; exact h2 i hi
      · refine (b144_8 _ _ _ _ _).trans ?_
        rw [hc, if_pos d1, e1]
        have h3' := h3 (d + 1)
        simp (decide := true) only [b144_16, e, exists_eq_left, xtl, b144_21, b144_27, ↓reduceIte, nI_1, h3']
    · have e1 : (lO S (j + 1)) = lO S j := if_neg c
      refine ⟨_, T, ⟨rfl, hT, fun i hi => ?_⟩, fun d r => ?_⟩
      · rw [e1] at hi ⊢; exact hL i hi
      · refine (b144_8 _ _ _ _ _).trans ?_
        rw [hc, if_pos d1, e1]
        simp (decide := true) only [b144_16, e, exists_eq_left, xtl, b144_21, b144_24, ↓reduceIte, nI_1]) _ T ⟨rfl, h, fun i hi => absurd hi (Nat.not_lt_zero _)⟩
  refine ⟨T2, p2, q2, fun d r => ?_⟩
  have hc : T2.1 54 0 = nI (xN (S.1 2 0)) := by rw [p2.1.1 54 (by decide) (by decide) (by decide)]; exact hn2
  have z : (0 : Int32) = nI (lO S 0).2 := rfl
  rw [b144_4]
  refine (e2 d r).trans ?_
  rw [b144_8, hc, if_neg (nI_nlt (Nat.le_refl _) (by omega)), b144_91]
