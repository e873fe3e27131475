/-! plans: the reference's places by the rule -/
def lsM (T : xS) (l : Nat → Nat) (M : Nat) : Prop := ∀ i, i < M → T.1 87 i = nI (l i)
theorem iPl_tU {S T : xS} {t : Nat → Nat} {n k w : Nat} (hw : w < 5) (hk : k < n) (h : ∀ x, x < n → x ≠ k → t x ≤ 5 ∧ T.1 85 x = (if t x = 5 then -1 else nI (t x))) : iPl n ((xwI T 85 k (nI w)).1 85) (tU t k w) := fun x hx => by
  rw [xrd_same]
  by_cases e : x = k
  · subst e; rw [vupd_eq, tU_eq, if_neg (by omega)]; exact ⟨by omega, rfl⟩
  · rw [vupd_ne _ _ _ _ e, tU_ne _ _ _ _ e]; exact h x hx e
theorem pl144 {Z : xS} {S : xS} (hS : xInv S) {l : Nat → Nat} {M : Nat} {t : Nat → Nat} {i k : Nat} (hk : k < xN (S.1 2 0)) : ∀ m w T, w + m = 5 → frM Z S T → (∀ x, x < xN (S.1 2 0) → x ≠ k → t x ≤ 5 ∧ T.1 85 x = (if t x = 5 then -1 else nI (t x))) → lsM T l M → (eW S t k m w = 5 ∧ ∃ T', frM Z S T' ∧ ∀ (d : Nat) (r : Option Value × xS), xX (d + 3) 144 111 [(0, .ref 54), (1, .int (nI M)), (2, .int (nI i)), (3, .int (nI k)), (4, .int (nI w))] [] T r ↔ r = (some (.int 0), T')) ∨ (eW S t k m w < 5 ∧ ∃ T', plM Z S T' (tU t k (eW S t k m w)) ∧ lsM T' l M ∧ ∀ (d : Nat) (r : Option Value × xS), xX (d + 3) 144 111 [(0, .ref 54), (1, .int (nI M)), (2, .int (nI i)), (3, .int (nI k)), (4, .int (nI w))] [] T r ↔ xX (d + 3) 144 93 [(0, .ref 54), (1, .int (nI M)), (2, .int (nI (i + 1)))] [] T' r) := by
  obtain ⟨hn, hn1, hn2⟩ := hS.cnt
  have d2 : vp_in (nI k) 10 := vp_in_nI (by omega) (by omega)
  have d3 : (nI k).toNatClampNeg = k := nI_clamp (by omega)
  intro m
  induction m with
  | zero =>
    intro w T hw hT hp hl
    have : w = 5 := by omega
    subst this
    have n5 : ¬ nI 5 < 5 := by decide
    have n5' : nI 5 = 5 := rfl
    refine Or.inl ⟨rfl, T, hT, fun d r => ?_⟩
    rw [b144_111, if_neg n5, b144_146, if_pos n5', b144_152]
    simp only [xbit_0, true_and]
  | succ m ih =>
    intro w T hw hT hp hl
    have hw5 : w < 5 := by omega
    have d1 : nI w < 5 := nI_lt (a := w) (b := 5) hw5 (by omega)
    have d4 : ¬ nI w = 5 := fun z => by
      have := congrArg xN z
      rw [xN_nI (by omega)] at this
      exact absurd this (by show ¬ w = 5; omega)
    have hT1 : frM Z S (xwI T 85 k (nI w)) := frM_wI hT _ _ _ (by decide)
    have hp1 := iPl_tU (S := S) hw5 hk hp
    have hl1 : lsM (xwI T 85 k (nI w)) l M := fun i hi => by rw [xrd_ne _ _ _ _ _ (by decide)]; exact hl i hi
    unfold eW
    rcases m140X hS hT1 hp1 with ⟨c, e⟩ | ⟨c, x, hx, e⟩
    · rw [if_pos c]
      refine Or.inr ⟨hw5, _, ⟨hT1, hp1⟩, hl1, fun d r => ?_⟩
      rw [b144_111, if_pos d1]
      simp (decide := true) only [b144_117, d2, d3, e, exists_eq_left, xtl, b144_133, b144_137, d4, b144_154, ↓reduceIte, true_and, nI_1]
    · rw [if_neg c]
      have st : ∀ (d : Nat) (r : Option Value × xS), xX (d + 3) 144 111 [(0, .ref 54), (1, .int (nI M)), (2, .int (nI i)), (3, .int (nI k)), (4, .int (nI w))] [] T r ↔ xX (d + 3) 144 111 [(0, .ref 54), (1, .int (nI M)), (2, .int (nI i)), (3, .int (nI k)), (4, .int (nI (w + 1)))] [] (xwI T 85 k (nI w)) r := fun d r => by
        refine (b144_111 _ _ _ _ _ _ _).trans ?_
        rw [if_pos d1]
        simp (decide := true) only [b144_117, d2, d3, e, exists_eq_left, xtl, b144_133, hx, b144_140, ↓reduceIte, true_and, nI_1]
      rcases ih (w + 1) _ (by omega) hT1 (fun x hx hxk => by rw [xrd_same, vupd_ne _ _ _ _ hxk]; exact hp x hx hxk) hl1 with ⟨i1, T', i2, i3⟩ | ⟨i1, T', i2, i3, i4⟩
      · exact Or.inl ⟨i1, T', i2, fun d r => (st d r).trans (i3 d r)⟩
      · exact Or.inr ⟨i1, T', i2, i3, fun d r => (st d r).trans (i4 d r)⟩
theorem pls144 {Z : xS} {S : xS} (hS : xInv S) {l : Nat → Nat} {M : Nat} (hM : M ≤ 10) (hl : ∀ i, i < M → l i < xN (S.1 2 0)) : ∀ m T t i, i + m = M → plM Z S T t → lsM T l M → (gF S (xN (S.1 0 10)) l m t i = none ∧ ∃ T', frM Z S T' ∧ ∀ (d : Nat) (r : Option Value × xS), xX (d + 3) 144 93 [(0, .ref 54), (1, .int (nI M)), (2, .int (nI i))] [] T r ↔ r = (some (.int 0), T')) ∨ ∃ T' t', gF S (xN (S.1 0 10)) l m t i = some t' ∧ plM Z S T' t' ∧ ∀ (d : Nat) (r : Option Value × xS), xX (d + 3) 144 93 [(0, .ref 54), (1, .int (nI M)), (2, .int (nI i))] [] T r ↔ r = (some (.int 1), T') := by
  obtain ⟨hw, hw1, hw2⟩ := hS.now
  obtain ⟨hn, hn1, hn2⟩ := hS.cnt
  intro m
  induction m with
  | zero =>
    intro T t i hi hT hL
    have : i = M := by omega
    subst this
    refine Or.inr ⟨T, t, rfl, hT, fun d r => ?_⟩
    rw [b144_93, if_neg (nI_nlt (Nat.le_refl _) (by omega)), b144_160]
    simp only [xbit_1, true_and]
  | succ m ih =>
    intro T t i hi hT hL
    have d1 : nI i < nI M := nI_lt (by omega) (by omega)
    have d2 : vp_in (nI i) 10 := vp_in_nI (by omega) (by omega)
    have d3 : (nI i).toNatClampNeg = i := nI_clamp (by omega)
    have f5 : T.1 54 5 = nI (xN (S.1 0 10)) := by rw [hT.1.1 54 (by decide) (by decide) (by decide)]; exact hw2
    have f87 := hL i (by omega)
    have st : ∀ (d : Nat) (r : Option Value × xS), xX (d + 3) 144 93 [(0, .ref 54), (1, .int (nI M)), (2, .int (nI i))] [] T r ↔ xX (d + 3) 144 111 [(0, .ref 54), (1, .int (nI M)), (2, .int (nI i)), (3, .int (nI (l i))), (4, .int (nI (xN (S.1 0 10))))] [] T r := fun d r => by
      rw [b144_93, if_pos d1]
      simp only [b144_98, d2, d3, f87, f5, true_and]
    unfold gF
    rcases pl144 hS (l := l) (M := M) (i := i) (hl i (by omega)) (5 - xN (S.1 0 10)) (xN (S.1 0 10)) T (by omega) hT.1 (fun x hx _ => hT.2 x hx) hL with ⟨i1, T', i2, i3⟩ | ⟨i1, T', i2, i3, i4⟩
    · rw [if_pos i1]
      exact Or.inl ⟨rfl, T', i2, fun d r => (st d r).trans (i3 d r)⟩
    · rw [if_neg (by omega)]
      rcases ih T' _ (i + 1) (by omega) i2 i3 with ⟨j1, T2, j2, j3⟩ | ⟨T2, t2, j1, j2, j3⟩
      · exact Or.inl ⟨j1, T2, j2, fun d r => (st d r).trans ((i4 d r).trans (j3 d r))⟩
      · exact Or.inr ⟨T2, t2, j1, j2, fun d r => (st d r).trans ((i4 d r).trans (j3 d r))⟩
/-- the plan by the rule, if there is one -/
noncomputable def gR (S : xS) : Option (Nat → Nat) := gF S (xN (S.1 0 10)) (lO S (xN (S.1 2 0))).1 (lO S (xN (S.1 2 0))).2 (t0 S) 0
theorem lO_Ord {S : xS} (hS : xInv S) : Ord S (lO S (xN (S.1 2 0))).1 (lO S (xN (S.1 2 0))).2 := (lO_s hS _ hS.cnt.1).2
theorem m144 {Z : xS} {S T : xS} (hS : xInv S) (h : frM Z S T) : (gR S = none ∧ ∃ T', frM Z S T' ∧ ∀ (d : Nat) (r : Option Value × xS), xX (d + 3) 144 0 [(0, .ref 54)] [] T r ↔ r = (some (.int 0), T')) ∨ ∃ T' t', gR S = some t' ∧ plM Z S T' t' ∧ ∀ (d : Nat) (r : Option Value × xS), xX (d + 3) 144 0 [(0, .ref 54)] [] T r ↔ r = (some (.int 1), T') := by
  obtain ⟨T1, p1, e1⟩ := m143 hS h
  obtain ⟨T2, p2, q2, e2⟩ := list144 hS p1
  have hO := lO_s hS _ hS.cnt.1
  have hn := hS.cnt.1
  have st : ∀ (d : Nat) (r : Option Value × xS), xX (d + 3) 144 0 [(0, .ref 54)] [] T r ↔ xX (d + 3) 144 93 [(0, .ref 54), (1, .int (nI (lO S (xN (S.1 2 0))).2)), (2, .int (nI 0))] [] T2 r := fun d r => by
    have e1' := e1 (d + 2)
    refine (b144_0 _ _ _).trans ?_
    simp only [e1', exists_eq_left, xtl0]
    exact e2 (d + 2) r
  rcases pls144 hS (l := (lO S (xN (S.1 2 0))).1) (M := (lO S (xN (S.1 2 0))).2) (by have := hO.1; omega) (fun i hi => (hO.2.1 i hi).1) _ T2 (t0 S) 0 (Nat.zero_add _) p2 q2 with ⟨i1, T', i2, i3⟩ | ⟨T', t', i1, i2, i3⟩
  · exact Or.inl ⟨i1, T', i2, fun d r => (st d r).trans (i3 d r)⟩
  · exact Or.inr ⟨T', t', i1, i2, fun d r => (st d r).trans (i3 d r)⟩
theorem t0_fr {S : xS} {k : Nat} (h : fr S k) : t0 S k = 5 := if_pos h.1
theorem m53R {S : xS} (hS : xInv S) {U : xS} (h : plX S U (t0 S)) : (gR S = none ∧ ∃ U', frX S U' ∧ ∀ (d : Nat) (r : Option Value × xS), xX (d + 4) 53 0 [(0, .ref 40), (1, .ref 2)] [] U r ↔ r = (some (.int 0), U')) ∨ ∃ U' t', plX S U' t' ∧ LG S t' ∧ gR S = some t' ∧ ∀ (d : Nat) (r : Option Value × xS), xX (d + 4) 53 0 [(0, .ref 40), (1, .ref 2)] [] U r ↔ r = (some (.int 1), U') := m53 hS (lO_Ord hS) h (t0_LG hS) (fun i hi => t0_fr ((lO_Ord hS).1 i hi).2)
/-- what every plan keeps that is made -/
def plK (S : xS) (t : Nat → Nat) : Prop := LG S t ∧ ∀ k, k < xN (S.1 2 0) → (fr S k → xN (S.1 0 10) ≤ t k ∧ t k < 5) ∧ (¬ fr S k → t k = t0 S k)
theorem gR_K {S : xS} (hS : xInv S) {t : Nat → Nat} (h : gR S = some t) : plK S t := by
  have hO := lO_Ord hS
  obtain ⟨h1, h2, h3⟩ := gF_some hS.now.1 hO _ (t0 S) 0 t (Nat.zero_add _) (t0_LG hS) h
  refine ⟨h1, fun k hk => ⟨fun hf => ?_, fun hf => h2 k (fun j _ hj z => hf (z ▸ (hO.1 j hj).2))⟩⟩
  obtain ⟨i, hi, he⟩ := hO.2.1 k hk hf
  rw [← he]
  exact h3 i (Nat.zero_le _) hi
