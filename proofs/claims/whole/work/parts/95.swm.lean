/-! plans: by swaps, the reference -/
def rpM (v2 v3 v4 v5 : Int32) (x : (Nat × Option (Nat × Nat × Nat))) : Prop := v2 = nI x.1 ∧ (x.2 = none → v3 = -1 ∧ v4 = -1) ∧ ∀ a b w, x.2 = some (a, b, w) → v3 = nI a ∧ (b = 100 → v4 = -1 ∧ v5 = nI w) ∧ (b ≠ 100 → v4 = nI b)
theorem rpM_1 (L k w : Nat) : rpM (nI L) (nI k) (-1) (nI w) (L, some (k, 100, w)) := by
  refine ⟨rfl, fun z => absurd z (by simp), fun a b w' z => ?_⟩
  have z' := Option.some.inj z
  obtain ⟨rfl, z2⟩ := Prod.mk.inj z'
  obtain ⟨rfl, rfl⟩ := Prod.mk.inj z2
  exact ⟨rfl, fun _ => ⟨rfl, rfl⟩, fun y => absurd rfl y⟩
theorem rpM_2 (L a b : Nat) (v5 : Int32) (hb : b ≠ 100) : rpM (nI L) (nI a) (nI b) v5 (L, some (a, b, 0)) := by
  refine ⟨rfl, fun z => absurd z (by simp), fun a b w' z => ?_⟩
  have z' := Option.some.inj z
  obtain ⟨rfl, z2⟩ := Prod.mk.inj z'
  obtain ⟨rfl, rfl⟩ := Prod.mk.inj z2
  exact ⟨rfl, fun y => absurd y hb, fun _ => rfl⟩
theorem plM_set {Z : xS} {S T : xS} {t : Nat → Nat} (h : plM Z S T t) (k : Nat) {z : Nat} (hz : z ≤ 5) {x : Int32} (hx : x = (if z = 5 then -1 else nI z)) : plM Z S (xwI T 85 k x) (tU t k z) := ⟨frM_wI h.1 _ _ _ (by decide), fun i hi => by
  rw [xrd_same]
  by_cases e : i = k
  · subst e; rw [vupd_eq, tU_eq]; exact ⟨hz, hx⟩
  · rw [vupd_ne _ _ _ _ e, tU_ne _ _ _ _ e]; exact h.2 i hi⟩
theorem plM_sw {Z : xS} {S T : xS} {t : Nat → Nat} (h : plM Z S T t) {a b : Nat} (ha : a < xN (S.1 2 0)) (hb : b < xN (S.1 2 0)) : plM Z S (xwI (xwI T 85 a (T.1 85 b)) 85 b (T.1 85 a)) (tU (tU t a (t b)) b (t a)) := plM_set (plM_set h a (h.2 b hb).1 (h.2 b hb).2) b (h.2 a ha).1 (h.2 a ha).2
theorem m145 {Z : xS} {S T : xS} (hS : xInv S) {t : Nat → Nat} (h : plM Z S T t) {a b : Nat} (ha : a < xN (S.1 2 0)) (hb : b < xN (S.1 2 0)) : ∃ T', plM Z S T' (tU (tU t a (t b)) b (t a)) ∧ ∀ (d : Nat) (r : Option Value × xS), xX d 145 0 [(0, .ref 54), (1, .int (nI a)), (2, .int (nI b))] [] T r ↔ r = (none, T') := by
  have hn := hS.cnt.1
  have a1 : (nI a).toNatClampNeg = a := nI_clamp (by omega)
  have a2 := vp_in_nI (show a < 10 by omega) (by omega : 10 < 2 ^ 31)
  have b1 : (nI b).toNatClampNeg = b := nI_clamp (by omega)
  have b2 := vp_in_nI (show b < 10 by omega) (by omega : 10 < 2 ^ 31)
  refine ⟨_, plM_sw h ha hb, fun d r => ?_⟩
  simp only [b145_0, a1, a2, b1, b2, true_and]
theorem in146 {Z : xS} {S : xS} (hS : xInv S) {t : Nat → Nat} (ht : ∀ k, k < xN (S.1 2 0) → t k ≤ 5) {k : Nat} (hk : k < xN (S.1 2 0)) (hf : fr S k) (v7 : Int32) : ∀ m w x T cur v2 v3 v5, w + m = 5 → xN (S.1 0 10) ≤ w → plM Z S T cur → (∀ z, tU cur k z = tU t k z) → rpM v2 v3 (-1) v5 x → vC S t x → ∃ T' cur' u2 u3 u5, plM Z S T' cur' ∧ (∀ z, tU cur' k z = tU t k z) ∧ rpM u2 u3 (-1) u5 (mvW S t k m w x) ∧ ∀ (d : Nat) (r : Option Value × xS), xX (d + 3) 146 67 [(0, .ref 54), (2, .int v2), (3, .int v3), (4, .int (-1)), (5, .int v5), (6, .int (nI k)), (7, .int v7), (8, .int (nI w))] [] T r ↔ xX (d + 3) 146 126 [(0, .ref 54), (2, .int u2), (3, .int u3), (4, .int (-1)), (5, .int u5), (6, .int (nI k)), (7, .int v7)] [] T' r := by
  have hn := hS.cnt.1
  have a1 : (nI k).toNatClampNeg = k := nI_clamp (by omega)
  have a2 := vp_in_nI (show k < 10 by omega) (by omega : 10 < 2 ^ 31)
  intro m
  induction m with
  | zero =>
    intro w x T cur v2 v3 v5 hw hn h hc hr hv
    have : w = 5 := by omega
    subst this
    have n5 : ¬ nI 5 < 5 := by decide
    refine ⟨T, cur, v2, v3, v5, h, hc, hr, fun d r => ?_⟩
    rw [b146_67, if_neg n5]
  | succ m ih =>
    intro w x T cur v2 v3 v5 hw hnw h hc hr hv
    have hw5 : w < 5 := by omega
    have d1 : nI w < 5 := nI_lt (a := w) (b := 5) hw5 (by omega)
    have p1 := plM_set h k (z := w) (by omega) (x := nI w) (by rw [if_neg (by omega)])
    rw [hc w] at p1
    have hb : x.1 ≤ 4500 := Nat.le_trans hv.1 (cN_le hS ht)
    have hva : vA S (k, 100, w) := Or.inl ⟨rfl, hk, hf, hnw, hw5⟩
    have hv' := cdS_v (a := (k, 100, w)) hv hva
    have ce := p1.cost hS
    have hcb := cN_le hS (t := tU t k w) (fun i hi => (p1.2 i hi).1)
    have cc : (nI (cN S (tU t k w)) < v2) ↔ cN S (tU t k w) < x.1 := by rw [hr.1]; exact nI_ltI (by omega) (by omega)
    have skip : ¬ (cN S (tU t k w) < x.1 ∧ LG S (tU t k w)) → (∀ (d : Nat) (r : Option Value × xS), xX (d + 3) 146 67 [(0, .ref 54), (2, .int v2), (3, .int v3), (4, .int (-1)), (5, .int v5), (6, .int (nI k)), (7, .int v7), (8, .int (nI w))] [] T r ↔ xX (d + 3) 146 67 [(0, .ref 54), (2, .int v2), (3, .int v3), (4, .int (-1)), (5, .int v5), (6, .int (nI k)), (7, .int v7), (8, .int (nI (w + 1)))] [] (xwI T 85 k (nI w)) r) → ∃ T' cur' u2 u3 u5, plM Z S T' cur' ∧ (∀ z, tU cur' k z = tU t k z) ∧ rpM u2 u3 (-1) u5 (mvW S t k (m + 1) w x) ∧ ∀ (d : Nat) (r : Option Value × xS), xX (d + 3) 146 67 [(0, .ref 54), (2, .int v2), (3, .int v3), (4, .int (-1)), (5, .int v5), (6, .int (nI k)), (7, .int v7), (8, .int (nI w))] [] T r ↔ xX (d + 3) 146 126 [(0, .ref 54), (2, .int u2), (3, .int u3), (4, .int (-1)), (5, .int u5), (6, .int (nI k)), (7, .int v7)] [] T' r := fun c1 st => by
      have ecd : cdS S t x (k, 100, w) = x := by
        unfold cdS; rw [ap_mv, if_neg c1]
      obtain ⟨T', cur', u2, u3, u5, i1, i2, i3, i4⟩ := ih (w + 1) x (xwI T 85 k (nI w)) (tU t k w) v2 v3 v5 (by omega) (by omega) p1 (fun z => tU_tU t k w z) hr hv
      refine ⟨T', cur', u2, u3, u5, i1, i2, ?_, fun d r => (st d r).trans (i4 d r)⟩
      show rpM _ _ _ _ (mvW S t k m (w + 1) (cdS S t x (k, 100, w)))
      rw [ecd]; exact i3
    by_cases c1 : cN S (tU t k w) < x.1
    · have c1' := cc.mpr c1
      rcases m140X hS p1.1 p1.2 with ⟨c2, e2⟩ | ⟨c2, y, hy, e2⟩
      · have ecd : cdS S t x (k, 100, w) = (cN S (tU t k w), some (k, 100, w)) := by
          unfold cdS; rw [ap_mv, if_pos ⟨c1, c2⟩]
        rw [ecd] at hv'
        obtain ⟨T', cur', u2, u3, u5, i1, i2, i3, i4⟩ := ih (w + 1) _ (xwI T 85 k (nI w)) (tU t k w) _ _ _ (by omega) (by omega) p1 (fun z => tU_tU t k w z) (rpM_1 (cN S (tU t k w)) k w) hv'
        refine ⟨T', cur', u2, u3, u5, i1, i2, ?_, fun d r => ?_⟩
        · show rpM _ _ _ _ (mvW S t k m (w + 1) (cdS S t x (k, 100, w)))
          rw [ecd]; exact i3
        · refine (b146_67 _ _ _ _ _ _ _ _ _ _).trans ?_
          rw [if_pos d1]
          refine Iff.trans ?_ (i4 d r)
          simp (decide := true) only [b146_73, a1, a2, ce, exists_eq_left, xtl, b146_90, c1', b146_98, e2, b146_106, b146_110, ↓reduceIte, true_and, nI_1]
      · refine skip (fun z => c2 z.2) (fun d r => ?_)
        refine (b146_67 _ _ _ _ _ _ _ _ _ _).trans ?_
        rw [if_pos d1]
        simp (decide := true) only [b146_73, a1, a2, ce, exists_eq_left, xtl, b146_90, c1', b146_98, e2, b146_106, hy, b146_120, ↓reduceIte, true_and, nI_1]
    · have c1' : ¬ nI (cN S (tU t k w)) < v2 := fun z => c1 (cc.mp z)
      refine skip (fun z => c1 z.1) (fun d r => ?_)
      refine (b146_67 _ _ _ _ _ _ _ _ _ _).trans ?_
      rw [if_pos d1]
      simp (decide := true) only [b146_73, a1, a2, ce, exists_eq_left, xtl, b146_90, c1', b146_120, ↓reduceIte, true_and, nI_1]
theorem frS_M {Z : xS} {S T : xS} (hS : xInv S) (h : frM Z S T) {k : Nat} (hk : k < 10) : fr S k ↔ (T.1 59 k = 0 ∧ T.1 58 k = 0) := by
  rw [h.1 59 (by decide) (by decide) (by decide), h.1 58 (by decide) (by decide) (by decide), hS.hMov.eq hk, hS.hSty.eq hk]
  exact Iff.rfl
theorem mv146 {Z : xS} {S T : xS} (hS : xInv S) {t : Nat → Nat} (h : plM Z S T t) {v5 : Int32} : ∃ T' v2 v3 v5', plM Z S T' t ∧ rpM v2 v3 (-1) v5' (mvK S t (xN (S.1 2 0))) ∧ ∀ (d : Nat) (r : Option Value × xS), xX (d + 3) 146 31 [(0, .ref 54), (2, .int (nI (cN S t))), (3, .int (-1)), (4, .int (-1)), (5, .int v5), (6, .int 0)] [] T r ↔ xX (d + 3) 146 144 [(0, .ref 54), (2, .int v2), (3, .int v3), (4, .int (-1)), (5, .int v5'), (6, .int 0)] [] T' r := by
  obtain ⟨hn, hn1, hn2⟩ := hS.cnt
  obtain ⟨hw, hw1, hw2⟩ := hS.now
  have ht : ∀ k, k < xN (S.1 2 0) → t k ≤ 5 := fun k hk => (h.2 k hk).1
  obtain ⟨l2, T2, ⟨v2, v3, v5', rfl, p2, r2⟩, e2⟩ := xX_loopD (e := 3) (f := 146) (pc := 31) (st := []) (fun j l T => ∃ v2 v3 v5, l = [(0, .ref 54), (2, .int v2), (3, .int v3), (4, .int (-1)), (5, .int v5), (6, .int (nI j))] ∧ plM Z S T t ∧ rpM v2 v3 (-1) v5 (mvK S t j)) (xN (S.1 2 0)) (by
    rintro j hj l T ⟨v2, v3, v5, rfl, hT, hrT⟩
    have a1 : (nI j).toNatClampNeg = j := nI_clamp (by omega)
    have a2 := vp_in_nI (show j < 10 by omega) (by omega : 10 < 2 ^ 31)
    have d1 : nI j < T.1 54 0 := by rw [hT.1.1 54 (by decide) (by decide) (by decide), hn2]; exact nI_lt hj (by omega)
    rcases m142 T (show j < 10 by omega) (frS_M hS hT.1 (show j < 10 by omega)) with ⟨c, e⟩ | ⟨c, e⟩
    · have em : mvK S t (j + 1) = mvW S t j (5 - xN (S.1 0 10)) (xN (S.1 0 10)) (mvK S t j) := if_pos c
      obtain ⟨T1, cur, u2, u3, u5, i1, i2, i3, i4⟩ := in146 hS ht hj c (T.1 85 j) (5 - xN (S.1 0 10)) (xN (S.1 0 10)) (mvK S t j) T t v2 v3 v5 (by omega) (Nat.le_refl _) hT (fun _ => rfl) hrT (mvK_v hS j (by omega))
      have p' := plM_set i1 j (hT.2 j hj).1 (hT.2 j hj).2
      rw [i2, tU_id] at p'
      have f5 : T.1 54 5 = nI (xN (S.1 0 10)) := by rw [hT.1.1 54 (by decide) (by decide) (by decide)]; exact hw2
      refine ⟨_, _, ⟨u2, u3, u5, rfl, p', by rw [em]; exact i3⟩, fun d r => ?_⟩
      refine (b146_31 _ _ _ _ _ _ _ _).trans ?_
      rw [if_pos d1]
      simp (decide := true) only [b146_40, e, exists_eq_left, xtl, b146_46, b146_52, a1, a2, f5, i4, ↓reduceIte, true_and, b146_126, nI_1]
    · have em : mvK S t (j + 1) = mvK S t j := if_neg c
      refine ⟨_, T, ⟨v2, v3, v5, rfl, hT, by rw [em]; exact hrT⟩, fun d r => ?_⟩
      refine (b146_31 _ _ _ _ _ _ _ _).trans ?_
      rw [if_pos d1]
      simp (decide := true) only [b146_40, e, exists_eq_left, xtl, b146_46, b146_49, ↓reduceIte, nI_1]) _ T ⟨_, _, v5, rfl, h, ⟨rfl, fun _ => ⟨rfl, rfl⟩, fun _ _ _ z => absurd z (by simp [mvK])⟩⟩
  refine ⟨T2, v2, v3, v5', p2, r2, fun d r => ?_⟩
  refine (e2 d r).trans ?_
  rw [b146_31, p2.1.1 54 (by decide) (by decide) (by decide), hn2, if_neg (nI_nlt (Nat.le_refl _) (by omega)), b146_141]
