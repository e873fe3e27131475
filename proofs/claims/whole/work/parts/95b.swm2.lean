/-! plans: by swaps, the reference's exchanges and rounds -/
theorem ex146 {Z : xS} {S T : xS} (hS : xInv S) {t : Nat → Nat} (h : plM Z S T t) {v2 v3 v4 v5 : Int32} (hr : rpM v2 v3 v4 v5 (mvK S t (xN (S.1 2 0)))) : ∃ T' u2 u3 u4 u5, plM Z S T' t ∧ rpM u2 u3 u4 u5 (exA S t (xN (S.1 2 0))) ∧ ∀ (d : Nat) (r : Option Value × xS), xX (d + 3) 146 144 [(0, .ref 54), (2, .int v2), (3, .int v3), (4, .int v4), (5, .int v5), (6, .int 0)] [] T r ↔ xX (d + 3) 146 255 [(0, .ref 54), (2, .int u2), (3, .int u3), (4, .int u4), (5, .int u5)] [] T' r := by
  obtain ⟨hn, hn1, hn2⟩ := hS.cnt
  have ht : ∀ k, k < xN (S.1 2 0) → t k ≤ 5 := fun k hk => (h.2 k hk).1
  have hcn := cN_le hS ht
  obtain ⟨l2, T2, ⟨u2, u3, u4, u5, rfl, p2, r2⟩, e2⟩ := xX_loopD (e := 3) (f := 146) (pc := 144) (st := []) (fun a l T => ∃ v2 v3 v4 v5, l = [(0, .ref 54), (2, .int v2), (3, .int v3), (4, .int v4), (5, .int v5), (6, .int (nI a))] ∧ plM Z S T t ∧ rpM v2 v3 v4 v5 (exA S t a)) (xN (S.1 2 0)) (by
    rintro a ha l T ⟨v2, v3, v4, v5, rfl, hT, hrT⟩
    have a1 : (nI a).toNatClampNeg = a := nI_clamp (by omega)
    have a2 := vp_in_nI (show a < 10 by omega) (by omega : 10 < 2 ^ 31)
    have d1 : nI a < T.1 54 0 := by rw [hT.1.1 54 (by decide) (by decide) (by decide), hn2]; exact nI_lt ha (by omega)
    obtain ⟨l3, T3, ⟨u2, u3, u4, u5, rfl, p3, r3⟩, e3⟩ := xX_loopD (e := 3) (f := 146) (pc := 159) (st := []) (fun j l T => ∃ v2 v3 v4 v5, l = [(0, .ref 54), (2, .int v2), (3, .int v3), (4, .int v4), (5, .int v5), (6, .int (nI a)), (7, .int (nI (a + 1 + j)))] ∧ plM Z S T t ∧ rpM v2 v3 v4 v5 (exB S t a (exA S t a) j)) (xN (S.1 2 0) - (a + 1)) (by
      rintro j hj l T ⟨v2, v3, v4, v5, rfl, hT, hrT⟩
      have hb : a + 1 + j < xN (S.1 2 0) := by omega
      have en : nI (a + 1 + j) + 1 = nI (a + 1 + (j + 1)) := by rw [nI_1]; rfl
      have d1 : nI (a + 1 + j) < T.1 54 0 := by rw [hT.1.1 54 (by decide) (by decide) (by decide), hn2]; exact nI_lt hb (by omega)
      have hv : vC S t (exB S t a (exA S t a) j) := exB_v (exA_v hS a (by omega)) j (by omega)
      rcases m142 T (show a < 10 by omega) (frS_M hS hT.1 (show a < 10 by omega)) with ⟨c, e⟩ | ⟨c, e⟩
      case inr =>
        have em : exB S t a (exA S t a) (j + 1) = exB S t a (exA S t a) j := if_neg (fun z => c z.1)
        refine ⟨_, T, ⟨v2, v3, v4, v5, rfl, hT, by rw [em]; exact hrT⟩, fun d r => ?_⟩
        refine (b146_159 _ _ _ _ _ _ _ _ _).trans ?_
        rw [if_pos d1]
        simp (decide := true) only [b146_168, e, exists_eq_left, xtl, b146_174, b146_243, ↓reduceIte, en]
      rcases m142 T (show a + 1 + j < 10 by omega) (frS_M hS hT.1 (show a + 1 + j < 10 by omega)) with ⟨c', e'⟩ | ⟨c', e'⟩
      case inr =>
        have em : exB S t a (exA S t a) (j + 1) = exB S t a (exA S t a) j := if_neg (fun z => c' z.2)
        refine ⟨_, T, ⟨v2, v3, v4, v5, rfl, hT, by rw [em]; exact hrT⟩, fun d r => ?_⟩
        refine (b146_159 _ _ _ _ _ _ _ _ _).trans ?_
        rw [if_pos d1]
        simp (decide := true) only [b146_168, e, e', exists_eq_left, xtl, b146_174, b146_177, b146_183, b146_186, ↓reduceIte, en]
      have em : exB S t a (exA S t a) (j + 1) = cdS S t (exB S t a (exA S t a) j) (a, a + 1 + j, 0) := if_pos ⟨c, c'⟩
      have hab : a ≠ a + 1 + j := by omega
      obtain ⟨T1, p1, e1⟩ := m145 hS hT ha hb
      have ce := p1.cost hS
      have hcb := cN_le hS (t := tU (tU t a (t (a + 1 + j))) (a + 1 + j) (t a)) (fun i hi => (p1.2 i hi).1)
      have hx : (exB S t a (exA S t a) j).1 ≤ 4500 := Nat.le_trans hv.1 hcn
      have cc : (nI (cN S (tU (tU t a (t (a + 1 + j))) (a + 1 + j) (t a))) < v2) ↔ cN S (tU (tU t a (t (a + 1 + j))) (a + 1 + j) (t a)) < (exB S t a (exA S t a) j).1 := by rw [hrT.1]; exact nI_ltI (by omega) (by omega)
      obtain ⟨T2, p2, e4⟩ := m145 hS p1 ha hb
      rw [sw_sw t hab] at p2
      by_cases c1 : cN S (tU (tU t a (t (a + 1 + j))) (a + 1 + j) (t a)) < (exB S t a (exA S t a) j).1
      · have c1' := cc.mpr c1
        rcases m140X hS p1.1 p1.2 with ⟨c2, e5⟩ | ⟨c2, y, hy, e5⟩
        · have ecd : cdS S t (exB S t a (exA S t a) j) (a, a + 1 + j, 0) = (cN S (ap t (a, a + 1 + j, 0)), some (a, a + 1 + j, 0)) := by
            rw [← ap_ex t (by omega)] at c1 c2
            exact if_pos ⟨c1, c2⟩
          refine ⟨_, T2, ⟨nI (cN S (tU (tU t a (t (a + 1 + j))) (a + 1 + j) (t a))), nI a, nI (a + 1 + j), v5, rfl, p2, ?_⟩, fun d r => ?_⟩
          · rw [em, ecd, ap_ex t (by omega)]
            exact rpM_2 _ a (a + 1 + j) v5 (by omega)
          · refine (b146_159 _ _ _ _ _ _ _ _ _).trans ?_
            rw [if_pos d1]
            simp (decide := true) only [b146_168, e, e', exists_eq_left, xtl, xtl0, b146_174, b146_177, b146_183, b146_189, e1, b146_197, ce, b146_205, c1', b146_213, e5, b146_221, b146_225, e4, b146_243, ↓reduceIte, en]
        · have ecd : cdS S t (exB S t a (exA S t a) j) (a, a + 1 + j, 0) = exB S t a (exA S t a) j := by
            rw [← ap_ex t (by omega)] at c2
            exact if_neg (fun z => c2 z.2)
          refine ⟨_, T2, ⟨v2, v3, v4, v5, rfl, p2, by rw [em, ecd]; exact hrT⟩, fun d r => ?_⟩
          refine (b146_159 _ _ _ _ _ _ _ _ _).trans ?_
          rw [if_pos d1]
          simp (decide := true) only [b146_168, e, e', exists_eq_left, xtl, xtl0, b146_174, b146_177, b146_183, b146_189, e1, b146_197, ce, b146_205, c1', b146_213, e5, b146_221, hy, b146_235, e4, b146_243, ↓reduceIte, en]
      · have c1' : ¬ nI (cN S (tU (tU t a (t (a + 1 + j))) (a + 1 + j) (t a))) < v2 := fun z => c1 (cc.mp z)
        have ecd : cdS S t (exB S t a (exA S t a) j) (a, a + 1 + j, 0) = exB S t a (exA S t a) j := by
          rw [← ap_ex t (by omega)] at c1
          exact if_neg (fun z => c1 z.1)
        refine ⟨_, T2, ⟨v2, v3, v4, v5, rfl, p2, by rw [em, ecd]; exact hrT⟩, fun d r => ?_⟩
        refine (b146_159 _ _ _ _ _ _ _ _ _).trans ?_
        rw [if_pos d1]
        simp (decide := true) only [b146_168, e, e', exists_eq_left, xtl, xtl0, b146_174, b146_177, b146_183, b146_189, e1, b146_197, ce, b146_205, c1', b146_235, e4, b146_243, ↓reduceIte, en]) _ T ⟨_, _, _, _, rfl, hT, hrT⟩
    refine ⟨_, T3, ⟨u2, u3, u4, u5, rfl, p3, r3⟩, fun d r => ?_⟩
    refine (b146_144 _ _ _ _ _ _ _ _).trans ?_
    rw [if_pos d1, b146_153, nI_1]
    refine (e3 d r).trans ?_
    have z : ¬ nI (a + 1 + (xN (S.1 2 0) - (a + 1))) < T3.1 54 0 := by rw [p3.1.1 54 (by decide) (by decide) (by decide), hn2]; exact nI_nlt (by omega) (by omega)
    rw [b146_159, if_neg z, b146_249, nI_1]) _ T ⟨_, _, _, _, rfl, h, hr⟩
  refine ⟨T2, u2, u3, u4, u5, p2, r2, fun d r => ?_⟩
  rw [← nI_0]
  refine (e2 d r).trans ?_
  rw [b146_144, p2.1.1 54 (by decide) (by decide) (by decide), hn2, if_neg (nI_nlt (Nat.le_refl _) (by omega))]
theorem r146 {Z : xS} {S : xS} (hS : xInv S) : ∀ m T t, cN S t < m → plM Z S T t → plK S t → ∃ T', plM Z S T' (gS S m t) ∧ ∀ (d : Nat) (r : Option Value × xS), xX (d + 3) 146 18 [(0, .ref 54), (1, .int (nI (cN S t)))] [] T r ↔ r = (some (.int 1), T') := by
  intro m
  induction m with
  | zero => intro T t h; exact absurd h (Nat.not_lt_zero _)
  | succ m ih =>
    intro T t hm h hK
    have hn := hS.cnt.1
    obtain ⟨T1, v2, v3, v5, p1, r1, e1⟩ := mv146 hS h (v5 := -1)
    obtain ⟨T2, u2, u3, u4, u5, p2, r2, e2⟩ := ex146 hS p1 r1
    have hv := exA_v hS (t := t) (xN (S.1 2 0)) (Nat.le_refl _)
    have st : ∀ (d : Nat) (r : Option Value × xS), xX (d + 3) 146 18 [(0, .ref 54), (1, .int (nI (cN S t)))] [] T r ↔ xX (d + 3) 146 255 [(0, .ref 54), (2, .int u2), (3, .int u3), (4, .int u4), (5, .int u5)] [] T2 r := fun d r => by
      rw [b146_18]
      exact (e1 d r).trans (e2 d r)
    unfold gS
    cases ex : (exA S t (xN (S.1 2 0))).2 with
    | none =>
      have c1 := (r2.2.1 ex).1
      refine ⟨T2, p2, fun d r => (st d r).trans ?_⟩
      rw [b146_255, if_pos c1, b146_260]
      simp only [xbit_1, true_and]
    | some x =>
      obtain ⟨a, b, w⟩ := x
      obtain ⟨c1, c2, c3⟩ := r2.2.2 a b w ex
      obtain ⟨v1, v2, v3, v4⟩ := hv.2 _ ex
      have hK' := ap_K hS hK v1 v2
      have c0 := r2.1
      show ∃ T', plM Z S T' (gS S m (ap t (a, b, w))) ∧ _
      rcases v1 with ⟨y1, y2, y3, y4, y5⟩ | ⟨y1, y2, y3, y4⟩
      · have hb : b = 100 := y1
        have ha : a < xN (S.1 2 0) := y2
        have hw5 : w < 5 := y5
        obtain ⟨z1, z2⟩ := c2 hb
        have p3 := plM_set p2 a (z := w) (by omega) (x := nI w) (by rw [if_neg (by omega)])
        have ea : ap t (a, b, w) = tU t a w := if_pos hb
        rw [ea] at v3 hK' ⊢
        obtain ⟨T', i1, i2⟩ := ih _ (tU t a w) (by omega) p3 hK'
        refine ⟨T', i1, fun d r => (st d r).trans (Iff.trans ?_ (i2 d r))⟩
        have a1 : (nI a).toNatClampNeg = a := nI_clamp (by omega)
        have a2 := vp_in_nI (show a < 10 by omega) (by omega : 10 < 2 ^ 31)
        have n1 : ¬ nI a = -1 := nI_nem1 (by omega)
        have c0' := c0.trans (congrArg nI v3)
        rw [c1, z1, z2, c0']
        simp (decide := true) only [b146_255, n1, b146_262, b146_278, a1, a2, ↓reduceIte, true_and]
      · have hb : b < xN (S.1 2 0) := y2
        have hab : a < b := y1
        have z1 := c3 (by omega)
        obtain ⟨T3, p3, e3⟩ := m145 hS p2 (a := a) (b := b) (by omega) hb
        have ea : ap t (a, b, w) = tU (tU t a (t b)) b (t a) := if_neg (by show ¬ b = 100; omega)
        rw [ea] at v3 hK' ⊢
        obtain ⟨T', i1, i2⟩ := ih T3 _ (by omega) p3 hK'
        refine ⟨T', i1, fun d r => (st d r).trans (Iff.trans ?_ (i2 d r))⟩
        have n1 : ¬ nI a = -1 := nI_nem1 (by omega)
        have n2 : ¬ nI b = -1 := nI_nem1 (by omega)
        have c0' := c0.trans (congrArg nI v3)
        rw [c1, z1, c0']
        simp (decide := true) only [b146_255, n1, b146_262, n2, b146_268, e3, exists_eq_left, xtl0, b146_275, ↓reduceIte]
/-- the plan by swaps -/
noncomputable def gW (S : xS) : Option (Nat → Nat) := (gR S).map (gS S 4501)
theorem gW_K {S : xS} (hS : xInv S) {t : Nat → Nat} (h : gW S = some t) : plK S t := by
  unfold gW at h
  cases e : gR S with
  | none => rw [e] at h; exact absurd h (by simp)
  | some t1 =>
    rw [e] at h
    have h' : gS S 4501 t1 = t := Option.some.inj h
    rw [← h']
    exact gS_K hS _ _ (gR_K hS e)
theorem plK.le {S : xS} (hS : xInv S) {t : Nat → Nat} (h : plK S t) {k : Nat} (hk : k < xN (S.1 2 0)) : t k ≤ 5 := by
  have hn := hS.cnt.1
  by_cases c : fr S k
  · have := ((h.2 k hk).1 c).2; omega
  · rw [(h.2 k hk).2 c]; exact t0_le hS (by omega)
theorem m146 {Z : xS} {S T : xS} (hS : xInv S) (h : frM Z S T) : (gW S = none ∧ ∃ T', frM Z S T' ∧ ∀ (d : Nat) (r : Option Value × xS), xX (d + 4) 146 0 [(0, .ref 54)] [] T r ↔ r = (some (.int 0), T')) ∨ ∃ T' t', gW S = some t' ∧ plM Z S T' t' ∧ ∀ (d : Nat) (r : Option Value × xS), xX (d + 4) 146 0 [(0, .ref 54)] [] T r ↔ r = (some (.int 1), T') := by
  rcases m144 hS h with ⟨g, T1, f1, e1⟩ | ⟨T1, t1, g, p1, e1⟩
  · refine Or.inl ⟨by unfold gW; rw [g]; rfl, T1, f1, fun d r => ?_⟩
    simp (decide := true) only [b146_0, e1, exists_eq_left, xtl, b146_4, b146_7, ↓reduceIte, xbit_0, true_and]
  · have hK := gR_K hS g
    have hc := cN_le hS (t := t1) (fun k hk => hK.le hS hk)
    obtain ⟨T2, p2, e2⟩ := r146 hS 4501 T1 t1 (by omega) p1 hK
    have ce := p1.cost hS
    refine Or.inr ⟨T2, _, by unfold gW; rw [g]; rfl, p2, fun d r => ?_⟩
    have e2' := e2 (d + 1)
    simp (decide := true) only [b146_0, e1, exists_eq_left, xtl, b146_4, b146_9, ce, b146_17, e2', ↓reduceIte]
