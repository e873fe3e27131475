/-! plans: the best, the reference -/
theorem m149 {Z : xS} {S T : xS} (hS : xInv S) {t : Nat → Nat} (h : plM Z S T t) (hl : lstM S T) {k : Nat} (hk : k ≤ xN (S.1 2 0)) {md c0 s0 : Nat} (hmd : md = 0 ∨ md = 1) (hc : c0 ≤ 10) (hs : s0 ≤ 4500) (h0 : md = 0 → c0 = 0) : (qN S (10000 * md) k t < 10000 * md * c0 + s0 ∧ ∀ (d : Nat) (r : Option Value × xS), xX (d + 2) 149 0 [(0, .ref 54), (1, .int (nI (cnF S k))), (2, .int (nI md)), (3, .int (nI c0)), (4, .int (nI s0))] [] T r ↔ r = (some (.int 1), T)) ∨ (¬ qN S (10000 * md) k t < 10000 * md * c0 + s0 ∧ ∀ (d : Nat) (r : Option Value × xS), xX (d + 2) 149 0 [(0, .ref 54), (1, .int (nI (cnF S k))), (2, .int (nI md)), (3, .int (nI c0)), (4, .int (nI s0))] [] T r ↔ r = (some (.int 0), T)) := by
  obtain ⟨hn, hn1, hn2⟩ := hS.cnt
  have e1 := m147 hS h hl hk md hmd
  have e2 := sum149 hS h hl hk (nI s0)
  have ha := aA_le hS (fun i hi => (h.2 i hi).1) k
  have ho := oN_le (S := S) (t := t) k
  have hq : qN S (10000 * md) k t = 10000 * md * oN S t k + aA S k t (xN (S.1 2 0)) := rfl
  generalize aA S k t (xN (S.1 2 0)) = A at *
  generalize oN S t k = O at *
  have cA : (nI A < nI s0) ↔ A < s0 := nI_ltI (by omega) (by omega)
  have z0 : nI 0 = 0 := rfl
  rcases hmd with e | e <;> subst e
  · have hc0 := h0 rfl
    subst hc0
    rw [Nat.mul_zero, Nat.zero_mul, Nat.zero_add] at hq
    rw [hq, Nat.mul_zero, Nat.zero_add]
    rw [Nat.zero_mul, z0] at e1
    have n0 : ¬ (0 : Int32) < 0 := by decide
    by_cases c : A < s0
    · have c' := cA.mpr c
      refine Or.inl ⟨c, fun d r => ?_⟩
      have e1' := e1 (d + 1)
      have e2' := e2 d
      simp (decide := true) only [z0, b149_0, e1', exists_eq_left, xtl, b149_6, n0, b149_16, b149_28, e2', b149_178, c', b149_185, ↓reduceIte, xbit_1, true_and]
    · have c' : ¬ nI A < nI s0 := fun z => c (cA.mp z)
      refine Or.inr ⟨c, fun d r => ?_⟩
      have e1' := e1 (d + 1)
      have e2' := e2 d
      simp (decide := true) only [z0, b149_0, e1', exists_eq_left, xtl, b149_6, n0, b149_16, b149_28, e2', b149_178, c', b149_189, ↓reduceIte, xbit_0, true_and]
  · rw [Nat.mul_one] at hq
    rw [hq, Nat.mul_one]
    rw [Nat.one_mul] at e1
    have n1 : ¬ nI 1 = 0 := by decide
    have k1 : (nI c0 < nI O) ↔ c0 < O := nI_ltI (by omega) (by omega)
    have k2 : (nI O < nI c0) ↔ O < c0 := nI_ltI (by omega) (by omega)
    by_cases c1 : c0 < O
    · have c1' := k1.mpr c1
      refine Or.inr ⟨by omega, fun d r => ?_⟩
      have e1' := e1 (d + 1)
      simp (decide := true) only [b149_0, e1', exists_eq_left, xtl, b149_6, c1', b149_14, ↓reduceIte, xbit_0, true_and]
    have c1' : ¬ nI c0 < nI O := fun z => c1 (k1.mp z)
    by_cases c2 : O < c0
    · have c2' := k2.mpr c2
      refine Or.inl ⟨by omega, fun d r => ?_⟩
      have e1' := e1 (d + 1)
      simp (decide := true) only [b149_0, e1', exists_eq_left, xtl, b149_6, c1', b149_16, n1, b149_20, c2', b149_26, ↓reduceIte, xbit_1, true_and]
    have c2' : ¬ nI O < nI c0 := fun z => c2 (k2.mp z)
    by_cases c : A < s0
    · have c' := cA.mpr c
      refine Or.inl ⟨by omega, fun d r => ?_⟩
      have e1' := e1 (d + 1)
      have e2' := e2 d
      simp (decide := true) only [b149_0, e1', exists_eq_left, xtl, b149_6, c1', b149_16, n1, b149_20, c2', b149_28, e2', b149_178, c', b149_185, ↓reduceIte, xbit_1, true_and]
    · have c' : ¬ nI A < nI s0 := fun z => c (cA.mp z)
      refine Or.inr ⟨by omega, fun d r => ?_⟩
      have e1' := e1 (d + 1)
      have e2' := e2 d
      simp (decide := true) only [b149_0, e1', exists_eq_left, xtl, b149_6, c1', b149_16, n1, b149_20, c2', b149_28, e2', b149_178, c', b149_189, ↓reduceIte, xbit_0, true_and]
def bM (S T : xS) (md : Nat) (v3 v4 v5 : Int32) (b : Option (Nat × (Nat → Nat))) : Prop := (b = none → v3 = 0) ∧ ∀ x, b = some x → v3 = 1 ∧ ∃ c s, v4 = nI c ∧ v5 = nI s ∧ x.1 = 10000 * md * c + s ∧ c ≤ 10 ∧ s ≤ 4500 ∧ (md = 0 → c = 0) ∧ iPl (xN (S.1 2 0)) (T.1 86) x.2
theorem bM_fr {S T T' : xS} {md : Nat} {v3 v4 v5 : Int32} {b : Option (Nat × (Nat → Nat))} (h1 : T'.1 86 = T.1 86) (h : bM S T md v3 v4 v5 b) : bM S T' md v3 v4 v5 b := by
  unfold bM at *
  rw [h1]; exact h
theorem lstM_wI {S T : xS} (h : lstM S T) (c k : Nat) (v : Int32) (hc : c ≠ 87) : lstM S (xwI T c k v) := fun j hj hf => by rw [xrd_ne _ _ _ _ _ (Ne.symm hc)]; exact h j hj hf
theorem list150 {Z : xS} {S T : xS} (hS : xInv S) {t : Nat → Nat} (h : plM Z S T t) (v1 : Int32) : ∃ T', plM Z S T' t ∧ lstM S T' ∧ ∀ (d : Nat) (r : Option Value × xS), xX (d + 1) 150 4 [(0, .ref 54), (1, .int v1)] [] T r ↔ xX (d + 1) 150 51 [(0, .ref 54), (1, .int v1), (2, .int (nI (cnF S (xN (S.1 2 0))))), (3, .int 0), (4, .int 0), (5, .int 0), (6, .int 0)] [] T' r := by
  obtain ⟨hn, hn1, hn2⟩ := hS.cnt
  obtain ⟨l2, T2, ⟨rfl, p2, q2⟩, e2⟩ := xX_loopD (e := 1) (f := 150) (pc := 8) (st := []) (fun j l T => l = [(0, .ref 54), (1, .int v1), (2, .int (nI (cnF S j))), (3, .int (nI j))] ∧ plM Z S T t ∧ ∀ i, i < j → fr S i → T.1 87 (cnF S i) = nI i) (xN (S.1 2 0)) (by
    rintro j hj l T ⟨rfl, hT, hL⟩
    have hj10 : j < 10 := by omega
    have d1 : nI j < T.1 54 0 := by rw [hT.1.1 54 (by decide) (by decide) (by decide), hn2]; exact nI_lt hj (by omega)
    have cj := cnF_le (S := S) j
    rcases m142 T hj10 (frS_M hS hT.1 hj10) with ⟨c, e⟩ | ⟨c, e⟩
    · have a1 : (nI (cnF S j)).toNatClampNeg = cnF S j := nI_clamp (by omega)
      have a2 := vp_in_nI (show cnF S j < 10 by omega) (by omega : 10 < 2 ^ 31)
      refine ⟨_, xwI T 87 (cnF S j) (nI j), ⟨rfl, ⟨frM_wI hT.1 _ _ _ (by decide), by rw [xrd_ne _ _ _ _ _ (by decide)]; exact hT.2⟩, fun i hi hf => ?_⟩, fun d r => ?_⟩
      · rw [xrd_same]
        by_cases x : i = j
        · subst x; rw [vupd_eq]
        · have := cnF_lt hf (show i < j by omega)
          rw [vupd_ne _ _ _ _ (by omega)]; exact hL i (by omega) hf
      · refine (b150_8 _ _ _ _ _ _).trans ?_
        rw [if_pos d1]
        simp (decide := true) only [b150_16, e, exists_eq_left, xtl, b150_21, b150_24, a1, a2, cnF_f c, ↓reduceIte, nI_1, true_and]
    · refine ⟨_, T, ⟨rfl, hT, fun i hi hf => ?_⟩, fun d r => ?_⟩
      · by_cases x : i = j
        · subst x; exact absurd hf c
        · exact hL i (by omega) hf
      · refine (b150_8 _ _ _ _ _ _).trans ?_
        rw [if_pos d1]
        simp (decide := true) only [b150_16, e, exists_eq_left, xtl, b150_21, b150_34, cnF_n c, ↓reduceIte, nI_1]) _ T ⟨rfl, h, fun i hi => absurd hi (Nat.not_lt_zero _)⟩
  refine ⟨T2, p2, q2, fun d r => ?_⟩
  rw [b150_4]
  refine (e2 d r).trans ?_
  rw [b150_8, p2.1.1 54 (by decide) (by decide) (by decide), hn2, if_neg (nI_nlt (Nat.le_refl _) (by omega)), b150_40]
theorem cp86 {Z : xS} {S T : xS} (hS : xInv S) {t : Nat → Nat} (h : plM Z S T t) (hl : lstM S T) (v1 v2 v3 v4 v5 v6 : Int32) : ∃ T', plM Z S T' t ∧ lstM S T' ∧ iPl (xN (S.1 2 0)) (T'.1 86) t ∧ ∀ (d : Nat) (r : Option Value × xS), xX d 150 130 [(0, .ref 54), (1, .int v1), (2, .int v2), (3, .int v3), (4, .int v4), (5, .int v5), (6, .int v6), (9, .int 0)] [] T r ↔ xX d 150 51 [(0, .ref 54), (1, .int v1), (2, .int v2), (3, .int v3), (4, .int v4), (5, .int v5), (6, .int (v6 + (-1)))] [] T' r := by
  obtain ⟨hn, hn1, hn2⟩ := hS.cnt
  obtain ⟨l2, T2, ⟨rfl, p2, q2, i2⟩, e2⟩ := xX_loopD (e := 0) (f := 150) (pc := 130) (st := []) (fun j l T => l = [(0, .ref 54), (1, .int v1), (2, .int v2), (3, .int v3), (4, .int v4), (5, .int v5), (6, .int v6), (9, .int (nI j))] ∧ plM Z S T t ∧ lstM S T ∧ iPl j (T.1 86) t) (xN (S.1 2 0)) (by
    rintro j hj l T ⟨rfl, hT, hL, hi⟩
    have hj10 : j < 10 := by omega
    have d1 : nI j < T.1 54 0 := by rw [hT.1.1 54 (by decide) (by decide) (by decide), hn2]; exact nI_lt hj (by omega)
    have a1 : (nI j).toNatClampNeg = j := nI_clamp (by omega)
    have a2 := vp_in_nI hj10 (by omega : 10 < 2 ^ 31)
    refine ⟨_, xwI T 86 j (T.1 85 j), ⟨rfl, ⟨frM_wI hT.1 _ _ _ (by decide), by rw [xrd_ne _ _ _ _ _ (by decide)]; exact hT.2⟩, lstM_wI hL _ _ _ (by decide), fun i hi' => ?_⟩, fun d r => ?_⟩
    · rw [xrd_same]
      by_cases x : i = j
      · subst x; rw [vupd_eq]; exact hT.2 i hj
      · rw [vupd_ne _ _ _ _ x]; exact hi i (by omega)
    · refine (b150_130 _ _ _ _ _ _ _ _ _ _).trans ?_
      rw [if_pos d1]
      simp only [b150_139, a1, a2, true_and, nI_1]) _ T ⟨rfl, h, hl, fun i hi => absurd hi (Nat.not_lt_zero _)⟩
  refine ⟨T2, p2, q2, i2, fun d r => ?_⟩
  rw [← nI_0]
  refine (e2 d r).trans ?_
  rw [b150_130, p2.1.1 54 (by decide) (by decide) (by decide), hn2, if_neg (nI_nlt (Nat.le_refl _) (by omega)), b150_159]
  exact Iff.rfl
theorem cp85 {Z : xS} {S T : xS} (hS : xInv S) (h : frM Z S T) {t : Nat → Nat} (hi : iPl (xN (S.1 2 0)) (T.1 86) t) : ∃ T', plM Z S T' t ∧ ∀ (d : Nat) (r : Option Value × xS), xX d 150 296 [(0, .ref 54), (3, .int 1)] [] T r ↔ r = (some (.int 1), T') := by
  obtain ⟨hn, hn1, hn2⟩ := hS.cnt
  obtain ⟨l2, T2, ⟨rfl, p2, q2, i2⟩, e2⟩ := xX_loopD (e := 0) (f := 150) (pc := 303) (st := []) (fun j l T => l = [(0, .ref 54), (3, .int 1), (7, .int (nI j))] ∧ frM Z S T ∧ iPl (xN (S.1 2 0)) (T.1 86) t ∧ iPl j (T.1 85) t) (xN (S.1 2 0)) (by
    rintro j hj l T ⟨rfl, hT, hL, hi⟩
    have hj10 : j < 10 := by omega
    have d1 : nI j < T.1 54 0 := by rw [hT.1 54 (by decide) (by decide) (by decide), hn2]; exact nI_lt hj (by omega)
    have a1 : (nI j).toNatClampNeg = j := nI_clamp (by omega)
    have a2 := vp_in_nI hj10 (by omega : 10 < 2 ^ 31)
    refine ⟨_, xwI T 85 j (T.1 86 j), ⟨rfl, frM_wI hT _ _ _ (by decide), by rw [xrd_ne _ _ _ _ _ (by decide)]; exact hL, fun i hi' => ?_⟩, fun d r => ?_⟩
    · rw [xrd_same]
      by_cases x : i = j
      · subst x; rw [vupd_eq]; exact hL i hj
      · rw [vupd_ne _ _ _ _ x]; exact hi i (by omega)
    · refine (b150_303 _ _ _ _ _).trans ?_
      rw [if_pos d1]
      simp only [b150_312, a1, a2, true_and, nI_1]) _ T ⟨rfl, h, hi, fun i hi => absurd hi (Nat.not_lt_zero _)⟩
  refine ⟨T2, ⟨p2, i2⟩, fun d r => ?_⟩
  have n1 : ¬ (1 : Int32) = 0 := by decide
  rw [b150_296, if_neg n1, b150_300, ← nI_0]
  refine (e2 d r).trans ?_
  rw [b150_303, p2.1 54 (by decide) (by decide) (by decide), hn2, if_neg (nI_nlt (Nat.le_refl _) (by omega)), b150_332]
  simp only [xbit_1, true_and]
theorem leaf150 {Z : xS} {S T : xS} (hS : xInv S) {t : Nat → Nat} {md : Nat} (hmd : md = 0 ∨ md = 1) (h : plM Z S T t) (hl : lstM S T) (hL : LG S t) {b : Option (Nat × (Nat → Nat))} {v3 v4 v5 : Int32} (hB : bM S T md v3 v4 v5 b) (hb : bsT b (qN S (10000 * md) (xN (S.1 2 0)) t)) : ∃ T' u3 u4 u5, plM Z S T' t ∧ lstM S T' ∧ bM S T' md u3 u4 u5 (some (qN S (10000 * md) (xN (S.1 2 0)) t, t)) ∧ ∀ (d : Nat) (r : Option Value × xS), xX (d + 3) 150 51 [(0, .ref 54), (1, .int (nI md)), (2, .int (nI (cnF S (xN (S.1 2 0))))), (3, .int v3), (4, .int v4), (5, .int v5), (6, .int (nI (cnF S (xN (S.1 2 0)))))] [] T r ↔ xX (d + 3) 150 51 [(0, .ref 54), (1, .int (nI md)), (2, .int (nI (cnF S (xN (S.1 2 0))))), (3, .int u3), (4, .int u4), (5, .int u5), (6, .int (nI (cnF S (xN (S.1 2 0))) + (-1)))] [] T' r := by
  obtain ⟨hn, hn1, hn2⟩ := hS.cnt
  have e1 := m147 hS h hl (Nat.le_refl (xN (S.1 2 0))) md hmd
  have e2 := h.cost hS
  have ht : ∀ k, k < xN (S.1 2 0) → t k ≤ 5 := fun k hk => (h.2 k hk).1
  have hc := cN_le hS ht
  have ho := oN_le (S := S) (t := t) (xN (S.1 2 0))
  have hq : qN S (10000 * md) (xN (S.1 2 0)) t = 10000 * md * oN S t (xN (S.1 2 0)) + cN S t := by unfold qN; rw [aA_end]
  have cn : ¬ nI (cnF S (xN (S.1 2 0))) < 0 := nI_pos (by have := cnF_le (S := S) (xN (S.1 2 0)); omega)
  obtain ⟨T', p', l', i', e'⟩ := cp86 hS h hl (nI md) (nI (cnF S (xN (S.1 2 0)))) 1 (nI (md * oN S t (xN (S.1 2 0)))) (nI (cN S t)) (nI (cnF S (xN (S.1 2 0))))
  rcases m140X hS h.1 h.2 with ⟨-, e3⟩ | ⟨c, -⟩
  case inr => exact absurd hL c
  refine ⟨T', 1, nI (md * oN S t (xN (S.1 2 0))), nI (cN S t), p', l', ⟨fun z => absurd z (by simp), fun x hx => ?_⟩, fun d r => ?_⟩
  · have := Option.some.inj hx
    subst this
    refine ⟨rfl, _, _, rfl, rfl, ?_, ?_, hc, fun z => by rw [z, Nat.zero_mul], i'⟩
    · show qN S (10000 * md) (xN (S.1 2 0)) t = _
      rw [hq]
      rcases hmd with z | z <;> subst z
      · rw [Nat.mul_zero, Nat.zero_mul, Nat.zero_mul]
      · rw [Nat.mul_one, Nat.one_mul]
    · rcases hmd with z | z <;> subst z <;> omega
  have st : xX (d + 3) 150 51 [(0, .ref 54), (1, .int (nI md)), (2, .int (nI (cnF S (xN (S.1 2 0))))), (3, .int v3), (4, .int v4), (5, .int v5), (6, .int (nI (cnF S (xN (S.1 2 0)))))] [] T r ↔ xX (d + 3) 150 92 [(0, .ref 54), (1, .int (nI md)), (2, .int (nI (cnF S (xN (S.1 2 0))))), (3, .int v3), (4, .int v4), (5, .int v5), (6, .int (nI (cnF S (xN (S.1 2 0))))), (7, .int (nI (md * oN S t (xN (S.1 2 0))))), (8, .int (nI (cN S t)))] [] T r := by
    simp (decide := true) only [b150_51, cn, b150_56, b150_62, e1, exists_eq_left, xtl, b150_68, e2, b150_78, e3, b150_88, ↓reduceIte]
  refine st.trans ?_
  refine Iff.trans ?_ (e' (d + 3) r)
  cases b with
  | none =>
    have z := hB.1 rfl
    rw [b150_92, if_pos z, b150_117]
  | some x =>
    obtain ⟨z1, c, s, z2, z3, z4, z5, z6, z7, -⟩ := hB.2 x rfl
    have hlt := hb x rfl
    rw [hq, z4] at hlt
    have n1 : ¬ (1 : Int32) = 0 := by decide
    rw [z1, z2, z3, b150_92, if_neg n1, b150_96]
    have k1 : (nI (md * oN S t (xN (S.1 2 0))) < nI c) ↔ md * oN S t (xN (S.1 2 0)) < c := nI_ltI (by rcases hmd with z | z <;> subst z <;> omega) (by omega)
    have k2 : (nI (md * oN S t (xN (S.1 2 0))) = nI c) ↔ md * oN S t (xN (S.1 2 0)) = c := nI_inj (by rcases hmd with z | z <;> subst z <;> omega) (by omega)
    have k3 : (nI (cN S t) < nI s) ↔ cN S t < s := nI_ltI (by omega) (by omega)
    by_cases y : md * oN S t (xN (S.1 2 0)) < c
    · rw [if_pos (k1.mpr y), b150_117]
    · have y2 : md * oN S t (xN (S.1 2 0)) = c ∧ cN S t < s := by
        rcases hmd with z | z
        · subst z
          have := z7 rfl
          subst this
          omega
        · subst z
          omega
      rw [if_neg (fun z => y (k1.mp z)), b150_103, if_pos (k2.mpr y2.1), b150_110, if_pos (k3.mpr y2.2), b150_117]
