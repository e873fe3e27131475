/-! plans: the best, the reference's walk -/
theorem dfs150 {Z : xS} {S : xS} (hS : xInv S) {md : Nat} (hmd : md = 0 ∨ md = 1) : ∀ m k T t b v3 v4 v5, k + m = xN (S.1 2 0) → plM Z S T t → lstM S T → gI S k t → bM S T md v3 v4 v5 b → bsT b (qN S (10000 * md) k t) → ∃ T' u3 u4 u5, plM Z S T' t ∧ lstM S T' ∧ bM S T' md u3 u4 u5 (gB S (10000 * md) m k t b) ∧ ∀ (d : Nat) (r : Option Value × xS), xX (d + 3) 150 51 [(0, .ref 54), (1, .int (nI md)), (2, .int (nI (cnF S (xN (S.1 2 0))))), (3, .int v3), (4, .int v4), (5, .int v5), (6, .int (nI (cnF S k)))] [] T r ↔ xX (d + 3) 150 51 [(0, .ref 54), (1, .int (nI md)), (2, .int (nI (cnF S (xN (S.1 2 0))))), (3, .int u3), (4, .int u4), (5, .int u5), (6, .int (nI (cnF S k) + (-1)))] [] T' r := by
  obtain ⟨hn, hn1, hn2⟩ := hS.cnt
  obtain ⟨hw, hw1, hw2⟩ := hS.now
  have hN : nI (cnF S (xN (S.1 2 0))) = nI (cnF S (xN (S.1 2 0))) := rfl
  have cN10 := cnF_le (S := S) (xN (S.1 2 0))
  intro m
  induction m with
  | zero =>
    intro k T t b v3 v4 v5 hk h hl hI hB hb
    have hkn : k = xN (S.1 2 0) := by omega
    subst hkn
    exact leaf150 hS hmd h hl hI.1 hB hb
  | succ m ih =>
    intro k T t b v3 v4 v5 hk h hl hI hB hb
    have hkn : k < xN (S.1 2 0) := by omega
    by_cases c : fr S k
    case neg =>
      have eg : gB S (10000 * md) (m + 1) k t b = gB S (10000 * md) m (k + 1) t b := if_neg c
      have eq := qN_skip (ch := 10000 * md) c t
      obtain ⟨T', u3, u4, u5, i1, i2, i3, i4⟩ := ih (k + 1) T t b v3 v4 v5 (by omega) h hl (gI_skip hI) hB (by rw [eq]; exact hb)
      rw [cnF_n c] at i4
      exact ⟨T', u3, u4, u5, i1, i2, by rw [eg]; exact i3, i4⟩
    have t5 := hI.2.1 k (Nat.le_refl _) hkn c
    have ck := cnF_lt c hkn
    have cn : ¬ nI (cnF S k) < 0 := nI_pos (by omega)
    have cne : ¬ nI (cnF S k) = nI (cnF S (xN (S.1 2 0))) := by rw [nI_inj (by omega) (by omega)]; omega
    have a1 : (nI (cnF S k)).toNatClampNeg = cnF S k := nI_clamp (by omega)
    have a2 := vp_in_nI (show cnF S k < 10 by omega) (by omega : 10 < 2 ^ 31)
    have b1 : (nI k).toNatClampNeg = k := nI_clamp (by omega)
    have b2 := vp_in_nI (show k < 10 by omega) (by omega : 10 < 2 ^ 31)
    have eg : gB S (10000 * md) (m + 1) k t b = wF (fun w b => @ite _ (LG S (tU t k w) ∧ bsT b (qN S (10000 * md) (k + 1) (tU t k w))) (Classical.propDecidable _) (gB S (10000 * md) m (k + 1) (tU t k w) b) b) (5 - xN (S.1 0 10)) (xN (S.1 0 10)) b := if_pos c
    have lp : ∀ q w T cur b v3 v4 v5, w + q = 5 → plM Z S T cur → (∀ z, tU cur k z = tU t k z) → lstM S T → bM S T md v3 v4 v5 b → ∃ T' u3 u4 u5, plM Z S T' t ∧ lstM S T' ∧ bM S T' md u3 u4 u5 (wF (fun w b => @ite _ (LG S (tU t k w) ∧ bsT b (qN S (10000 * md) (k + 1) (tU t k w))) (Classical.propDecidable _) (gB S (10000 * md) m (k + 1) (tU t k w) b) b) q w b) ∧ ∀ (d : Nat) (r : Option Value × xS), xX (d + 3) 150 206 [(0, .ref 54), (1, .int (nI md)), (2, .int (nI (cnF S (xN (S.1 2 0))))), (3, .int v3), (4, .int v4), (5, .int v5), (6, .int (nI (cnF S k))), (7, .int (nI k)), (8, .int (nI w)), (9, .int 0)] [] T r ↔ xX (d + 3) 150 51 [(0, .ref 54), (1, .int (nI md)), (2, .int (nI (cnF S (xN (S.1 2 0))))), (3, .int u3), (4, .int u4), (5, .int u5), (6, .int (nI (cnF S k) + (-1)))] [] T' r := by
      intro q
      induction q with
      | zero =>
        intro w T cur b v3 v4 v5 hw h hc hl hB
        have : w = 5 := by omega
        subst this
        have n5 : ¬ nI 5 < 5 := by decide
        have p := plM_set h k (z := 5) (Nat.le_refl _) (x := -1) (by rw [if_pos rfl])
        rw [hc, ← t5, tU_id] at p
        refine ⟨xwI T 85 k (-1), v3, v4, v5, p, lstM_wI hl _ _ _ (by decide), bM_fr (xrd_ne _ _ _ _ _ (by decide)) hB, fun d r => ?_⟩
        rw [b150_206, if_neg n5, b150_271, if_pos rfl, b150_282, b1]
        exact ⟨fun z => z.2, fun z => ⟨b2, z⟩⟩
      | succ q ihq =>
        intro w T cur b v3 v4 v5 hw h hc hl hB
        have hw5 : w < 5 := by omega
        have d1 : nI w < 5 := nI_lt (a := w) (b := 5) hw5 (by omega)
        have p1 := plM_set h k (z := w) (by omega) (x := nI w) (by rw [if_neg (by omega)])
        rw [hc w] at p1
        have l1 : lstM S (xwI T 85 k (nI w)) := lstM_wI hl _ _ _ (by decide)
        have hB1 : bM S (xwI T 85 k (nI w)) md v3 v4 v5 b := bM_fr (xrd_ne _ _ _ _ _ (by decide)) hB
        -- not down
        have skip : ¬ (LG S (tU t k w) ∧ bsT b (qN S (10000 * md) (k + 1) (tU t k w))) → (∀ (d : Nat) (r : Option Value × xS), xX (d + 3) 150 206 [(0, .ref 54), (1, .int (nI md)), (2, .int (nI (cnF S (xN (S.1 2 0))))), (3, .int v3), (4, .int v4), (5, .int v5), (6, .int (nI (cnF S k))), (7, .int (nI k)), (8, .int (nI w)), (9, .int 0)] [] T r ↔ xX (d + 3) 150 206 [(0, .ref 54), (1, .int (nI md)), (2, .int (nI (cnF S (xN (S.1 2 0))))), (3, .int v3), (4, .int v4), (5, .int v5), (6, .int (nI (cnF S k))), (7, .int (nI k)), (8, .int (nI (w + 1))), (9, .int 0)] [] (xwI T 85 k (nI w)) r) → ∃ T' u3 u4 u5, plM Z S T' t ∧ lstM S T' ∧ bM S T' md u3 u4 u5 (wF (fun w b => @ite _ (LG S (tU t k w) ∧ bsT b (qN S (10000 * md) (k + 1) (tU t k w))) (Classical.propDecidable _) (gB S (10000 * md) m (k + 1) (tU t k w) b) b) (q + 1) w b) ∧ ∀ (d : Nat) (r : Option Value × xS), xX (d + 3) 150 206 [(0, .ref 54), (1, .int (nI md)), (2, .int (nI (cnF S (xN (S.1 2 0))))), (3, .int v3), (4, .int v4), (5, .int v5), (6, .int (nI (cnF S k))), (7, .int (nI k)), (8, .int (nI w)), (9, .int 0)] [] T r ↔ xX (d + 3) 150 51 [(0, .ref 54), (1, .int (nI md)), (2, .int (nI (cnF S (xN (S.1 2 0))))), (3, .int u3), (4, .int u4), (5, .int u5), (6, .int (nI (cnF S k) + (-1)))] [] T' r := fun hno st => by
          have ecd : (@ite _ (LG S (tU t k w) ∧ bsT b (qN S (10000 * md) (k + 1) (tU t k w))) (Classical.propDecidable _) (gB S (10000 * md) m (k + 1) (tU t k w) b) b) = b := if_neg hno
          obtain ⟨T', u3, u4, u5, i1, i2, i3, i4⟩ := ihq (w + 1) _ (tU t k w) b v3 v4 v5 (by omega) p1 (fun z => tU_tU t k w z) l1 hB1
          refine ⟨T', u3, u4, u5, i1, i2, ?_, fun d r => (st d r).trans (i4 d r)⟩
          show bM S T' md u3 u4 u5 (wF _ q (w + 1) (@ite _ (LG S (tU t k w) ∧ bsT b (qN S (10000 * md) (k + 1) (tU t k w))) (Classical.propDecidable _) (gB S (10000 * md) m (k + 1) (tU t k w) b) b))
          rw [ecd]; exact i3
        -- down
        have down : (LG S (tU t k w) ∧ bsT b (qN S (10000 * md) (k + 1) (tU t k w))) → (∀ (d : Nat) (r : Option Value × xS), xX (d + 3) 150 206 [(0, .ref 54), (1, .int (nI md)), (2, .int (nI (cnF S (xN (S.1 2 0))))), (3, .int v3), (4, .int v4), (5, .int v5), (6, .int (nI (cnF S k))), (7, .int (nI k)), (8, .int (nI w)), (9, .int 0)] [] T r ↔ xX (d + 3) 150 206 [(0, .ref 54), (1, .int (nI md)), (2, .int (nI (cnF S (xN (S.1 2 0))))), (3, .int v3), (4, .int v4), (5, .int v5), (6, .int (nI (cnF S k))), (7, .int (nI k)), (8, .int (nI (w + 1))), (9, .int 1)] [] (xwI T 85 k (nI w)) r) → ∃ T' u3 u4 u5, plM Z S T' t ∧ lstM S T' ∧ bM S T' md u3 u4 u5 (wF (fun w b => @ite _ (LG S (tU t k w) ∧ bsT b (qN S (10000 * md) (k + 1) (tU t k w))) (Classical.propDecidable _) (gB S (10000 * md) m (k + 1) (tU t k w) b) b) (q + 1) w b) ∧ ∀ (d : Nat) (r : Option Value × xS), xX (d + 3) 150 206 [(0, .ref 54), (1, .int (nI md)), (2, .int (nI (cnF S (xN (S.1 2 0))))), (3, .int v3), (4, .int v4), (5, .int v5), (6, .int (nI (cnF S k))), (7, .int (nI k)), (8, .int (nI w)), (9, .int 0)] [] T r ↔ xX (d + 3) 150 51 [(0, .ref 54), (1, .int (nI md)), (2, .int (nI (cnF S (xN (S.1 2 0))))), (3, .int u3), (4, .int u4), (5, .int u5), (6, .int (nI (cnF S k) + (-1)))] [] T' r := fun hy st => by
          have ecd : (@ite _ (LG S (tU t k w) ∧ bsT b (qN S (10000 * md) (k + 1) (tU t k w))) (Classical.propDecidable _) (gB S (10000 * md) m (k + 1) (tU t k w) b) b) = gB S (10000 * md) m (k + 1) (tU t k w) b := if_pos hy
          obtain ⟨T2, u3, u4, u5, i1, i2, i3, i4⟩ := ih (k + 1) _ (tU t k w) b v3 v4 v5 (by omega) p1 l1 (gI_tU hI c hy.1) hB1 hy.2
          have back : nI (cnF S (k + 1)) + (-1) = nI (cnF S k) := by rw [cnF_f c, nI_addm1 (by omega)]; rfl
          rw [back] at i4
          obtain ⟨T', w3, w4, w5, j1, j2, j3, j4⟩ := ihq (w + 1) T2 (tU t k w) _ u3 u4 u5 (by omega) i1 (fun z => tU_tU t k w z) i2 i3
          refine ⟨T', w3, w4, w5, j1, j2, ?_, fun d r => (st d r).trans (Iff.trans ?_ ((i4 d r).trans (Iff.trans ?_ (j4 d r))))⟩
          · show bM S T' md w3 w4 w5 (wF _ q (w + 1) (@ite _ (LG S (tU t k w) ∧ bsT b (qN S (10000 * md) (k + 1) (tU t k w))) (Classical.propDecidable _) (gB S (10000 * md) m (k + 1) (tU t k w) b) b))
            rw [ecd]; exact j3
          · have n1 : ¬ (1 : Int32) = 0 := by decide
            rw [cnF_f c]
            generalize nI (w + 1) = ww
            rw [← nI_1]
            by_cases z : ww < 5
            · rw [b150_206, if_pos z, b150_212, if_neg n1, b150_271, if_neg n1, b150_276]
            · rw [b150_206, if_neg z, b150_271, if_neg n1, b150_276]
          · have f87 := i2 k hkn c
            have f85 : T2.1 85 k = nI w := by
              have := (i1.2 k hkn).2
              rw [tU_eq, if_neg (by omega)] at this
              exact this
            have nw : ¬ nI w = -1 := nI_nem1 (by omega)
            rw [b150_51, if_neg cn, b150_56, if_neg cne, b150_165, a1, f87, b1, f85, if_neg nw, b150_192, b1, f85, nI_1]
            exact ⟨fun z => z.2.2.2, fun z => ⟨a2, b2, b2, z⟩⟩
        rcases m140X hS p1.1 p1.2 with ⟨c1, e1⟩ | ⟨c1, y, hy, e1⟩
        case inr =>
          refine skip (fun z => c1 z.1) (fun d r => ?_)
          rw [b150_206, if_pos d1]
          simp (decide := true) only [b150_212, b150_217, b1, b2, e1, exists_eq_left, xtl, b150_234, hy, b150_262, ↓reduceIte, nI_1, true_and]
        cases b with
        | none =>
          have z := hB.1 rfl
          refine down ⟨c1, fun x hx => absurd hx (by simp)⟩ (fun d r => ?_)
          rw [b150_206, if_pos d1]
          simp (decide := true) only [b150_212, b150_217, b1, b2, e1, exists_eq_left, xtl, b150_234, b150_238, z, b150_258, ↓reduceIte, nI_1, true_and]
        | some x =>
          obtain ⟨z1, c0, s0, z2, z3, z4, z5, z6, z7, z8⟩ := hB.2 x rfl
          have n1 : ¬ (1 : Int32) = 0 := by decide
          have ci : nI (cnF S k) + 1 = nI (cnF S (k + 1)) := by rw [nI_1, cnF_f c]
          rcases m149 hS p1 l1 (show k + 1 ≤ xN (S.1 2 0) by omega) hmd z5 z6 z7 with ⟨c2, e2⟩ | ⟨c2, e2⟩
          · refine down ⟨c1, fun x' hx' => ?_⟩ (fun d r => ?_)
            · have := Option.some.inj hx'
              subst this
              rw [z4]; exact c2
            · subst z1; subst z2; subst z3
              rw [b150_206, if_pos d1]
              simp (decide := true) only [b150_212, b150_217, b1, b2, e1, exists_eq_left, xtl, b150_234, b150_238, b150_242, ci, e2, b150_255, b150_258, ↓reduceIte, nI_1, true_and]
          · refine skip (fun z => c2 (by have := z.2 x rfl; rw [z4] at this; exact this)) (fun d r => ?_)
            subst z1; subst z2; subst z3
            rw [b150_206, if_pos d1]
            simp (decide := true) only [b150_212, b150_217, b1, b2, e1, exists_eq_left, xtl, b150_234, b150_238, b150_242, ci, e2, b150_255, b150_262, ↓reduceIte, nI_1, true_and]
    obtain ⟨T', u3, u4, u5, i1, i2, i3, i4⟩ := lp (5 - xN (S.1 0 10)) (xN (S.1 0 10)) T t b v3 v4 v5 (by omega) h (fun _ => rfl) hl hB
    refine ⟨T', u3, u4, u5, i1, i2, by rw [eg]; exact i3, fun d r => Iff.trans ?_ (i4 d r)⟩
    have f87 := hl k hkn c
    have f85 : T.1 85 k = -1 := by
      have := (h.2 k hkn).2
      rw [t5, if_pos rfl] at this
      exact this
    have f5 : T.1 54 5 = nI (xN (S.1 0 10)) := by rw [h.1.1 54 (by decide) (by decide) (by decide)]; exact hw2
    rw [b150_51, if_neg cn, b150_56, if_neg cne, b150_165, a1, f87, b1, if_pos f85, b150_185, f5]
    exact ⟨fun z => z.2.2, fun z => ⟨a2, b2, z⟩⟩
