theorem x100r (U : xS) (k : Nat) (hk : k = 6 ∨ k = 7) (r : Option Value × xS) : (k = 6 → (xX 59 100 39 [(0, .ref 0)] [] U r ↔ r = (some (.int (-6)), xwI U 1 6 (U.1 1 6 + 1)))) ∧ (k = 7 → (xX 59 100 58 [(0, .ref 0)] [] U r ↔ r = (some (.int (-7)), xwI U 1 7 (U.1 1 7 + 1)))) := by
  refine ⟨fun _ => ?_, fun _ => ?_⟩
  · simp (decide := true) only [b100_39, b100_45, b68_0, b68_7, b68_10, b68_21, b25_0, b25_5, b25_10, b25_14, ↓reduceIte, xtl, exists_eq_left, and_assoc, exists_and_left, xbit_1, xbit_0, true_and, Int32.neg_neg, xn6, xv6]
  · simp (decide := true) only [b100_58, b100_64, b68_0, b68_7, b68_10, b68_21, b25_0, b25_5, b25_10, b25_14, ↓reduceIte, xtl, exists_eq_left, and_assoc, exists_and_left, xbit_1, xbit_0, true_and, Int32.neg_neg, xn7, xv7]
theorem m168r (U : xS) (r : Option Value × xS) : (xX 59 168 242 [(0, .ref 54)] [] U r ↔ r = (some (.int (-6)), xwI U 84 6 (U.1 84 6 + 1))) ∧ (xX 59 168 258 [(0, .ref 54)] [] U r ↔ r = (some (.int (-7)), xwI U 84 7 (U.1 84 7 + 1))) := by
  refine ⟨?_, ?_⟩
  · simp (decide := true) only [b168_242, b168_248, b114_0, ↓reduceIte, xtl, exists_eq_left, and_assoc, exists_and_left, true_and, Int32.neg_neg, xn6, xv6]
  · simp (decide := true) only [b168_258, b168_264, b114_0, ↓reduceIte, xtl, exists_eq_left, and_assoc, exists_and_left, true_and, Int32.neg_neg, xn7, xv7]
theorem t100e (d : Nat) (v1 z : Int32) (i : Nat) (hi : i = 1 ∨ i = 2 ∨ i = 3) (hz : z = -(nI i)) (S : xS) (r : Option Value × xS) (h : ∀ (d : Nat) r, xX (d + 2) 80 0 [(0, .ref 0), (1, .int v1)] [] S r ↔ r = (some (.int z), S)) : xX (d + 3) 100 0 [(0, .ref 0), (1, .int v1)] [] S r ↔ r = (some (.int z), xwI S 1 i (S.1 1 i + 1)) := by
  have e1 : - nI 1 = -1 := by decide
  have e2 : - nI 2 = -2 := by decide
  have e3 : - nI 3 = -3 := by decide
  rcases hi with y | y | y <;> subst y <;> subst hz
  · rw [e1] at h ⊢
    simp (decide := true) only [b100_0, h, exists_eq_left, xtl, b100_5, b100_10, b100_15, b68_0, b68_7, b68_10, b68_21, b25_0, b25_5, b25_10, b25_14, ↓reduceIte, and_assoc, exists_and_left, xbit_1, xbit_0, true_and, Int32.neg_neg, xn1, xv1]
  · rw [e2] at h ⊢
    simp (decide := true) only [b100_0, h, exists_eq_left, xtl, b100_5, b100_10, b100_15, b68_0, b68_7, b68_10, b68_21, b25_0, b25_5, b25_10, b25_14, ↓reduceIte, and_assoc, exists_and_left, xbit_1, xbit_0, true_and, Int32.neg_neg, xn2, xv2]
  · rw [e3] at h ⊢
    simp (decide := true) only [b100_0, h, exists_eq_left, xtl, b100_5, b100_10, b100_15, b68_0, b68_7, b68_10, b68_21, b25_0, b25_5, b25_10, b25_14, ↓reduceIte, and_assoc, exists_and_left, xbit_1, xbit_0, true_and, Int32.neg_neg, xn3, xv3]
theorem jLaw_new {n n' : Int32} {a1 b1 a2 b2 a3 b3 a4 b4 : Nat → Int32} (h : jLaw n a1 b1 a2 b2 a3 b3 a4 b4) (hn : xN n ≤ xN n') (k : Nat) (x y z : Int32) : jLaw n' (vupd a1 k x) (vupd b1 k x) (vupd a2 k y) (vupd b2 k y) (vupd a3 k z) (vupd b3 k z) a4 b4 := by
  obtain ⟨h1, h2, h3, h4, h5⟩ := h
  exact ⟨iEq_upd h1 k _ _ rfl, iEq_upd h2 k _ _ rfl, iEq_upd h3 k _ _ rfl, h4, fun j hj hk => h5 j hj (by omega)⟩
theorem op_law (S : xS) (v1 : Int32) (h : xInv S) : xOpI xInv 100 168 [(1, .int v1)] S := by
  by_cases c1 : v1 < 0
  · refine xOp_ref (z := -1) 1 (by decide) h (fun r => t100e 56 v1 (-1) 1 (by decide) (by decide) S r (fun d r => (t80 d v1 S r (by simp only [g80, c1, ↓reduceIte])).trans (by simp only [p80, c1, ↓reduceIte]))) (fun r => ?_)
    simp (decide := true) only [b168_0, b118_0, b118_4, b118_10, b118_14, c1, b168_4, b168_7, b168_12, b114_0, ↓reduceIte, xtl, exists_eq_left, and_assoc, exists_and_left, xbit_0, xbit_1, true_and, Int32.neg_neg, xn1, xv1, xrd_ne]
  by_cases c2 : 7 < v1
  · refine xOp_ref (z := -1) 1 (by decide) h (fun r => t100e 56 v1 (-1) 1 (by decide) (by decide) S r (fun d r => (t80 d v1 S r (by simp only [g80, c1, c2, ↓reduceIte])).trans (by simp only [p80, c1, c2, ↓reduceIte]))) (fun r => ?_)
    simp (decide := true) only [b168_0, b118_0, b118_4, b118_10, b118_14, x_lt8, c1, c2, b168_4, b168_7, b168_12, b114_0, ↓reduceIte, xtl, exists_eq_left, and_assoc, exists_and_left, xbit_0, xbit_1, true_and, Int32.neg_neg, xn1, xv1, xrd_ne, not_true_eq_false, not_false_eq_true]
  obtain ⟨s, hs, rfl⟩ := xIdxL (n := 7) (b := 7) (by decide) (by omega) c1 c2
  have es : (nI s).toNatClampNeg = s := nI_clamp (by omega)
  have is := vp_in_nI (show s < 8 by omega) (by omega : 8 < 2 ^ 31)
  have n02 : ¬ (0 : Int32) = 2 := by decide
  have n12 : ¬ (1 : Int32) = 2 := by decide
  have n10 : ¬ (1 : Int32) = 0 := by decide
  rcases h.hShf s (by omega) with ⟨g1, g2⟩ | ⟨o, ho, g1, g2, g3⟩ | ⟨q, hq, g1, g2, g3⟩
  · refine xOp_ref (z := -3) 3 (by decide) h (fun r => t100e 56 (nI s) (-3) 3 (by decide) (by decide) S r (fun d r => (t80 d (nI s) S r (by simp (decide := true) only [g80, c1, c2, es, is, g1, ↓reduceIte, and_true])).trans (by simp (decide := true) only [p80, c1, c2, es, g1, ↓reduceIte]))) (fun r => ?_)
    simp (decide := true) only [b168_0, b118_0, b118_4, b118_10, b118_14, x_lt8, c1, c2, b168_4, b168_13, b168_30, b168_39, b168_45, b114_0, es, is, g2, n02, ↓reduceIte, xtl, exists_eq_left, and_assoc, exists_and_left, xbit_0, xbit_1, true_and, Int32.neg_neg, xn3, xv3, xrd_ne, not_true_eq_false, not_false_eq_true]
  · have hn10 := h.cnt.1
    have u1 : nI o < 100 := by rw [show (100 : Int32) = nI 100 by decide]; exact nI_lt (by omega) (by omega)
    have u2 : ¬ nI o = -1 := nI_nem1 (by omega)
    refine xOp_ref (z := -2) 2 (by decide) h (fun r => t100e 56 (nI s) (-2) 2 (by decide) (by decide) S r (fun d r => (t80 d (nI s) S r (by simp (decide := true) only [g80, c1, c2, es, is, g1, u1, ↓reduceIte, and_true])).trans (by simp (decide := true) only [p80, c1, c2, es, g1, u1, u2, ↓reduceIte]))) (fun r => ?_)
    simp (decide := true) only [b168_0, b118_0, b118_4, b118_10, b118_14, x_lt8, c1, c2, b168_4, b168_13, b168_23, b168_29, b114_0, es, is, g2, ↓reduceIte, xtl, exists_eq_left, and_assoc, exists_and_left, xbit_0, xbit_1, true_and, Int32.neg_neg, xn2, xv2, xrd_ne, not_true_eq_false, not_false_eq_true]
  · have u1 : ¬ nI (100 + q) < 100 := by rw [show (100 : Int32) = nI 100 by decide]; exact nI_nlt (by omega) (by omega)
    obtain ⟨m, hm, k1, k2⟩ := h.hSiz s (by omega)
    obtain ⟨c, hc⟩ : ∃ c : Nat → Int32, ∀ p, c p = (S.2.1 75 (60 * s + p)).toInt32 := ⟨_, fun _ => rfl⟩
    have hx : lxC S s q m c := ⟨by omega, g1, k1, hm, hq, fun p hp => by rw [hc, h.hCel s (by omega) p (by omega)]⟩
    have h80 : ∀ (d : Nat) r, xX (d + 2) 80 0 [(0, .ref 0), (1, .int (nI s))] [] S r ↔ r = (some (.int 0), S) := fun d r => (t80 d (nI s) S r (by simp (decide := true) only [g80, c1, c2, es, is, g1, u1, ↓reduceIte, and_true])).trans (by simp (decide := true) only [p80, c1, c2, es, g1, u1, ↓reduceIte])
    have hm0 : lmC S s m c := ⟨by omega, k2, hm, fun p _ => (hc p).symm⟩
    obtain ⟨l, hl, hl1, hl2⟩ := h.hLwc
    obtain ⟨ok, p', ow', nu', fw', hp', e1, -⟩ := law_all hx hm0 (S.1 19 7) (S.1 19 8)
    -- what the class's reader leaves
    obtain ⟨fl, hfl⟩ : ∃ fl : Int32, fl = (bif ok then -1 else nI p') := ⟨_, rfl⟩
    have e29 : ∀ (d : Nat) r, xX (d + 2) 29 0 [(0, .ref 19), (1, .ref 28), (2, .int (nI s))] [] S r ↔ r = (none, cS S fl ow' nu' fw') := fun d r => by
      rw [b29_0, es, k1, cS_in]
      simp only [is, true_and]
      rw [hfl]
      have := e1 d r
      unfold cR at this
      rw [nI_0] at this
      exact this
    have base : ∀ r, xX 59 100 0 [(0, .ref 0), (1, .int (nI s))] [] S r ↔ if fl = -1 then (if nI l < 6 then xX 59 100 65 [(0, .ref 0)] [] (cS S fl ow' nu' fw') r else xX 59 100 58 [(0, .ref 0)] [] (cS S fl ow' nu' fw') r) else xX 59 100 39 [(0, .ref 0)] [] (cS S fl ow' nu' fw') r := fun r => by
      have h80' := h80 56
      have e29' := e29 56
      simp (decide := true) only [b100_0, h80', exists_eq_left, xtl, b100_5, b100_16, e29', xtl0, b100_28, cS_r5, b100_46, cS_r0, hl1, ↓reduceIte]
    cases ok with
    | false =>
      simp only [cond_false, cond_true] at hfl
      subst hfl
      have nm : ¬ nI p' = -1 := nI_nem1 (by omega)
      have hmT : lmC (xwI (cS S (nI p') ow' nu' fw') 1 6 (S.1 1 6 + 1)) s m c := ⟨by omega, by rw [xrd_ne _ _ _ _ _ (by decide), cS_ne _ _ _ _ _ _ (by decide)]; exact k2, hm, fun p _ => (hc p).symm⟩
      obtain ⟨ok2, p2, ow2, nu2, fw2, hp2, f1, f2⟩ := law_all hx hmT (S.1 19 7) (S.1 19 8)
      -- both runs of the class agree
      have eq := (e1 0 (none, cS S (nI p') ow' nu' fw')).mpr rfl
      have eq2 := (f1 0 _).mp eq
      have fe : nI p' = (bif ok2 then -1 else nI p2) := by
        have := congrArg (fun z : Option Value × xS => z.2.1 19 5) eq2
        simpa only [cS_r5] using this
      cases ok2 with
      | true => exact absurd fe nm
      | false =>
        have pe : p' = p2 := (nI_eq (by omega) (by omega)).mp fe
        subst pe
        refine xOp_mk (z := -6) (S1 := xwI (cS S (nI p') ow' nu' fw') 1 6 (S.1 1 6 + 1)) (S2 := xwI (xwI (pT (xwI (cS S (nI p') ow' nu' fw') 1 6 (S.1 1 6 + 1)) p') 54 14 (nI p')) 84 6 (S.1 84 6 + 1)) (fun r => ?_) (fun r => ?_) ?_
        · refine (base r).trans ?_
          rw [if_neg nm]
          refine ((x100r _ 6 (Or.inl rfl) r).1 rfl).trans ?_
          rw [cS_ne _ _ _ _ _ 1 (by decide)]
        · have f2' := f2 57 r
          simp only [mOut] at f2'
          have r71 : (xwI (cS S (nI p') ow' nu' fw') 1 6 (S.1 1 6 + 1)).1 71 s = 1 := by rw [xrd_ne _ _ _ _ _ (by decide), cS_ne _ _ _ _ _ _ (by decide)]; exact g2
          simp (decide := true) only [b168_0, b118_0, b118_4, b118_10, b118_14, x_lt8, c1, c2, b168_4, b168_13, b168_30, es, is, r71, ↓reduceIte, xtl, exists_eq_left, and_assoc, exists_and_left, xbit_0, xbit_1, true_and, not_true_eq_false, not_false_eq_true]
          refine f2'.trans (((m168r _ r).1).trans ?_)
          have r84 : (xwI (pT (xwI (cS S (nI p') ow' nu' fw') 1 6 (S.1 1 6 + 1)) p') 54 14 (nI p')).1 84 6 = S.1 84 6 := by rw [xrd_ne _ _ _ _ _ (by decide), pT_ne _ _ _ (by decide), xrd_ne _ _ _ _ _ (by decide), cS_ne _ _ _ _ _ _ (by decide)]
          rw [r84]
        · obtain ⟨hRef, hCnt, hBld, hLwc, hEmb, hFil, hNow, hPal, hRnt, hMst, hTrn, hOnt, hPai, hFlt, hBeg, hDsk, hRnk, hWav, hSty, hMov, hTie, hRom, hRdy, hBec, hFlk, hHer, hTrt, hTvl, hSet, hQui, hFre, hLaw, hEmR, hPlc, hShf, hSiz, hCel, hPln, hLeg⟩ := id h
          simp (decide := true) only [xInv, jLeg, aLg, pT, xrd_ne, xrd_same, xrd_K, cS_ne, cS_2, vupd_eq, vupd_ne, cS_r5, cS_r0]
          exact ⟨iEq_upd hRef 6 _ _ (by rw [hRef 6 (by decide)]), hCnt, hBld, hLwc, hEmb, hFil, hNow, hPal, hRnt, hMst, hTrn, hOnt, hPai, trivial, hBeg, hDsk, hRnk, hWav, hSty, hMov, hTie, hRom, hRdy, hBec, hFlk, hHer, hTrt, hTvl, hSet, hQui, hFre, hLaw, hEmR, hPlc, hShf, hSiz, hCel, hPln, hLeg⟩
    | true =>
      simp only [cond_false, cond_true] at hfl
      subst hfl
      by_cases l6 : l < 6
      · have q1 : nI l < 6 := nI_lt (b := 6) l6 (by omega)
        have q2 : ¬ nI l = 6 := fun z => by have := (nI_eq (a := l) (b := 6) (by omega) (by omega)).mp z; omega
        have el : (nI l).toNatClampNeg = l := nI_clamp (by omega)
        have il := vp_in_nI l6 (by omega : 6 < 2 ^ 31)
        obtain ⟨S1, hS1⟩ : ∃ S1, S1 = xwI (xwI (xwI (xwI (cS S (-1) ow' nu' fw') 20 l ow') 21 l nu') 22 l fw') 19 0 (nI l + 1) := ⟨_, rfl⟩
        have hmT : lmC S1 s m c := ⟨by omega, by rw [hS1, xrd_ne _ _ _ _ _ (by decide), xrd_ne _ _ _ _ _ (by decide), xrd_ne _ _ _ _ _ (by decide), xrd_ne _ _ _ _ _ (by decide), cS_ne _ _ _ _ _ _ (by decide)]; exact k2, hm, fun p _ => by rw [hS1]; exact (hc p).symm⟩
        obtain ⟨ok2, p2, ow2, nu2, fw2, hp2, f1, f2⟩ := law_all hx hmT (S.1 19 7) (S.1 19 8)
        have eq := (e1 0 (none, cS S (-1) ow' nu' fw')).mpr rfl
        have eq2 := (f1 0 _).mp eq
        have fe : (-1 : Int32) = (bif ok2 then -1 else nI p2) := by
          have := congrArg (fun z : Option Value × xS => z.2.1 19 5) eq2
          simpa only [cS_r5] using this
        have o1 : ow' = ow2 := by
          have := congrArg (fun z : Option Value × xS => z.2.1 19 6) eq2
          simpa only [cS_r6] using this
        have o2 : nu' = nu2 := by
          have := congrArg (fun z : Option Value × xS => z.2.1 19 7) eq2
          simpa only [cS_r7] using this
        have o3 : fw' = fw2 := by
          have := congrArg (fun z : Option Value × xS => z.2.1 19 8) eq2
          simpa only [cS_r8] using this
        subst o1 o2 o3
        cases ok2 with
        | false => exact absurd fe.symm (nI_nem1 (by omega))
        | true =>
          refine xOp_mk (z := nI l) (S1 := S1) (S2 := xwI (xwI (xwI (xwI (xwI (pT S1 p2) 54 14 (-1)) 77 l ow') 78 l nu') 79 l fw') 54 2 (nI l + 1)) (fun r => ?_) (fun r => ?_) ?_
          · refine (base r).trans ?_
            rw [if_pos rfl, if_pos q1]
            have g30 := fun (d : Nat) (r : Option Value × xS) => t30 d (cS S (-1) ow' nu' fw') r (by simp only [g30, cS_r0, hl1, il, and_true])
            simp only [b100_65, g30, p30, cS_r0, cS_r6, cS_r7, cS_r8, hl1, el, exists_eq_left, xtl, b100_72, hS1]
          · have f2' := f2 57 r
            simp only [mOut] at f2'
            have r71 : S1.1 71 s = 1 := by rw [hS1, xrd_ne _ _ _ _ _ (by decide), xrd_ne _ _ _ _ _ (by decide), xrd_ne _ _ _ _ _ (by decide), xrd_ne _ _ _ _ _ (by decide), cS_ne _ _ _ _ _ _ (by decide)]; exact g2
            simp (decide := true) only [b168_0, b118_0, b118_4, b118_10, b118_14, x_lt8, c1, c2, b168_4, b168_13, b168_30, es, is, r71, ↓reduceIte, xtl, exists_eq_left, and_assoc, exists_and_left, xbit_0, xbit_1, true_and, not_true_eq_false, not_false_eq_true]
            refine f2'.trans ?_
            have r54 : (xwI (pT S1 p2) 54 14 (-1)).1 54 2 = nI l := by
              rw [xrd_n2 _ _ _ _ _ (by decide)]
              unfold pT
              rw [xrd_n2 _ _ _ _ _ (by decide), hS1, xrd_ne _ _ _ _ _ (by decide), xrd_ne _ _ _ _ _ (by decide), xrd_ne _ _ _ _ _ (by decide), xrd_ne _ _ _ _ _ (by decide), cS_ne _ _ _ _ _ _ (by decide)]
              exact hl2
            rw [b168_249, r54, if_neg q2, b168_265, r54, el]
            simp only [il, true_and]
          · obtain ⟨hRef, hCnt, hBld, hLwc, hEmb, hFil, hNow, hPal, hRnt, hMst, hTrn, hOnt, hPai, hFlt, hBeg, hDsk, hRnk, hWav, hSty, hMov, hTie, hRom, hRdy, hBec, hFlk, hHer, hTrt, hTvl, hSet, hQui, hFre, hLaw, hEmR, hPlc, hShf, hSiz, hCel, hPln, hLeg⟩ := id h
            subst hS1
            simp (decide := true) only [xInv, jLeg, aLg, pT, xrd_ne, xrd_same, xrd_K, cS_ne, cS_2, vupd_eq, vupd_ne, cS_r5, cS_r0]
            exact ⟨hRef, hCnt, hBld, ⟨l + 1, by omega, nI_1 l, nI_1 l⟩, hEmb, hFil, hNow, hPal, hRnt, hMst, hTrn, hOnt, hPai, trivial, hBeg, hDsk, hRnk, hWav, hSty, hMov, hTie, hRom, hRdy, hBec, hFlk, hHer, hTrt, hTvl, hSet, hQui, hFre, jLaw_new hLaw (by rw [hl1, nI_1, xN_nI (by omega), xN_nI (by omega)]; omega) l _ _ _, hEmR, hPlc, hShf, hSiz, hCel, hPln, hLeg⟩
      · have l6' : l = 6 := by omega
        subst l6'
        have q1 : ¬ nI 6 < 6 := by decide
        have q2 : nI 6 = 6 := by decide
        have hmT : lmC (xwI (cS S (-1) ow' nu' fw') 1 7 (S.1 1 7 + 1)) s m c := ⟨by omega, by rw [xrd_ne _ _ _ _ _ (by decide), cS_ne _ _ _ _ _ _ (by decide)]; exact k2, hm, fun p _ => (hc p).symm⟩
        obtain ⟨ok2, p2, ow2, nu2, fw2, hp2, f1, f2⟩ := law_all hx hmT (S.1 19 7) (S.1 19 8)
        have eq := (e1 0 (none, cS S (-1) ow' nu' fw')).mpr rfl
        have eq2 := (f1 0 _).mp eq
        have fe : (-1 : Int32) = (bif ok2 then -1 else nI p2) := by
          have := congrArg (fun z : Option Value × xS => z.2.1 19 5) eq2
          simpa only [cS_r5] using this
        cases ok2 with
        | false => exact absurd fe.symm (nI_nem1 (by omega))
        | true =>
          refine xOp_mk (z := -7) (S1 := xwI (cS S (-1) ow' nu' fw') 1 7 (S.1 1 7 + 1)) (S2 := xwI (xwI (pT (xwI (cS S (-1) ow' nu' fw') 1 7 (S.1 1 7 + 1)) p2) 54 14 (-1)) 84 7 (S.1 84 7 + 1)) (fun r => ?_) (fun r => ?_) ?_
          · refine (base r).trans ?_
            rw [if_pos rfl, if_neg q1]
            refine ((x100r _ 7 (Or.inr rfl) r).2 rfl).trans ?_
            rw [cS_ne _ _ _ _ _ 1 (by decide)]
          · have f2' := f2 57 r
            simp only [mOut] at f2'
            have r71 : (xwI (cS S (-1) ow' nu' fw') 1 7 (S.1 1 7 + 1)).1 71 s = 1 := by rw [xrd_ne _ _ _ _ _ (by decide), cS_ne _ _ _ _ _ _ (by decide)]; exact g2
            simp (decide := true) only [b168_0, b118_0, b118_4, b118_10, b118_14, x_lt8, c1, c2, b168_4, b168_13, b168_30, es, is, r71, ↓reduceIte, xtl, exists_eq_left, and_assoc, exists_and_left, xbit_0, xbit_1, true_and, not_true_eq_false, not_false_eq_true]
            refine f2'.trans ?_
            have r54 : (xwI (pT (xwI (cS S (-1) ow' nu' fw') 1 7 (S.1 1 7 + 1)) p2) 54 14 (-1)).1 54 2 = nI 6 := by
              rw [xrd_n2 _ _ _ _ _ (by decide)]
              unfold pT
              rw [xrd_n2 _ _ _ _ _ (by decide), xrd_ne _ _ _ _ _ (by decide), cS_ne _ _ _ _ _ _ (by decide)]
              exact hl2
            have r84 : (xwI (pT (xwI (cS S (-1) ow' nu' fw') 1 7 (S.1 1 7 + 1)) p2) 54 14 (-1)).1 84 7 = S.1 84 7 := by rw [xrd_ne _ _ _ _ _ (by decide), pT_ne _ _ _ (by decide), xrd_ne _ _ _ _ _ (by decide), cS_ne _ _ _ _ _ _ (by decide)]
            rw [b168_249, r54, if_pos q2]
            refine ((m168r _ r).2).trans ?_
            rw [r84]
          · obtain ⟨hRef, hCnt, hBld, hLwc, hEmb, hFil, hNow, hPal, hRnt, hMst, hTrn, hOnt, hPai, hFlt, hBeg, hDsk, hRnk, hWav, hSty, hMov, hTie, hRom, hRdy, hBec, hFlk, hHer, hTrt, hTvl, hSet, hQui, hFre, hLaw, hEmR, hPlc, hShf, hSiz, hCel, hPln, hLeg⟩ := id h
            simp (decide := true) only [xInv, jLeg, aLg, pT, xrd_ne, xrd_same, xrd_K, cS_ne, cS_2, vupd_eq, vupd_ne, cS_r5, cS_r0]
            exact ⟨iEq_upd hRef 7 _ _ (by rw [hRef 7 (by decide)]), hCnt, hBld, hLwc, hEmb, hFil, hNow, hPal, hRnt, hMst, hTrn, hOnt, hPai, trivial, hBeg, hDsk, hRnk, hWav, hSty, hMov, hTie, hRom, hRdy, hBec, hFlk, hHer, hTrt, hTvl, hSet, hQui, hFre, hLaw, hEmR, hPlc, hShf, hSiz, hCel, hPln, hLeg⟩
