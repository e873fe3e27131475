theorem x90r (U : xS) (r : Option Value × xS) : (xX 59 90 35 [(0, .ref 0)] [] U r ↔ r = (some (.int (-5)), xwI U 1 5 (U.1 1 5 + 1))) ∧ (xX 59 90 90 [(0, .ref 0)] [] U r ↔ r = (some (.int (-6)), xwI U 1 6 (U.1 1 6 + 1))) := by
  refine ⟨?_, ?_⟩
  · simp (decide := true) only [b90_35, b90_41, b68_0, b68_7, b68_10, b68_21, b25_0, b25_5, b25_10, b25_14, ↓reduceIte, xtl, exists_eq_left, and_assoc, exists_and_left, xbit_1, xbit_0, true_and, Int32.neg_neg, xn5, xv5]
  · simp (decide := true) only [b90_90, b90_96, b68_0, b68_7, b68_10, b68_21, b25_0, b25_5, b25_10, b25_14, ↓reduceIte, xtl, exists_eq_left, and_assoc, exists_and_left, xbit_1, xbit_0, true_and, Int32.neg_neg, xn6, xv6]
theorem m137r (U : xS) (r : Option Value × xS) : (xX 59 137 59 [(0, .ref 54)] [] U r ↔ r = (some (.int (-5)), xwI U 84 5 (U.1 84 5 + 1))) ∧ (xX 59 137 130 [(0, .ref 54)] [] U r ↔ r = (some (.int (-6)), xwI U 84 6 (U.1 84 6 + 1))) := by
  refine ⟨?_, ?_⟩
  · simp (decide := true) only [b137_59, b137_65, b114_0, ↓reduceIte, xtl, exists_eq_left, and_assoc, exists_and_left, true_and, Int32.neg_neg, xn5, xv5]
  · simp (decide := true) only [b137_130, b137_136, b114_0, ↓reduceIte, xtl, exists_eq_left, and_assoc, exists_and_left, true_and, Int32.neg_neg, xn6, xv6]
theorem t90e (d : Nat) (v1 z : Int32) (i : Nat) (hi : i = 1 ∨ i = 2 ∨ i = 3) (hz : z = -(nI i)) (S : xS) (r : Option Value × xS) (h : ∀ (d : Nat) r, xX (d + 2) 80 0 [(0, .ref 0), (1, .int v1)] [] S r ↔ r = (some (.int z), S)) : xX (d + 3) 90 0 [(0, .ref 0), (1, .int v1)] [] S r ↔ r = (some (.int z), xwI S 1 i (S.1 1 i + 1)) := by
  have e1 : - nI 1 = -1 := by decide
  have e2 : - nI 2 = -2 := by decide
  have e3 : - nI 3 = -3 := by decide
  rcases hi with y | y | y <;> subst y <;> subst hz
  · rw [e1] at h ⊢
    simp (decide := true) only [b90_0, h, exists_eq_left, xtl, b90_5, b90_10, b90_15, b68_0, b68_7, b68_10, b68_21, b25_0, b25_5, b25_10, b25_14, ↓reduceIte, and_assoc, exists_and_left, xbit_1, xbit_0, true_and, Int32.neg_neg, xn1, xv1]
  · rw [e2] at h ⊢
    simp (decide := true) only [b90_0, h, exists_eq_left, xtl, b90_5, b90_10, b90_15, b68_0, b68_7, b68_10, b68_21, b25_0, b25_5, b25_10, b25_14, ↓reduceIte, and_assoc, exists_and_left, xbit_1, xbit_0, true_and, Int32.neg_neg, xn2, xv2]
  · rw [e3] at h ⊢
    simp (decide := true) only [b90_0, h, exists_eq_left, xtl, b90_5, b90_10, b90_15, b68_0, b68_7, b68_10, b68_21, b25_0, b25_5, b25_10, b25_14, ↓reduceIte, and_assoc, exists_and_left, xbit_1, xbit_0, true_and, Int32.neg_neg, xn3, xv3]
theorem LgA_w {n : Nat} {w w' D H P dr fr sr : Nat → Nat} {M v : Nat} (h : ∀ k, k < n → w' k = w k ∨ (v < w k ∧ v < w' k)) (hl : LgA n w D H P dr fr sr M v) : LgA n w' D H P dr fr sr M v := by
  unfold LgA at *
  have e1 : ∀ X : Nat → Nat, sN (fun k => if w' k ≤ v then X k else 0) n = sN (fun k => if w k ≤ v then X k else 0) n := fun X => sN_congr (fun k hk => by
    rcases h k hk with e | ⟨e, e'⟩
    · rw [e]
    · rw [if_neg (by omega), if_neg (by omega)])
  have e2 : ∀ X : Nat → Nat, sN (fun k => if w' k = v then X k else 0) n = sN (fun k => if w k = v then X k else 0) n := fun X => sN_congr (fun k hk => by
    rcases h k hk with e | ⟨e, e'⟩
    · rw [e]
    · rw [if_neg (by omega), if_neg (by omega)])
  rw [e1, e2, e1, e1]
  exact hl
theorem op_gives (S : xS) (v1 : Int32) (h : xInv S) : xOpI xInv 90 137 [(1, .int v1)] S := by
  by_cases c1 : v1 < 0
  · refine xOp_ref (z := -1) 1 (by decide) h (fun r => t90e 56 v1 (-1) 1 (by decide) (by decide) S r (fun d r => (t80 d v1 S r (by simp only [g80, c1, ↓reduceIte])).trans (by simp only [p80, c1, ↓reduceIte]))) (fun r => ?_)
    simp (decide := true) only [b137_0, b118_0, b118_4, b118_10, b118_14, c1, b137_4, b137_7, b137_12, b114_0, ↓reduceIte, xtl, exists_eq_left, and_assoc, exists_and_left, xbit_0, xbit_1, true_and, Int32.neg_neg, xn1, xv1, xrd_ne]
  by_cases c2 : 7 < v1
  · refine xOp_ref (z := -1) 1 (by decide) h (fun r => t90e 56 v1 (-1) 1 (by decide) (by decide) S r (fun d r => (t80 d v1 S r (by simp only [g80, c1, c2, ↓reduceIte])).trans (by simp only [p80, c1, c2, ↓reduceIte]))) (fun r => ?_)
    simp (decide := true) only [b137_0, b118_0, b118_4, b118_10, b118_14, x_lt8, c1, c2, b137_4, b137_7, b137_12, b114_0, ↓reduceIte, xtl, exists_eq_left, and_assoc, exists_and_left, xbit_0, xbit_1, true_and, Int32.neg_neg, xn1, xv1, xrd_ne, not_true_eq_false, not_false_eq_true]
  obtain ⟨s, hs, rfl⟩ := xIdxL (n := 7) (b := 7) (by decide) (by omega) c1 c2
  have es : (nI s).toNatClampNeg = s := nI_clamp (by omega)
  have is := vp_in_nI (show s < 8 by omega) (by omega : 8 < 2 ^ 31)
  have n02 : ¬ (0 : Int32) = 2 := by decide
  have n12 : ¬ (1 : Int32) = 2 := by decide
  have n10 : ¬ (1 : Int32) = 0 := by decide
  rcases h.hShf s (by omega) with ⟨g1, g2⟩ | ⟨o, ho, g1, g2, g3⟩ | ⟨q, hq, g1, g2, g3⟩
  · refine xOp_ref (z := -3) 3 (by decide) h (fun r => t90e 56 (nI s) (-3) 3 (by decide) (by decide) S r (fun d r => (t80 d (nI s) S r (by simp (decide := true) only [g80, c1, c2, es, is, g1, ↓reduceIte, and_true])).trans (by simp (decide := true) only [p80, c1, c2, es, g1, ↓reduceIte]))) (fun r => ?_)
    simp (decide := true) only [b137_0, b118_0, b118_4, b118_10, b118_14, x_lt8, c1, c2, b137_4, b137_13, b137_30, b137_39, b137_45, b114_0, es, is, g2, n02, ↓reduceIte, xtl, exists_eq_left, and_assoc, exists_and_left, xbit_0, xbit_1, true_and, Int32.neg_neg, xn3, xv3, xrd_ne, not_true_eq_false, not_false_eq_true]
  · have hn10 := h.cnt.1
    have u1 : nI o < 100 := by rw [show (100 : Int32) = nI 100 by decide]; exact nI_lt (by omega) (by omega)
    have u2 : ¬ nI o = -1 := nI_nem1 (by omega)
    refine xOp_ref (z := -2) 2 (by decide) h (fun r => t90e 56 (nI s) (-2) 2 (by decide) (by decide) S r (fun d r => (t80 d (nI s) S r (by simp (decide := true) only [g80, c1, c2, es, is, g1, u1, ↓reduceIte, and_true])).trans (by simp (decide := true) only [p80, c1, c2, es, g1, u1, u2, ↓reduceIte]))) (fun r => ?_)
    simp (decide := true) only [b137_0, b118_0, b118_4, b118_10, b118_14, x_lt8, c1, c2, b137_4, b137_13, b137_23, b137_29, b114_0, es, is, g2, ↓reduceIte, xtl, exists_eq_left, and_assoc, exists_and_left, xbit_0, xbit_1, true_and, Int32.neg_neg, xn2, xv2, xrd_ne, not_true_eq_false, not_false_eq_true]
  obtain ⟨hn10, hn1, hn2⟩ := h.cnt
  obtain ⟨hw5, hw1, hw2⟩ := h.now
  have u1 : ¬ nI (100 + q) < 100 := by rw [show (100 : Int32) = nI 100 by decide]; exact nI_nlt (by omega) (by omega)
  obtain ⟨m, hm, k1, k2⟩ := h.hSiz s (by omega)
  obtain ⟨c, hc⟩ : ∃ c : Nat → Int32, ∀ p, c p = (S.2.1 75 (60 * s + p)).toInt32 := ⟨_, fun _ => rfl⟩
  have hx : lxC S s q m c := ⟨by omega, g1, k1, hm, hq, fun p hp => by rw [hc, h.hCel s (by omega) p (by omega)]⟩
  have h80 : ∀ (d : Nat) r, xX (d + 2) 80 0 [(0, .ref 0), (1, .int (nI s))] [] S r ↔ r = (some (.int 0), S) := fun d r => (t80 d (nI s) S r (by simp (decide := true) only [g80, c1, c2, es, is, g1, u1, ↓reduceIte, and_true])).trans (by simp (decide := true) only [p80, c1, c2, es, g1, u1, ↓reduceIte])
  have bX : ∀ r, xX 59 90 0 [(0, .ref 0), (1, .int (nI s))] [] S r ↔ (if nI m < nI (xN (S.1 2 0)) then xX 59 90 35 [(0, .ref 0)] [] S r else xX 59 90 42 [(0, .ref 0), (1, .int (nI s))] [] S r) := fun r => by
    have h80' := h80 56
    simp (decide := true) only [b90_0, h80', exists_eq_left, xtl, b90_5, b90_16, es, is, k1, ↓reduceIte, true_and]
    rw [← hn1]
  have bM : ∀ (T : xS) r, T.1 71 s = 1 → T.1 73 s = nI m → T.1 54 0 = nI (xN (S.1 2 0)) → (xX 59 137 0 [(0, .ref 54), (1, .int (nI s))] [] T r ↔ (if nI m < nI (xN (S.1 2 0)) then xX 59 137 59 [(0, .ref 54)] [] T r else xX 59 137 66 [(0, .ref 54), (1, .int (nI s))] [] T r)) := fun T r t1 t2 t3 => by
    simp (decide := true) only [b137_0, b118_0, b118_4, b118_10, b118_14, x_lt8, c1, c2, b137_4, b137_13, b137_30, b137_46, es, is, t1, t2, t3, n12, n10, ↓reduceIte, xtl, exists_eq_left, and_assoc, exists_and_left, xbit_0, xbit_1, true_and, not_true_eq_false, not_false_eq_true]
  by_cases hmn : m < xN (S.1 2 0)
  · have l1 : nI m < nI (xN (S.1 2 0)) := nI_lt hmn (by omega)
    refine xOp_ref (z := -5) 5 (by decide) h (fun r => (bX r).trans (by rw [if_pos l1]; exact (x90r S r).1)) (fun r => (bM _ r (by rw [xrd_ne _ _ _ _ _ (by decide)]; exact g2) (by rw [xrd_ne _ _ _ _ _ (by decide)]; exact k2) (by rw [xrd_ne _ _ _ _ _ (by decide)]; exact hn2)).trans ?_)
    rw [if_pos l1]
    refine ((m137r _ r).1).trans ?_
    rw [xrd_ne _ _ _ _ _ (by decide)]
  have l1 : ¬ nI m < nI (xN (S.1 2 0)) := nI_nlt (by omega) (by omega)
  generalize hN : xN (S.1 2 0) = n at hn10 hn1 hn2 hmn l1 bX bM
  have hy : ∀ k, k < n → (if S.1 5 k = 5 then -1 else S.1 5 k) = S.1 57 k := fun k hk => by
    obtain ⟨w1, w2, w3⟩ := h.wav (show k < 10 by omega)
    by_cases z : S.1 5 k = 5
    · rw [if_pos z, (jWav_none h.hWav (by omega)).mp z]
    · rw [if_neg z, w3, if_neg (fun y => z (by rw [w2, y]; rfl))]; exact w2
  by_cases hall : ∀ k, k < n → gOk (S.1 7) (S.1 6) (S.1 0 10) c (S.1 57) k
  case neg =>
    obtain ⟨k0, hk0, hno, hbe⟩ := least_not hall
    refine xOp_ref (z := -6) 6 (by decide) h (fun r => ?_) (fun r => ?_)
    · refine (bX r).trans ?_
      rw [if_neg l1, b90_42]
      have key := xX_loop (d := 59) (f := 90) (pc := 44) (st := []) (fun j => ([(0, .ref 0), (1, .int (nI s)), (3, .int (nI j))], S)) k0 (fun j hj r => (x90s hx (by omega) hn10 hn1 (show j < n by omega) (hy j (by omega))).1 (hbe j hj) r) r
      simp only [nI_0] at key
      refine key.trans (((x90s hx (by omega) hn10 hn1 hk0 (hy k0 hk0)).2 hno r).trans (x90r S r).2)
    · have rne : ∀ cc, cc ≠ 1 → (xwI S 1 6 (S.1 1 6 + 1)).1 cc = S.1 cc := fun cc hcc => xrd_ne _ _ _ _ _ hcc
      refine (bM _ r (by rw [rne _ (by decide)]; exact g2) (by rw [rne _ (by decide)]; exact k2) (by rw [rne _ (by decide)]; exact hn2)).trans ?_
      rw [if_neg l1, b137_66]
      have st := fun (k : Nat) (hk : k < n) (cn : Int32) => m137s (T := xwI S 1 6 (S.1 1 6 + 1)) (c := c) (s := s) (m := m) (n := n) (by omega) (fun p _ => (hc p).symm) hm (by omega) hn10 (by rw [rne _ (by decide)]; exact hn2) hk cn
      rw [rne 59 (by decide), rne 58 (by decide), rne 57 (by decide), rne 54 (by decide)] at st
      have gg : ∀ k, k < n → (gOk (S.1 59) (S.1 58) (S.1 54 5) c (S.1 57) k ↔ gOk (S.1 7) (S.1 6) (S.1 0 10) c (S.1 57) k) := fun k hk => by
        unfold gOk
        rw [h.hMov.eq (show k < 10 by omega), h.hSty.eq (show k < 10 by omega), hw2, ← hw1]
      have key := xX_loop (d := 59) (f := 137) (pc := 70) (st := []) (fun j => ([(0, .ref 54), (1, .int (nI s)), (2, .int (xsum (fun k => if c k = S.1 57 k then 0 else 1) j)), (3, .int (nI j))], xwI S 1 6 (S.1 1 6 + 1))) k0 (fun j hj r => (st j (by omega) _).1 ((gg j (by omega)).mpr (hbe j hj)) r) r
      simp only [nI_0] at key
      refine key.trans (((st k0 hk0 _).2 (fun z => hno ((gg k0 hk0).mp z)) r).trans (((m137r _ r).2).trans ?_))
      rw [rne 84 (by decide)]
  -- all may be given
  have hS2 : xset S 5 (gvX (S.1 5) c (S.1 57) n) = xset S 5 (gvX (S.1 5) c (S.1 57) n) := rfl
  have rne : ∀ cc, cc ≠ 5 → (xset S 5 (gvX (S.1 5) c (S.1 57) n)).1 cc = S.1 cc := fun cc hcc => xset_ne _ _ _ _ hcc
  have gg : ∀ k, k < n → gOk (S.1 59) (S.1 58) (S.1 54 5) c (S.1 57) k := fun k hk => by
    have z := hall k hk
    unfold gOk at z ⊢
    rw [h.hMov.eq (show k < 10 by omega), h.hSty.eq (show k < 10 by omega), hw2, ← hw1]
    exact z
  refine xOp_mk (z := xsum (fun k => if c k = S.1 57 k then 0 else 1) n) (S1 := xset S 5 (gvX (S.1 5) c (S.1 57) n)) (S2 := xset (xset S 5 (gvX (S.1 5) c (S.1 57) n)) 57 (gvM (S.1 57) c n)) (fun r => ?_) (fun r => ?_) ?_
  · refine (bX r).trans ?_
    rw [if_neg l1, b90_42]
    have key := xX_loop (d := 59) (f := 90) (pc := 44) (st := []) (fun j => ([(0, .ref 0), (1, .int (nI s)), (3, .int (nI j))], S)) n (fun j hj r => (x90s hx (by omega) hn10 hn1 hj (hy j hj)).1 (hall j hj) r) r
    simp only [nI_0] at key
    refine key.trans ?_
    rw [b90_44, hn1, if_neg (nI_nlt (Nat.le_refl n) (by omega))]
    exact x90w hx (by omega) hn10 hn1 hy r
  · refine (bM _ r (by rw [rne _ (by decide)]; exact g2) (by rw [rne _ (by decide)]; exact k2) (by rw [rne _ (by decide)]; exact hn2)).trans ?_
    rw [if_neg l1, b137_66]
    have st := fun (k : Nat) (hk : k < n) (cn : Int32) => m137s (T := xset S 5 (gvX (S.1 5) c (S.1 57) n)) (c := c) (s := s) (m := m) (n := n) (by omega) (fun p _ => (hc p).symm) hm (by omega) hn10 (by rw [rne _ (by decide)]; exact hn2) hk cn
    rw [rne 59 (by decide), rne 58 (by decide), rne 57 (by decide), rne 54 (by decide)] at st
    have key := xX_loop (d := 59) (f := 137) (pc := 70) (st := []) (fun j => ([(0, .ref 54), (1, .int (nI s)), (2, .int (xsum (fun k => if c k = S.1 57 k then 0 else 1) j)), (3, .int (nI j))], xset S 5 (gvX (S.1 5) c (S.1 57) n))) n (fun j hj r => (st j hj _).1 (gg j hj) r) r
    simp only [nI_0] at key
    refine key.trans ?_
    rw [b137_70, rne 54 (by decide), hn2, if_neg (nI_nlt (Nat.le_refl n) (by omega))]
    have fin := m137w (T := xset S 5 (gvX (S.1 5) c (S.1 57) n)) (c := c) (s := s) (m := m) (n := n) (by omega) (fun p _ => (hc p).symm) hm (by omega) hn10 (by rw [rne _ (by decide)]; exact hn2) (xsum (fun k => if c k = S.1 57 k then 0 else 1) n) r
    rw [rne 57 (by decide)] at fin
    exact fin
  · -- what the new waves are
    have nw : ∀ k, k < 10 → (gvX (S.1 5) c (S.1 57) n k = S.1 5 k ∧ gvM (S.1 57) c n k = S.1 57 k) ∨ (k < n ∧ S.1 7 k = 0 ∧ S.1 6 k = 0 ∧ ∃ w, w ≤ 5 ∧ xN (S.1 0 10) ≤ w ∧ gvX (S.1 5) c (S.1 57) n k = nI w ∧ gvM (S.1 57) c n k = (if w = 5 then -1 else nI w)) := fun k hk => by
      unfold gvX gvM
      by_cases kn : k < n
      · by_cases e : c k = S.1 57 k
        · exact Or.inl ⟨if_neg (fun z => z.2 e), by rw [if_pos kn, e]⟩
        · rw [if_pos ⟨kn, e⟩, if_pos kn]
          obtain ⟨z7, z6, z⟩ := (hall k kn).resolve_left e
          refine Or.inr ⟨kn, z7, z6, ?_⟩
          rcases z with z | ⟨z1, z2, z3⟩
          · exact ⟨5, by decide, hw5, by rw [if_pos z]; rfl, by rw [if_pos rfl, z]⟩
          · obtain ⟨b, hb, hbe⟩ := xIdx (n := 5) (b := 5) (by decide) (by omega) z1 z2
            rw [hbe, hw1, nI_ltI (by omega) (by omega)] at z3
            exact ⟨b, by omega, by omega, by rw [if_neg (by rw [hbe]; exact nI_nem1 (by omega)), hbe], by rw [if_neg (by omega), hbe]⟩
      · exact Or.inl ⟨if_neg (fun z => kn z.1), if_neg kn⟩
    obtain ⟨hRef, hCnt, hBld, hLwc, hEmb, hFil, hNow, hPal, hRnt, hMst, hTrn, hOnt, hPai, hFlt, hBeg, hDsk, hRnk, hWav, hSty, hMov, hTie, hRom, hRdy, hBec, hFlk, hHer, hTrt, hTvl, hSet, hQui, hFre, hLaw, hEmR, hPlc, hShf, hSiz, hCel, hPln, hLeg⟩ := id h
    simp (decide := true) only [xInv, jLeg, aLg, xset_ne, xset_same]
    refine ⟨hRef, hCnt, hBld, hLwc, hEmb, hFil, hNow, hPal, hRnt, hMst, hTrn, hOnt, hPai, hFlt, hBeg, hDsk, hRnk, ?_, hSty, hMov, hTie, hRom, hRdy, hBec, hFlk, hHer, hTrt, hTvl, hSet, hQui, hFre, hLaw, hEmR, hPlc, hShf, hSiz, hCel, ?_, ?_⟩
    · intro k hk
      rcases nw k hk with ⟨e1, e2⟩ | ⟨-, -, -, w, e1, -, e2, e3⟩
      · rw [e1, e2]; exact hWav k hk
      · exact ⟨w, e1, e2, e3⟩
    · intro k hk
      rcases nw k hk with ⟨e1, -⟩ | ⟨e0, z7, z6, w, e1, e4, e2, -⟩
      · rw [e1]; exact hPln k hk
      · rw [e2, xN_nI (by omega)]
        obtain ⟨p1, p2, p3⟩ := hPln k hk
        exact ⟨fun _ => ⟨fun y => absurd z7 y, fun y => absurd y (by omega)⟩, fun y => absurd z6 y, p3⟩
    · intro v hv
      refine LgA_w (w := fun k => xN (S.1 5 k)) (fun k hk => ?_) (hLeg v hv)
      have hk10 : k < 10 := by omega
      rcases nw k hk10 with ⟨e1, -⟩ | ⟨e0, z7, z6, w, e1, e4, e2, -⟩
      · exact Or.inl (by rw [e1])
      · refine Or.inr ⟨?_, by rw [e2, xN_nI (by omega)]; omega⟩
        have := (hPln k hk10).1 (by rw [hN]; exact e0)
        rcases Nat.lt_or_ge (xN (S.1 5 k)) (xN (S.1 0 10)) with x | x
        · exact absurd z7 (this.mpr x)
        · show v < xN (S.1 5 k)
          omega
