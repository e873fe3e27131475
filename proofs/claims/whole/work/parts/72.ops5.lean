/-! row, begin, cut, cost, pay -/
theorem t79n (d : Nat) (v1 v2 v3 : Int32) (S : xS) (r : Option Value × xS) (h : v1 < 0 ∨ 7 < v1) : xX (d + 2) 79 0 [(0, .ref 0), (1, .int v1), (2, .int v2), (3, .int v3)] [] S r ↔ r = (some (.int (-1)), xwI S 1 1 (S.1 1 1 + 1)) := by
  by_cases c5 : v1 < 0
  · simp (decide := true) only [b79_0, b79_4, b79_7, b79_13, b79_12, b79_17, b78_0, b78_7, b68_0, b68_7, b68_10, b68_21, b25_0, b25_5, b25_10, b25_14, c5, ↓reduceIte, xtl, xtl0, exists_eq_left, and_assoc, exists_and_left, true_and, xbit_0, xbit_1, Int32.neg_neg, xn1, xv1]
  · have c6 : 7 < v1 := h.resolve_left c5
    simp (decide := true) only [b79_0, b79_4, b79_7, b79_13, b79_12, b79_17, b78_0, b78_7, b68_0, b68_7, b68_10, b68_21, b25_0, b25_5, b25_10, b25_14, c5, c6, ↓reduceIte, xtl, xtl0, exists_eq_left, and_assoc, exists_and_left, true_and, xbit_0, xbit_1, Int32.neg_neg, xn1, xv1]
theorem t127n (d : Nat) (v1 v2 v3 : Int32) (S : xS) (r : Option Value × xS) (h : v1 < 0 ∨ ¬ v1 < 8) : xX (d + 1) 127 0 [(0, .ref 54), (1, .int v1), (2, .int v2), (3, .int v3)] [] S r ↔ r = (some (.int (-1)), xwI S 84 1 (S.1 84 1 + 1)) := by
  by_cases c5 : v1 < 0
  · simp (decide := true) only [b127_0, b127_4, b127_7, b127_13, b127_12, b127_17, b118_0, b118_4, b118_10, b118_14, b114_0, c5, ↓reduceIte, xtl, xtl0, exists_eq_left, and_assoc, exists_and_left, true_and, xbit_0, xbit_1, Int32.neg_neg, xn1, xv1]
  · have c6 : ¬ v1 < 8 := h.resolve_left c5
    simp (decide := true) only [b127_0, b127_4, b127_7, b127_13, b127_12, b127_17, b118_0, b118_4, b118_10, b118_14, b114_0, c5, c6, ↓reduceIte, xtl, xtl0, exists_eq_left, and_assoc, exists_and_left, true_and, xbit_0, xbit_1, Int32.neg_neg, xn1, xv1]
theorem xsetJ_1 (S : xS) (c : Nat) (f : Nat → Int64) : (xsetJ S c f).1 = S.1 := rfl
theorem xsetJ_2 (S : xS) (c : Nat) (f : Nat → Int64) (a b : Nat) : (xsetJ S c f).2.1 a b = if a = c then f b else S.2.1 a b := rfl
theorem xsetJ_3 (S : xS) (c : Nat) (f : Nat → Int64) : (xsetJ S c f).2.2 = S.2.2 := rfl
theorem jCel_row {S : xS} (h : jCel S.2.1) {s : Nat} (hs : s < 8) : jCel (xsetJ (xsetJ S (xrb + s) (xzf (S.2.1 (xrb + s)) 0 60)) 75 (xzf ((xsetJ S (xrb + s) (xzf (S.2.1 (xrb + s)) 0 60)).2.1 75) (60 * s) 60)).2.1 := by
  intro j hj k hk
  have e75 : ¬ xrb + j = 75 := by unfold xrb; omega
  have es : ¬ 75 = xrb + s := by unfold xrb; omega
  simp only [xsetJ_2]
  rw [if_neg e75, if_pos trivial]
  unfold xzf
  by_cases e : j = s
  · subst e
    rw [if_pos rfl, if_pos (by omega), if_pos (by omega)]
  · rw [if_neg (by omega), if_neg (by omega), xsetJ_2, if_neg es]
    exact h j hj k hk
theorem op_row (S : xS) (v1 v2 v3 : Int32) (h : xInv S) : xOpI xInv 79 127 [(1, .int v1), (2, .int v2), (3, .int v3)] S := by
  by_cases c1 : v1 < 0
  · exact xOp_ref 1 (by decide) h (fun r => t79n 57 v1 v2 v3 S r (Or.inl c1)) (fun r => t127n 58 v1 v2 v3 _ r (Or.inl c1))
  by_cases c2 : 7 < v1
  · exact xOp_ref 1 (by decide) h (fun r => t79n 57 v1 v2 v3 S r (Or.inr c2)) (fun r => t127n 58 v1 v2 v3 _ r (Or.inr (by rw [x_lt8]; exact not_not_intro c2)))
  obtain ⟨s, hs, rfl⟩ := xIdxL (n := 7) (b := 7) (by decide) (by omega) c1 c2
  have hs8 : s < 8 := by omega
  have hx := fun r => t79 57 s hs8 v2 v3 S r
  have hm := fun S r => t127 58 s hs8 v2 v3 S r
  by_cases c3 : v3 < 0
  · exact xOp_ref 4 (by decide) h (fun r => (hx r).trans (by rw [if_pos c3])) (fun r => (hm _ r).trans (by rw [if_pos c3]; simp (decide := true) only [xrd_ne]))
  by_cases c4 : v2 < 0
  · exact xOp_ref 6 (by decide) h (fun r => (hx r).trans (by rw [if_neg c3, if_pos c4])) (fun r => (hm _ r).trans (by rw [if_neg c3, if_pos c4]; simp (decide := true) only [xrd_ne]))
  by_cases c5 : 3 < v2
  · exact xOp_ref 6 (by decide) h (fun r => (hx r).trans (by rw [if_neg c3, if_neg c4, if_pos c5])) (fun r => (hm _ r).trans (by rw [if_neg c3, if_neg c4, if_pos c5]; simp (decide := true) only [xrd_ne]))
  by_cases c6 : 60 < v3
  · exact xOp_ref 7 (by decide) h (fun r => (hx r).trans (by rw [if_neg c3, if_neg c4, if_neg c5, if_pos c6])) (fun r => (hm _ r).trans (by rw [if_neg c3, if_neg c4, if_neg c5, if_pos c6]; simp (decide := true) only [xrd_ne]))
  obtain ⟨q, hq, rfl⟩ := xIdxL (n := 3) (b := 3) (by decide) (by omega) c4 c5
  obtain ⟨m, hm60, rfl⟩ := xIdxL (n := 60) (b := 60) (by decide) (by omega) c3 c6
  refine xOp_mk (fun r => (hx r).trans (by rw [if_neg c3, if_neg c4, if_neg c5, if_neg c6])) (fun r => (hm _ r).trans (by rw [if_neg c3, if_neg c4, if_neg c5, if_neg c6])) ?_
  obtain ⟨hRef, hCnt, hBld, hLwc, hEmb, hFil, hNow, hPal, hRnt, hMst, hTrn, hOnt, hPai, hFlt, hBeg, hDsk, hRnk, hWav, hSty, hMov, hTie, hRom, hRdy, hBec, hFlk, hHer, hTrt, hTvl, hSet, hQui, hFre, hLaw, hEmR, hPlc, hShf, hSiz, hCel, hPln, hLeg⟩ := id h
  have e100 : (100 : Int32) + nI q = nI (100 + q) := by rw [show (100 : Int32) = nI 100 by decide, nI_add]
  have hC := jCel_row hCel hs8
  rw [e100]
  refine ⟨?_, ?_⟩
  · simp (decide := true) only [xrd_ne, xsetJ_1]; exact hRef
  simp (decide := true) only [jLeg, aLg, xrd_ne, xrd_same, xsetJ_1]
  exact ⟨hCnt, hBld, hLwc, hEmb, hFil, hNow, hPal, hRnt, hMst, hTrn, hOnt, hPai, hFlt, hBeg, hDsk, hRnk, hWav, hSty, hMov, hTie, hRom, hRdy, hBec, hFlk, hHer, hTrt, hTvl, hSet, hQui, hFre, hLaw, hEmR, hPlc, jShf_row hShf (by omega), iArr_upd hSiz s m hm60, hC, hPln, hLeg⟩
theorem jWav_none {a b : Nat → Int32} (h : jWav a b) {k : Nat} (hk : k < 10) : (a k = 5 ↔ b k = -1) := by
  obtain ⟨w, h1, h2, h3⟩ := h k hk
  rw [h2, h3]
  by_cases e : w = 5
  · rw [if_pos e, e]; decide
  · rw [if_neg e]
    constructor
    · intro z; exact absurd ((nI_eq (a := w) (b := 5) (by omega) (by omega)).mp z) e
    · intro z; exact absurd (show nI w < 0 by rw [z]; decide) (nI_pos (by omega))
theorem op_begin (S : xS) (h : xInv S) : xOpI xInv 96 157 [] S := by
  obtain ⟨hRef, hCnt, hBld, hLwc, hEmb, hFil, hNow, hPal, hRnt, hMst, hTrn, hOnt, hPai, hFlt, hBeg, hDsk, hRnk, hWav, hSty, hMov, hTie, hRom, hRdy, hBec, hFlk, hHer, hTrt, hTvl, hSet, hQui, hFre, hLaw, hEmR, hPlc, hShf, hSiz, hCel, hPln, hLeg⟩ := id h
  obtain ⟨n, hn, hn1, hn2⟩ := id hCnt
  obtain ⟨hbE, hbb, hb0⟩ := id hBeg
  have hx := fun r => t96 57 S r hn hn1
  by_cases c : S.1 0 9 = 0
  · have hm := fun r => t157 58 (xwI S 0 9 1) r hn (by rw [xrd_ne _ _ _ _ _ (by decide)]; exact hn2)
    refine xOp_mk (fun r => (hx r).trans (by rw [if_pos c])) (S2 := xwI (xwI S 0 9 1) 54 15 1) (fun r => (hm r).trans ?_) ?_
    · rw [if_pos (by rw [xrd_ne _ _ _ _ _ (by decide), hbE, c]), xrd_ne _ _ _ _ _ (by decide)]
      have : xsum (fun k => if S.1 57 k = -1 then (0 : Int32) else 1) n = xsum (fun k => if S.1 5 k = 5 then (0 : Int32) else 1) n := xsum_congr (fun k hk => by
        by_cases e : S.1 5 k = 5
        · rw [if_pos e, if_pos ((jWav_none hWav (by omega)).mp e)]
        · rw [if_neg e, if_neg (fun z => e ((jWav_none hWav (by omega)).mpr z))])
      rw [this]
    · simp (decide := true) only [xInv, jLeg, aLg, xrd_ne, xrd_same, xrd_K, xrd_J, vupd_eq, vupd_ne]
      exact ⟨hRef, hCnt, hBld, hLwc, hEmb, hFil, hNow, hPal, hRnt, hMst, hTrn, hOnt, hPai, hFlt, ⟨rfl, Or.inr rfl, fun z => absurd z (by decide)⟩, hDsk, hRnk, hWav, hSty, hMov, hTie, hRom, hRdy, hBec, hFlk, hHer, hTrt, hTvl, hSet, hQui, hFre, hLaw, hEmR, hPlc, hShf, hSiz, hCel, hPln, hLeg⟩
  · have hm := fun r => t157 58 (xwI S 1 6 (S.1 1 6 + 1)) r hn (by rw [xrd_ne _ _ _ _ _ (by decide)]; exact hn2)
    exact xOp_ref 6 (by decide) h (fun r => (hx r).trans (by rw [if_neg c])) (fun r => (hm r).trans (by rw [xrd_ne _ _ _ _ _ (by decide), hbE, if_neg c, xrd_ne _ _ _ _ _ (by decide)]))
theorem xov_wav {a b : Nat → Int32} (h : jWav a b) {k u : Nat} (hk : k < 10) (hu : u < 5) : xov (b k) (nI u) = if nI u < a k then 0 else 1 := by
  obtain ⟨w, h1, h2, h3⟩ := h k hk
  rw [h2, h3]
  unfold xov
  by_cases e : w = 5
  · subst e
    rw [if_pos rfl, if_pos rfl, if_pos (nI_lt hu (by omega))]
  · rw [if_neg e, if_neg (fun z => absurd (show nI w < 0 by rw [z]; decide) (nI_pos (by omega)))]
theorem xcut_eq {t t' a b : Nat → Int32} (h : jWav a b) (ht : ∀ k, k < 100 → t' k = t k) {u n : Nat} (hn : n ≤ 10) (hu : u < 5) : xcutM t' b (nI u) n = xcut t a (nI u) n := by
  refine xsum_congr (fun i hi => xsum_congr (fun j hj => ?_))
  show xprCM t' b (nI u) i j = xprC t a (nI u) i j
  unfold xprCM xprC
  rw [xov_wav h (by omega) hu, xov_wav h (by omega) hu, ht _ (by omega)]
  by_cases c1 : nI u < a i <;> by_cases c2 : nI u < a j <;> simp (decide := true) only [c1, c2, ↓reduceIte]
theorem op_cut (S : xS) (v1 : Int32) (h : xInv S) : xOpI xInv 93 154 [(1, .int v1)] S := by
  obtain ⟨hRef, hCnt, hBld, hLwc, hEmb, hFil, hNow, hPal, hRnt, hMst, hTrn, hOnt, hPai, hFlt, hBeg, hDsk, hRnk, hWav, hSty, hMov, hTie, hRom, hRdy, hBec, hFlk, hHer, hTrt, hTvl, hSet, hQui, hFre, hLaw, hEmR, hPlc, hShf, hSiz, hCel, hPln, hLeg⟩ := id h
  obtain ⟨n, hn, hn1, hn2⟩ := id hCnt
  have hx := fun r => t93 58 v1 S r hn hn1
  have hm := fun r => t154 58 v1 S r hn hn2
  refine xOp_mk hx (fun r => (hm r).trans ?_) h
  by_cases c1 : v1 < 0
  · rw [if_pos c1, if_pos c1]
  by_cases c2 : v1 < 5
  · obtain ⟨u, hu, rfl⟩ := xIdx (n := 5) (b := 5) (by decide) (by omega) c1 c2
    rw [if_neg c1, if_neg c1, if_pos c2, if_pos c2, xcut_eq hWav (fun k hk => hTie.1.eq hk) hn hu]
  · rw [if_neg c1, if_neg c1, if_neg c2, if_neg c2]
/-- how far two waves lie apart -/
def dst (i j : Nat) : Nat := if i < j then j - i else i - j
theorem dst_x : ∀ i, i < 6 → ∀ j, j < 6 → (if 0 ≤ nI i - nI j then nI i - nI j else 0 - (nI i - nI j)) = nI (dst i j) := by decide +kernel
theorem dst_m : ∀ i, i < 6 → ∀ j, j < 6 → (if nI i < nI j then nI j - nI i else nI i - nI j) = nI (dst i j) := by decide +kernel
theorem xwv_wav {a b : Nat → Int32} (h : jWav a b) {k : Nat} (hk : k < 10) : ∃ w, w < 6 ∧ a k = nI w ∧ xwv (b k) = nI w := by
  obtain ⟨w, h1, h2, h3⟩ := h k hk
  refine ⟨w, by omega, h2, ?_⟩
  rw [h3]
  unfold xwv
  by_cases e : w = 5
  · subst e; rw [if_pos rfl, if_pos rfl]; rfl
  · rw [if_neg e, if_neg (fun z => absurd (show nI w < 0 by rw [z]; decide) (nI_pos (by omega)))]
theorem xcost_eq {t t' a b : Nat → Int32} (h : jWav a b) (ht : ∀ k, k < 100 → t' k = t k) {n : Nat} (hn : n ≤ 10) : xcostM t' b n = xcost t a n := by
  refine xsum_congr (fun i hi => xsum_congr (fun j hj => ?_))
  show xprM t' b i j = xpr t a i j
  unfold xprM xpr
  obtain ⟨u, hu, u1, u2⟩ := xwv_wav h (show i < 10 by omega)
  obtain ⟨w, hw, w1, w2⟩ := xwv_wav h (show j < 10 by omega)
  rw [u1, u2, w1, w2, dst_x u hu w hw, dst_m u hu w hw, ht _ (by omega)]
theorem op_cost (S : xS) (h : xInv S) : xOpI xInv 94 155 [] S := by
  obtain ⟨hRef, hCnt, hBld, hLwc, hEmb, hFil, hNow, hPal, hRnt, hMst, hTrn, hOnt, hPai, hFlt, hBeg, hDsk, hRnk, hWav, hSty, hMov, hTie, hRom, hRdy, hBec, hFlk, hHer, hTrt, hTvl, hSet, hQui, hFre, hLaw, hEmR, hPlc, hShf, hSiz, hCel, hPln, hLeg⟩ := id h
  obtain ⟨n, hn, hn1, hn2⟩ := id hCnt
  exact xOp_mk (fun r => t94 58 S r hn hn1) (fun r => (t155 58 S r hn hn2).trans (by rw [xcost_eq hWav (fun k hk => hTie.1.eq hk) hn])) h
theorem xpf_eq {o i w n o' i' w' n' : Nat → Int32} {v1 v2 : Int32} : ∀ {j : Nat}, (∀ k, k < j → o' k = o k ∧ i' k = i k ∧ w' k = w k ∧ n' k = n k) → xpf o' i' w' n' v1 v2 j = xpf o i w n v1 v2 j
  | 0, _ => rfl
  | j + 1, h => by
    obtain ⟨h1, h2, h3, h4⟩ := h j (by omega)
    simp only [xpf, xpf_eq (j := j) (fun k hk => h k (by omega)), h1, h2, h3, h4]
theorem jLaw.pf {n : Int32} {a1 b1 a2 b2 a3 b3 a4 b4 : Nat → Int32} (h : jLaw n a1 b1 a2 b2 a3 b3 a4 b4) {v1 v2 : Int32} {j : Nat} (hj : j ≤ 6) : xpf b1 b4 b3 b2 v1 v2 j = xpf a1 a4 a3 a2 v1 v2 j := by
  obtain ⟨h1, h2, h3, h4, h5⟩ := h
  exact xpf_eq (fun k hk => ⟨(h1 k (by omega)).symm, h4.eq (by omega), (h3 k (by omega)).symm, (h2 k (by omega)).symm⟩)
theorem op_pay (S : xS) (v1 v2 : Int32) (h : xInv S) : xOpI xInv 104 171 [(1, .int v1), (2, .int v2)] S := by
  obtain ⟨hRef, hCnt, hBld, hLwc, hEmb, hFil, hNow, hPal, hRnt, hMst, hTrn, hOnt, hPai, hFlt, hBeg, hDsk, hRnk, hWav, hSty, hMov, hTie, hRom, hRdy, hBec, hFlk, hHer, hTrt, hTvl, hSet, hQui, hFre, hLaw, hEmR, hPlc, hShf, hSiz, hCel, hPln, hLeg⟩ := id h
  obtain ⟨n, hn, hn1, hn2⟩ := id hCnt
  obtain ⟨l, hl, hl1, hl2⟩ := id hLwc
  refine xOp_mk (fun r => t104 57 v1 v2 S r hl hl1) (fun r => (t171 58 v1 v2 S r hl hl2).trans ?_) h
  rw [hLaw.pf hl, hn1, hn2]
  have e := xhasE (n := n) (by omega) v1
  by_cases c1 : v1 < 0
  · rw [if_pos c1, if_pos c1]
  by_cases c2 : v1 < nI n
  · rw [if_neg c1, if_neg c1, if_pos c2, if_neg (show ¬ nI n - 1 < v1 by rw [e]; exact not_not_intro c2)]
  · rw [if_neg c1, if_neg c1, if_neg c2, if_pos (show nI n - 1 < v1 by rw [e]; exact c2)]
