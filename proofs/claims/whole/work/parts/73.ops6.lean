/-! people, town, status -/
theorem op_people (S : xS) (v1 v2 : Int32) (h : xInv S) : xOpI xInv 98 162 [(1, .int v1), (2, .int v2)] S := by
  obtain ⟨hRef, hCnt, hBld, hLwc, hEmb, hFil, hNow, hPal, hRnt, hMst, hTrn, hOnt, hPai, hFlt, hBeg, hDsk, hRnk, hWav, hSty, hMov, hTie, hRom, hRdy, hBec, hFlk, hHer, hTrt, hTvl, hSet, hQui, hFre, hLaw, hEmR, hPlc, hShf, hSiz, hCel, hPln, hLeg⟩ := id h
  obtain ⟨n, hn, hn1, hn2⟩ := id hCnt
  have hhas := xhasE (n := n) (by omega)
  by_cases c1 : v1 < 0
  · exact xOp_mk (z := -1) (S1 := S) (S2 := S) (fun r => (t98 57 v1 v2 S r (by simp (decide := true) only [g98, c1, ↓reduceIte])).trans (by simp (decide := true) only [p98, c1, ↓reduceIte])) (fun r => (t162 58 v1 v2 S r (by simp (decide := true) only [g162, c1, ↓reduceIte])).trans (by simp (decide := true) only [p162, c1, ↓reduceIte])) h
  by_cases c2 : v1 < nI n
  case neg => exact xOp_mk (z := -1) (S1 := S) (S2 := S) (fun r => (t98 57 v1 v2 S r (by simp (decide := true) only [g98, c1, c2, hn1, hhas, ↓reduceIte])).trans (by simp (decide := true) only [p98, c1, c2, hn1, hhas, ↓reduceIte])) (fun r => (t162 58 v1 v2 S r (by simp (decide := true) only [g162, c1, c2, hn2, ↓reduceIte])).trans (by simp (decide := true) only [p162, c1, c2, hn2, ↓reduceIte])) h
  obtain ⟨a, ha, rfl⟩ := xIdx (n := n) (b := nI n) rfl (by omega) c1 c2
  have ea : (nI a).toNatClampNeg = a := nI_clamp (by omega)
  have ia := vp_in_nI (show a < 10 by omega) (by omega : 10 < 2 ^ 31)
  have m0 : nI a * 3 + 0 = nI (3 * a) := by have := nI_m 3 3 (by decide) a 0; rw [nI_0] at this; exact this
  have m1 : nI a * 3 + 1 = nI (3 * a + 1) := nI_m 3 3 (by decide) a 1
  have m2 : nI a * 3 + 2 = nI (3 * a + 2) := nI_m 3 3 (by decide) a 2
  have l0 : 3 * nI a + 0 = nI (3 * a) := by have := nI_m' 3 3 (by decide) a 0; rw [nI_0] at this; exact this
  have l1 : 3 * nI a + 1 = nI (3 * a + 1) := nI_m' 3 3 (by decide) a 1
  have l2 : 3 * nI a + 2 = nI (3 * a + 2) := nI_m' 3 3 (by decide) a 2
  have x0 : (nI (3 * a)).toNatClampNeg = 3 * a := nI_clamp (by omega)
  have x1 : (nI (3 * a + 1)).toNatClampNeg = 3 * a + 1 := nI_clamp (by omega)
  have x2 : (nI (3 * a + 2)).toNatClampNeg = 3 * a + 2 := nI_clamp (by omega)
  have y0 := vp_in_nI (show 3 * a < 30 by omega) (by omega : 30 < 2 ^ 31)
  have y1 := vp_in_nI (show 3 * a + 1 < 30 by omega) (by omega : 30 < 2 ^ 31)
  have y2 := vp_in_nI (show 3 * a + 2 < 30 by omega) (by omega : 30 < 2 ^ 31)
  have gx : g98 S (nI a) v2 := by
    by_cases d0 : v2 = 0 <;> by_cases d1 : v2 = 1 <;> by_cases d2 : v2 = 2 <;> by_cases d3 : v2 = 3 <;> by_cases d4 : S.1 7 a = 0 <;> simp (decide := true) only [g98, c1, c2, hn1, hhas, ea, ia, m0, m1, m2, y0, y1, y2, d0, d1, d2, d3, d4, ↓reduceIte, and_true, true_and]
  have gm : g162 S (nI a) v2 := by
    by_cases d0 : v2 = 0 <;> by_cases d1 : v2 = 1 <;> by_cases d2 : v2 = 2 <;> by_cases d3 : v2 < 0 <;> by_cases d4 : 3 < v2 <;> simp (decide := true) only [g162, c1, c2, hn2, ea, ia, l0, l1, l2, y0, y1, y2, d0, d1, d2, d3, d4, ↓reduceIte, and_true, true_and, ite_self]
  have hx := fun r => t98 57 (nI a) v2 S r gx
  have hm := fun r => t162 58 (nI a) v2 S r gm
  have z0 : (0 : Int32) + 0 + 0 + 0 = 0 := by decide
  by_cases d0 : v2 = 0
  · subst d0
    have h0 := hHer a (by omega) 0 (by decide)
    have h1 := hHer a (by omega) 1 (by decide)
    have h2 := hHer a (by omega) 2 (by decide)
    rw [Nat.add_zero] at h0
    by_cases d4 : S.1 7 a = 0
    · rw [if_pos d4] at h0 h1 h2
      exact xOp_mk (z := 0 + S.1 14 (3 * a) + S.1 14 (3 * a + 1) + S.1 14 (3 * a + 2)) (S1 := S) (S2 := S) (fun r => (hx r).trans (by simp (decide := true) only [p98, c1, c2, hn1, hhas, ea, m0, m1, m2, x0, x1, x2, d4, ↓reduceIte])) (fun r => (hm r).trans (by simp (decide := true) only [p162, c1, c2, hn2, ea, l0, l1, l2, x0, x1, x2, h0, h1, h2, ↓reduceIte])) h
    · rw [if_neg d4] at h0 h1 h2
      exact xOp_mk (z := 0) (S1 := S) (S2 := S) (fun r => (hx r).trans (by simp (decide := true) only [p98, c1, c2, hn1, hhas, ea, m0, m1, m2, x0, x1, x2, d4, ↓reduceIte])) (fun r => (hm r).trans (by simp (decide := true) only [p162, c1, c2, hn2, ea, l0, l1, l2, x0, x1, x2, h0, h1, h2, z0, ↓reduceIte])) h
  by_cases d1 : v2 = 1
  · subst d1
    have h0 := hSet a (by omega)
    exact xOp_mk (z := S.1 17 a) (S1 := S) (S2 := S) (fun r => (hx r).trans (by simp (decide := true) only [p98, c1, c2, hn1, hhas, ea, ↓reduceIte])) (fun r => (hm r).trans (by simp (decide := true) only [p162, c1, c2, hn2, ea, l0, l1, l2, x0, x1, x2, h0, Int32.zero_add, ↓reduceIte])) h
  by_cases d2 : v2 = 2
  · subst d2
    have h0 := hTvl.1 (3 * a) (by omega)
    have h1 := hTvl.1 (3 * a + 1) (by omega)
    have h2 := hTvl.1 (3 * a + 2) (by omega)
    exact xOp_mk (z := 0 + S.1 68 (3 * a) + S.1 68 (3 * a + 1) + S.1 68 (3 * a + 2)) (S1 := S) (S2 := S) (fun r => (hx r).trans (by simp (decide := true) only [p98, c1, c2, hn1, hhas, ea, m0, m1, m2, x0, x1, x2, h0, h1, h2, ↓reduceIte])) (fun r => (hm r).trans (by simp (decide := true) only [p162, c1, c2, hn2, ea, l0, l1, l2, x0, x1, x2, ↓reduceIte])) h
  by_cases d3 : v2 = 3
  · subst d3
    have h0 := hQui a (by omega)
    exact xOp_mk (z := S.1 18 a) (S1 := S) (S2 := S) (fun r => (hx r).trans (by simp (decide := true) only [p98, c1, c2, hn1, hhas, ea, ↓reduceIte])) (fun r => (hm r).trans (by simp (decide := true) only [p162, c1, c2, hn2, ea, l0, l1, l2, x0, x1, x2, h0, Int32.zero_add, ↓reduceIte])) h
  by_cases d4 : v2 < 0
  · exact xOp_mk (z := -1) (S1 := S) (S2 := S) (fun r => (hx r).trans (by simp (decide := true) only [p98, c1, c2, hn1, hhas, ea, d0, d1, d2, d3, ↓reduceIte])) (fun r => (hm r).trans (by simp (decide := true) only [p162, c1, c2, hn2, d4, ↓reduceIte])) h
  by_cases d5 : 3 < v2
  · exact xOp_mk (z := -1) (S1 := S) (S2 := S) (fun r => (hx r).trans (by simp (decide := true) only [p98, c1, c2, hn1, hhas, ea, d0, d1, d2, d3, ↓reduceIte])) (fun r => (hm r).trans (by simp (decide := true) only [p162, c1, c2, hn2, d4, d5, ↓reduceIte])) h
  obtain ⟨b, hb, rfl⟩ := xIdxL (n := 3) (b := 3) (by decide) (by omega) d4 d5
  rcases (show b = 0 ∨ b = 1 ∨ b = 2 ∨ b = 3 by omega) with z | z | z | z <;> subst z
  · exact absurd nI_0 d0
  · exact absurd (by decide) d1
  · exact absurd (by decide) d2
  · exact absurd (by decide) d3
theorem xtown {now tak fre : Int32} {bec f : Nat → Int32} {w : Nat} (hw : now = nI w) (hw5 : w ≤ 5) (hb : ∀ k, k < 5 → f k = nI (xN (bec k))) (h : ∃ p q : Nat, tak = nI p ∧ fre = nI q ∧ p + q = sN (fun u => xN (bec u)) (xN now)) : xsum f w - tak = fre := by
  obtain ⟨p, q, h1, h2, h3⟩ := h
  rw [hw, xN_nI (by omega)] at h3
  rw [xsum_nI (g := fun u => xN (bec u)) (fun k hk => hb k (by omega)), h1, h2, ← h3, nI_sub (by omega), Nat.add_sub_cancel_left]
theorem op_town (S : xS) (v1 : Int32) (h : xInv S) : xOpI xInv 99 163 [(1, .int v1)] S := by
  obtain ⟨hRef, hCnt, hBld, hLwc, hEmb, hFil, hNow, hPal, hRnt, hMst, hTrn, hOnt, hPai, hFlt, hBeg, hDsk, hRnk, hWav, hSty, hMov, hTie, hRom, hRdy, hBec, hFlk, hHer, hTrt, hTvl, hSet, hQui, hFre, hLaw, hEmR, hPlc, hShf, hSiz, hCel, hPln, hLeg⟩ := id h
  obtain ⟨w0, hw0, hw1, hw2⟩ := hNow
  have k1 := xtown (f := S.1 63) hw1 hw0 (fun k hk => (hBec.1.get (by omega) hk).2.2) hFre.1
  have k2 := xtown (f := S.1 64) hw1 hw0 (fun k hk => (hBec.2.get (by omega) hk).2.2) hFre.2
  have hx := fun r => t99 59 v1 S r
  have hm := fun r => t163 58 v1 S r
  by_cases c0 : v1 = 0
  · exact xOp_mk (z := S.1 13 6) (S1 := S) (S2 := S) (fun r => (hx r).trans (by simp (decide := true) only [p99, c0, ↓reduceIte])) (fun r => (hm r).trans (by simp (decide := true) only [p163, c0, hRnt, ↓reduceIte])) h
  by_cases c1 : v1 = 1
  · refine xOp_mk (z := S.1 13 8) (S1 := S) (S2 := S) (fun r => (hx r).trans (by simp (decide := true) only [p99, c1, ↓reduceIte])) (fun r => (hm r).trans ?_) h
    rw [← k1]
    rcases (show w0 = 0 ∨ w0 = 1 ∨ w0 = 2 ∨ w0 = 3 ∨ w0 = 4 ∨ w0 = 5 by omega) with z | z | z | z | z | z <;> subst z <;> simp (decide := true) only [p163, c1, hw2, ↓reduceIte, xsum]
  by_cases c2 : v1 = 2
  · refine xOp_mk (z := S.1 13 9) (S1 := S) (S2 := S) (fun r => (hx r).trans (by simp (decide := true) only [p99, c2, ↓reduceIte])) (fun r => (hm r).trans ?_) h
    rw [← k2]
    rcases (show w0 = 0 ∨ w0 = 1 ∨ w0 = 2 ∨ w0 = 3 ∨ w0 = 4 ∨ w0 = 5 by omega) with z | z | z | z | z | z <;> subst z <;> simp (decide := true) only [p163, c2, hw2, ↓reduceIte, xsum]
  by_cases c3 : v1 = 3
  · exact xOp_mk (z := S.1 13 5 - S.1 13 7) (S1 := S) (S2 := S) (fun r => (hx r).trans (by simp (decide := true) only [p99, c3, ↓reduceIte])) (fun r => (hm r).trans (by simp (decide := true) only [p163, c3, hTrn, hOnt, ↓reduceIte])) h
  by_cases c4 : v1 = 4
  · exact xOp_mk (z := S.1 13 10) (S1 := S) (S2 := S) (fun r => (hx r).trans (by simp (decide := true) only [p99, c4, ↓reduceIte])) (fun r => (hm r).trans (by simp (decide := true) only [p163, c4, hPai, ↓reduceIte])) h
  · exact xOp_mk (z := -1) (S1 := S) (S2 := S) (fun r => (hx r).trans (by simp (decide := true) only [p99, c0, c1, c2, c3, c4, ↓reduceIte])) (fun r => (hm r).trans (by simp (decide := true) only [p163, c0, c1, c2, c3, c4, ↓reduceIte])) h
