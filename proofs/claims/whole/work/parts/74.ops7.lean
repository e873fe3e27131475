/-! status -/
theorem t179_140 (d : Nat) (S : xS) (r : Option Value × xS) {n : Nat} (hn : n ≤ 10) (hc : S.1 54 0 = nI n) : xX d 179 140 [(0, .ref 54), (2, .int 0), (3, .int 0)] [] S r ↔ r = (some (.int (xsum (fun k => if S.1 59 k = 0 then 0 else 1) n)), S) := by
  have key := xX_loop (d := d) (f := 179) (pc := 140) (st := []) (fun j => ([(0, .ref 54), (2, .int (xsum (fun k => if S.1 59 k = 0 then 0 else 1) j)), (3, .int (nI j))], S)) n (fun j hj r => by
    refine (b179_140 _ _ _ _ _).trans ?_
    rw [hc, if_pos (nI_lt hj (by omega))]
    have hv : vp_in (nI j) 10 := vp_in_nI (by omega) (by omega)
    have hcl : (nI j).toNatClampNeg = j := nI_clamp (by omega)
    by_cases c1 : S.1 59 j = 0 <;> simp (decide := true) only [b179_148, b179_160, b179_157, hv, hcl, c1, ↓reduceIte, true_and, xsum, nI_1, xadd0]) r
  refine key.trans ?_
  refine (b179_140 _ _ _ _ _).trans ?_
  rw [hc, if_neg (nI_nlt (Nat.le_refl n) (by omega)), b179_166]
theorem t179_170 (d : Nat) (S : xS) (r : Option Value × xS) {n : Nat} (hn : n ≤ 10) (hc : S.1 54 0 = nI n) : xX d 179 170 [(0, .ref 54), (2, .int 0), (3, .int 0)] [] S r ↔ r = (some (.int (xsum (fun k => if S.1 58 k = 0 then 0 else 1) n)), S) := by
  have key := xX_loop (d := d) (f := 179) (pc := 170) (st := []) (fun j => ([(0, .ref 54), (2, .int (xsum (fun k => if S.1 58 k = 0 then 0 else 1) j)), (3, .int (nI j))], S)) n (fun j hj r => by
    refine (b179_170 _ _ _ _ _).trans ?_
    rw [hc, if_pos (nI_lt hj (by omega))]
    have hv : vp_in (nI j) 10 := vp_in_nI (by omega) (by omega)
    have hcl : (nI j).toNatClampNeg = j := nI_clamp (by omega)
    by_cases c1 : S.1 58 j = 0 <;> simp (decide := true) only [b179_178, b179_190, b179_187, hv, hcl, c1, ↓reduceIte, true_and, xsum, nI_1, xadd0]) r
  refine key.trans ?_
  refine (b179_170 _ _ _ _ _).trans ?_
  rw [hc, if_neg (nI_nlt (Nat.le_refl n) (by omega)), b179_196]
theorem t179_205 (d : Nat) (S : xS) (r : Option Value × xS) {n : Nat} (hn : n ≤ 6) (hc : S.1 54 2 = nI n) : xX d 179 205 [(0, .ref 54), (2, .int 0), (3, .int 0)] [] S r ↔ r = (some (.int (xsum (fun k => if S.1 80 k = 0 then 0 else 1) n)), S) := by
  have key := xX_loop (d := d) (f := 179) (pc := 205) (st := []) (fun j => ([(0, .ref 54), (2, .int (xsum (fun k => if S.1 80 k = 0 then 0 else 1) j)), (3, .int (nI j))], S)) n (fun j hj r => by
    refine (b179_205 _ _ _ _ _).trans ?_
    rw [hc, if_pos (nI_lt hj (by omega))]
    have hv : vp_in (nI j) 6 := vp_in_nI (by omega) (by omega)
    have hcl : (nI j).toNatClampNeg = j := nI_clamp (by omega)
    by_cases c1 : S.1 80 j = 0 <;> simp (decide := true) only [b179_213, b179_225, b179_222, hv, hcl, c1, ↓reduceIte, true_and, xsum, nI_1, xadd0]) r
  refine key.trans ?_
  refine (b179_205 _ _ _ _ _).trans ?_
  rw [hc, if_neg (nI_nlt (Nat.le_refl n) (by omega)), b179_231]
theorem t179_245 (d : Nat) (S : xS) (r : Option Value × xS) {n : Nat} (hn : n ≤ 12) (hc : S.1 54 4 = nI n) : xX d 179 245 [(0, .ref 54), (2, .int 0), (3, .int 0)] [] S r ↔ r = (some (.int (xsum (fun k => if S.1 83 k = 1 then 1 else 0) n)), S) := by
  have key := xX_loop (d := d) (f := 179) (pc := 245) (st := []) (fun j => ([(0, .ref 54), (2, .int (xsum (fun k => if S.1 83 k = 1 then 1 else 0) j)), (3, .int (nI j))], S)) n (fun j hj r => by
    refine (b179_245 _ _ _ _ _).trans ?_
    rw [hc, if_pos (nI_lt hj (by omega))]
    have hv : vp_in (nI j) 12 := vp_in_nI (by omega) (by omega)
    have hcl : (nI j).toNatClampNeg = j := nI_clamp (by omega)
    by_cases c1 : S.1 83 j = 1 <;> simp (decide := true) only [b179_253, b179_263, b179_266, hv, hcl, c1, ↓reduceIte, true_and, xsum, nI_1, xadd0]) r
  refine key.trans ?_
  refine (b179_245 _ _ _ _ _).trans ?_
  rw [hc, if_neg (nI_nlt (Nat.le_refl n) (by omega)), b179_272]
theorem t179_294 (d : Nat) (S : xS) (r : Option Value × xS) : xX d 179 294 [(0, .ref 54), (2, .int 0), (3, .int 0)] [] S r ↔ r = (some (.int (xsum (S.1 65) 30)), S) := by
  have key := xX_loop (d := d) (f := 179) (pc := 294) (st := []) (fun j => ([(0, .ref 54), (2, .int (xsum (S.1 65) j)), (3, .int (nI j))], S)) 30 (fun j hj r => by
    refine (b179_294 _ _ _ _ _).trans ?_
    rw [show (30 : Int32) = nI 30 by decide, if_pos (nI_lt hj (by omega))]
    have hv : vp_in (nI j) 30 := vp_in_nI (by omega) (by omega)
    have hcl : (nI j).toNatClampNeg = j := nI_clamp (by omega)
    simp (decide := true) only [b179_300, hv, hcl, true_and, xsum, nI_1]) r
  refine key.trans ?_
  refine (b179_294 _ _ _ _ _).trans ?_
  rw [show (30 : Int32) = nI 30 by decide, if_neg (nI_nlt (Nat.le_refl 30) (by omega)), b179_315]
theorem t179_319 (d : Nat) (S : xS) (r : Option Value × xS) : xX d 179 319 [(0, .ref 54), (2, .int 0), (3, .int 0)] [] S r ↔ r = (some (.int (xsum (S.1 67) 30)), S) := by
  have key := xX_loop (d := d) (f := 179) (pc := 319) (st := []) (fun j => ([(0, .ref 54), (2, .int (xsum (S.1 67) j)), (3, .int (nI j))], S)) 30 (fun j hj r => by
    refine (b179_319 _ _ _ _ _).trans ?_
    rw [show (30 : Int32) = nI 30 by decide, if_pos (nI_lt hj (by omega))]
    have hv : vp_in (nI j) 30 := vp_in_nI (by omega) (by omega)
    have hcl : (nI j).toNatClampNeg = j := nI_clamp (by omega)
    simp (decide := true) only [b179_325, hv, hcl, true_and, xsum, nI_1]) r
  refine key.trans ?_
  refine (b179_319 _ _ _ _ _).trans ?_
  rw [show (30 : Int32) = nI 30 by decide, if_neg (nI_nlt (Nat.le_refl 30) (by omega)), b179_340]
theorem t179_344 (d : Nat) (S : xS) (r : Option Value × xS) : xX d 179 344 [(0, .ref 54), (2, .int 0), (3, .int 0)] [] S r ↔ r = (some (.int (xsum (S.1 68) 30)), S) := by
  have key := xX_loop (d := d) (f := 179) (pc := 344) (st := []) (fun j => ([(0, .ref 54), (2, .int (xsum (S.1 68) j)), (3, .int (nI j))], S)) 30 (fun j hj r => by
    refine (b179_344 _ _ _ _ _).trans ?_
    rw [show (30 : Int32) = nI 30 by decide, if_pos (nI_lt hj (by omega))]
    have hv : vp_in (nI j) 30 := vp_in_nI (by omega) (by omega)
    have hcl : (nI j).toNatClampNeg = j := nI_clamp (by omega)
    simp (decide := true) only [b179_350, hv, hcl, true_and, xsum, nI_1]) r
  refine key.trans ?_
  refine (b179_344 _ _ _ _ _).trans ?_
  rw [show (30 : Int32) = nI 30 by decide, if_neg (nI_nlt (Nat.le_refl 30) (by omega)), b179_365]
theorem t179_369 (d : Nat) (S : xS) (r : Option Value × xS) : xX d 179 369 [(0, .ref 54), (2, .int 0), (3, .int 0)] [] S r ↔ r = (some (.int (xsum (S.1 69) 30)), S) := by
  have key := xX_loop (d := d) (f := 179) (pc := 369) (st := []) (fun j => ([(0, .ref 54), (2, .int (xsum (S.1 69) j)), (3, .int (nI j))], S)) 30 (fun j hj r => by
    refine (b179_369 _ _ _ _ _).trans ?_
    rw [show (30 : Int32) = nI 30 by decide, if_pos (nI_lt hj (by omega))]
    have hv : vp_in (nI j) 30 := vp_in_nI (by omega) (by omega)
    have hcl : (nI j).toNatClampNeg = j := nI_clamp (by omega)
    simp (decide := true) only [b179_375, hv, hcl, true_and, xsum, nI_1]) r
  refine key.trans ?_
  refine (b179_369 _ _ _ _ _).trans ?_
  rw [show (30 : Int32) = nI 30 by decide, if_neg (nI_nlt (Nat.le_refl 30) (by omega)), b179_390]
theorem xsum_tail {f : Nat → Int32} : ∀ {m n : Nat}, n ≤ m → (∀ k, n ≤ k → k < m → f k = 0) → xsum f m = xsum f n
  | 0, n, h, _ => by rw [Nat.le_zero.mp h]
  | m + 1, n, h, hz => by
    by_cases e : n = m + 1
    · rw [e]
    · show xsum f m + f m = _
      rw [xsum_tail (m := m) (by omega) (fun k hk hk' => hz k hk (by omega)), hz m (by omega) (by omega)]
      exact Int32.add_zero _
theorem xsum_3 {f g : Nat → Int32} (n : Nat) (h : ∀ k, k < n → f k = g (3 * k) + g (3 * k + 1) + g (3 * k + 2)) : xsum g (3 * n) = xsum f n := by
  induction n with
  | zero => rfl
  | succ n ih =>
    show xsum g (3 * n) + g (3 * n) + g (3 * n + 1) + g (3 * n + 2) = xsum f n + f n
    rw [ih (fun k hk => h k (by omega)), h n (by omega)]
    simp only [Int32.add_assoc]
theorem xa6 : (6 : Int32) + 1 = 7 := by decide
theorem xa7 : (7 : Int32) + 1 = 8 := by decide
theorem xa8 : (8 : Int32) + 1 = 9 := by decide
theorem xa9 : (9 : Int32) + 1 = 10 := by decide
theorem xa10 : (10 : Int32) + 1 = 11 := by decide
theorem xa11 : (11 : Int32) + 1 = 12 := by decide
theorem xa12 : (12 : Int32) + 1 = 13 := by decide
theorem xa13 : (13 : Int32) + 1 = 14 := by decide
theorem xa14 : (14 : Int32) + 1 = 15 := by decide
theorem xa15 : (15 : Int32) + 1 = 16 := by decide
theorem xa16 : (16 : Int32) + 1 = 17 := by decide
theorem xa17 : (17 : Int32) + 1 = 18 := by decide
theorem xa18 : (18 : Int32) + 1 = 19 := by decide
theorem xa19 : (19 : Int32) + 1 = 20 := by decide
theorem xa20 : (20 : Int32) + 1 = 21 := by decide
theorem op_status (S : xS) (v1 : Int32) (h : xInv S) : xOpI xInv 113 179 [(1, .int v1)] S := by
  obtain ⟨hRef, hCnt, hBld, hLwc, hEmb, hFil, hNow, hPal, hRnt, hMst, hTrn, hOnt, hPai, hFlt, hBeg, hDsk, hRnk, hWav, hSty, hMov, hTie, hRom, hRdy, hBec, hFlk, hHer, hTrt, hTvl, hSet, hQui, hFre, hLaw, hEmR, hPlc, hShf, hSiz, hCel, hPln, hLeg⟩ := id h
  obtain ⟨n, hn, hn1, hn2⟩ := hCnt
  obtain ⟨l, hl, hl1, hl2⟩ := hLwc
  obtain ⟨f, hf, hf1, hf2⟩ := hFil
  obtain ⟨nb, hnb, nb1, nb2⟩ := hBld
  obtain ⟨ne, hne, ne1, ne2⟩ := hEmb
  obtain ⟨w, hw, w1, w2⟩ := hNow
  obtain ⟨hbE, hbb, hb0⟩ := id hBeg
  have hnx : xN (S.1 2 0) = n := by rw [hn1]; exact nI_clamp (by omega)
  have hlx : xN (S.1 19 0) = l := by rw [hl1]; exact nI_clamp (by omega)
  by_cases c0 : v1 = 0
  · subst c0
    exact xOp_mk (z := nI n) (S1 := S) (S2 := S) (fun r => by simp (decide := true) only [b113_0, b113_104, x01, x11, x21, x31, x41, x51, xa6, xa7, xa8, xa9, xa10, xa11, xa12, xa13, xa14, xa15, xa16, xa17, xa18, xa19, xa20, Int32.neg_neg, ↓reduceIte, xtl, xtl0, exists_eq_left, true_and, and_true, xbit_0, xbit_1, hn1, hn2]) (fun r => by simp (decide := true) only [b179_0, b179_6, b179_22, b179_128, x01, x11, x21, x31, x41, x51, xa6, xa7, xa8, xa9, xa10, xa11, xa12, xa13, xa14, xa15, xa16, xa17, xa18, xa19, xa20, Int32.neg_neg, ↓reduceIte, xtl, xtl0, exists_eq_left, true_and, and_true, xbit_0, xbit_1, hn1, hn2]) h
  by_cases c1 : v1 = 1
  · subst c1
    exact xOp_mk (z := nI nb) (S1 := S) (S2 := S) (fun r => by simp (decide := true) only [b113_0, b113_112, x01, x11, x21, x31, x41, x51, xa6, xa7, xa8, xa9, xa10, xa11, xa12, xa13, xa14, xa15, xa16, xa17, xa18, xa19, xa20, Int32.neg_neg, ↓reduceIte, xtl, xtl0, exists_eq_left, true_and, and_true, xbit_0, xbit_1, nb1, nb2]) (fun r => by simp (decide := true) only [b179_0, b179_6, b179_22, b179_133, x01, x11, x21, x31, x41, x51, xa6, xa7, xa8, xa9, xa10, xa11, xa12, xa13, xa14, xa15, xa16, xa17, xa18, xa19, xa20, Int32.neg_neg, ↓reduceIte, xtl, xtl0, exists_eq_left, true_and, and_true, xbit_0, xbit_1, nb1, nb2]) h
  by_cases c2 : v1 = 2
  · subst c2
    have hx1 := fun (d : Nat) (r : Option Value × xS) => t111_7 d S r
    have hm1 := fun (d : Nat) (r : Option Value × xS) => t179_140 d S r hn hn2
    have q1 : xsum (fun k => if S.1 59 k = 0 then (0 : Int32) else 1) n = xsum (fun k => if S.1 7 k = 0 then (0 : Int32) else 1) 10 := by
      rw [xsum_tail (m := 10) (n := n) hn (fun k h1 h2 => by rw [if_pos ((hPln k h2).2.2 (by omega)).1])]
      exact xsum_congr (fun k hk => by rw [hMov.eq (by omega)])
    exact xOp_mk (z := xsum (fun k => if S.1 7 k = 0 then (0 : Int32) else 1) 10) (S1 := S) (S2 := S) (fun r => by simp (decide := true) only [b113_0, b113_120, b113_130, hx1, x01, x11, x21, x31, x41, x51, xa6, xa7, xa8, xa9, xa10, xa11, xa12, xa13, xa14, xa15, xa16, xa17, xa18, xa19, xa20, Int32.neg_neg, ↓reduceIte, xtl, xtl0, exists_eq_left, true_and, and_true, xbit_0, xbit_1, q1]) (fun r => by simp (decide := true) only [b179_0, b179_6, b179_22, b179_138, hm1, x01, x11, x21, x31, x41, x51, xa6, xa7, xa8, xa9, xa10, xa11, xa12, xa13, xa14, xa15, xa16, xa17, xa18, xa19, xa20, Int32.neg_neg, ↓reduceIte, xtl, xtl0, exists_eq_left, true_and, and_true, xbit_0, xbit_1, q1]) h
  by_cases c3 : v1 = 3
  · subst c3
    have hx1 := fun (d : Nat) (r : Option Value × xS) => t111_6 d S r
    have hm1 := fun (d : Nat) (r : Option Value × xS) => t179_170 d S r hn hn2
    have q1 : xsum (fun k => if S.1 58 k = 0 then (0 : Int32) else 1) n = xsum (fun k => if S.1 6 k = 0 then (0 : Int32) else 1) 10 := by
      rw [xsum_tail (m := 10) (n := n) hn (fun k h1 h2 => by rw [if_pos ((hPln k h2).2.2 (by omega)).2])]
      exact xsum_congr (fun k hk => by rw [hSty.eq (by omega)])
    exact xOp_mk (z := xsum (fun k => if S.1 6 k = 0 then (0 : Int32) else 1) 10) (S1 := S) (S2 := S) (fun r => by simp (decide := true) only [b113_0, b113_131, b113_141, hx1, x01, x11, x21, x31, x41, x51, xa6, xa7, xa8, xa9, xa10, xa11, xa12, xa13, xa14, xa15, xa16, xa17, xa18, xa19, xa20, Int32.neg_neg, ↓reduceIte, xtl, xtl0, exists_eq_left, true_and, and_true, xbit_0, xbit_1, q1]) (fun r => by simp (decide := true) only [b179_0, b179_6, b179_22, b179_168, hm1, x01, x11, x21, x31, x41, x51, xa6, xa7, xa8, xa9, xa10, xa11, xa12, xa13, xa14, xa15, xa16, xa17, xa18, xa19, xa20, Int32.neg_neg, ↓reduceIte, xtl, xtl0, exists_eq_left, true_and, and_true, xbit_0, xbit_1, q1]) h
  by_cases c4 : v1 = 4
  · subst c4
    exact xOp_mk (z := nI l) (S1 := S) (S2 := S) (fun r => by simp (decide := true) only [b113_0, b113_142, x01, x11, x21, x31, x41, x51, xa6, xa7, xa8, xa9, xa10, xa11, xa12, xa13, xa14, xa15, xa16, xa17, xa18, xa19, xa20, Int32.neg_neg, ↓reduceIte, xtl, xtl0, exists_eq_left, true_and, and_true, xbit_0, xbit_1, hl1, hl2]) (fun r => by simp (decide := true) only [b179_0, b179_6, b179_22, b179_198, x01, x11, x21, x31, x41, x51, xa6, xa7, xa8, xa9, xa10, xa11, xa12, xa13, xa14, xa15, xa16, xa17, xa18, xa19, xa20, Int32.neg_neg, ↓reduceIte, xtl, xtl0, exists_eq_left, true_and, and_true, xbit_0, xbit_1, hl1, hl2]) h
  by_cases c5 : v1 = 5
  · subst c5
    have hx1 := fun (d : Nat) (r : Option Value × xS) => t111_23 d S r
    have hm1 := fun (d : Nat) (r : Option Value × xS) => t179_205 d S r hl hl2
    have q1 : xsum (fun k => if S.1 80 k = 0 then (0 : Int32) else 1) l = xsum (fun k => if S.1 23 k = 0 then (0 : Int32) else 1) 6 := by
      rw [xsum_tail (m := 6) (n := l) hl (fun k h1 h2 => by rw [if_pos (hLaw.2.2.2.2 k h2 (by omega))])]
      exact xsum_congr (fun k hk => by rw [hLaw.2.2.2.1.eq (by omega)])
    exact xOp_mk (z := xsum (fun k => if S.1 23 k = 0 then (0 : Int32) else 1) 6) (S1 := S) (S2 := S) (fun r => by simp (decide := true) only [b113_0, b113_150, b113_160, hx1, x01, x11, x21, x31, x41, x51, xa6, xa7, xa8, xa9, xa10, xa11, xa12, xa13, xa14, xa15, xa16, xa17, xa18, xa19, xa20, Int32.neg_neg, ↓reduceIte, xtl, xtl0, exists_eq_left, true_and, and_true, xbit_0, xbit_1, q1]) (fun r => by simp (decide := true) only [b179_0, b179_6, b179_22, b179_203, hm1, x01, x11, x21, x31, x41, x51, xa6, xa7, xa8, xa9, xa10, xa11, xa12, xa13, xa14, xa15, xa16, xa17, xa18, xa19, xa20, Int32.neg_neg, ↓reduceIte, xtl, xtl0, exists_eq_left, true_and, and_true, xbit_0, xbit_1, q1]) h
  by_cases c6 : v1 = 6
  · subst c6
    exact xOp_mk (z := nI ne) (S1 := S) (S2 := S) (fun r => by simp (decide := true) only [b113_0, b113_161, x01, x11, x21, x31, x41, x51, xa6, xa7, xa8, xa9, xa10, xa11, xa12, xa13, xa14, xa15, xa16, xa17, xa18, xa19, xa20, Int32.neg_neg, ↓reduceIte, xtl, xtl0, exists_eq_left, true_and, and_true, xbit_0, xbit_1, ne1, ne2]) (fun r => by simp (decide := true) only [b179_0, b179_6, b179_22, b179_233, x01, x11, x21, x31, x41, x51, xa6, xa7, xa8, xa9, xa10, xa11, xa12, xa13, xa14, xa15, xa16, xa17, xa18, xa19, xa20, Int32.neg_neg, ↓reduceIte, xtl, xtl0, exists_eq_left, true_and, and_true, xbit_0, xbit_1, ne1, ne2]) h
  by_cases c7 : v1 = 7
  · subst c7
    exact xOp_mk (z := nI f) (S1 := S) (S2 := S) (fun r => by simp (decide := true) only [b113_0, b113_169, x01, x11, x21, x31, x41, x51, xa6, xa7, xa8, xa9, xa10, xa11, xa12, xa13, xa14, xa15, xa16, xa17, xa18, xa19, xa20, Int32.neg_neg, ↓reduceIte, xtl, xtl0, exists_eq_left, true_and, and_true, xbit_0, xbit_1, hf1, hf2]) (fun r => by simp (decide := true) only [b179_0, b179_6, b179_22, b179_238, x01, x11, x21, x31, x41, x51, xa6, xa7, xa8, xa9, xa10, xa11, xa12, xa13, xa14, xa15, xa16, xa17, xa18, xa19, xa20, Int32.neg_neg, ↓reduceIte, xtl, xtl0, exists_eq_left, true_and, and_true, xbit_0, xbit_1, hf1, hf2]) h
  by_cases c8 : v1 = 8
  · subst c8
    have hx1 := fun (d : Nat) (r : Option Value × xS) => t7 d S r hf hf1
    have hm1 := fun (d : Nat) (r : Option Value × xS) => t179_245 d S r hf hf2
    have q1 : xsum (fun k => if S.1 83 k = 1 then (1 : Int32) else 0) f = xsum (fun k => if S.1 27 k = 1 then (1 : Int32) else 0) f := xsum_congr (fun k hk => by rw [hPlc k (by omega)])
    exact xOp_mk (z := xsum (fun k => if S.1 27 k = 1 then (1 : Int32) else 0) f) (S1 := S) (S2 := S) (fun r => by simp (decide := true) only [b113_0, b113_177, b113_184, hx1, x01, x11, x21, x31, x41, x51, xa6, xa7, xa8, xa9, xa10, xa11, xa12, xa13, xa14, xa15, xa16, xa17, xa18, xa19, xa20, Int32.neg_neg, ↓reduceIte, xtl, xtl0, exists_eq_left, true_and, and_true, xbit_0, xbit_1, q1]) (fun r => by simp (decide := true) only [b179_0, b179_6, b179_22, b179_243, hm1, x01, x11, x21, x31, x41, x51, xa6, xa7, xa8, xa9, xa10, xa11, xa12, xa13, xa14, xa15, xa16, xa17, xa18, xa19, xa20, Int32.neg_neg, ↓reduceIte, xtl, xtl0, exists_eq_left, true_and, and_true, xbit_0, xbit_1, q1]) h
  by_cases c9 : v1 = 9
  · subst c9
    exact xOp_mk (z := nI w) (S1 := S) (S2 := S) (fun r => by simp (decide := true) only [b113_0, b113_185, x01, x11, x21, x31, x41, x51, xa6, xa7, xa8, xa9, xa10, xa11, xa12, xa13, xa14, xa15, xa16, xa17, xa18, xa19, xa20, Int32.neg_neg, ↓reduceIte, xtl, xtl0, exists_eq_left, true_and, and_true, xbit_0, xbit_1, w1, w2]) (fun r => by simp (decide := true) only [b179_0, b179_6, b179_22, b179_274, x01, x11, x21, x31, x41, x51, xa6, xa7, xa8, xa9, xa10, xa11, xa12, xa13, xa14, xa15, xa16, xa17, xa18, xa19, xa20, Int32.neg_neg, ↓reduceIte, xtl, xtl0, exists_eq_left, true_and, and_true, xbit_0, xbit_1, w1, w2]) h
  by_cases c10 : v1 = 10
  · subst c10
    by_cases e : S.1 0 9 = 0
    · exact xOp_mk (z := 0) (S1 := S) (S2 := S) (fun r => by simp (decide := true) only [b113_0, b113_190, b113_201, b113_197, x01, x11, x21, x31, x41, x51, xa6, xa7, xa8, xa9, xa10, xa11, xa12, xa13, xa14, xa15, xa16, xa17, xa18, xa19, xa20, Int32.neg_neg, ↓reduceIte, xtl, xtl0, exists_eq_left, true_and, and_true, xbit_0, xbit_1, e]) (fun r => by simp (decide := true) only [b179_0, b179_6, b179_22, b179_279, b179_290, b179_286, hbE, x01, x11, x21, x31, x41, x51, xa6, xa7, xa8, xa9, xa10, xa11, xa12, xa13, xa14, xa15, xa16, xa17, xa18, xa19, xa20, Int32.neg_neg, ↓reduceIte, xtl, xtl0, exists_eq_left, true_and, and_true, xbit_0, xbit_1, e]) h
    · exact xOp_mk (z := 1) (S1 := S) (S2 := S) (fun r => by simp (decide := true) only [b113_0, b113_190, b113_201, b113_197, x01, x11, x21, x31, x41, x51, xa6, xa7, xa8, xa9, xa10, xa11, xa12, xa13, xa14, xa15, xa16, xa17, xa18, xa19, xa20, Int32.neg_neg, ↓reduceIte, xtl, xtl0, exists_eq_left, true_and, and_true, xbit_0, xbit_1, e]) (fun r => by simp (decide := true) only [b179_0, b179_6, b179_22, b179_279, b179_290, b179_286, hbE, x01, x11, x21, x31, x41, x51, xa6, xa7, xa8, xa9, xa10, xa11, xa12, xa13, xa14, xa15, xa16, xa17, xa18, xa19, xa20, Int32.neg_neg, ↓reduceIte, xtl, xtl0, exists_eq_left, true_and, and_true, xbit_0, xbit_1, e]) h
  by_cases c18 : v1 = 18
  · subst c18
    have hx1 := fun (d : Nat) (r : Option Value × xS) => t112_14 d S r
    have hm1 := fun (d : Nat) (r : Option Value × xS) => t179_294 d S r
    have q1 : xsum (S.1 65) 30 = xsum (S.1 14) 30 := xsum_congr (fun k hk => hFlk.eq hk)
    have q2 : p112_14 S = (some (.int (xsum (S.1 14) 30)), S) := rfl
    simp only [q2] at hx1
    exact xOp_mk (z := xsum (S.1 14) 30) (S1 := S) (S2 := S) (fun r => by simp (decide := true) only [b113_0, b113_203, b113_213, hx1, x01, x11, x21, x31, x41, x51, xa6, xa7, xa8, xa9, xa10, xa11, xa12, xa13, xa14, xa15, xa16, xa17, xa18, xa19, xa20, Int32.neg_neg, ↓reduceIte, xtl, xtl0, exists_eq_left, true_and, and_true, xbit_0, xbit_1, q1]) (fun r => by simp (decide := true) only [b179_0, b179_6, b179_22, b179_292, hm1, x01, x11, x21, x31, x41, x51, xa6, xa7, xa8, xa9, xa10, xa11, xa12, xa13, xa14, xa15, xa16, xa17, xa18, xa19, xa20, Int32.neg_neg, ↓reduceIte, xtl, xtl0, exists_eq_left, true_and, and_true, xbit_0, xbit_1, q1]) h
  by_cases c19 : v1 = 19
  · subst c19
    have hx1 := fun (d : Nat) (r : Option Value × xS) => t112_17 d S r
    have hm1 := fun (d : Nat) (r : Option Value × xS) => t179_319 d S r
    have q1 : xsum (S.1 67) 30 = xsum (S.1 17) 10 := xsum_3 10 (fun k hk => hSet k hk)
    have q2 : p112_17 S = (some (.int (xsum (S.1 17) 10)), S) := rfl
    simp only [q2] at hx1
    exact xOp_mk (z := xsum (S.1 17) 10) (S1 := S) (S2 := S) (fun r => by simp (decide := true) only [b113_0, b113_214, b113_224, hx1, x01, x11, x21, x31, x41, x51, xa6, xa7, xa8, xa9, xa10, xa11, xa12, xa13, xa14, xa15, xa16, xa17, xa18, xa19, xa20, Int32.neg_neg, ↓reduceIte, xtl, xtl0, exists_eq_left, true_and, and_true, xbit_0, xbit_1, q1]) (fun r => by simp (decide := true) only [b179_0, b179_6, b179_22, b179_317, hm1, x01, x11, x21, x31, x41, x51, xa6, xa7, xa8, xa9, xa10, xa11, xa12, xa13, xa14, xa15, xa16, xa17, xa18, xa19, xa20, Int32.neg_neg, ↓reduceIte, xtl, xtl0, exists_eq_left, true_and, and_true, xbit_0, xbit_1, q1]) h
  by_cases c20 : v1 = 20
  · subst c20
    have hm1 := fun (d : Nat) (r : Option Value × xS) => t179_344 d S r
    have q1 := hTvl.2.symm
    exact xOp_mk (z := S.1 13 7) (S1 := S) (S2 := S) (fun r => by simp (decide := true) only [b113_0, b113_225, x01, x11, x21, x31, x41, x51, xa6, xa7, xa8, xa9, xa10, xa11, xa12, xa13, xa14, xa15, xa16, xa17, xa18, xa19, xa20, Int32.neg_neg, ↓reduceIte, xtl, xtl0, exists_eq_left, true_and, and_true, xbit_0, xbit_1, q1]) (fun r => by simp (decide := true) only [b179_0, b179_6, b179_22, b179_342, hm1, x01, x11, x21, x31, x41, x51, xa6, xa7, xa8, xa9, xa10, xa11, xa12, xa13, xa14, xa15, xa16, xa17, xa18, xa19, xa20, Int32.neg_neg, ↓reduceIte, xtl, xtl0, exists_eq_left, true_and, and_true, xbit_0, xbit_1, q1]) h
  by_cases c21 : v1 = 21
  · subst c21
    have hx1 := fun (d : Nat) (r : Option Value × xS) => t112_18 d S r
    have hm1 := fun (d : Nat) (r : Option Value × xS) => t179_369 d S r
    have q1 : xsum (S.1 69) 30 = xsum (S.1 18) 10 := xsum_3 10 (fun k hk => hQui k hk)
    have q2 : p112_18 S = (some (.int (xsum (S.1 18) 10)), S) := rfl
    simp only [q2] at hx1
    exact xOp_mk (z := xsum (S.1 18) 10) (S1 := S) (S2 := S) (fun r => by simp (decide := true) only [b113_0, b113_233, b113_243, hx1, x01, x11, x21, x31, x41, x51, xa6, xa7, xa8, xa9, xa10, xa11, xa12, xa13, xa14, xa15, xa16, xa17, xa18, xa19, xa20, Int32.neg_neg, ↓reduceIte, xtl, xtl0, exists_eq_left, true_and, and_true, xbit_0, xbit_1, q1]) (fun r => by simp (decide := true) only [b179_0, b179_6, b179_22, b179_367, hm1, x01, x11, x21, x31, x41, x51, xa6, xa7, xa8, xa9, xa10, xa11, xa12, xa13, xa14, xa15, xa16, xa17, xa18, xa19, xa20, Int32.neg_neg, ↓reduceIte, xtl, xtl0, exists_eq_left, true_and, and_true, xbit_0, xbit_1, q1]) h
  by_cases c11 : v1 = 11
  · subst c11
    have e8 : vp_in ((11 : Int32) - 10) 8 := vp_in_d (by decide)
    have e7 : ((11 : Int32) - 10).toNatClampNeg = 1 := by decide
    have q1 := hRef 1 (by decide)
    exact xOp_mk (z := S.1 1 1) (S1 := S) (S2 := S) (fun r => by simp (decide := true) only [b113_0, b113_244, b113_252, b113_255, b113_267, b25_0, b25_5, b25_10, b25_14, e7, e8, x01, x11, x21, x31, x41, x51, xa6, xa7, xa8, xa9, xa10, xa11, xa12, xa13, xa14, xa15, xa16, xa17, xa18, xa19, xa20, Int32.neg_neg, ↓reduceIte, xtl, xtl0, exists_eq_left, true_and, and_true, xbit_0, xbit_1]) (fun r => by simp (decide := true) only [b179_0, b179_6, b179_12, e7, e8, q1, x01, x11, x21, x31, x41, x51, xa6, xa7, xa8, xa9, xa10, xa11, xa12, xa13, xa14, xa15, xa16, xa17, xa18, xa19, xa20, Int32.neg_neg, ↓reduceIte, xtl, xtl0, exists_eq_left, true_and, and_true, xbit_0, xbit_1]) h
  by_cases c12 : v1 = 12
  · subst c12
    have e8 : vp_in ((12 : Int32) - 10) 8 := vp_in_d (by decide)
    have e7 : ((12 : Int32) - 10).toNatClampNeg = 2 := by decide
    have q1 := hRef 2 (by decide)
    exact xOp_mk (z := S.1 1 2) (S1 := S) (S2 := S) (fun r => by simp (decide := true) only [b113_0, b113_244, b113_252, b113_255, b113_267, b25_0, b25_5, b25_10, b25_14, e7, e8, x01, x11, x21, x31, x41, x51, xa6, xa7, xa8, xa9, xa10, xa11, xa12, xa13, xa14, xa15, xa16, xa17, xa18, xa19, xa20, Int32.neg_neg, ↓reduceIte, xtl, xtl0, exists_eq_left, true_and, and_true, xbit_0, xbit_1]) (fun r => by simp (decide := true) only [b179_0, b179_6, b179_12, e7, e8, q1, x01, x11, x21, x31, x41, x51, xa6, xa7, xa8, xa9, xa10, xa11, xa12, xa13, xa14, xa15, xa16, xa17, xa18, xa19, xa20, Int32.neg_neg, ↓reduceIte, xtl, xtl0, exists_eq_left, true_and, and_true, xbit_0, xbit_1]) h
  by_cases c13 : v1 = 13
  · subst c13
    have e8 : vp_in ((13 : Int32) - 10) 8 := vp_in_d (by decide)
    have e7 : ((13 : Int32) - 10).toNatClampNeg = 3 := by decide
    have q1 := hRef 3 (by decide)
    exact xOp_mk (z := S.1 1 3) (S1 := S) (S2 := S) (fun r => by simp (decide := true) only [b113_0, b113_244, b113_252, b113_255, b113_267, b25_0, b25_5, b25_10, b25_14, e7, e8, x01, x11, x21, x31, x41, x51, xa6, xa7, xa8, xa9, xa10, xa11, xa12, xa13, xa14, xa15, xa16, xa17, xa18, xa19, xa20, Int32.neg_neg, ↓reduceIte, xtl, xtl0, exists_eq_left, true_and, and_true, xbit_0, xbit_1]) (fun r => by simp (decide := true) only [b179_0, b179_6, b179_12, e7, e8, q1, x01, x11, x21, x31, x41, x51, xa6, xa7, xa8, xa9, xa10, xa11, xa12, xa13, xa14, xa15, xa16, xa17, xa18, xa19, xa20, Int32.neg_neg, ↓reduceIte, xtl, xtl0, exists_eq_left, true_and, and_true, xbit_0, xbit_1]) h
  by_cases c14 : v1 = 14
  · subst c14
    have e8 : vp_in ((14 : Int32) - 10) 8 := vp_in_d (by decide)
    have e7 : ((14 : Int32) - 10).toNatClampNeg = 4 := by decide
    have q1 := hRef 4 (by decide)
    exact xOp_mk (z := S.1 1 4) (S1 := S) (S2 := S) (fun r => by simp (decide := true) only [b113_0, b113_244, b113_252, b113_255, b113_267, b25_0, b25_5, b25_10, b25_14, e7, e8, x01, x11, x21, x31, x41, x51, xa6, xa7, xa8, xa9, xa10, xa11, xa12, xa13, xa14, xa15, xa16, xa17, xa18, xa19, xa20, Int32.neg_neg, ↓reduceIte, xtl, xtl0, exists_eq_left, true_and, and_true, xbit_0, xbit_1]) (fun r => by simp (decide := true) only [b179_0, b179_6, b179_12, e7, e8, q1, x01, x11, x21, x31, x41, x51, xa6, xa7, xa8, xa9, xa10, xa11, xa12, xa13, xa14, xa15, xa16, xa17, xa18, xa19, xa20, Int32.neg_neg, ↓reduceIte, xtl, xtl0, exists_eq_left, true_and, and_true, xbit_0, xbit_1]) h
  by_cases c15 : v1 = 15
  · subst c15
    have e8 : vp_in ((15 : Int32) - 10) 8 := vp_in_d (by decide)
    have e7 : ((15 : Int32) - 10).toNatClampNeg = 5 := by decide
    have q1 := hRef 5 (by decide)
    exact xOp_mk (z := S.1 1 5) (S1 := S) (S2 := S) (fun r => by simp (decide := true) only [b113_0, b113_244, b113_252, b113_255, b113_267, b25_0, b25_5, b25_10, b25_14, e7, e8, x01, x11, x21, x31, x41, x51, xa6, xa7, xa8, xa9, xa10, xa11, xa12, xa13, xa14, xa15, xa16, xa17, xa18, xa19, xa20, Int32.neg_neg, ↓reduceIte, xtl, xtl0, exists_eq_left, true_and, and_true, xbit_0, xbit_1]) (fun r => by simp (decide := true) only [b179_0, b179_6, b179_12, e7, e8, q1, x01, x11, x21, x31, x41, x51, xa6, xa7, xa8, xa9, xa10, xa11, xa12, xa13, xa14, xa15, xa16, xa17, xa18, xa19, xa20, Int32.neg_neg, ↓reduceIte, xtl, xtl0, exists_eq_left, true_and, and_true, xbit_0, xbit_1]) h
  by_cases c16 : v1 = 16
  · subst c16
    have e8 : vp_in ((16 : Int32) - 10) 8 := vp_in_d (by decide)
    have e7 : ((16 : Int32) - 10).toNatClampNeg = 6 := by decide
    have q1 := hRef 6 (by decide)
    exact xOp_mk (z := S.1 1 6) (S1 := S) (S2 := S) (fun r => by simp (decide := true) only [b113_0, b113_244, b113_252, b113_255, b113_267, b25_0, b25_5, b25_10, b25_14, e7, e8, x01, x11, x21, x31, x41, x51, xa6, xa7, xa8, xa9, xa10, xa11, xa12, xa13, xa14, xa15, xa16, xa17, xa18, xa19, xa20, Int32.neg_neg, ↓reduceIte, xtl, xtl0, exists_eq_left, true_and, and_true, xbit_0, xbit_1]) (fun r => by simp (decide := true) only [b179_0, b179_6, b179_12, e7, e8, q1, x01, x11, x21, x31, x41, x51, xa6, xa7, xa8, xa9, xa10, xa11, xa12, xa13, xa14, xa15, xa16, xa17, xa18, xa19, xa20, Int32.neg_neg, ↓reduceIte, xtl, xtl0, exists_eq_left, true_and, and_true, xbit_0, xbit_1]) h
  by_cases c17 : v1 = 17
  · subst c17
    have e8 : vp_in ((17 : Int32) - 10) 8 := vp_in_d (by decide)
    have e7 : ((17 : Int32) - 10).toNatClampNeg = 7 := by decide
    have q1 := hRef 7 (by decide)
    exact xOp_mk (z := S.1 1 7) (S1 := S) (S2 := S) (fun r => by simp (decide := true) only [b113_0, b113_244, b113_252, b113_255, b113_267, b25_0, b25_5, b25_10, b25_14, e7, e8, x01, x11, x21, x31, x41, x51, xa6, xa7, xa8, xa9, xa10, xa11, xa12, xa13, xa14, xa15, xa16, xa17, xa18, xa19, xa20, Int32.neg_neg, ↓reduceIte, xtl, xtl0, exists_eq_left, true_and, and_true, xbit_0, xbit_1]) (fun r => by simp (decide := true) only [b179_0, b179_6, b179_12, e7, e8, q1, x01, x11, x21, x31, x41, x51, xa6, xa7, xa8, xa9, xa10, xa11, xa12, xa13, xa14, xa15, xa16, xa17, xa18, xa19, xa20, Int32.neg_neg, ↓reduceIte, xtl, xtl0, exists_eq_left, true_and, and_true, xbit_0, xbit_1]) h
  by_cases e4 : v1 < 11
  · have e1 : ¬ 10 < v1 := by
      intro z
      rw [Int32.lt_iff_toInt_lt] at e4 z
      have h1 : (11 : Int32).toInt = 11 := rfl
      have h2 : (10 : Int32).toInt = 10 := rfl
      omega
    exact xOp_mk (z := -1) (S1 := S) (S2 := S) (fun r => by simp (decide := true) only [b113_0, b113_244, b113_252, b113_255, b113_267, b25_0, b25_5, b25_10, b25_14, c0, c1, c2, c3, c4, c5, c6, c7, c8, c9, c10, c11, c12, c13, c14, c15, c16, c17, c18, c19, c20, c21, e4, x01, x11, x21, x31, x41, x51, xa6, xa7, xa8, xa9, xa10, xa11, xa12, xa13, xa14, xa15, xa16, xa17, xa18, xa19, xa20, Int32.neg_neg, ↓reduceIte, xtl, xtl0, exists_eq_left, true_and, and_true, xbit_0, xbit_1]) (fun r => by simp (decide := true) only [b179_0, b179_6, b179_22, b179_392, e1, c0, c1, c2, c3, c4, c5, c6, c7, c8, c9, c10, c11, c12, c13, c14, c15, c16, c17, c18, c19, c20, c21, x01, x11, x21, x31, x41, x51, xa6, xa7, xa8, xa9, xa10, xa11, xa12, xa13, xa14, xa15, xa16, xa17, xa18, xa19, xa20, Int32.neg_neg, ↓reduceIte, xtl, xtl0, exists_eq_left, true_and, and_true, xbit_0, xbit_1]) h
  by_cases e5 : 17 < v1
  · have e1 : 10 < v1 := Int32.lt_trans (by decide) e5
    have e2 : ¬ v1 < 18 := by
      intro z
      rw [Int32.lt_iff_toInt_lt] at e5 z
      have h1 : (17 : Int32).toInt = 17 := rfl
      have h2 : (18 : Int32).toInt = 18 := rfl
      omega
    exact xOp_mk (z := -1) (S1 := S) (S2 := S) (fun r => by simp (decide := true) only [b113_0, b113_244, b113_252, b113_255, b113_267, b25_0, b25_5, b25_10, b25_14, c0, c1, c2, c3, c4, c5, c6, c7, c8, c9, c10, c11, c12, c13, c14, c15, c16, c17, c18, c19, c20, c21, e4, e5, x01, x11, x21, x31, x41, x51, xa6, xa7, xa8, xa9, xa10, xa11, xa12, xa13, xa14, xa15, xa16, xa17, xa18, xa19, xa20, Int32.neg_neg, ↓reduceIte, xtl, xtl0, exists_eq_left, true_and, and_true, xbit_0, xbit_1]) (fun r => by simp (decide := true) only [b179_0, b179_6, b179_22, b179_392, e1, e2, c0, c1, c2, c3, c4, c5, c6, c7, c8, c9, c10, c11, c12, c13, c14, c15, c16, c17, c18, c19, c20, c21, x01, x11, x21, x31, x41, x51, xa6, xa7, xa8, xa9, xa10, xa11, xa12, xa13, xa14, xa15, xa16, xa17, xa18, xa19, xa20, Int32.neg_neg, ↓reduceIte, xtl, xtl0, exists_eq_left, true_and, and_true, xbit_0, xbit_1]) h
  have e3 : ¬ v1 < 0 := fun z => e4 (Int32.lt_trans z (by decide))
  obtain ⟨k, hk, rfl⟩ := xIdxL (n := 17) (b := 17) (by decide) (by omega) e3 e5
  rcases (show k = 0 ∨ k = 1 ∨ k = 2 ∨ k = 3 ∨ k = 4 ∨ k = 5 ∨ k = 6 ∨ k = 7 ∨ k = 8 ∨ k = 9 ∨ k = 10 ∨ k = 11 ∨ k = 12 ∨ k = 13 ∨ k = 14 ∨ k = 15 ∨ k = 16 ∨ k = 17 by omega) with z | z | z | z | z | z | z | z | z | z | z | z | z | z | z | z | z | z <;> subst z
  · exact absurd (by decide) c0
  · exact absurd (by decide) c1
  · exact absurd (by decide) c2
  · exact absurd (by decide) c3
  · exact absurd (by decide) c4
  · exact absurd (by decide) c5
  · exact absurd (by decide) c6
  · exact absurd (by decide) c7
  · exact absurd (by decide) c8
  · exact absurd (by decide) c9
  · exact absurd (by decide) c10
  · exact absurd (by decide) c11
  · exact absurd (by decide) c12
  · exact absurd (by decide) c13
  · exact absurd (by decide) c14
  · exact absurd (by decide) c15
  · exact absurd (by decide) c16
  · exact absurd (by decide) c17
