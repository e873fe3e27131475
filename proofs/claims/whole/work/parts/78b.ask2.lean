/-! one household chooses: both sides step as hStep says, by program -/
theorem mHm_0 {S0 S : xS} {tr : Nat → Int32} {F T : Nat} {A : hS} {c k : Nat} {pay : Int32} (h : mHm S0 S F T A) (hf : 0 < A.2.2.2.2.1) (hc : ¬ 0 < tr (5 * k + 2)) : mHm S0 (xwI (xwI (xwI S 54 10 (S.1 54 10 + 1)) 54 13 (S.1 54 13 + pay)) 67 c (S.1 67 c + 1)) F T (hStep tr A c k pay 0) := by
  obtain ⟨h1, h2, h3, h4, ⟨p, h5, h5b⟩, ⟨q, h6, h6b⟩, h7, h8, h9, h10⟩ := h
  unfold hStep
  rw [if_pos rfl, if_neg hc]
  refine ⟨fun j hj => ?_, fun j hj => ?_, fun j hj => ?_, ?_, ?_, ?_, ?_, fun j c1 c2 c3 c4 c5 c6 => ?_, fun j c1 c2 c3 c4 => ?_, h10⟩ <;> try simp (decide := true) only [xrd_ne, xrd_same, vupd_eq, vupd_ne]
  · by_cases e : j = c
    · subst e; rw [vupd_eq, vupd_eq, h1 _ hj]
    · rw [vupd_ne _ _ _ _ e, vupd_ne _ _ _ _ e, h1 _ hj]
  · exact h2 j hj
  · exact h3 j hj
  · exact h4
  · exact ⟨p + 1, by rw [h5, nI_1], by show p + 1 + (A.2.2.2.2.1 - 1) = F; omega⟩
  · exact ⟨q, h6, h6b⟩
  · rw [h7]
  · rw [xrd_ne _ _ _ _ _ c4, xrd_ne _ _ _ _ _ c1, xrd_ne _ _ _ _ _ c1]; exact h8 j c1 c2 c3 c4 c5 c6
  · rw [vupd_ne _ _ _ _ c4, vupd_ne _ _ _ _ c1]; exact h9 j c1 c2 c3 c4
theorem mHm_0c {S0 S : xS} {tr : Nat → Int32} {F T : Nat} {A : hS} {c k : Nat} {pay : Int32} (h : mHm S0 S F T A) (hf : 0 < A.2.2.2.2.1) (hs : 0 < A.2.2.2.2.2.1) (hc : 0 < tr (5 * k + 2)) : mHm S0 (xwI (xwI (xwI (xwI S 54 10 (S.1 54 10 + 1)) 54 11 (S.1 54 11 + 1)) 54 13 (S.1 54 13 + pay)) 67 c (S.1 67 c + 1)) F T (hStep tr A c k pay 0) := by
  obtain ⟨h1, h2, h3, h4, ⟨p, h5, h5b⟩, ⟨q, h6, h6b⟩, h7, h8, h9, h10⟩ := h
  unfold hStep
  rw [if_pos rfl, if_pos hc]
  refine ⟨fun j hj => ?_, fun j hj => ?_, fun j hj => ?_, ?_, ?_, ?_, ?_, fun j c1 c2 c3 c4 c5 c6 => ?_, fun j c1 c2 c3 c4 => ?_, h10⟩ <;> try simp (decide := true) only [xrd_ne, xrd_same, vupd_eq, vupd_ne]
  · by_cases e : j = c
    · subst e; rw [vupd_eq, vupd_eq, h1 _ hj]
    · rw [vupd_ne _ _ _ _ e, vupd_ne _ _ _ _ e, h1 _ hj]
  · exact h2 j hj
  · exact h3 j hj
  · exact h4
  · exact ⟨p + 1, by rw [h5, nI_1], by show p + 1 + (A.2.2.2.2.1 - 1) = F; omega⟩
  · exact ⟨q + 1, by rw [h6, nI_1], by show q + 1 + (A.2.2.2.2.2.1 - 1) = T; omega⟩
  · rw [h7]
  · rw [xrd_ne _ _ _ _ _ c4, xrd_ne _ _ _ _ _ c1, xrd_ne _ _ _ _ _ c1, xrd_ne _ _ _ _ _ c1]; exact h8 j c1 c2 c3 c4 c5 c6
  · rw [vupd_ne _ _ _ _ c4, vupd_ne _ _ _ _ c2, vupd_ne _ _ _ _ c1]; exact h9 j c1 c2 c3 c4
theorem mHm_1 {S0 S : xS} {tr : Nat → Int32} {F T : Nat} {A : hS} {c k : Nat} {pay : Int32} (h : mHm S0 S F T A) : mHm S0 (xwI (xwI S 54 12 (S.1 54 12 + 1)) 68 c (S.1 68 c + 1)) F T (hStep tr A c k pay 1) := by
  obtain ⟨h1, h2, h3, h4, ⟨p, h5, h5b⟩, ⟨q, h6, h6b⟩, h7, h8, h9, h10⟩ := h
  unfold hStep
  rw [if_neg (by decide), if_pos rfl]
  refine ⟨fun j hj => ?_, fun j hj => ?_, fun j hj => ?_, ?_, ?_, ?_, ?_, fun j c1 c2 c3 c4 c5 c6 => ?_, fun j c1 c2 c3 c4 => ?_, h10⟩ <;> try simp (decide := true) only [xrd_ne, xrd_same, vupd_eq, vupd_ne]
  · exact h1 j hj
  · by_cases e : j = c
    · subst e; rw [vupd_eq, vupd_eq, h2 _ hj]
    · rw [vupd_ne _ _ _ _ e, vupd_ne _ _ _ _ e, h2 _ hj]
  · exact h3 j hj
  · rw [h4]
  · exact ⟨p, h5, h5b⟩
  · exact ⟨q, h6, h6b⟩
  · exact h7
  · rw [xrd_ne _ _ _ _ _ c5, xrd_ne _ _ _ _ _ c1]; exact h8 j c1 c2 c3 c4 c5 c6
  · rw [vupd_ne _ _ _ _ c3]; exact h9 j c1 c2 c3 c4
theorem mHm_2 {S0 S : xS} {tr : Nat → Int32} {F T : Nat} {A : hS} {c k : Nat} {pay : Int32} (h : mHm S0 S F T A) : mHm S0 (xwI S 69 c (S.1 69 c + 1)) F T (hStep tr A c k pay 2) := by
  obtain ⟨h1, h2, h3, h4, ⟨p, h5, h5b⟩, ⟨q, h6, h6b⟩, h7, h8, h9, h10⟩ := h
  unfold hStep
  rw [if_neg (by decide), if_neg (by decide)]
  refine ⟨fun j hj => ?_, fun j hj => ?_, fun j hj => ?_, ?_, ?_, ?_, ?_, fun j c1 c2 c3 c4 c5 c6 => ?_, fun j c1 c2 c3 c4 => ?_, h10⟩ <;> try simp (decide := true) only [xrd_ne, xrd_same, vupd_eq, vupd_ne]
  · exact h1 j hj
  · exact h2 j hj
  · by_cases e : j = c
    · subst e; rw [vupd_eq, vupd_eq, h3 _ hj]
    · rw [vupd_ne _ _ _ _ e, vupd_ne _ _ _ _ e, h3 _ hj]
  · exact h4
  · exact ⟨p, h5, h5b⟩
  · exact ⟨q, h6, h6b⟩
  · exact h7
  · rw [xrd_ne _ _ _ _ _ c6]; exact h8 j c1 c2 c3 c4 c5 c6
  · exact h9 j c1 c2 c3 c4
def xBase (S0 : xS) (tr : Nat → Int32) (rent train : Int32) (w0 n : Nat) (pay : Nat → Int32) : Prop := S0.1 15 = tr ∧ S0.1 13 6 = rent ∧ S0.1 13 5 = train ∧ (∃ l, l ≤ 6 ∧ S0.1 19 0 = nI l ∧ ∀ o, pay o = xpf (S0.1 20) (S0.1 23) (S0.1 22) (S0.1 21) (nI o) (nI w0) l) ∧ S0.1 2 0 = nI n ∧ n ≤ 10
def mBase (S0 : xS) (tr : Nat → Int32) (rent train : Int32) (w0 n : Nat) (pay : Nat → Int32) (F T : Nat) : Prop := (S0.1 54 5 = nI w0 ∧ w0 < 5) ∧ S0.1 54 7 = rent ∧ S0.1 54 9 = train ∧ (∀ c, c < 15 → S0.1 70 c = tr c) ∧ (∀ k, k < 3 → ∃ m : Nat, m ≤ 100 ∧ tr (5 * k + 2) = nI m) ∧ (∃ f : Nat → Nat, (∀ k, k < 5 → S0.1 63 k = nI (f k)) ∧ sN f (w0 + 1) = F) ∧ (∃ f : Nat → Nat, (∀ k, k < 5 → S0.1 64 k = nI (f k)) ∧ sN f (w0 + 1) = T) ∧ (∃ l, l ≤ 6 ∧ S0.1 54 2 = nI l ∧ ∀ o, pay o = xpf (S0.1 77) (S0.1 80) (S0.1 79) (S0.1 78) (nI o) (nI w0) l) ∧ (S0.1 54 0 = nI n ∧ n ≤ 10) ∧ F ≤ 3000 ∧ T ≤ 3000
theorem nI_pos0 {n : Nat} (h : 0 < n) (hn : n ≤ 3000) : (0 : Int32) < nI n := by rw [← nI_0]; exact nI_lt h (by omega)
theorem nI_npos0 {n : Nat} (h : ¬ 0 < n) : ¬ (0 : Int32) < nI n := by
  have e : n = 0 := by omega
  subst e; decide
theorem m158_63 (S : xS) {f : Nat → Nat} (h : ∀ k, k < 5 → S.1 63 k = nI (f k)) {w : Nat} (hw : w < 5) (d : Nat) (r : Option Value × xS) : xX d 158 0 [(0, .ref 54), (1, .ref 63), (2, .int (nI w))] [] S r ↔ r = (some (.int (nI (sN f (w + 1)))), S) := by
  rw [← xsum_nI (f := S.1 63) (g := f) (n := w + 1) (fun k hk => h k (by omega))]
  refine (t158_63 d (nI w) S r).trans ?_
  rcases (show w = 0 ∨ w = 1 ∨ w = 2 ∨ w = 3 ∨ w = 4 by omega) with z | z | z | z | z <;> subst z <;> simp (decide := true) only [p158_63, ↓reduceIte, xsum]
theorem m158_64 (S : xS) {f : Nat → Nat} (h : ∀ k, k < 5 → S.1 64 k = nI (f k)) {w : Nat} (hw : w < 5) (d : Nat) (r : Option Value × xS) : xX d 158 0 [(0, .ref 54), (1, .ref 64), (2, .int (nI w))] [] S r ↔ r = (some (.int (nI (sN f (w + 1)))), S) := by
  rw [← xsum_nI (f := S.1 64) (g := f) (n := w + 1) (fun k hk => h k (by omega))]
  refine (t158_64 d (nI w) S r).trans ?_
  rcases (show w = 0 ∨ w = 1 ∨ w = 2 ∨ w = 3 ∨ w = 4 by omega) with z | z | z | z | z <;> subst z <;> simp (decide := true) only [p158_64, ↓reduceIte, xsum]
theorem x20 {S0 S : xS} {tr : Nat → Int32} {rent train : Int32} {w0 n : Nat} {py : Nat → Int32} {A : hS} (hB : xBase S0 tr rent train w0 n py) (h : xHx S0 S A) (hF : A.2.2.2.2.1 ≤ 3000) (hT : A.2.2.2.2.2.1 ≤ 3000) {o k : Nat} (ho : o < 10) (hk : k < 3) (pay : Int32) : ∃ S', xHx S0 S' (hStep tr A (3 * o + k) k pay (hD tr rent train A k pay)) ∧ S'.1 7 = S.1 7 ∧ ∀ (d : Nat) (r : Option Value × xS), xX (d + 3) 20 0 [(0, .ref 13), (1, .int (nI o)), (2, .int (nI k)), (3, .int pay)] [] S r ↔ r = (some (.int (if hD tr rent train A k pay = 0 then 1 else 0)), S') := by
  obtain ⟨b1, b2, b3, b4, b5, b6⟩ := hB
  obtain ⟨h1, h2, h3, h4, h5, h6, h7, h8, h9, h10, h11⟩ := id h
  have q15 : S.1 15 = tr := by rw [h8 15 (by decide) (by decide) (by decide) (by decide) (by decide), b1]
  have q5 : S.1 13 5 = train := h9.trans b3
  have q6 : S.1 13 6 = rent := h10.trans b2
  have m0 : nI k * 5 + 0 = nI (5 * k) := by have := nI_m 5 5 (by decide) k 0; rw [nI_0] at this; exact this
  have m1 : nI k * 5 + 1 = nI (5 * k + 1) := nI_m 5 5 (by decide) k 1
  have m2 : nI k * 5 + 2 = nI (5 * k + 2) := nI_m 5 5 (by decide) k 2
  have m3 : nI k * 5 + 3 = nI (5 * k + 3) := nI_m 5 5 (by decide) k 3
  have m4 : nI k * 5 + 4 = nI (5 * k + 4) := nI_m 5 5 (by decide) k 4
  have mc : nI o * 3 + nI k = nI (3 * o + k) := nI_m 3 3 (by decide) o k
  have x0 : (nI (5 * k)).toNatClampNeg = 5 * k := nI_clamp (by omega)
  have x1 : (nI (5 * k + 1)).toNatClampNeg = 5 * k + 1 := nI_clamp (by omega)
  have x2 : (nI (5 * k + 2)).toNatClampNeg = 5 * k + 2 := nI_clamp (by omega)
  have x3 : (nI (5 * k + 3)).toNatClampNeg = 5 * k + 3 := nI_clamp (by omega)
  have x4 : (nI (5 * k + 4)).toNatClampNeg = 5 * k + 4 := nI_clamp (by omega)
  have xc : (nI (3 * o + k)).toNatClampNeg = 3 * o + k := nI_clamp (by omega)
  have xo : (nI o).toNatClampNeg = o := nI_clamp (by omega)
  have y0 := vp_in_nI (show 5 * k < 15 by omega) (by omega : 15 < 2 ^ 31)
  have y1 := vp_in_nI (show 5 * k + 1 < 15 by omega) (by omega : 15 < 2 ^ 31)
  have y2 := vp_in_nI (show 5 * k + 2 < 15 by omega) (by omega : 15 < 2 ^ 31)
  have y3 := vp_in_nI (show 5 * k + 3 < 15 by omega) (by omega : 15 < 2 ^ 31)
  have y4 := vp_in_nI (show 5 * k + 4 < 15 by omega) (by omega : 15 < 2 ^ 31)
  have yc := vp_in_nI (show 3 * o + k < 30 by omega) (by omega : 30 < 2 ^ 31)
  have yo := vp_in_nI (show o < 10 by omega) (by omega : 10 < 2 ^ 31)
  by_cases c1 : A.2.2.2.1 < train
  · skip
    by_cases c2 : 0 < A.2.2.2.2.1
    · skip
      by_cases c3 : 0 < tr (5 * k + 2)
      · skip
        by_cases c4 : 0 < A.2.2.2.2.2.1
        · skip
          by_cases c5 : tr (5 * k + 4) < (if 0 < rent + tr (5 * k) + tr (5 * k + 1) - pay then rent + tr (5 * k) + tr (5 * k + 1) - pay else 0)
          · skip
            by_cases c7 : tr (5 * k + 4) < tr (5 * k + 3) + tr (5 * k + 2)
            · skip
              have i2 := nI_pos0 c2 hF
              have i4 := nI_pos0 c4 hT
              have hd : hD tr rent train A k pay = 2 := by simp (decide := true) only [hD, hMv, c1, c2, c3, c4, c5, c7, not_true_eq_false, not_false_eq_true, true_and, and_true, false_and, and_false, or_true, true_or, false_or, or_false, ↓reduceIte]
              rw [hd]
              refine ⟨_, xHx_2 h ho hk, ?_, fun d r => (t20 d (nI o) (nI k) pay S r ?_).trans ?_⟩
              · simp (decide := true) only [xrd_ne]
              · simp (decide := true) only [g20, q15, q5, q6, h4, h5, h6, m0, m1, m2, m3, m4, mc, x0, x1, x2, x3, x4, xc, xo, y0, y1, y2, y3, y4, yc, yo, c1, c2, c3, c4, c5, c7, i2, i4, and_true, true_and, not_true_eq_false, not_false_eq_true, ↓reduceIte]
              · simp (decide := true) only [p20, xrd_ne, xrd_n2, xrd_eq, q15, q5, q6, h4, h5, h6, m0, m1, m2, m3, m4, mc, x0, x1, x2, x3, x4, xc, xo, y0, y1, y2, y3, y4, yc, yo, c1, c2, c3, c4, c5, c7, i2, i4, and_true, true_and, not_true_eq_false, not_false_eq_true, ↓reduceIte]
            · skip
              have i2 := nI_pos0 c2 hF
              have i4 := nI_pos0 c4 hT
              have hd : hD tr rent train A k pay = 1 := by simp (decide := true) only [hD, hMv, c1, c2, c3, c4, c5, c7, not_true_eq_false, not_false_eq_true, true_and, and_true, false_and, and_false, or_true, true_or, false_or, or_false, ↓reduceIte]
              rw [hd]
              refine ⟨_, xHx_1 h ho hk, ?_, fun d r => (t20 d (nI o) (nI k) pay S r ?_).trans ?_⟩
              · simp (decide := true) only [xrd_ne]
              · simp (decide := true) only [g20, q15, q5, q6, h4, h5, h6, m0, m1, m2, m3, m4, mc, x0, x1, x2, x3, x4, xc, xo, y0, y1, y2, y3, y4, yc, yo, c1, c2, c3, c4, c5, c7, i2, i4, and_true, true_and, not_true_eq_false, not_false_eq_true, ↓reduceIte]
              · simp (decide := true) only [p20, xrd_ne, xrd_n2, xrd_eq, q15, q5, q6, h4, h5, h6, m0, m1, m2, m3, m4, mc, x0, x1, x2, x3, x4, xc, xo, y0, y1, y2, y3, y4, yc, yo, c1, c2, c3, c4, c5, c7, i2, i4, and_true, true_and, not_true_eq_false, not_false_eq_true, ↓reduceIte]
          · skip
            by_cases c6 : tr (5 * k + 3) + tr (5 * k + 2) < (if 0 < rent + tr (5 * k) + tr (5 * k + 1) - pay then rent + tr (5 * k) + tr (5 * k + 1) - pay else 0)
            · skip
              by_cases c7 : tr (5 * k + 4) < tr (5 * k + 3) + tr (5 * k + 2)
              · skip
                have i2 := nI_pos0 c2 hF
                have i4 := nI_pos0 c4 hT
                have hd : hD tr rent train A k pay = 2 := by simp (decide := true) only [hD, hMv, c1, c2, c3, c4, c5, c6, c7, not_true_eq_false, not_false_eq_true, true_and, and_true, false_and, and_false, or_true, true_or, false_or, or_false, ↓reduceIte]
                rw [hd]
                refine ⟨_, xHx_2 h ho hk, ?_, fun d r => (t20 d (nI o) (nI k) pay S r ?_).trans ?_⟩
                · simp (decide := true) only [xrd_ne]
                · simp (decide := true) only [g20, q15, q5, q6, h4, h5, h6, m0, m1, m2, m3, m4, mc, x0, x1, x2, x3, x4, xc, xo, y0, y1, y2, y3, y4, yc, yo, c1, c2, c3, c4, c5, c6, c7, i2, i4, and_true, true_and, not_true_eq_false, not_false_eq_true, ↓reduceIte]
                · simp (decide := true) only [p20, xrd_ne, xrd_n2, xrd_eq, q15, q5, q6, h4, h5, h6, m0, m1, m2, m3, m4, mc, x0, x1, x2, x3, x4, xc, xo, y0, y1, y2, y3, y4, yc, yo, c1, c2, c3, c4, c5, c6, c7, i2, i4, and_true, true_and, not_true_eq_false, not_false_eq_true, ↓reduceIte]
              · skip
                have i2 := nI_pos0 c2 hF
                have i4 := nI_pos0 c4 hT
                have hd : hD tr rent train A k pay = 1 := by simp (decide := true) only [hD, hMv, c1, c2, c3, c4, c5, c6, c7, not_true_eq_false, not_false_eq_true, true_and, and_true, false_and, and_false, or_true, true_or, false_or, or_false, ↓reduceIte]
                rw [hd]
                refine ⟨_, xHx_1 h ho hk, ?_, fun d r => (t20 d (nI o) (nI k) pay S r ?_).trans ?_⟩
                · simp (decide := true) only [xrd_ne]
                · simp (decide := true) only [g20, q15, q5, q6, h4, h5, h6, m0, m1, m2, m3, m4, mc, x0, x1, x2, x3, x4, xc, xo, y0, y1, y2, y3, y4, yc, yo, c1, c2, c3, c4, c5, c6, c7, i2, i4, and_true, true_and, not_true_eq_false, not_false_eq_true, ↓reduceIte]
                · simp (decide := true) only [p20, xrd_ne, xrd_n2, xrd_eq, q15, q5, q6, h4, h5, h6, m0, m1, m2, m3, m4, mc, x0, x1, x2, x3, x4, xc, xo, y0, y1, y2, y3, y4, yc, yo, c1, c2, c3, c4, c5, c6, c7, i2, i4, and_true, true_and, not_true_eq_false, not_false_eq_true, ↓reduceIte]
            · skip
              have i2 := nI_pos0 c2 hF
              have i4 := nI_pos0 c4 hT
              have hd : hD tr rent train A k pay = 0 := by simp (decide := true) only [hD, hMv, c1, c2, c3, c4, c5, c6, not_true_eq_false, not_false_eq_true, true_and, and_true, false_and, and_false, or_true, true_or, false_or, or_false, ↓reduceIte]
              rw [hd]
              refine ⟨_, xHx_0c h ho hk c2 c4 c3, ?_, fun d r => (t20 d (nI o) (nI k) pay S r ?_).trans ?_⟩
              · simp (decide := true) only [xrd_ne]
              · simp (decide := true) only [g20, q15, q5, q6, h4, h5, h6, m0, m1, m2, m3, m4, mc, x0, x1, x2, x3, x4, xc, xo, y0, y1, y2, y3, y4, yc, yo, c1, c2, c3, c4, c5, c6, i2, i4, and_true, true_and, not_true_eq_false, not_false_eq_true, ↓reduceIte]
              · simp (decide := true) only [p20, xrd_ne, xrd_n2, xrd_eq, q15, q5, q6, h4, h5, h6, m0, m1, m2, m3, m4, mc, x0, x1, x2, x3, x4, xc, xo, y0, y1, y2, y3, y4, yc, yo, c1, c2, c3, c4, c5, c6, i2, i4, and_true, true_and, not_true_eq_false, not_false_eq_true, ↓reduceIte]
        · skip
          by_cases c7 : tr (5 * k + 4) < tr (5 * k + 3) + tr (5 * k + 2)
          · skip
            have i2 := nI_pos0 c2 hF
            have i4 := nI_npos0 c4
            have hd : hD tr rent train A k pay = 2 := by simp (decide := true) only [hD, hMv, c1, c2, c3, c4, c7, not_true_eq_false, not_false_eq_true, true_and, and_true, false_and, and_false, or_true, true_or, false_or, or_false, ↓reduceIte]
            rw [hd]
            refine ⟨_, xHx_2 h ho hk, ?_, fun d r => (t20 d (nI o) (nI k) pay S r ?_).trans ?_⟩
            · simp (decide := true) only [xrd_ne]
            · simp (decide := true) only [g20, q15, q5, q6, h4, h5, h6, m0, m1, m2, m3, m4, mc, x0, x1, x2, x3, x4, xc, xo, y0, y1, y2, y3, y4, yc, yo, c1, c2, c3, c4, c7, i2, i4, and_true, true_and, not_true_eq_false, not_false_eq_true, ↓reduceIte]
            · simp (decide := true) only [p20, xrd_ne, xrd_n2, xrd_eq, q15, q5, q6, h4, h5, h6, m0, m1, m2, m3, m4, mc, x0, x1, x2, x3, x4, xc, xo, y0, y1, y2, y3, y4, yc, yo, c1, c2, c3, c4, c7, i2, i4, and_true, true_and, not_true_eq_false, not_false_eq_true, ↓reduceIte]
          · skip
            have i2 := nI_pos0 c2 hF
            have i4 := nI_npos0 c4
            have hd : hD tr rent train A k pay = 1 := by simp (decide := true) only [hD, hMv, c1, c2, c3, c4, c7, not_true_eq_false, not_false_eq_true, true_and, and_true, false_and, and_false, or_true, true_or, false_or, or_false, ↓reduceIte]
            rw [hd]
            refine ⟨_, xHx_1 h ho hk, ?_, fun d r => (t20 d (nI o) (nI k) pay S r ?_).trans ?_⟩
            · simp (decide := true) only [xrd_ne]
            · simp (decide := true) only [g20, q15, q5, q6, h4, h5, h6, m0, m1, m2, m3, m4, mc, x0, x1, x2, x3, x4, xc, xo, y0, y1, y2, y3, y4, yc, yo, c1, c2, c3, c4, c7, i2, i4, and_true, true_and, not_true_eq_false, not_false_eq_true, ↓reduceIte]
            · simp (decide := true) only [p20, xrd_ne, xrd_n2, xrd_eq, q15, q5, q6, h4, h5, h6, m0, m1, m2, m3, m4, mc, x0, x1, x2, x3, x4, xc, xo, y0, y1, y2, y3, y4, yc, yo, c1, c2, c3, c4, c7, i2, i4, and_true, true_and, not_true_eq_false, not_false_eq_true, ↓reduceIte]
      · skip
        by_cases c5 : tr (5 * k + 4) < (if 0 < rent + tr (5 * k) + tr (5 * k + 1) - pay then rent + tr (5 * k) + tr (5 * k + 1) - pay else 0)
        · skip
          by_cases c7 : tr (5 * k + 4) < tr (5 * k + 3) + tr (5 * k + 2)
          · skip
            have i2 := nI_pos0 c2 hF
            have hd : hD tr rent train A k pay = 2 := by simp (decide := true) only [hD, hMv, c1, c2, c3, c5, c7, not_true_eq_false, not_false_eq_true, true_and, and_true, false_and, and_false, or_true, true_or, false_or, or_false, ↓reduceIte]
            rw [hd]
            refine ⟨_, xHx_2 h ho hk, ?_, fun d r => (t20 d (nI o) (nI k) pay S r ?_).trans ?_⟩
            · simp (decide := true) only [xrd_ne]
            · simp (decide := true) only [g20, q15, q5, q6, h4, h5, h6, m0, m1, m2, m3, m4, mc, x0, x1, x2, x3, x4, xc, xo, y0, y1, y2, y3, y4, yc, yo, c1, c2, c3, c5, c7, i2, and_true, true_and, not_true_eq_false, not_false_eq_true, ↓reduceIte]
            · simp (decide := true) only [p20, xrd_ne, xrd_n2, xrd_eq, q15, q5, q6, h4, h5, h6, m0, m1, m2, m3, m4, mc, x0, x1, x2, x3, x4, xc, xo, y0, y1, y2, y3, y4, yc, yo, c1, c2, c3, c5, c7, i2, and_true, true_and, not_true_eq_false, not_false_eq_true, ↓reduceIte]
          · skip
            have i2 := nI_pos0 c2 hF
            have hd : hD tr rent train A k pay = 1 := by simp (decide := true) only [hD, hMv, c1, c2, c3, c5, c7, not_true_eq_false, not_false_eq_true, true_and, and_true, false_and, and_false, or_true, true_or, false_or, or_false, ↓reduceIte]
            rw [hd]
            refine ⟨_, xHx_1 h ho hk, ?_, fun d r => (t20 d (nI o) (nI k) pay S r ?_).trans ?_⟩
            · simp (decide := true) only [xrd_ne]
            · simp (decide := true) only [g20, q15, q5, q6, h4, h5, h6, m0, m1, m2, m3, m4, mc, x0, x1, x2, x3, x4, xc, xo, y0, y1, y2, y3, y4, yc, yo, c1, c2, c3, c5, c7, i2, and_true, true_and, not_true_eq_false, not_false_eq_true, ↓reduceIte]
            · simp (decide := true) only [p20, xrd_ne, xrd_n2, xrd_eq, q15, q5, q6, h4, h5, h6, m0, m1, m2, m3, m4, mc, x0, x1, x2, x3, x4, xc, xo, y0, y1, y2, y3, y4, yc, yo, c1, c2, c3, c5, c7, i2, and_true, true_and, not_true_eq_false, not_false_eq_true, ↓reduceIte]
        · skip
          by_cases c6 : tr (5 * k + 3) + tr (5 * k + 2) < (if 0 < rent + tr (5 * k) + tr (5 * k + 1) - pay then rent + tr (5 * k) + tr (5 * k + 1) - pay else 0)
          · skip
            by_cases c7 : tr (5 * k + 4) < tr (5 * k + 3) + tr (5 * k + 2)
            · skip
              have i2 := nI_pos0 c2 hF
              have hd : hD tr rent train A k pay = 2 := by simp (decide := true) only [hD, hMv, c1, c2, c3, c5, c6, c7, not_true_eq_false, not_false_eq_true, true_and, and_true, false_and, and_false, or_true, true_or, false_or, or_false, ↓reduceIte]
              rw [hd]
              refine ⟨_, xHx_2 h ho hk, ?_, fun d r => (t20 d (nI o) (nI k) pay S r ?_).trans ?_⟩
              · simp (decide := true) only [xrd_ne]
              · simp (decide := true) only [g20, q15, q5, q6, h4, h5, h6, m0, m1, m2, m3, m4, mc, x0, x1, x2, x3, x4, xc, xo, y0, y1, y2, y3, y4, yc, yo, c1, c2, c3, c5, c6, c7, i2, and_true, true_and, not_true_eq_false, not_false_eq_true, ↓reduceIte]
              · simp (decide := true) only [p20, xrd_ne, xrd_n2, xrd_eq, q15, q5, q6, h4, h5, h6, m0, m1, m2, m3, m4, mc, x0, x1, x2, x3, x4, xc, xo, y0, y1, y2, y3, y4, yc, yo, c1, c2, c3, c5, c6, c7, i2, and_true, true_and, not_true_eq_false, not_false_eq_true, ↓reduceIte]
            · skip
              have i2 := nI_pos0 c2 hF
              have hd : hD tr rent train A k pay = 1 := by simp (decide := true) only [hD, hMv, c1, c2, c3, c5, c6, c7, not_true_eq_false, not_false_eq_true, true_and, and_true, false_and, and_false, or_true, true_or, false_or, or_false, ↓reduceIte]
              rw [hd]
              refine ⟨_, xHx_1 h ho hk, ?_, fun d r => (t20 d (nI o) (nI k) pay S r ?_).trans ?_⟩
              · simp (decide := true) only [xrd_ne]
              · simp (decide := true) only [g20, q15, q5, q6, h4, h5, h6, m0, m1, m2, m3, m4, mc, x0, x1, x2, x3, x4, xc, xo, y0, y1, y2, y3, y4, yc, yo, c1, c2, c3, c5, c6, c7, i2, and_true, true_and, not_true_eq_false, not_false_eq_true, ↓reduceIte]
              · simp (decide := true) only [p20, xrd_ne, xrd_n2, xrd_eq, q15, q5, q6, h4, h5, h6, m0, m1, m2, m3, m4, mc, x0, x1, x2, x3, x4, xc, xo, y0, y1, y2, y3, y4, yc, yo, c1, c2, c3, c5, c6, c7, i2, and_true, true_and, not_true_eq_false, not_false_eq_true, ↓reduceIte]
          · skip
            have i2 := nI_pos0 c2 hF
            have hd : hD tr rent train A k pay = 0 := by simp (decide := true) only [hD, hMv, c1, c2, c3, c5, c6, not_true_eq_false, not_false_eq_true, true_and, and_true, false_and, and_false, or_true, true_or, false_or, or_false, ↓reduceIte]
            rw [hd]
            refine ⟨_, xHx_0 h ho hk c2 c3, ?_, fun d r => (t20 d (nI o) (nI k) pay S r ?_).trans ?_⟩
            · simp (decide := true) only [xrd_ne]
            · simp (decide := true) only [g20, q15, q5, q6, h4, h5, h6, m0, m1, m2, m3, m4, mc, x0, x1, x2, x3, x4, xc, xo, y0, y1, y2, y3, y4, yc, yo, c1, c2, c3, c5, c6, i2, and_true, true_and, not_true_eq_false, not_false_eq_true, ↓reduceIte]
            · simp (decide := true) only [p20, xrd_ne, xrd_n2, xrd_eq, q15, q5, q6, h4, h5, h6, m0, m1, m2, m3, m4, mc, x0, x1, x2, x3, x4, xc, xo, y0, y1, y2, y3, y4, yc, yo, c1, c2, c3, c5, c6, i2, and_true, true_and, not_true_eq_false, not_false_eq_true, ↓reduceIte]
    · skip
      by_cases c7 : tr (5 * k + 4) < tr (5 * k + 3) + tr (5 * k + 2)
      · skip
        have i2 := nI_npos0 c2
        have hd : hD tr rent train A k pay = 2 := by simp (decide := true) only [hD, hMv, c1, c2, c7, not_true_eq_false, not_false_eq_true, true_and, and_true, false_and, and_false, or_true, true_or, false_or, or_false, ↓reduceIte]
        rw [hd]
        refine ⟨_, xHx_2 h ho hk, ?_, fun d r => (t20 d (nI o) (nI k) pay S r ?_).trans ?_⟩
        · simp (decide := true) only [xrd_ne]
        · simp (decide := true) only [g20, q15, q5, q6, h4, h5, h6, m0, m1, m2, m3, m4, mc, x0, x1, x2, x3, x4, xc, xo, y0, y1, y2, y3, y4, yc, yo, c1, c2, c7, i2, and_true, true_and, not_true_eq_false, not_false_eq_true, ↓reduceIte]
        · simp (decide := true) only [p20, xrd_ne, xrd_n2, xrd_eq, q15, q5, q6, h4, h5, h6, m0, m1, m2, m3, m4, mc, x0, x1, x2, x3, x4, xc, xo, y0, y1, y2, y3, y4, yc, yo, c1, c2, c7, i2, and_true, true_and, not_true_eq_false, not_false_eq_true, ↓reduceIte]
      · skip
        have i2 := nI_npos0 c2
        have hd : hD tr rent train A k pay = 1 := by simp (decide := true) only [hD, hMv, c1, c2, c7, not_true_eq_false, not_false_eq_true, true_and, and_true, false_and, and_false, or_true, true_or, false_or, or_false, ↓reduceIte]
        rw [hd]
        refine ⟨_, xHx_1 h ho hk, ?_, fun d r => (t20 d (nI o) (nI k) pay S r ?_).trans ?_⟩
        · simp (decide := true) only [xrd_ne]
        · simp (decide := true) only [g20, q15, q5, q6, h4, h5, h6, m0, m1, m2, m3, m4, mc, x0, x1, x2, x3, x4, xc, xo, y0, y1, y2, y3, y4, yc, yo, c1, c2, c7, i2, and_true, true_and, not_true_eq_false, not_false_eq_true, ↓reduceIte]
        · simp (decide := true) only [p20, xrd_ne, xrd_n2, xrd_eq, q15, q5, q6, h4, h5, h6, m0, m1, m2, m3, m4, mc, x0, x1, x2, x3, x4, xc, xo, y0, y1, y2, y3, y4, yc, yo, c1, c2, c7, i2, and_true, true_and, not_true_eq_false, not_false_eq_true, ↓reduceIte]
  · skip
    by_cases c2 : 0 < A.2.2.2.2.1
    · skip
      by_cases c3 : 0 < tr (5 * k + 2)
      · skip
        by_cases c4 : 0 < A.2.2.2.2.2.1
        · skip
          by_cases c5 : tr (5 * k + 4) < (if 0 < rent + tr (5 * k) + tr (5 * k + 1) - pay then rent + tr (5 * k) + tr (5 * k + 1) - pay else 0)
          · skip
            have i2 := nI_pos0 c2 hF
            have i4 := nI_pos0 c4 hT
            have hd : hD tr rent train A k pay = 2 := by simp (decide := true) only [hD, hMv, c1, c2, c3, c4, c5, not_true_eq_false, not_false_eq_true, true_and, and_true, false_and, and_false, or_true, true_or, false_or, or_false, ↓reduceIte]
            rw [hd]
            refine ⟨_, xHx_2 h ho hk, ?_, fun d r => (t20 d (nI o) (nI k) pay S r ?_).trans ?_⟩
            · simp (decide := true) only [xrd_ne]
            · simp (decide := true) only [g20, q15, q5, q6, h4, h5, h6, m0, m1, m2, m3, m4, mc, x0, x1, x2, x3, x4, xc, xo, y0, y1, y2, y3, y4, yc, yo, c1, c2, c3, c4, c5, i2, i4, and_true, true_and, not_true_eq_false, not_false_eq_true, ↓reduceIte]
            · simp (decide := true) only [p20, xrd_ne, xrd_n2, xrd_eq, q15, q5, q6, h4, h5, h6, m0, m1, m2, m3, m4, mc, x0, x1, x2, x3, x4, xc, xo, y0, y1, y2, y3, y4, yc, yo, c1, c2, c3, c4, c5, i2, i4, and_true, true_and, not_true_eq_false, not_false_eq_true, ↓reduceIte]
          · skip
            have i2 := nI_pos0 c2 hF
            have i4 := nI_pos0 c4 hT
            have hd : hD tr rent train A k pay = 0 := by simp (decide := true) only [hD, hMv, c1, c2, c3, c4, c5, not_true_eq_false, not_false_eq_true, true_and, and_true, false_and, and_false, or_true, true_or, false_or, or_false, ↓reduceIte]
            rw [hd]
            refine ⟨_, xHx_0c h ho hk c2 c4 c3, ?_, fun d r => (t20 d (nI o) (nI k) pay S r ?_).trans ?_⟩
            · simp (decide := true) only [xrd_ne]
            · simp (decide := true) only [g20, q15, q5, q6, h4, h5, h6, m0, m1, m2, m3, m4, mc, x0, x1, x2, x3, x4, xc, xo, y0, y1, y2, y3, y4, yc, yo, c1, c2, c3, c4, c5, i2, i4, and_true, true_and, not_true_eq_false, not_false_eq_true, ↓reduceIte]
            · simp (decide := true) only [p20, xrd_ne, xrd_n2, xrd_eq, q15, q5, q6, h4, h5, h6, m0, m1, m2, m3, m4, mc, x0, x1, x2, x3, x4, xc, xo, y0, y1, y2, y3, y4, yc, yo, c1, c2, c3, c4, c5, i2, i4, and_true, true_and, not_true_eq_false, not_false_eq_true, ↓reduceIte]
        · skip
          have i2 := nI_pos0 c2 hF
          have i4 := nI_npos0 c4
          have hd : hD tr rent train A k pay = 2 := by simp (decide := true) only [hD, hMv, c1, c2, c3, c4, not_true_eq_false, not_false_eq_true, true_and, and_true, false_and, and_false, or_true, true_or, false_or, or_false, ↓reduceIte]
          rw [hd]
          refine ⟨_, xHx_2 h ho hk, ?_, fun d r => (t20 d (nI o) (nI k) pay S r ?_).trans ?_⟩
          · simp (decide := true) only [xrd_ne]
          · simp (decide := true) only [g20, q15, q5, q6, h4, h5, h6, m0, m1, m2, m3, m4, mc, x0, x1, x2, x3, x4, xc, xo, y0, y1, y2, y3, y4, yc, yo, c1, c2, c3, c4, i2, i4, and_true, true_and, not_true_eq_false, not_false_eq_true, ↓reduceIte]
          · simp (decide := true) only [p20, xrd_ne, xrd_n2, xrd_eq, q15, q5, q6, h4, h5, h6, m0, m1, m2, m3, m4, mc, x0, x1, x2, x3, x4, xc, xo, y0, y1, y2, y3, y4, yc, yo, c1, c2, c3, c4, i2, i4, and_true, true_and, not_true_eq_false, not_false_eq_true, ↓reduceIte]
      · skip
        by_cases c5 : tr (5 * k + 4) < (if 0 < rent + tr (5 * k) + tr (5 * k + 1) - pay then rent + tr (5 * k) + tr (5 * k + 1) - pay else 0)
        · skip
          have i2 := nI_pos0 c2 hF
          have hd : hD tr rent train A k pay = 2 := by simp (decide := true) only [hD, hMv, c1, c2, c3, c5, not_true_eq_false, not_false_eq_true, true_and, and_true, false_and, and_false, or_true, true_or, false_or, or_false, ↓reduceIte]
          rw [hd]
          refine ⟨_, xHx_2 h ho hk, ?_, fun d r => (t20 d (nI o) (nI k) pay S r ?_).trans ?_⟩
          · simp (decide := true) only [xrd_ne]
          · simp (decide := true) only [g20, q15, q5, q6, h4, h5, h6, m0, m1, m2, m3, m4, mc, x0, x1, x2, x3, x4, xc, xo, y0, y1, y2, y3, y4, yc, yo, c1, c2, c3, c5, i2, and_true, true_and, not_true_eq_false, not_false_eq_true, ↓reduceIte]
          · simp (decide := true) only [p20, xrd_ne, xrd_n2, xrd_eq, q15, q5, q6, h4, h5, h6, m0, m1, m2, m3, m4, mc, x0, x1, x2, x3, x4, xc, xo, y0, y1, y2, y3, y4, yc, yo, c1, c2, c3, c5, i2, and_true, true_and, not_true_eq_false, not_false_eq_true, ↓reduceIte]
        · skip
          have i2 := nI_pos0 c2 hF
          have hd : hD tr rent train A k pay = 0 := by simp (decide := true) only [hD, hMv, c1, c2, c3, c5, not_true_eq_false, not_false_eq_true, true_and, and_true, false_and, and_false, or_true, true_or, false_or, or_false, ↓reduceIte]
          rw [hd]
          refine ⟨_, xHx_0 h ho hk c2 c3, ?_, fun d r => (t20 d (nI o) (nI k) pay S r ?_).trans ?_⟩
          · simp (decide := true) only [xrd_ne]
          · simp (decide := true) only [g20, q15, q5, q6, h4, h5, h6, m0, m1, m2, m3, m4, mc, x0, x1, x2, x3, x4, xc, xo, y0, y1, y2, y3, y4, yc, yo, c1, c2, c3, c5, i2, and_true, true_and, not_true_eq_false, not_false_eq_true, ↓reduceIte]
          · simp (decide := true) only [p20, xrd_ne, xrd_n2, xrd_eq, q15, q5, q6, h4, h5, h6, m0, m1, m2, m3, m4, mc, x0, x1, x2, x3, x4, xc, xo, y0, y1, y2, y3, y4, yc, yo, c1, c2, c3, c5, i2, and_true, true_and, not_true_eq_false, not_false_eq_true, ↓reduceIte]
    · skip
      have i2 := nI_npos0 c2
      have hd : hD tr rent train A k pay = 2 := by simp (decide := true) only [hD, hMv, c1, c2, not_true_eq_false, not_false_eq_true, true_and, and_true, false_and, and_false, or_true, true_or, false_or, or_false, ↓reduceIte]
      rw [hd]
      refine ⟨_, xHx_2 h ho hk, ?_, fun d r => (t20 d (nI o) (nI k) pay S r ?_).trans ?_⟩
      · simp (decide := true) only [xrd_ne]
      · simp (decide := true) only [g20, q15, q5, q6, h4, h5, h6, m0, m1, m2, m3, m4, mc, x0, x1, x2, x3, x4, xc, xo, y0, y1, y2, y3, y4, yc, yo, c1, c2, i2, and_true, true_and, not_true_eq_false, not_false_eq_true, ↓reduceIte]
      · simp (decide := true) only [p20, xrd_ne, xrd_n2, xrd_eq, q15, q5, q6, h4, h5, h6, m0, m1, m2, m3, m4, mc, x0, x1, x2, x3, x4, xc, xo, y0, y1, y2, y3, y4, yc, yo, c1, c2, i2, and_true, true_and, not_true_eq_false, not_false_eq_true, ↓reduceIte]
theorem m160 {S0 S : xS} {tr : Nat → Int32} {rent train : Int32} {w0 n : Nat} {py : Nat → Int32} {F T : Nat} {A : hS} (hB : mBase S0 tr rent train w0 n py F T) (h : mHm S0 S F T A) {o k : Nat} (ho : o < 10) (hk : k < 3) : ∃ S', mHm S0 S' F T (hStep tr A (3 * o + k) k (py o) (hD tr rent train A k (py o))) ∧ S'.1 59 = S.1 59 ∧ S'.1 66 = S.1 66 ∧ ∀ (d : Nat) (r : Option Value × xS), xX (d + 1) 160 0 [(0, .ref 54), (1, .int (nI o)), (2, .int (nI k))] [] S r ↔ r = (some (.int (nI (hD tr rent train A k (py o)))), S') := by
  obtain ⟨⟨b1, b1w⟩, b2, b3, b4, b5, ⟨f, b6, b6F⟩, ⟨g, b7, b7T⟩, ⟨l, b8, b8l, b8p⟩, b9, b10, b11⟩ := hB
  obtain ⟨h1, h2, h3, h4, ⟨p, h5, h5b⟩, ⟨q, h6, h6b⟩, h7, h8, h9, h10⟩ := id h
  have q70 : ∀ c, c < 15 → S.1 70 c = tr c := fun c hc => by rw [h8 70 (by decide) (by decide) (by decide) (by decide) (by decide) (by decide)]; exact b4 c hc
  have q5 : S.1 54 9 = train := (h9 9 (by decide) (by decide) (by decide) (by decide)).trans b3
  have q6 : S.1 54 7 = rent := (h9 7 (by decide) (by decide) (by decide) (by decide)).trans b2
  have qw : S.1 54 5 = nI w0 := (h9 5 (by decide) (by decide) (by decide) (by decide)).trans b1
  have ql : S.1 54 2 = nI l := (h9 2 (by decide) (by decide) (by decide) (by decide)).trans b8l
  have g1 : ∀ (d : Nat) (r : Option Value × xS), xX d 159 0 [(0, .ref 54), (1, .int (nI o)), (2, .int (nI w0))] [] S r ↔ r = (some (.int (py o)), S) := fun d r => (t159 d (nI o) (nI w0) S r b8 ql).trans (by rw [b8p, h8 77 (by decide) (by decide) (by decide) (by decide) (by decide) (by decide), h8 78 (by decide) (by decide) (by decide) (by decide) (by decide) (by decide), h8 79 (by decide) (by decide) (by decide) (by decide) (by decide) (by decide), h8 80 (by decide) (by decide) (by decide) (by decide) (by decide) (by decide)])
  have g2 : ∀ (d : Nat) (r : Option Value × xS), xX d 158 0 [(0, .ref 54), (1, .ref 63), (2, .int (nI w0))] [] S r ↔ r = (some (.int (nI F)), S) := fun d r => by rw [← b6F]; exact m158_63 S (f := f) (fun k hk => by rw [h8 63 (by decide) (by decide) (by decide) (by decide) (by decide) (by decide)]; exact b6 k hk) b1w d r
  have g3 : ∀ (d : Nat) (r : Option Value × xS), xX d 158 0 [(0, .ref 54), (1, .ref 64), (2, .int (nI w0))] [] S r ↔ r = (some (.int (nI T)), S) := fun d r => by rw [← b7T]; exact m158_64 S (f := g) (fun k hk => by rw [h8 64 (by decide) (by decide) (by decide) (by decide) (by decide) (by decide)]; exact b7 k hk) b1w d r
  generalize py o = pay at g1 ⊢
  have m0 : 5 * nI k = nI (5 * k) := by have := nI_m' 5 5 (by decide) k 0; rw [nI_0, Int32.add_zero] at this; exact this
  have m1 : nI (5 * k) + 1 = nI (5 * k + 1) := nI_1 _
  have m2 : nI (5 * k) + 2 = nI (5 * k + 2) := nI_add (5 * k) 2
  have m3 : nI (5 * k) + 3 = nI (5 * k + 3) := nI_add (5 * k) 3
  have m4 : nI (5 * k) + 4 = nI (5 * k + 4) := nI_add (5 * k) 4
  have mc : 3 * nI o + nI k = nI (3 * o + k) := nI_m' 3 3 (by decide) o k
  have x0 : (nI (5 * k)).toNatClampNeg = 5 * k := nI_clamp (by omega)
  have x1 : (nI (5 * k + 1)).toNatClampNeg = 5 * k + 1 := nI_clamp (by omega)
  have x2 : (nI (5 * k + 2)).toNatClampNeg = 5 * k + 2 := nI_clamp (by omega)
  have x3 : (nI (5 * k + 3)).toNatClampNeg = 5 * k + 3 := nI_clamp (by omega)
  have x4 : (nI (5 * k + 4)).toNatClampNeg = 5 * k + 4 := nI_clamp (by omega)
  have xc : (nI (3 * o + k)).toNatClampNeg = 3 * o + k := nI_clamp (by omega)
  have y0 := vp_in_nI (show 5 * k < 15 by omega) (by omega : 15 < 2 ^ 31)
  have y1 := vp_in_nI (show 5 * k + 1 < 15 by omega) (by omega : 15 < 2 ^ 31)
  have y2 := vp_in_nI (show 5 * k + 2 < 15 by omega) (by omega : 15 < 2 ^ 31)
  have y3 := vp_in_nI (show 5 * k + 3 < 15 by omega) (by omega : 15 < 2 ^ 31)
  have y4 := vp_in_nI (show 5 * k + 4 < 15 by omega) (by omega : 15 < 2 ^ 31)
  have yc := vp_in_nI (show 3 * o + k < 30 by omega) (by omega : 30 < 2 ^ 31)
  have z0 := q70 (5 * k) (by omega)
  have z1 := q70 (5 * k + 1) (by omega)
  have z2 := q70 (5 * k + 2) (by omega)
  have z3 := q70 (5 * k + 3) (by omega)
  have z4 := q70 (5 * k + 4) (by omega)
  have i2 : (nI p < nI F) = (0 < A.2.2.2.2.1) := propext ((nI_ltI (by omega) (by omega)).trans (by constructor <;> intro <;> omega))
  have i4 : (nI q < nI T) = (0 < A.2.2.2.2.2.1) := propext ((nI_ltI (by omega) (by omega)).trans (by constructor <;> intro <;> omega))
  obtain ⟨cm, hcm, hcm2⟩ := b5 k hk
  by_cases c0 : rent + tr (5 * k) + tr (5 * k + 1) - pay < 0
  · have e0 : hMv rent tr k pay = 0 := if_neg (fun z => Int32.lt_irrefl (Int32.lt_trans c0 z))
    by_cases c1 : A.2.2.2.1 < train
    · skip
      by_cases c2 : 0 < A.2.2.2.2.1
      · skip
        by_cases c3 : 0 < tr (5 * k + 2)
        · skip
          by_cases c4 : 0 < A.2.2.2.2.2.1
          · skip
            by_cases c5 : tr (5 * k + 4) < 0
            · skip
              by_cases c7 : tr (5 * k + 4) < tr (5 * k + 3) + tr (5 * k + 2)
              · skip
                have e3 : (tr (5 * k + 2) = 0) = False := eq_false (fun z => by rw [z] at c3; exact absurd c3 (by decide))
                have hd : hD tr rent train A k pay = 2 := by simp (decide := true) only [hD, e0, c1, c2, c3, c4, c5, c7, not_true_eq_false, not_false_eq_true, true_and, and_true, false_and, and_false, or_true, true_or, false_or, or_false, ↓reduceIte]
                rw [hd]
                refine ⟨_, mHm_2 (c := 3 * o + k) h, ?_, ?_, fun d r => ?_⟩
                · simp (decide := true) only [xrd_ne]
                · simp (decide := true) only [xrd_ne]
                · simp (decide := true) only [b160_0, b160_9, b160_34, b160_41, b160_69, b160_65, b160_46, b160_105, b160_108, b160_58, b160_146, b160_150, b160_228, b160_158, b160_266, b160_233, b160_170, b160_163, b160_240, b160_177, b160_192, b160_202, g1, g2, g3, q5, q6, qw, h4, h5, h6, m0, m1, m2, m3, m4, mc, x0, x1, x2, x3, x4, xc, y0, y1, y2, y3, y4, yc, z0, z1, z2, z3, z4, i2, i4, c1, c2, c3, c4, c5, c7, c0, e3, xrd_ne, xrd_n2, xrd_eq, exists_eq_left, xtl, and_true, true_and, not_true_eq_false, not_false_eq_true, ite_self, ↓reduceIte]
                  rfl
              · skip
                have e3 : (tr (5 * k + 2) = 0) = False := eq_false (fun z => by rw [z] at c3; exact absurd c3 (by decide))
                have hd : hD tr rent train A k pay = 1 := by simp (decide := true) only [hD, e0, c1, c2, c3, c4, c5, c7, not_true_eq_false, not_false_eq_true, true_and, and_true, false_and, and_false, or_true, true_or, false_or, or_false, ↓reduceIte]
                rw [hd]
                refine ⟨_, mHm_1 (c := 3 * o + k) h, ?_, ?_, fun d r => ?_⟩
                · simp (decide := true) only [xrd_ne]
                · simp (decide := true) only [xrd_ne]
                · simp (decide := true) only [b160_0, b160_9, b160_34, b160_41, b160_69, b160_65, b160_46, b160_105, b160_108, b160_58, b160_146, b160_150, b160_228, b160_158, b160_266, b160_233, b160_170, b160_163, b160_240, b160_177, b160_192, b160_202, g1, g2, g3, q5, q6, qw, h4, h5, h6, m0, m1, m2, m3, m4, mc, x0, x1, x2, x3, x4, xc, y0, y1, y2, y3, y4, yc, z0, z1, z2, z3, z4, i2, i4, c1, c2, c3, c4, c5, c7, c0, e3, xrd_ne, xrd_n2, xrd_eq, exists_eq_left, xtl, and_true, true_and, not_true_eq_false, not_false_eq_true, ite_self, ↓reduceIte]
                  rfl
            · skip
              by_cases c6 : tr (5 * k + 3) + tr (5 * k + 2) < 0
              · skip
                by_cases c7 : tr (5 * k + 4) < tr (5 * k + 3) + tr (5 * k + 2)
                · skip
                  have e3 : (tr (5 * k + 2) = 0) = False := eq_false (fun z => by rw [z] at c3; exact absurd c3 (by decide))
                  have hd : hD tr rent train A k pay = 2 := by simp (decide := true) only [hD, e0, c1, c2, c3, c4, c5, c6, c7, not_true_eq_false, not_false_eq_true, true_and, and_true, false_and, and_false, or_true, true_or, false_or, or_false, ↓reduceIte]
                  rw [hd]
                  refine ⟨_, mHm_2 (c := 3 * o + k) h, ?_, ?_, fun d r => ?_⟩
                  · simp (decide := true) only [xrd_ne]
                  · simp (decide := true) only [xrd_ne]
                  · simp (decide := true) only [b160_0, b160_9, b160_34, b160_41, b160_69, b160_65, b160_46, b160_105, b160_108, b160_58, b160_146, b160_150, b160_228, b160_158, b160_266, b160_233, b160_170, b160_163, b160_240, b160_177, b160_192, b160_202, g1, g2, g3, q5, q6, qw, h4, h5, h6, m0, m1, m2, m3, m4, mc, x0, x1, x2, x3, x4, xc, y0, y1, y2, y3, y4, yc, z0, z1, z2, z3, z4, i2, i4, c1, c2, c3, c4, c5, c6, c7, c0, e3, xrd_ne, xrd_n2, xrd_eq, exists_eq_left, xtl, and_true, true_and, not_true_eq_false, not_false_eq_true, ite_self, ↓reduceIte]
                    rfl
                · skip
                  have e3 : (tr (5 * k + 2) = 0) = False := eq_false (fun z => by rw [z] at c3; exact absurd c3 (by decide))
                  have hd : hD tr rent train A k pay = 1 := by simp (decide := true) only [hD, e0, c1, c2, c3, c4, c5, c6, c7, not_true_eq_false, not_false_eq_true, true_and, and_true, false_and, and_false, or_true, true_or, false_or, or_false, ↓reduceIte]
                  rw [hd]
                  refine ⟨_, mHm_1 (c := 3 * o + k) h, ?_, ?_, fun d r => ?_⟩
                  · simp (decide := true) only [xrd_ne]
                  · simp (decide := true) only [xrd_ne]
                  · simp (decide := true) only [b160_0, b160_9, b160_34, b160_41, b160_69, b160_65, b160_46, b160_105, b160_108, b160_58, b160_146, b160_150, b160_228, b160_158, b160_266, b160_233, b160_170, b160_163, b160_240, b160_177, b160_192, b160_202, g1, g2, g3, q5, q6, qw, h4, h5, h6, m0, m1, m2, m3, m4, mc, x0, x1, x2, x3, x4, xc, y0, y1, y2, y3, y4, yc, z0, z1, z2, z3, z4, i2, i4, c1, c2, c3, c4, c5, c6, c7, c0, e3, xrd_ne, xrd_n2, xrd_eq, exists_eq_left, xtl, and_true, true_and, not_true_eq_false, not_false_eq_true, ite_self, ↓reduceIte]
                    rfl
              · skip
                have e3 : (tr (5 * k + 2) = 0) = False := eq_false (fun z => by rw [z] at c3; exact absurd c3 (by decide))
                have hd : hD tr rent train A k pay = 0 := by simp (decide := true) only [hD, e0, c1, c2, c3, c4, c5, c6, not_true_eq_false, not_false_eq_true, true_and, and_true, false_and, and_false, or_true, true_or, false_or, or_false, ↓reduceIte]
                rw [hd]
                refine ⟨_, mHm_0c (c := 3 * o + k) h c2 c4 c3, ?_, ?_, fun d r => ?_⟩
                · simp (decide := true) only [xrd_ne]
                · simp (decide := true) only [xrd_ne]
                · simp (decide := true) only [b160_0, b160_9, b160_34, b160_41, b160_69, b160_65, b160_46, b160_105, b160_108, b160_58, b160_146, b160_150, b160_228, b160_158, b160_266, b160_233, b160_170, b160_163, b160_240, b160_177, b160_192, b160_202, g1, g2, g3, q5, q6, qw, h4, h5, h6, m0, m1, m2, m3, m4, mc, x0, x1, x2, x3, x4, xc, y0, y1, y2, y3, y4, yc, z0, z1, z2, z3, z4, i2, i4, c1, c2, c3, c4, c5, c6, c0, e3, xrd_ne, xrd_n2, xrd_eq, exists_eq_left, xtl, and_true, true_and, not_true_eq_false, not_false_eq_true, ite_self, ↓reduceIte]
                  rfl
          · skip
            by_cases c7 : tr (5 * k + 4) < tr (5 * k + 3) + tr (5 * k + 2)
            · skip
              have e3 : (tr (5 * k + 2) = 0) = False := eq_false (fun z => by rw [z] at c3; exact absurd c3 (by decide))
              have hd : hD tr rent train A k pay = 2 := by simp (decide := true) only [hD, e0, c1, c2, c3, c4, c7, not_true_eq_false, not_false_eq_true, true_and, and_true, false_and, and_false, or_true, true_or, false_or, or_false, ↓reduceIte]
              rw [hd]
              refine ⟨_, mHm_2 (c := 3 * o + k) h, ?_, ?_, fun d r => ?_⟩
              · simp (decide := true) only [xrd_ne]
              · simp (decide := true) only [xrd_ne]
              · simp (decide := true) only [b160_0, b160_9, b160_34, b160_41, b160_69, b160_65, b160_46, b160_105, b160_108, b160_58, b160_146, b160_150, b160_228, b160_158, b160_266, b160_233, b160_170, b160_163, b160_240, b160_177, b160_192, b160_202, g1, g2, g3, q5, q6, qw, h4, h5, h6, m0, m1, m2, m3, m4, mc, x0, x1, x2, x3, x4, xc, y0, y1, y2, y3, y4, yc, z0, z1, z2, z3, z4, i2, i4, c1, c2, c3, c4, c7, c0, e3, xrd_ne, xrd_n2, xrd_eq, exists_eq_left, xtl, and_true, true_and, not_true_eq_false, not_false_eq_true, ite_self, ↓reduceIte]
                rfl
            · skip
              have e3 : (tr (5 * k + 2) = 0) = False := eq_false (fun z => by rw [z] at c3; exact absurd c3 (by decide))
              have hd : hD tr rent train A k pay = 1 := by simp (decide := true) only [hD, e0, c1, c2, c3, c4, c7, not_true_eq_false, not_false_eq_true, true_and, and_true, false_and, and_false, or_true, true_or, false_or, or_false, ↓reduceIte]
              rw [hd]
              refine ⟨_, mHm_1 (c := 3 * o + k) h, ?_, ?_, fun d r => ?_⟩
              · simp (decide := true) only [xrd_ne]
              · simp (decide := true) only [xrd_ne]
              · simp (decide := true) only [b160_0, b160_9, b160_34, b160_41, b160_69, b160_65, b160_46, b160_105, b160_108, b160_58, b160_146, b160_150, b160_228, b160_158, b160_266, b160_233, b160_170, b160_163, b160_240, b160_177, b160_192, b160_202, g1, g2, g3, q5, q6, qw, h4, h5, h6, m0, m1, m2, m3, m4, mc, x0, x1, x2, x3, x4, xc, y0, y1, y2, y3, y4, yc, z0, z1, z2, z3, z4, i2, i4, c1, c2, c3, c4, c7, c0, e3, xrd_ne, xrd_n2, xrd_eq, exists_eq_left, xtl, and_true, true_and, not_true_eq_false, not_false_eq_true, ite_self, ↓reduceIte]
                rfl
        · skip
          by_cases c5 : tr (5 * k + 4) < 0
          · skip
            by_cases c7 : tr (5 * k + 4) < tr (5 * k + 3) + tr (5 * k + 2)
            · skip
              have e3 : (tr (5 * k + 2) = 0) = True := eq_true (by rw [hcm2] at c3 ⊢; have := Nat.eq_zero_of_not_pos (fun z => c3 (nI_pos0 z (by omega))); rw [this]; decide)
              have hd : hD tr rent train A k pay = 2 := by simp (decide := true) only [hD, e0, c1, c2, c3, c5, c7, not_true_eq_false, not_false_eq_true, true_and, and_true, false_and, and_false, or_true, true_or, false_or, or_false, ↓reduceIte]
              rw [hd]
              refine ⟨_, mHm_2 (c := 3 * o + k) h, ?_, ?_, fun d r => ?_⟩
              · simp (decide := true) only [xrd_ne]
              · simp (decide := true) only [xrd_ne]
              · simp (decide := true) only [b160_0, b160_9, b160_34, b160_41, b160_69, b160_65, b160_46, b160_105, b160_108, b160_58, b160_146, b160_150, b160_228, b160_158, b160_266, b160_233, b160_170, b160_163, b160_240, b160_177, b160_192, b160_202, g1, g2, g3, q5, q6, qw, h4, h5, h6, m0, m1, m2, m3, m4, mc, x0, x1, x2, x3, x4, xc, y0, y1, y2, y3, y4, yc, z0, z1, z2, z3, z4, i2, i4, c1, c2, c3, c5, c7, c0, e3, xrd_ne, xrd_n2, xrd_eq, exists_eq_left, xtl, and_true, true_and, not_true_eq_false, not_false_eq_true, ite_self, ↓reduceIte]
                rfl
            · skip
              have e3 : (tr (5 * k + 2) = 0) = True := eq_true (by rw [hcm2] at c3 ⊢; have := Nat.eq_zero_of_not_pos (fun z => c3 (nI_pos0 z (by omega))); rw [this]; decide)
              have hd : hD tr rent train A k pay = 1 := by simp (decide := true) only [hD, e0, c1, c2, c3, c5, c7, not_true_eq_false, not_false_eq_true, true_and, and_true, false_and, and_false, or_true, true_or, false_or, or_false, ↓reduceIte]
              rw [hd]
              refine ⟨_, mHm_1 (c := 3 * o + k) h, ?_, ?_, fun d r => ?_⟩
              · simp (decide := true) only [xrd_ne]
              · simp (decide := true) only [xrd_ne]
              · simp (decide := true) only [b160_0, b160_9, b160_34, b160_41, b160_69, b160_65, b160_46, b160_105, b160_108, b160_58, b160_146, b160_150, b160_228, b160_158, b160_266, b160_233, b160_170, b160_163, b160_240, b160_177, b160_192, b160_202, g1, g2, g3, q5, q6, qw, h4, h5, h6, m0, m1, m2, m3, m4, mc, x0, x1, x2, x3, x4, xc, y0, y1, y2, y3, y4, yc, z0, z1, z2, z3, z4, i2, i4, c1, c2, c3, c5, c7, c0, e3, xrd_ne, xrd_n2, xrd_eq, exists_eq_left, xtl, and_true, true_and, not_true_eq_false, not_false_eq_true, ite_self, ↓reduceIte]
                rfl
          · skip
            by_cases c6 : tr (5 * k + 3) + tr (5 * k + 2) < 0
            · skip
              by_cases c7 : tr (5 * k + 4) < tr (5 * k + 3) + tr (5 * k + 2)
              · skip
                have e3 : (tr (5 * k + 2) = 0) = True := eq_true (by rw [hcm2] at c3 ⊢; have := Nat.eq_zero_of_not_pos (fun z => c3 (nI_pos0 z (by omega))); rw [this]; decide)
                have hd : hD tr rent train A k pay = 2 := by simp (decide := true) only [hD, e0, c1, c2, c3, c5, c6, c7, not_true_eq_false, not_false_eq_true, true_and, and_true, false_and, and_false, or_true, true_or, false_or, or_false, ↓reduceIte]
                rw [hd]
                refine ⟨_, mHm_2 (c := 3 * o + k) h, ?_, ?_, fun d r => ?_⟩
                · simp (decide := true) only [xrd_ne]
                · simp (decide := true) only [xrd_ne]
                · simp (decide := true) only [b160_0, b160_9, b160_34, b160_41, b160_69, b160_65, b160_46, b160_105, b160_108, b160_58, b160_146, b160_150, b160_228, b160_158, b160_266, b160_233, b160_170, b160_163, b160_240, b160_177, b160_192, b160_202, g1, g2, g3, q5, q6, qw, h4, h5, h6, m0, m1, m2, m3, m4, mc, x0, x1, x2, x3, x4, xc, y0, y1, y2, y3, y4, yc, z0, z1, z2, z3, z4, i2, i4, c1, c2, c3, c5, c6, c7, c0, e3, xrd_ne, xrd_n2, xrd_eq, exists_eq_left, xtl, and_true, true_and, not_true_eq_false, not_false_eq_true, ite_self, ↓reduceIte]
                  rfl
              · skip
                have e3 : (tr (5 * k + 2) = 0) = True := eq_true (by rw [hcm2] at c3 ⊢; have := Nat.eq_zero_of_not_pos (fun z => c3 (nI_pos0 z (by omega))); rw [this]; decide)
                have hd : hD tr rent train A k pay = 1 := by simp (decide := true) only [hD, e0, c1, c2, c3, c5, c6, c7, not_true_eq_false, not_false_eq_true, true_and, and_true, false_and, and_false, or_true, true_or, false_or, or_false, ↓reduceIte]
                rw [hd]
                refine ⟨_, mHm_1 (c := 3 * o + k) h, ?_, ?_, fun d r => ?_⟩
                · simp (decide := true) only [xrd_ne]
                · simp (decide := true) only [xrd_ne]
                · simp (decide := true) only [b160_0, b160_9, b160_34, b160_41, b160_69, b160_65, b160_46, b160_105, b160_108, b160_58, b160_146, b160_150, b160_228, b160_158, b160_266, b160_233, b160_170, b160_163, b160_240, b160_177, b160_192, b160_202, g1, g2, g3, q5, q6, qw, h4, h5, h6, m0, m1, m2, m3, m4, mc, x0, x1, x2, x3, x4, xc, y0, y1, y2, y3, y4, yc, z0, z1, z2, z3, z4, i2, i4, c1, c2, c3, c5, c6, c7, c0, e3, xrd_ne, xrd_n2, xrd_eq, exists_eq_left, xtl, and_true, true_and, not_true_eq_false, not_false_eq_true, ite_self, ↓reduceIte]
                  rfl
            · skip
              have e3 : (tr (5 * k + 2) = 0) = True := eq_true (by rw [hcm2] at c3 ⊢; have := Nat.eq_zero_of_not_pos (fun z => c3 (nI_pos0 z (by omega))); rw [this]; decide)
              have hd : hD tr rent train A k pay = 0 := by simp (decide := true) only [hD, e0, c1, c2, c3, c5, c6, not_true_eq_false, not_false_eq_true, true_and, and_true, false_and, and_false, or_true, true_or, false_or, or_false, ↓reduceIte]
              rw [hd]
              refine ⟨_, mHm_0 (c := 3 * o + k) h c2 c3, ?_, ?_, fun d r => ?_⟩
              · simp (decide := true) only [xrd_ne]
              · simp (decide := true) only [xrd_ne]
              · simp (decide := true) only [b160_0, b160_9, b160_34, b160_41, b160_69, b160_65, b160_46, b160_105, b160_108, b160_58, b160_146, b160_150, b160_228, b160_158, b160_266, b160_233, b160_170, b160_163, b160_240, b160_177, b160_192, b160_202, g1, g2, g3, q5, q6, qw, h4, h5, h6, m0, m1, m2, m3, m4, mc, x0, x1, x2, x3, x4, xc, y0, y1, y2, y3, y4, yc, z0, z1, z2, z3, z4, i2, i4, c1, c2, c3, c5, c6, c0, e3, xrd_ne, xrd_n2, xrd_eq, exists_eq_left, xtl, and_true, true_and, not_true_eq_false, not_false_eq_true, ite_self, ↓reduceIte]
                rfl
      · skip
        by_cases c7 : tr (5 * k + 4) < tr (5 * k + 3) + tr (5 * k + 2)
        · skip
          have hd : hD tr rent train A k pay = 2 := by simp (decide := true) only [hD, e0, c1, c2, c7, not_true_eq_false, not_false_eq_true, true_and, and_true, false_and, and_false, or_true, true_or, false_or, or_false, ↓reduceIte]
          rw [hd]
          refine ⟨_, mHm_2 (c := 3 * o + k) h, ?_, ?_, fun d r => ?_⟩
          · simp (decide := true) only [xrd_ne]
          · simp (decide := true) only [xrd_ne]
          · simp (decide := true) only [b160_0, b160_9, b160_34, b160_41, b160_69, b160_65, b160_46, b160_105, b160_108, b160_58, b160_146, b160_150, b160_228, b160_158, b160_266, b160_233, b160_170, b160_163, b160_240, b160_177, b160_192, b160_202, g1, g2, g3, q5, q6, qw, h4, h5, h6, m0, m1, m2, m3, m4, mc, x0, x1, x2, x3, x4, xc, y0, y1, y2, y3, y4, yc, z0, z1, z2, z3, z4, i2, i4, c1, c2, c7, c0, xrd_ne, xrd_n2, xrd_eq, exists_eq_left, xtl, and_true, true_and, not_true_eq_false, not_false_eq_true, ite_self, ↓reduceIte]
            rfl
        · skip
          have hd : hD tr rent train A k pay = 1 := by simp (decide := true) only [hD, e0, c1, c2, c7, not_true_eq_false, not_false_eq_true, true_and, and_true, false_and, and_false, or_true, true_or, false_or, or_false, ↓reduceIte]
          rw [hd]
          refine ⟨_, mHm_1 (c := 3 * o + k) h, ?_, ?_, fun d r => ?_⟩
          · simp (decide := true) only [xrd_ne]
          · simp (decide := true) only [xrd_ne]
          · simp (decide := true) only [b160_0, b160_9, b160_34, b160_41, b160_69, b160_65, b160_46, b160_105, b160_108, b160_58, b160_146, b160_150, b160_228, b160_158, b160_266, b160_233, b160_170, b160_163, b160_240, b160_177, b160_192, b160_202, g1, g2, g3, q5, q6, qw, h4, h5, h6, m0, m1, m2, m3, m4, mc, x0, x1, x2, x3, x4, xc, y0, y1, y2, y3, y4, yc, z0, z1, z2, z3, z4, i2, i4, c1, c2, c7, c0, xrd_ne, xrd_n2, xrd_eq, exists_eq_left, xtl, and_true, true_and, not_true_eq_false, not_false_eq_true, ite_self, ↓reduceIte]
            rfl
    · skip
      by_cases c2 : 0 < A.2.2.2.2.1
      · skip
        by_cases c3 : 0 < tr (5 * k + 2)
        · skip
          by_cases c4 : 0 < A.2.2.2.2.2.1
          · skip
            by_cases c5 : tr (5 * k + 4) < 0
            · skip
              have e3 : (tr (5 * k + 2) = 0) = False := eq_false (fun z => by rw [z] at c3; exact absurd c3 (by decide))
              have hd : hD tr rent train A k pay = 2 := by simp (decide := true) only [hD, e0, c1, c2, c3, c4, c5, not_true_eq_false, not_false_eq_true, true_and, and_true, false_and, and_false, or_true, true_or, false_or, or_false, ↓reduceIte]
              rw [hd]
              refine ⟨_, mHm_2 (c := 3 * o + k) h, ?_, ?_, fun d r => ?_⟩
              · simp (decide := true) only [xrd_ne]
              · simp (decide := true) only [xrd_ne]
              · simp (decide := true) only [b160_0, b160_9, b160_34, b160_41, b160_69, b160_65, b160_46, b160_105, b160_108, b160_58, b160_146, b160_150, b160_228, b160_158, b160_266, b160_233, b160_170, b160_163, b160_240, b160_177, b160_192, b160_202, g1, g2, g3, q5, q6, qw, h4, h5, h6, m0, m1, m2, m3, m4, mc, x0, x1, x2, x3, x4, xc, y0, y1, y2, y3, y4, yc, z0, z1, z2, z3, z4, i2, i4, c1, c2, c3, c4, c5, c0, e3, xrd_ne, xrd_n2, xrd_eq, exists_eq_left, xtl, and_true, true_and, not_true_eq_false, not_false_eq_true, ite_self, ↓reduceIte]
                rfl
            · skip
              have e3 : (tr (5 * k + 2) = 0) = False := eq_false (fun z => by rw [z] at c3; exact absurd c3 (by decide))
              have hd : hD tr rent train A k pay = 0 := by simp (decide := true) only [hD, e0, c1, c2, c3, c4, c5, not_true_eq_false, not_false_eq_true, true_and, and_true, false_and, and_false, or_true, true_or, false_or, or_false, ↓reduceIte]
              rw [hd]
              refine ⟨_, mHm_0c (c := 3 * o + k) h c2 c4 c3, ?_, ?_, fun d r => ?_⟩
              · simp (decide := true) only [xrd_ne]
              · simp (decide := true) only [xrd_ne]
              · simp (decide := true) only [b160_0, b160_9, b160_34, b160_41, b160_69, b160_65, b160_46, b160_105, b160_108, b160_58, b160_146, b160_150, b160_228, b160_158, b160_266, b160_233, b160_170, b160_163, b160_240, b160_177, b160_192, b160_202, g1, g2, g3, q5, q6, qw, h4, h5, h6, m0, m1, m2, m3, m4, mc, x0, x1, x2, x3, x4, xc, y0, y1, y2, y3, y4, yc, z0, z1, z2, z3, z4, i2, i4, c1, c2, c3, c4, c5, c0, e3, xrd_ne, xrd_n2, xrd_eq, exists_eq_left, xtl, and_true, true_and, not_true_eq_false, not_false_eq_true, ite_self, ↓reduceIte]
                rfl
          · skip
            have e3 : (tr (5 * k + 2) = 0) = False := eq_false (fun z => by rw [z] at c3; exact absurd c3 (by decide))
            have hd : hD tr rent train A k pay = 2 := by simp (decide := true) only [hD, e0, c1, c2, c3, c4, not_true_eq_false, not_false_eq_true, true_and, and_true, false_and, and_false, or_true, true_or, false_or, or_false, ↓reduceIte]
            rw [hd]
            refine ⟨_, mHm_2 (c := 3 * o + k) h, ?_, ?_, fun d r => ?_⟩
            · simp (decide := true) only [xrd_ne]
            · simp (decide := true) only [xrd_ne]
            · simp (decide := true) only [b160_0, b160_9, b160_34, b160_41, b160_69, b160_65, b160_46, b160_105, b160_108, b160_58, b160_146, b160_150, b160_228, b160_158, b160_266, b160_233, b160_170, b160_163, b160_240, b160_177, b160_192, b160_202, g1, g2, g3, q5, q6, qw, h4, h5, h6, m0, m1, m2, m3, m4, mc, x0, x1, x2, x3, x4, xc, y0, y1, y2, y3, y4, yc, z0, z1, z2, z3, z4, i2, i4, c1, c2, c3, c4, c0, e3, xrd_ne, xrd_n2, xrd_eq, exists_eq_left, xtl, and_true, true_and, not_true_eq_false, not_false_eq_true, ite_self, ↓reduceIte]
              rfl
        · skip
          by_cases c5 : tr (5 * k + 4) < 0
          · skip
            have e3 : (tr (5 * k + 2) = 0) = True := eq_true (by rw [hcm2] at c3 ⊢; have := Nat.eq_zero_of_not_pos (fun z => c3 (nI_pos0 z (by omega))); rw [this]; decide)
            have hd : hD tr rent train A k pay = 2 := by simp (decide := true) only [hD, e0, c1, c2, c3, c5, not_true_eq_false, not_false_eq_true, true_and, and_true, false_and, and_false, or_true, true_or, false_or, or_false, ↓reduceIte]
            rw [hd]
            refine ⟨_, mHm_2 (c := 3 * o + k) h, ?_, ?_, fun d r => ?_⟩
            · simp (decide := true) only [xrd_ne]
            · simp (decide := true) only [xrd_ne]
            · simp (decide := true) only [b160_0, b160_9, b160_34, b160_41, b160_69, b160_65, b160_46, b160_105, b160_108, b160_58, b160_146, b160_150, b160_228, b160_158, b160_266, b160_233, b160_170, b160_163, b160_240, b160_177, b160_192, b160_202, g1, g2, g3, q5, q6, qw, h4, h5, h6, m0, m1, m2, m3, m4, mc, x0, x1, x2, x3, x4, xc, y0, y1, y2, y3, y4, yc, z0, z1, z2, z3, z4, i2, i4, c1, c2, c3, c5, c0, e3, xrd_ne, xrd_n2, xrd_eq, exists_eq_left, xtl, and_true, true_and, not_true_eq_false, not_false_eq_true, ite_self, ↓reduceIte]
              rfl
          · skip
            have e3 : (tr (5 * k + 2) = 0) = True := eq_true (by rw [hcm2] at c3 ⊢; have := Nat.eq_zero_of_not_pos (fun z => c3 (nI_pos0 z (by omega))); rw [this]; decide)
            have hd : hD tr rent train A k pay = 0 := by simp (decide := true) only [hD, e0, c1, c2, c3, c5, not_true_eq_false, not_false_eq_true, true_and, and_true, false_and, and_false, or_true, true_or, false_or, or_false, ↓reduceIte]
            rw [hd]
            refine ⟨_, mHm_0 (c := 3 * o + k) h c2 c3, ?_, ?_, fun d r => ?_⟩
            · simp (decide := true) only [xrd_ne]
            · simp (decide := true) only [xrd_ne]
            · simp (decide := true) only [b160_0, b160_9, b160_34, b160_41, b160_69, b160_65, b160_46, b160_105, b160_108, b160_58, b160_146, b160_150, b160_228, b160_158, b160_266, b160_233, b160_170, b160_163, b160_240, b160_177, b160_192, b160_202, g1, g2, g3, q5, q6, qw, h4, h5, h6, m0, m1, m2, m3, m4, mc, x0, x1, x2, x3, x4, xc, y0, y1, y2, y3, y4, yc, z0, z1, z2, z3, z4, i2, i4, c1, c2, c3, c5, c0, e3, xrd_ne, xrd_n2, xrd_eq, exists_eq_left, xtl, and_true, true_and, not_true_eq_false, not_false_eq_true, ite_self, ↓reduceIte]
              rfl
      · skip
        have hd : hD tr rent train A k pay = 2 := by simp (decide := true) only [hD, e0, c1, c2, not_true_eq_false, not_false_eq_true, true_and, and_true, false_and, and_false, or_true, true_or, false_or, or_false, ↓reduceIte]
        rw [hd]
        refine ⟨_, mHm_2 (c := 3 * o + k) h, ?_, ?_, fun d r => ?_⟩
        · simp (decide := true) only [xrd_ne]
        · simp (decide := true) only [xrd_ne]
        · simp (decide := true) only [b160_0, b160_9, b160_34, b160_41, b160_69, b160_65, b160_46, b160_105, b160_108, b160_58, b160_146, b160_150, b160_228, b160_158, b160_266, b160_233, b160_170, b160_163, b160_240, b160_177, b160_192, b160_202, g1, g2, g3, q5, q6, qw, h4, h5, h6, m0, m1, m2, m3, m4, mc, x0, x1, x2, x3, x4, xc, y0, y1, y2, y3, y4, yc, z0, z1, z2, z3, z4, i2, i4, c1, c2, c0, xrd_ne, xrd_n2, xrd_eq, exists_eq_left, xtl, and_true, true_and, not_true_eq_false, not_false_eq_true, ite_self, ↓reduceIte]
          rfl
  · have e0 : hMv rent tr k pay = rent + tr (5 * k) + tr (5 * k + 1) - pay := by
      unfold hMv
      by_cases z : 0 < rent + tr (5 * k) + tr (5 * k + 1) - pay
      · rw [if_pos z]
      · rw [if_neg z]; exact (Int32.le_antisymm (Int32.not_lt.mp z) (Int32.not_lt.mp c0)).symm
    by_cases c1 : A.2.2.2.1 < train
    · skip
      by_cases c2 : 0 < A.2.2.2.2.1
      · skip
        by_cases c3 : 0 < tr (5 * k + 2)
        · skip
          by_cases c4 : 0 < A.2.2.2.2.2.1
          · skip
            by_cases c5 : tr (5 * k + 4) < rent + tr (5 * k) + tr (5 * k + 1) - pay
            · skip
              by_cases c7 : tr (5 * k + 4) < tr (5 * k + 3) + tr (5 * k + 2)
              · skip
                have e3 : (tr (5 * k + 2) = 0) = False := eq_false (fun z => by rw [z] at c3; exact absurd c3 (by decide))
                have hd : hD tr rent train A k pay = 2 := by simp (decide := true) only [hD, e0, c1, c2, c3, c4, c5, c7, not_true_eq_false, not_false_eq_true, true_and, and_true, false_and, and_false, or_true, true_or, false_or, or_false, ↓reduceIte]
                rw [hd]
                refine ⟨_, mHm_2 (c := 3 * o + k) h, ?_, ?_, fun d r => ?_⟩
                · simp (decide := true) only [xrd_ne]
                · simp (decide := true) only [xrd_ne]
                · simp (decide := true) only [b160_0, b160_9, b160_34, b160_41, b160_69, b160_65, b160_46, b160_105, b160_108, b160_58, b160_146, b160_150, b160_228, b160_158, b160_266, b160_233, b160_170, b160_163, b160_240, b160_177, b160_192, b160_202, g1, g2, g3, q5, q6, qw, h4, h5, h6, m0, m1, m2, m3, m4, mc, x0, x1, x2, x3, x4, xc, y0, y1, y2, y3, y4, yc, z0, z1, z2, z3, z4, i2, i4, c1, c2, c3, c4, c5, c7, c0, e3, xrd_ne, xrd_n2, xrd_eq, exists_eq_left, xtl, and_true, true_and, not_true_eq_false, not_false_eq_true, ite_self, ↓reduceIte]
                  rfl
              · skip
                have e3 : (tr (5 * k + 2) = 0) = False := eq_false (fun z => by rw [z] at c3; exact absurd c3 (by decide))
                have hd : hD tr rent train A k pay = 1 := by simp (decide := true) only [hD, e0, c1, c2, c3, c4, c5, c7, not_true_eq_false, not_false_eq_true, true_and, and_true, false_and, and_false, or_true, true_or, false_or, or_false, ↓reduceIte]
                rw [hd]
                refine ⟨_, mHm_1 (c := 3 * o + k) h, ?_, ?_, fun d r => ?_⟩
                · simp (decide := true) only [xrd_ne]
                · simp (decide := true) only [xrd_ne]
                · simp (decide := true) only [b160_0, b160_9, b160_34, b160_41, b160_69, b160_65, b160_46, b160_105, b160_108, b160_58, b160_146, b160_150, b160_228, b160_158, b160_266, b160_233, b160_170, b160_163, b160_240, b160_177, b160_192, b160_202, g1, g2, g3, q5, q6, qw, h4, h5, h6, m0, m1, m2, m3, m4, mc, x0, x1, x2, x3, x4, xc, y0, y1, y2, y3, y4, yc, z0, z1, z2, z3, z4, i2, i4, c1, c2, c3, c4, c5, c7, c0, e3, xrd_ne, xrd_n2, xrd_eq, exists_eq_left, xtl, and_true, true_and, not_true_eq_false, not_false_eq_true, ite_self, ↓reduceIte]
                  rfl
            · skip
              by_cases c6 : tr (5 * k + 3) + tr (5 * k + 2) < rent + tr (5 * k) + tr (5 * k + 1) - pay
              · skip
                by_cases c7 : tr (5 * k + 4) < tr (5 * k + 3) + tr (5 * k + 2)
                · skip
                  have e3 : (tr (5 * k + 2) = 0) = False := eq_false (fun z => by rw [z] at c3; exact absurd c3 (by decide))
                  have hd : hD tr rent train A k pay = 2 := by simp (decide := true) only [hD, e0, c1, c2, c3, c4, c5, c6, c7, not_true_eq_false, not_false_eq_true, true_and, and_true, false_and, and_false, or_true, true_or, false_or, or_false, ↓reduceIte]
                  rw [hd]
                  refine ⟨_, mHm_2 (c := 3 * o + k) h, ?_, ?_, fun d r => ?_⟩
                  · simp (decide := true) only [xrd_ne]
                  · simp (decide := true) only [xrd_ne]
                  · simp (decide := true) only [b160_0, b160_9, b160_34, b160_41, b160_69, b160_65, b160_46, b160_105, b160_108, b160_58, b160_146, b160_150, b160_228, b160_158, b160_266, b160_233, b160_170, b160_163, b160_240, b160_177, b160_192, b160_202, g1, g2, g3, q5, q6, qw, h4, h5, h6, m0, m1, m2, m3, m4, mc, x0, x1, x2, x3, x4, xc, y0, y1, y2, y3, y4, yc, z0, z1, z2, z3, z4, i2, i4, c1, c2, c3, c4, c5, c6, c7, c0, e3, xrd_ne, xrd_n2, xrd_eq, exists_eq_left, xtl, and_true, true_and, not_true_eq_false, not_false_eq_true, ite_self, ↓reduceIte]
                    rfl
                · skip
                  have e3 : (tr (5 * k + 2) = 0) = False := eq_false (fun z => by rw [z] at c3; exact absurd c3 (by decide))
                  have hd : hD tr rent train A k pay = 1 := by simp (decide := true) only [hD, e0, c1, c2, c3, c4, c5, c6, c7, not_true_eq_false, not_false_eq_true, true_and, and_true, false_and, and_false, or_true, true_or, false_or, or_false, ↓reduceIte]
                  rw [hd]
                  refine ⟨_, mHm_1 (c := 3 * o + k) h, ?_, ?_, fun d r => ?_⟩
                  · simp (decide := true) only [xrd_ne]
                  · simp (decide := true) only [xrd_ne]
                  · simp (decide := true) only [b160_0, b160_9, b160_34, b160_41, b160_69, b160_65, b160_46, b160_105, b160_108, b160_58, b160_146, b160_150, b160_228, b160_158, b160_266, b160_233, b160_170, b160_163, b160_240, b160_177, b160_192, b160_202, g1, g2, g3, q5, q6, qw, h4, h5, h6, m0, m1, m2, m3, m4, mc, x0, x1, x2, x3, x4, xc, y0, y1, y2, y3, y4, yc, z0, z1, z2, z3, z4, i2, i4, c1, c2, c3, c4, c5, c6, c7, c0, e3, xrd_ne, xrd_n2, xrd_eq, exists_eq_left, xtl, and_true, true_and, not_true_eq_false, not_false_eq_true, ite_self, ↓reduceIte]
                    rfl
              · skip
                have e3 : (tr (5 * k + 2) = 0) = False := eq_false (fun z => by rw [z] at c3; exact absurd c3 (by decide))
                have hd : hD tr rent train A k pay = 0 := by simp (decide := true) only [hD, e0, c1, c2, c3, c4, c5, c6, not_true_eq_false, not_false_eq_true, true_and, and_true, false_and, and_false, or_true, true_or, false_or, or_false, ↓reduceIte]
                rw [hd]
                refine ⟨_, mHm_0c (c := 3 * o + k) h c2 c4 c3, ?_, ?_, fun d r => ?_⟩
                · simp (decide := true) only [xrd_ne]
                · simp (decide := true) only [xrd_ne]
                · simp (decide := true) only [b160_0, b160_9, b160_34, b160_41, b160_69, b160_65, b160_46, b160_105, b160_108, b160_58, b160_146, b160_150, b160_228, b160_158, b160_266, b160_233, b160_170, b160_163, b160_240, b160_177, b160_192, b160_202, g1, g2, g3, q5, q6, qw, h4, h5, h6, m0, m1, m2, m3, m4, mc, x0, x1, x2, x3, x4, xc, y0, y1, y2, y3, y4, yc, z0, z1, z2, z3, z4, i2, i4, c1, c2, c3, c4, c5, c6, c0, e3, xrd_ne, xrd_n2, xrd_eq, exists_eq_left, xtl, and_true, true_and, not_true_eq_false, not_false_eq_true, ite_self, ↓reduceIte]
                  rfl
          · skip
            by_cases c7 : tr (5 * k + 4) < tr (5 * k + 3) + tr (5 * k + 2)
            · skip
              have e3 : (tr (5 * k + 2) = 0) = False := eq_false (fun z => by rw [z] at c3; exact absurd c3 (by decide))
              have hd : hD tr rent train A k pay = 2 := by simp (decide := true) only [hD, e0, c1, c2, c3, c4, c7, not_true_eq_false, not_false_eq_true, true_and, and_true, false_and, and_false, or_true, true_or, false_or, or_false, ↓reduceIte]
              rw [hd]
              refine ⟨_, mHm_2 (c := 3 * o + k) h, ?_, ?_, fun d r => ?_⟩
              · simp (decide := true) only [xrd_ne]
              · simp (decide := true) only [xrd_ne]
              · simp (decide := true) only [b160_0, b160_9, b160_34, b160_41, b160_69, b160_65, b160_46, b160_105, b160_108, b160_58, b160_146, b160_150, b160_228, b160_158, b160_266, b160_233, b160_170, b160_163, b160_240, b160_177, b160_192, b160_202, g1, g2, g3, q5, q6, qw, h4, h5, h6, m0, m1, m2, m3, m4, mc, x0, x1, x2, x3, x4, xc, y0, y1, y2, y3, y4, yc, z0, z1, z2, z3, z4, i2, i4, c1, c2, c3, c4, c7, c0, e3, xrd_ne, xrd_n2, xrd_eq, exists_eq_left, xtl, and_true, true_and, not_true_eq_false, not_false_eq_true, ite_self, ↓reduceIte]
                rfl
            · skip
              have e3 : (tr (5 * k + 2) = 0) = False := eq_false (fun z => by rw [z] at c3; exact absurd c3 (by decide))
              have hd : hD tr rent train A k pay = 1 := by simp (decide := true) only [hD, e0, c1, c2, c3, c4, c7, not_true_eq_false, not_false_eq_true, true_and, and_true, false_and, and_false, or_true, true_or, false_or, or_false, ↓reduceIte]
              rw [hd]
              refine ⟨_, mHm_1 (c := 3 * o + k) h, ?_, ?_, fun d r => ?_⟩
              · simp (decide := true) only [xrd_ne]
              · simp (decide := true) only [xrd_ne]
              · simp (decide := true) only [b160_0, b160_9, b160_34, b160_41, b160_69, b160_65, b160_46, b160_105, b160_108, b160_58, b160_146, b160_150, b160_228, b160_158, b160_266, b160_233, b160_170, b160_163, b160_240, b160_177, b160_192, b160_202, g1, g2, g3, q5, q6, qw, h4, h5, h6, m0, m1, m2, m3, m4, mc, x0, x1, x2, x3, x4, xc, y0, y1, y2, y3, y4, yc, z0, z1, z2, z3, z4, i2, i4, c1, c2, c3, c4, c7, c0, e3, xrd_ne, xrd_n2, xrd_eq, exists_eq_left, xtl, and_true, true_and, not_true_eq_false, not_false_eq_true, ite_self, ↓reduceIte]
                rfl
        · skip
          by_cases c5 : tr (5 * k + 4) < rent + tr (5 * k) + tr (5 * k + 1) - pay
          · skip
            by_cases c7 : tr (5 * k + 4) < tr (5 * k + 3) + tr (5 * k + 2)
            · skip
              have e3 : (tr (5 * k + 2) = 0) = True := eq_true (by rw [hcm2] at c3 ⊢; have := Nat.eq_zero_of_not_pos (fun z => c3 (nI_pos0 z (by omega))); rw [this]; decide)
              have hd : hD tr rent train A k pay = 2 := by simp (decide := true) only [hD, e0, c1, c2, c3, c5, c7, not_true_eq_false, not_false_eq_true, true_and, and_true, false_and, and_false, or_true, true_or, false_or, or_false, ↓reduceIte]
              rw [hd]
              refine ⟨_, mHm_2 (c := 3 * o + k) h, ?_, ?_, fun d r => ?_⟩
              · simp (decide := true) only [xrd_ne]
              · simp (decide := true) only [xrd_ne]
              · simp (decide := true) only [b160_0, b160_9, b160_34, b160_41, b160_69, b160_65, b160_46, b160_105, b160_108, b160_58, b160_146, b160_150, b160_228, b160_158, b160_266, b160_233, b160_170, b160_163, b160_240, b160_177, b160_192, b160_202, g1, g2, g3, q5, q6, qw, h4, h5, h6, m0, m1, m2, m3, m4, mc, x0, x1, x2, x3, x4, xc, y0, y1, y2, y3, y4, yc, z0, z1, z2, z3, z4, i2, i4, c1, c2, c3, c5, c7, c0, e3, xrd_ne, xrd_n2, xrd_eq, exists_eq_left, xtl, and_true, true_and, not_true_eq_false, not_false_eq_true, ite_self, ↓reduceIte]
                rfl
            · skip
              have e3 : (tr (5 * k + 2) = 0) = True := eq_true (by rw [hcm2] at c3 ⊢; have := Nat.eq_zero_of_not_pos (fun z => c3 (nI_pos0 z (by omega))); rw [this]; decide)
              have hd : hD tr rent train A k pay = 1 := by simp (decide := true) only [hD, e0, c1, c2, c3, c5, c7, not_true_eq_false, not_false_eq_true, true_and, and_true, false_and, and_false, or_true, true_or, false_or, or_false, ↓reduceIte]
              rw [hd]
              refine ⟨_, mHm_1 (c := 3 * o + k) h, ?_, ?_, fun d r => ?_⟩
              · simp (decide := true) only [xrd_ne]
              · simp (decide := true) only [xrd_ne]
              · simp (decide := true) only [b160_0, b160_9, b160_34, b160_41, b160_69, b160_65, b160_46, b160_105, b160_108, b160_58, b160_146, b160_150, b160_228, b160_158, b160_266, b160_233, b160_170, b160_163, b160_240, b160_177, b160_192, b160_202, g1, g2, g3, q5, q6, qw, h4, h5, h6, m0, m1, m2, m3, m4, mc, x0, x1, x2, x3, x4, xc, y0, y1, y2, y3, y4, yc, z0, z1, z2, z3, z4, i2, i4, c1, c2, c3, c5, c7, c0, e3, xrd_ne, xrd_n2, xrd_eq, exists_eq_left, xtl, and_true, true_and, not_true_eq_false, not_false_eq_true, ite_self, ↓reduceIte]
                rfl
          · skip
            by_cases c6 : tr (5 * k + 3) + tr (5 * k + 2) < rent + tr (5 * k) + tr (5 * k + 1) - pay
            · skip
              by_cases c7 : tr (5 * k + 4) < tr (5 * k + 3) + tr (5 * k + 2)
              · skip
                have e3 : (tr (5 * k + 2) = 0) = True := eq_true (by rw [hcm2] at c3 ⊢; have := Nat.eq_zero_of_not_pos (fun z => c3 (nI_pos0 z (by omega))); rw [this]; decide)
                have hd : hD tr rent train A k pay = 2 := by simp (decide := true) only [hD, e0, c1, c2, c3, c5, c6, c7, not_true_eq_false, not_false_eq_true, true_and, and_true, false_and, and_false, or_true, true_or, false_or, or_false, ↓reduceIte]
                rw [hd]
                refine ⟨_, mHm_2 (c := 3 * o + k) h, ?_, ?_, fun d r => ?_⟩
                · simp (decide := true) only [xrd_ne]
                · simp (decide := true) only [xrd_ne]
                · simp (decide := true) only [b160_0, b160_9, b160_34, b160_41, b160_69, b160_65, b160_46, b160_105, b160_108, b160_58, b160_146, b160_150, b160_228, b160_158, b160_266, b160_233, b160_170, b160_163, b160_240, b160_177, b160_192, b160_202, g1, g2, g3, q5, q6, qw, h4, h5, h6, m0, m1, m2, m3, m4, mc, x0, x1, x2, x3, x4, xc, y0, y1, y2, y3, y4, yc, z0, z1, z2, z3, z4, i2, i4, c1, c2, c3, c5, c6, c7, c0, e3, xrd_ne, xrd_n2, xrd_eq, exists_eq_left, xtl, and_true, true_and, not_true_eq_false, not_false_eq_true, ite_self, ↓reduceIte]
                  rfl
              · skip
                have e3 : (tr (5 * k + 2) = 0) = True := eq_true (by rw [hcm2] at c3 ⊢; have := Nat.eq_zero_of_not_pos (fun z => c3 (nI_pos0 z (by omega))); rw [this]; decide)
                have hd : hD tr rent train A k pay = 1 := by simp (decide := true) only [hD, e0, c1, c2, c3, c5, c6, c7, not_true_eq_false, not_false_eq_true, true_and, and_true, false_and, and_false, or_true, true_or, false_or, or_false, ↓reduceIte]
                rw [hd]
                refine ⟨_, mHm_1 (c := 3 * o + k) h, ?_, ?_, fun d r => ?_⟩
                · simp (decide := true) only [xrd_ne]
                · simp (decide := true) only [xrd_ne]
                · simp (decide := true) only [b160_0, b160_9, b160_34, b160_41, b160_69, b160_65, b160_46, b160_105, b160_108, b160_58, b160_146, b160_150, b160_228, b160_158, b160_266, b160_233, b160_170, b160_163, b160_240, b160_177, b160_192, b160_202, g1, g2, g3, q5, q6, qw, h4, h5, h6, m0, m1, m2, m3, m4, mc, x0, x1, x2, x3, x4, xc, y0, y1, y2, y3, y4, yc, z0, z1, z2, z3, z4, i2, i4, c1, c2, c3, c5, c6, c7, c0, e3, xrd_ne, xrd_n2, xrd_eq, exists_eq_left, xtl, and_true, true_and, not_true_eq_false, not_false_eq_true, ite_self, ↓reduceIte]
                  rfl
            · skip
              have e3 : (tr (5 * k + 2) = 0) = True := eq_true (by rw [hcm2] at c3 ⊢; have := Nat.eq_zero_of_not_pos (fun z => c3 (nI_pos0 z (by omega))); rw [this]; decide)
              have hd : hD tr rent train A k pay = 0 := by simp (decide := true) only [hD, e0, c1, c2, c3, c5, c6, not_true_eq_false, not_false_eq_true, true_and, and_true, false_and, and_false, or_true, true_or, false_or, or_false, ↓reduceIte]
              rw [hd]
              refine ⟨_, mHm_0 (c := 3 * o + k) h c2 c3, ?_, ?_, fun d r => ?_⟩
              · simp (decide := true) only [xrd_ne]
              · simp (decide := true) only [xrd_ne]
              · simp (decide := true) only [b160_0, b160_9, b160_34, b160_41, b160_69, b160_65, b160_46, b160_105, b160_108, b160_58, b160_146, b160_150, b160_228, b160_158, b160_266, b160_233, b160_170, b160_163, b160_240, b160_177, b160_192, b160_202, g1, g2, g3, q5, q6, qw, h4, h5, h6, m0, m1, m2, m3, m4, mc, x0, x1, x2, x3, x4, xc, y0, y1, y2, y3, y4, yc, z0, z1, z2, z3, z4, i2, i4, c1, c2, c3, c5, c6, c0, e3, xrd_ne, xrd_n2, xrd_eq, exists_eq_left, xtl, and_true, true_and, not_true_eq_false, not_false_eq_true, ite_self, ↓reduceIte]
                rfl
      · skip
        by_cases c7 : tr (5 * k + 4) < tr (5 * k + 3) + tr (5 * k + 2)
        · skip
          have hd : hD tr rent train A k pay = 2 := by simp (decide := true) only [hD, e0, c1, c2, c7, not_true_eq_false, not_false_eq_true, true_and, and_true, false_and, and_false, or_true, true_or, false_or, or_false, ↓reduceIte]
          rw [hd]
          refine ⟨_, mHm_2 (c := 3 * o + k) h, ?_, ?_, fun d r => ?_⟩
          · simp (decide := true) only [xrd_ne]
          · simp (decide := true) only [xrd_ne]
          · simp (decide := true) only [b160_0, b160_9, b160_34, b160_41, b160_69, b160_65, b160_46, b160_105, b160_108, b160_58, b160_146, b160_150, b160_228, b160_158, b160_266, b160_233, b160_170, b160_163, b160_240, b160_177, b160_192, b160_202, g1, g2, g3, q5, q6, qw, h4, h5, h6, m0, m1, m2, m3, m4, mc, x0, x1, x2, x3, x4, xc, y0, y1, y2, y3, y4, yc, z0, z1, z2, z3, z4, i2, i4, c1, c2, c7, c0, xrd_ne, xrd_n2, xrd_eq, exists_eq_left, xtl, and_true, true_and, not_true_eq_false, not_false_eq_true, ite_self, ↓reduceIte]
            rfl
        · skip
          have hd : hD tr rent train A k pay = 1 := by simp (decide := true) only [hD, e0, c1, c2, c7, not_true_eq_false, not_false_eq_true, true_and, and_true, false_and, and_false, or_true, true_or, false_or, or_false, ↓reduceIte]
          rw [hd]
          refine ⟨_, mHm_1 (c := 3 * o + k) h, ?_, ?_, fun d r => ?_⟩
          · simp (decide := true) only [xrd_ne]
          · simp (decide := true) only [xrd_ne]
          · simp (decide := true) only [b160_0, b160_9, b160_34, b160_41, b160_69, b160_65, b160_46, b160_105, b160_108, b160_58, b160_146, b160_150, b160_228, b160_158, b160_266, b160_233, b160_170, b160_163, b160_240, b160_177, b160_192, b160_202, g1, g2, g3, q5, q6, qw, h4, h5, h6, m0, m1, m2, m3, m4, mc, x0, x1, x2, x3, x4, xc, y0, y1, y2, y3, y4, yc, z0, z1, z2, z3, z4, i2, i4, c1, c2, c7, c0, xrd_ne, xrd_n2, xrd_eq, exists_eq_left, xtl, and_true, true_and, not_true_eq_false, not_false_eq_true, ite_self, ↓reduceIte]
            rfl
    · skip
      by_cases c2 : 0 < A.2.2.2.2.1
      · skip
        by_cases c3 : 0 < tr (5 * k + 2)
        · skip
          by_cases c4 : 0 < A.2.2.2.2.2.1
          · skip
            by_cases c5 : tr (5 * k + 4) < rent + tr (5 * k) + tr (5 * k + 1) - pay
            · skip
              have e3 : (tr (5 * k + 2) = 0) = False := eq_false (fun z => by rw [z] at c3; exact absurd c3 (by decide))
              have hd : hD tr rent train A k pay = 2 := by simp (decide := true) only [hD, e0, c1, c2, c3, c4, c5, not_true_eq_false, not_false_eq_true, true_and, and_true, false_and, and_false, or_true, true_or, false_or, or_false, ↓reduceIte]
              rw [hd]
              refine ⟨_, mHm_2 (c := 3 * o + k) h, ?_, ?_, fun d r => ?_⟩
              · simp (decide := true) only [xrd_ne]
              · simp (decide := true) only [xrd_ne]
              · simp (decide := true) only [b160_0, b160_9, b160_34, b160_41, b160_69, b160_65, b160_46, b160_105, b160_108, b160_58, b160_146, b160_150, b160_228, b160_158, b160_266, b160_233, b160_170, b160_163, b160_240, b160_177, b160_192, b160_202, g1, g2, g3, q5, q6, qw, h4, h5, h6, m0, m1, m2, m3, m4, mc, x0, x1, x2, x3, x4, xc, y0, y1, y2, y3, y4, yc, z0, z1, z2, z3, z4, i2, i4, c1, c2, c3, c4, c5, c0, e3, xrd_ne, xrd_n2, xrd_eq, exists_eq_left, xtl, and_true, true_and, not_true_eq_false, not_false_eq_true, ite_self, ↓reduceIte]
                rfl
            · skip
              have e3 : (tr (5 * k + 2) = 0) = False := eq_false (fun z => by rw [z] at c3; exact absurd c3 (by decide))
              have hd : hD tr rent train A k pay = 0 := by simp (decide := true) only [hD, e0, c1, c2, c3, c4, c5, not_true_eq_false, not_false_eq_true, true_and, and_true, false_and, and_false, or_true, true_or, false_or, or_false, ↓reduceIte]
              rw [hd]
              refine ⟨_, mHm_0c (c := 3 * o + k) h c2 c4 c3, ?_, ?_, fun d r => ?_⟩
              · simp (decide := true) only [xrd_ne]
              · simp (decide := true) only [xrd_ne]
              · simp (decide := true) only [b160_0, b160_9, b160_34, b160_41, b160_69, b160_65, b160_46, b160_105, b160_108, b160_58, b160_146, b160_150, b160_228, b160_158, b160_266, b160_233, b160_170, b160_163, b160_240, b160_177, b160_192, b160_202, g1, g2, g3, q5, q6, qw, h4, h5, h6, m0, m1, m2, m3, m4, mc, x0, x1, x2, x3, x4, xc, y0, y1, y2, y3, y4, yc, z0, z1, z2, z3, z4, i2, i4, c1, c2, c3, c4, c5, c0, e3, xrd_ne, xrd_n2, xrd_eq, exists_eq_left, xtl, and_true, true_and, not_true_eq_false, not_false_eq_true, ite_self, ↓reduceIte]
                rfl
          · skip
            have e3 : (tr (5 * k + 2) = 0) = False := eq_false (fun z => by rw [z] at c3; exact absurd c3 (by decide))
            have hd : hD tr rent train A k pay = 2 := by simp (decide := true) only [hD, e0, c1, c2, c3, c4, not_true_eq_false, not_false_eq_true, true_and, and_true, false_and, and_false, or_true, true_or, false_or, or_false, ↓reduceIte]
            rw [hd]
            refine ⟨_, mHm_2 (c := 3 * o + k) h, ?_, ?_, fun d r => ?_⟩
            · simp (decide := true) only [xrd_ne]
            · simp (decide := true) only [xrd_ne]
            · simp (decide := true) only [b160_0, b160_9, b160_34, b160_41, b160_69, b160_65, b160_46, b160_105, b160_108, b160_58, b160_146, b160_150, b160_228, b160_158, b160_266, b160_233, b160_170, b160_163, b160_240, b160_177, b160_192, b160_202, g1, g2, g3, q5, q6, qw, h4, h5, h6, m0, m1, m2, m3, m4, mc, x0, x1, x2, x3, x4, xc, y0, y1, y2, y3, y4, yc, z0, z1, z2, z3, z4, i2, i4, c1, c2, c3, c4, c0, e3, xrd_ne, xrd_n2, xrd_eq, exists_eq_left, xtl, and_true, true_and, not_true_eq_false, not_false_eq_true, ite_self, ↓reduceIte]
              rfl
        · skip
          by_cases c5 : tr (5 * k + 4) < rent + tr (5 * k) + tr (5 * k + 1) - pay
          · skip
            have e3 : (tr (5 * k + 2) = 0) = True := eq_true (by rw [hcm2] at c3 ⊢; have := Nat.eq_zero_of_not_pos (fun z => c3 (nI_pos0 z (by omega))); rw [this]; decide)
            have hd : hD tr rent train A k pay = 2 := by simp (decide := true) only [hD, e0, c1, c2, c3, c5, not_true_eq_false, not_false_eq_true, true_and, and_true, false_and, and_false, or_true, true_or, false_or, or_false, ↓reduceIte]
            rw [hd]
            refine ⟨_, mHm_2 (c := 3 * o + k) h, ?_, ?_, fun d r => ?_⟩
            · simp (decide := true) only [xrd_ne]
            · simp (decide := true) only [xrd_ne]
            · simp (decide := true) only [b160_0, b160_9, b160_34, b160_41, b160_69, b160_65, b160_46, b160_105, b160_108, b160_58, b160_146, b160_150, b160_228, b160_158, b160_266, b160_233, b160_170, b160_163, b160_240, b160_177, b160_192, b160_202, g1, g2, g3, q5, q6, qw, h4, h5, h6, m0, m1, m2, m3, m4, mc, x0, x1, x2, x3, x4, xc, y0, y1, y2, y3, y4, yc, z0, z1, z2, z3, z4, i2, i4, c1, c2, c3, c5, c0, e3, xrd_ne, xrd_n2, xrd_eq, exists_eq_left, xtl, and_true, true_and, not_true_eq_false, not_false_eq_true, ite_self, ↓reduceIte]
              rfl
          · skip
            have e3 : (tr (5 * k + 2) = 0) = True := eq_true (by rw [hcm2] at c3 ⊢; have := Nat.eq_zero_of_not_pos (fun z => c3 (nI_pos0 z (by omega))); rw [this]; decide)
            have hd : hD tr rent train A k pay = 0 := by simp (decide := true) only [hD, e0, c1, c2, c3, c5, not_true_eq_false, not_false_eq_true, true_and, and_true, false_and, and_false, or_true, true_or, false_or, or_false, ↓reduceIte]
            rw [hd]
            refine ⟨_, mHm_0 (c := 3 * o + k) h c2 c3, ?_, ?_, fun d r => ?_⟩
            · simp (decide := true) only [xrd_ne]
            · simp (decide := true) only [xrd_ne]
            · simp (decide := true) only [b160_0, b160_9, b160_34, b160_41, b160_69, b160_65, b160_46, b160_105, b160_108, b160_58, b160_146, b160_150, b160_228, b160_158, b160_266, b160_233, b160_170, b160_163, b160_240, b160_177, b160_192, b160_202, g1, g2, g3, q5, q6, qw, h4, h5, h6, m0, m1, m2, m3, m4, mc, x0, x1, x2, x3, x4, xc, y0, y1, y2, y3, y4, yc, z0, z1, z2, z3, z4, i2, i4, c1, c2, c3, c5, c0, e3, xrd_ne, xrd_n2, xrd_eq, exists_eq_left, xtl, and_true, true_and, not_true_eq_false, not_false_eq_true, ite_self, ↓reduceIte]
              rfl
      · skip
        have hd : hD tr rent train A k pay = 2 := by simp (decide := true) only [hD, e0, c1, c2, not_true_eq_false, not_false_eq_true, true_and, and_true, false_and, and_false, or_true, true_or, false_or, or_false, ↓reduceIte]
        rw [hd]
        refine ⟨_, mHm_2 (c := 3 * o + k) h, ?_, ?_, fun d r => ?_⟩
        · simp (decide := true) only [xrd_ne]
        · simp (decide := true) only [xrd_ne]
        · simp (decide := true) only [b160_0, b160_9, b160_34, b160_41, b160_69, b160_65, b160_46, b160_105, b160_108, b160_58, b160_146, b160_150, b160_228, b160_158, b160_266, b160_233, b160_170, b160_163, b160_240, b160_177, b160_192, b160_202, g1, g2, g3, q5, q6, qw, h4, h5, h6, m0, m1, m2, m3, m4, mc, x0, x1, x2, x3, x4, xc, y0, y1, y2, y3, y4, yc, z0, z1, z2, z3, z4, i2, i4, c1, c2, c0, xrd_ne, xrd_n2, xrd_eq, exists_eq_left, xtl, and_true, true_and, not_true_eq_false, not_false_eq_true, ite_self, ↓reduceIte]
          rfl
