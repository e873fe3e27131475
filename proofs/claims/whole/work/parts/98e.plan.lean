/-! plan -/
theorem m60 {S U : xS} (hS : xInv S) {t : Nat → Nat} (h : plE S U t) : ∃ U', (∀ c, c ≠ 5 → U'.1 c = U.1 c) ∧ U'.2 = U.2 ∧ (∀ k, U'.1 5 k = if k < xN (S.1 2 0) then nI (t k) else S.1 5 k) ∧ ∀ (d : Nat) (r : Option Value × xS), xX d 60 0 [(0, .ref 40), (1, .ref 2)] [] U r ↔ r = (none, U') := by
  obtain ⟨hn, hn1, hn2⟩ := hS.cnt
  obtain ⟨l2, U2, ⟨rfl, p2, q2, r2⟩, e2⟩ := xX_loopD (e := 0) (f := 60) (pc := 2) (st := []) (fun j l T => l = [(0, .ref 40), (1, .ref 2), (2, .int (nI j))] ∧ (∀ c, c ≠ 5 → T.1 c = U.1 c) ∧ T.2 = U.2 ∧ ∀ k, T.1 5 k = if k < j then nI (t k) else S.1 5 k) (xN (S.1 2 0)) (by
    rintro j hj l T ⟨rfl, hc, h2, h5⟩
    have a1 : (nI j).toNatClampNeg = j := nI_clamp (by omega)
    have a2 := vp_in_nI (show j < 10 by omega) (by omega : 10 < 2 ^ 31)
    have d1 : nI j < T.1 2 0 := by rw [hc 2 (by decide), h.1.1 2 (by decide), hn1]; exact nI_lt hj (by omega)
    have f52 : T.1 52 j = nI (t j) := by rw [hc 52 (by decide)]; exact (h.2 j hj).2
    refine ⟨_, xwI T 5 j (nI (t j)), ⟨rfl, fun c hc' => (xrd_ne _ _ _ _ _ hc').trans (hc c hc'), h2, fun k => ?_⟩, fun d r => ?_⟩
    · rw [xrd_same]
      by_cases e : k = j
      · subst e; rw [vupd_eq, if_pos (Nat.lt_succ_self _)]
      · rw [vupd_ne _ _ _ _ e, h5 k]
        by_cases e' : k < j
        · rw [if_pos e', if_pos (show k < j + 1 by omega)]
        · rw [if_neg e', if_neg (by omega)]
    · refine (b60_2 _ _ _ _).trans ?_
      rw [if_pos d1]
      simp only [b60_10, a1, a2, f52, true_and, nI_1]) _ U ⟨rfl, fun _ _ => rfl, rfl, fun k => by rw [if_neg (Nat.not_lt_zero _), h.1.1 5 (by decide)]⟩
  refine ⟨U2, p2, q2, r2, fun d r => ?_⟩
  rw [b60_0, ← nI_0]
  refine (e2 d r).trans ?_
  rw [b60_2, p2 2 (by decide), h.1.1 2 (by decide), hn1, xN_nI (by omega), if_neg (nI_nlt (Nat.le_refl _) (by omega)), b60_28]
/-- the reference's end -/
theorem t152 {Z S T : xS} (hS : xInv S) {t : Nat → Nat} (h : plM Z S T t) (hK : plK S t) : ∃ T', (∀ c, c ≠ 57 → T'.1 c = T.1 c) ∧ T'.2 = T.2 ∧ (∀ k, T'.1 57 k = if k < xN (S.1 2 0) then (if t k = 5 then -1 else nI (t k)) else S.1 57 k) ∧ ∀ (d : Nat) (r : Option Value × xS), xX (d + 1) 152 86 [(0, .ref 54)] [] T r ↔ r = (some (.int (nI (cN S t))), T') := by
  obtain ⟨hn, hn1, hn2⟩ := hS.cnt
  have old : ∀ k, k < xN (S.1 2 0) → ¬ fr S k → S.1 57 k = (if t k = 5 then -1 else nI (t k)) := fun k hk hf => by
    have hk10 : k < 10 := by omega
    rw [(hK.2 k hk).2 hf]
    unfold t0
    by_cases c : S.1 7 k = 0
    · rw [if_pos c, if_pos rfl]
      have hs : ¬ S.1 6 k = 0 := fun z => hf ⟨c, z⟩
      exact (jWav_none hS.hWav hk10).mp ((hS.hPln k hk10).2.1 hs)
    · rw [if_neg c]; exact (hS.wav hk10).2.2
  obtain ⟨l2, T2, ⟨rfl, p2, q2, r2⟩, e2⟩ := xX_loopD (e := 1) (f := 152) (pc := 88) (st := []) (fun j l T' => l = [(0, .ref 54), (3, .int (nI j))] ∧ (∀ c, c ≠ 57 → T'.1 c = T.1 c) ∧ T'.2 = T.2 ∧ ∀ k, T'.1 57 k = if k < j then (if t k = 5 then -1 else nI (t k)) else S.1 57 k) (xN (S.1 2 0)) (by
    rintro j hj l T' ⟨rfl, hc, h2, h57⟩
    have hj10 : j < 10 := by omega
    have a1 : (nI j).toNatClampNeg = j := nI_clamp (by omega)
    have a2 := vp_in_nI hj10 (by omega : 10 < 2 ^ 31)
    have d1 : nI j < T'.1 54 0 := by rw [hc 54 (by decide), h.1.1 54 (by decide) (by decide) (by decide), hn2]; exact nI_lt hj (by omega)
    have f85 : T'.1 85 j = (if t j = 5 then -1 else nI (t j)) := by rw [hc 85 (by decide)]; exact (h.2 j hj).2
    have pf : fr S j ↔ (T'.1 59 j = 0 ∧ T'.1 58 j = 0) := by
      rw [hc 59 (by decide), hc 58 (by decide)]; exact frS_M hS h.1 hj10
    rcases m142 T' hj10 pf with ⟨c, e⟩ | ⟨c, e⟩
    · refine ⟨_, xwI T' 57 j (T'.1 85 j), ⟨rfl, fun c hc' => (xrd_ne _ _ _ _ _ hc').trans (hc c hc'), h2, fun k => ?_⟩, fun d r => ?_⟩
      · rw [xrd_same]
        by_cases e : k = j
        · subst e; rw [vupd_eq, if_pos (Nat.lt_succ_self _), f85]
        · rw [vupd_ne _ _ _ _ e, h57 k]
          by_cases e' : k < j
          · rw [if_pos e', if_pos (show k < j + 1 by omega)]
          · rw [if_neg e', if_neg (by omega)]
      · refine (b152_88 _ _ _ _).trans ?_
        rw [if_pos d1]
        simp (decide := true) only [b152_96, e, exists_eq_left, xtl, b152_101, b152_104, a1, a2, ↓reduceIte, true_and, nI_1]
    · refine ⟨_, T', ⟨rfl, hc, h2, fun k => ?_⟩, fun d r => ?_⟩
      · rw [h57 k]
        by_cases e : k = j
        · subst e; rw [if_neg (Nat.lt_irrefl _), if_pos (Nat.lt_succ_self _)]; exact old k hj c
        · by_cases e' : k < j
          · rw [if_pos e', if_pos (show k < j + 1 by omega)]
          · rw [if_neg e', if_neg (by omega)]
      · refine (b152_88 _ _ _ _).trans ?_
        rw [if_pos d1]
        simp (decide := true) only [b152_96, e, exists_eq_left, xtl, b152_101, b152_116, ↓reduceIte, nI_1]) _ T ⟨rfl, fun _ _ => rfl, rfl, fun k => by rw [if_neg (Nat.not_lt_zero _), h.1.1 57 (by decide) (by decide) (by decide)]⟩
  have f54 : T2.1 54 0 = nI (xN (S.1 2 0)) := by rw [p2 54 (by decide), h.1.1 54 (by decide) (by decide) (by decide)]; exact hn2
  have f60 : T2.1 60 = S.1 60 := by rw [p2 60 (by decide), h.1.1 60 (by decide) (by decide) (by decide)]
  have cm := xcostM_N hS (p := T2.1 57) (t := t) (fun k hk => ⟨(h.2 k hk).1, by rw [r2 k, if_pos hk]⟩)
  refine ⟨T2, p2, q2, r2, fun d r => ?_⟩
  rw [b152_86, ← nI_0]
  refine (e2 d r).trans ?_
  rw [b152_88, f54, if_neg (nI_nlt (Nat.le_refl _) (by omega))]
  have e3 := fun r => t141_57 d T2 r hn f54
  rw [f60, cm] at e3
  simp only [b152_122, e3, exists_eq_left, xtl, b152_130]
/-- what holds where a plan is adopted -/
theorem xInv_plan {S W : xS} (hS : xInv S) {t : Nat → Nat} (hK : plK S t) (h : ∀ c, c ≠ 5 → c ≠ 57 → (c < 40 ∨ 53 < c) → c < 85 → W.1 c = S.1 c) (h2 : W.2.1 = S.2.1) (h5 : ∀ k, W.1 5 k = if k < xN (S.1 2 0) then nI (t k) else S.1 5 k) (h57 : ∀ k, W.1 57 k = if k < xN (S.1 2 0) then (if t k = 5 then -1 else nI (t k)) else S.1 57 k) : xInv W := by
  obtain ⟨hn, hn1, hn2⟩ := hS.cnt
  obtain ⟨hw, hw1, hw2⟩ := hS.now
  -- an office that is not free keeps its wave
  have keep : ∀ k, k < 10 → (W.1 5 k = S.1 5 k ∧ (k < xN (S.1 2 0) → t k = xN (S.1 5 k))) ∨ (k < xN (S.1 2 0) ∧ fr S k ∧ W.1 5 k = nI (t k) ∧ xN (S.1 0 10) ≤ t k ∧ t k < 5) := fun k hk => by
    by_cases c : k < xN (S.1 2 0)
    · by_cases cf : fr S k
      · exact Or.inr ⟨c, cf, by rw [h5 k, if_pos c], (hK.2 k c).1 cf⟩
      · have e : t k = xN (S.1 5 k) := by
          rw [(hK.2 k c).2 cf]
          unfold t0
          by_cases c7 : S.1 7 k = 0
          · rw [if_pos c7, (hS.hPln k hk).2.1 (fun z => cf ⟨c7, z⟩)]; rfl
          · rw [if_neg c7]
        exact Or.inl ⟨by rw [h5 k, if_pos c, e]; exact (hS.wav hk).2.1.symm, fun _ => e⟩
    · exact Or.inl ⟨by rw [h5 k, if_neg c], fun z => absurd z c⟩
  have base : xInv (xset (xset S 5 (W.1 5)) 57 (W.1 57)) := by
    obtain ⟨hRef, hCnt, hBld, hLwc, hEmb, hFil, hNow, hPal, hRnt, hMst, hTrn, hOnt, hPai, hFlt, hBeg, hDsk, hRnk, hWav, hSty, hMov, hTie, hRom, hRdy, hBec, hFlk, hHer, hTrt, hTvl, hSet, hQui, hFre, hLaw, hEmR, hPlc, hShf, hSiz, hCel, hPln, hLeg⟩ := id hS
    simp (decide := true) only [xInv, jLeg, aLg, xset_ne, xset_same]
    refine ⟨hRef, hCnt, hBld, hLwc, hEmb, hFil, hNow, hPal, hRnt, hMst, hTrn, hOnt, hPai, hFlt, hBeg, hDsk, hRnk, ?_, hSty, hMov, hTie, hRom, hRdy, hBec, hFlk, hHer, hTrt, hTvl, hSet, hQui, hFre, hLaw, hEmR, hPlc, hShf, hSiz, hCel, ?_, ?_⟩
    · intro k hk
      by_cases c : k < xN (S.1 2 0)
      · exact ⟨t k, hK.le hS c, by rw [h5 k, if_pos c], by rw [h57 k, if_pos c]⟩
      · obtain ⟨w, w1, w2, w3⟩ := hWav k hk
        exact ⟨w, w1, by rw [h5 k, if_neg c]; exact w2, by rw [h57 k, if_neg c]; exact w3⟩
    · intro k hk
      obtain ⟨g1, g2, g3⟩ := hPln k hk
      rcases keep k hk with ⟨e, -⟩ | ⟨c, cf, e, y1, y2⟩
      · rw [e]; exact ⟨g1, g2, g3⟩
      · rw [e, xN_nI (by omega)]
        exact ⟨fun _ => ⟨fun z => absurd cf.1 z, fun z => absurd z (by omega)⟩, fun z => absurd cf.2 z, fun z => absurd c (by omega)⟩
    · intro v hv
      refine LgA_w (fun k hk => ?_) (hLeg v hv)
      rcases keep k (by omega) with ⟨e, -⟩ | ⟨c, cf, e, y1, y2⟩
      · exact Or.inl (by rw [e])
      · refine Or.inr ⟨?_, by rw [e, xN_nI (by omega)]; omega⟩
        have : ¬ xN (S.1 5 k) < xN (S.1 0 10) := fun z => ((hPln k (by omega)).1 hk).mpr z cf.1
        show v < xN (S.1 5 k)
        omega
  refine xInv_fr (fun c hc hc2 => ?_) ?_ base
  · by_cases e : c = 57
    · subst e; rw [xset_same]
    · rw [xset_ne _ _ _ _ e]
      by_cases e' : c = 5
      · subst e'; rw [xset_same]
      · rw [xset_ne _ _ _ _ e']; exact h c e' e hc hc2
  · exact h2
theorem x91r (U : xS) (r : Option Value × xS) : (xX 59 91 9 [(0, .ref 0)] [] U r ↔ r = (some (.int (-6)), xwI U 1 6 (U.1 1 6 + 1))) ∧ (xX 59 91 33 [(0, .ref 0)] [] U r ↔ r = (some (.int (-7)), xwI U 1 7 (U.1 1 7 + 1))) ∧ (xX 59 91 78 [(0, .ref 0)] [] U r ↔ r = (some (.int (-6)), xwI U 1 6 (U.1 1 6 + 1))) := by
  have xn7 : (7 : Int32).toNatClampNeg = 7 := by decide
  have xv7 : vp_in 7 8 := vp_in_nI (show 7 < 8 by decide) (by decide)
  refine ⟨?_, ?_, ?_⟩
  · simp (decide := true) only [b91_9, b91_15, b68_0, b68_7, b68_10, b68_21, b25_0, b25_5, b25_10, b25_14, ↓reduceIte, xtl, exists_eq_left, and_assoc, exists_and_left, xbit_1, xbit_0, true_and, Int32.neg_neg, xn6, xv6]
  · simp (decide := true) only [b91_33, b91_39, b68_0, b68_7, b68_10, b68_21, b25_0, b25_5, b25_10, b25_14, ↓reduceIte, xtl, exists_eq_left, and_assoc, exists_and_left, xbit_1, xbit_0, true_and, Int32.neg_neg, xn7, xv7]
  · simp (decide := true) only [b91_78, b91_84, b68_0, b68_7, b68_10, b68_21, b25_0, b25_5, b25_10, b25_14, ↓reduceIte, xtl, exists_eq_left, and_assoc, exists_and_left, xbit_1, xbit_0, true_and, Int32.neg_neg, xn6, xv6]
theorem m152r (U : xS) (r : Option Value × xS) : (xX 59 152 9 [(0, .ref 54)] [] U r ↔ r = (some (.int (-6)), xwI U 84 6 (U.1 84 6 + 1))) ∧ (xX 59 152 30 [(0, .ref 54)] [] U r ↔ r = (some (.int (-7)), xwI U 84 7 (U.1 84 7 + 1))) ∧ (xX 59 152 79 [(0, .ref 54)] [] U r ↔ r = (some (.int (-6)), xwI U 84 6 (U.1 84 6 + 1))) := by
  have xn7 : (7 : Int32).toNatClampNeg = 7 := by decide
  have xv7 : vp_in 7 8 := vp_in_nI (show 7 < 8 by decide) (by decide)
  refine ⟨?_, ?_, ?_⟩
  · simp (decide := true) only [b152_9, b152_15, b114_0, ↓reduceIte, xtl, exists_eq_left, and_assoc, exists_and_left, true_and, Int32.neg_neg, xn6, xv6]
  · simp (decide := true) only [b152_30, b152_36, b114_0, ↓reduceIte, xtl, exists_eq_left, and_assoc, exists_and_left, true_and, Int32.neg_neg, xn7, xv7]
  · simp (decide := true) only [b152_79, b152_85, b114_0, ↓reduceIte, xtl, exists_eq_left, and_assoc, exists_and_left, true_and, Int32.neg_neg, xn6, xv6]
/-- the reference's make -/
theorem make152 {Z S T : xS} (hS : xInv S) (h : frM Z S T) {w : Nat} (hw : w ≤ 3) : (gP S w = none ∧ ∃ T', frM Z S T' ∧ ∀ r, xX 59 152 37 [(0, .ref 54), (1, .int (nI w))] [] T r ↔ xX 59 152 79 [(0, .ref 54)] [] T' r) ∨ ∃ T' t, gP S w = some t ∧ plM Z S T' t ∧ ∀ r, xX 59 152 37 [(0, .ref 54), (1, .int (nI w))] [] T r ↔ xX 59 152 86 [(0, .ref 54)] [] T' r := by
  have hc : w = 0 ∨ w = 1 ∨ w = 2 ∨ w = 3 := by omega
  rcases hc with c | c | c | c <;> subst c
  · have z : nI 0 = 0 := rfl
    have eP : gP S 0 = gR S := if_pos rfl
    rw [eP]
    rcases m144 hS h with ⟨i1, T', i2, i3⟩ | ⟨T', t, i1, i2, i3⟩
    · have i3' := i3 55
      exact Or.inl ⟨i1, T', i2, fun r => by simp (decide := true) only [z, b152_37, b152_41, i3', exists_eq_left, xtl, b152_45, ↓reduceIte]⟩
    · have i3' := i3 55
      exact Or.inr ⟨T', t, i1, i2, fun r => by simp (decide := true) only [z, b152_37, b152_41, i3', exists_eq_left, xtl, b152_45, ↓reduceIte]⟩
  · have z : nI 1 = 1 := rfl
    have eP : gP S 1 = gW S := by unfold gP; rw [if_neg (by decide), if_pos rfl]
    rw [eP]
    rcases m146 hS h with ⟨i1, T', i2, i3⟩ | ⟨T', t, i1, i2, i3⟩
    · have i3' := i3 54
      exact Or.inl ⟨i1, T', i2, fun r => by simp (decide := true) only [z, b152_37, b152_48, b152_53, i3', exists_eq_left, xtl, b152_57, ↓reduceIte]⟩
    · have i3' := i3 54
      exact Or.inr ⟨T', t, i1, i2, fun r => by simp (decide := true) only [z, b152_37, b152_48, b152_53, i3', exists_eq_left, xtl, b152_57, ↓reduceIte]⟩
  · have z : nI 2 = 2 := rfl
    have z0 : nI 0 = 0 := rfl
    have eP : gP S 2 = gX S 0 := by unfold gP; rw [if_neg (by decide), if_neg (by decide)]
    rw [eP]
    rcases m150 hS h (md := 0) (Or.inl rfl) with ⟨i1, T', i2, i3⟩ | ⟨T', t, i1, i2, i3⟩
    · have i3' := i3 54
      rw [z0] at i3'
      exact Or.inl ⟨i1, T', i2, fun r => by simp (decide := true) only [z, b152_37, b152_48, b152_60, b152_70, i3', exists_eq_left, xtl, b152_74, ↓reduceIte]⟩
    · have i3' := i3 54
      rw [z0] at i3'
      exact Or.inr ⟨T', t, i1, i2, fun r => by simp (decide := true) only [z, b152_37, b152_48, b152_60, b152_70, i3', exists_eq_left, xtl, b152_74, ↓reduceIte]⟩
  · have z : nI 3 = 3 := rfl
    have z0 : nI 1 = 1 := rfl
    have eP : gP S 3 = gX S 1 := by unfold gP; rw [if_neg (by decide), if_neg (by decide)]
    rw [eP]
    rcases m150 hS h (md := 1) (Or.inr rfl) with ⟨i1, T', i2, i3⟩ | ⟨T', t, i1, i2, i3⟩
    · have i3' := i3 54
      rw [z0] at i3'
      exact Or.inl ⟨i1, T', i2, fun r => by simp (decide := true) only [z, b152_37, b152_48, b152_60, b152_66, i3', exists_eq_left, xtl, b152_74, ↓reduceIte]⟩
    · have i3' := i3 54
      rw [z0] at i3'
      exact Or.inr ⟨T', t, i1, i2, fun r => by simp (decide := true) only [z, b152_37, b152_48, b152_60, b152_66, i3', exists_eq_left, xtl, b152_74, ↓reduceIte]⟩
theorem op_plan (S : xS) (v1 : Int32) (h : xInv S) : xOpI xInv 91 152 [(1, .int v1)] S := by
  obtain ⟨hn, hn1, hn2⟩ := h.cnt
  by_cases c1 : v1 < 0
  · refine xOp_ref (z := -6) 6 (by decide) h (fun r => Iff.trans ?_ (x91r S r).1) (fun r => Iff.trans ?_ (m152r _ r).1)
    · simp (decide := true) only [b91_0, b25_0, b25_14, c1, ↓reduceIte, exists_eq_left, xtl, b91_6, and_assoc, exists_and_left, xbit_0, true_and]
    · simp (decide := true) only [b152_0, c1, ↓reduceIte]
  by_cases c2 : 3 < v1
  · refine xOp_ref (z := -6) 6 (by decide) h (fun r => Iff.trans ?_ (x91r S r).1) (fun r => Iff.trans ?_ (m152r _ r).1)
    · simp (decide := true) only [b91_0, b25_0, b25_5, b25_14, c1, c2, ↓reduceIte, exists_eq_left, xtl, b91_6, and_assoc, exists_and_left, xbit_0, true_and]
    · simp (decide := true) only [b152_0, b152_4, c1, c2, ↓reduceIte]
  obtain ⟨w, hw, rfl⟩ := xIdxL (n := 3) (b := 3) (by decide) (by omega) c1 c2
  have hw3 : w ≤ 3 := by omega
  have sx : ∀ r, xX 59 91 0 [(0, .ref 0), (1, .int (nI w))] [] S r ↔ xX 59 91 16 [(0, .ref 0), (1, .int (nI w))] [] S r := fun r => by
    simp (decide := true) only [b91_0, b25_0, b25_5, b25_10, c1, c2, ↓reduceIte, exists_eq_left, xtl, b91_6, and_assoc, exists_and_left, xbit_1, true_and]
  have sm : ∀ (T : xS) r, xX 59 152 0 [(0, .ref 54), (1, .int (nI w))] [] T r ↔ xX 59 152 16 [(0, .ref 54), (1, .int (nI w))] [] T r := fun T r => by
    simp (decide := true) only [b152_0, b152_4, c1, c2, ↓reduceIte]
  have sumE : ∀ T : xS, T.1 59 = S.1 59 → T.1 58 = S.1 58 → xsum (xfreeM T) (xN (S.1 2 0)) = xsum (xfree S) (xN (S.1 2 0)) := fun T h59 h58 => xsum_congr (fun k hk => by
    unfold xfreeM xfree
    rw [h59, h58, h.hMov.eq (show k < 10 by omega), h.hSty.eq (show k < 10 by omega)])
  have t42' := fun r => t42 57 S r hn hn1
  have c2w : (nI w < 2) ↔ w < 2 := by rw [show (2 : Int32) = nI 2 by decide]; exact nI_ltI (by omega) (by omega)
  have c1w : (1 < nI w) ↔ 1 < w := by rw [show (1 : Int32) = nI 1 by decide]; exact nI_ltI (by omega) (by omega)
  by_cases room : 1 < w ∧ 6 < xsum (xfree S) (xN (S.1 2 0))
  · have d1 : ¬ nI w < 2 := fun z => by have := c2w.mp z; omega
    have d2 := c1w.mpr room.1
    have d3 := room.2
    refine xOp_ref (z := -7) 7 (by decide) h (fun r => (sx r).trans (Iff.trans ?_ (x91r S r).2.1)) (fun r => (sm _ r).trans (Iff.trans ?_ (m152r _ r).2.1))
    · simp (decide := true) only [b91_16, d1, b91_21, t42', exists_eq_left, xtl, b91_28, d3, ↓reduceIte]
    · have t151' := fun r => t151 57 (xwI S 1 7 (S.1 1 7 + 1)) r hn (by rw [xrd_ne _ _ _ _ _ (by decide)]; exact hn2)
      rw [sumE _ (xrd_ne _ _ _ _ _ (by decide)) (xrd_ne _ _ _ _ _ (by decide))] at t151'
      simp (decide := true) only [b152_16, d2, b152_21, t151', exists_eq_left, xtl, b152_25, d3, ↓reduceIte]
  have sx2 : ∀ r, xX 59 91 16 [(0, .ref 0), (1, .int (nI w))] [] S r ↔ xX 59 91 40 [(0, .ref 0), (1, .int (nI w))] [] S r := fun r => by
    by_cases d1 : nI w < 2
    · rw [b91_16, if_pos d1]
    · have y : ¬ w < 2 := fun y => d1 (c2w.mpr y)
      have d3 : ¬ 6 < xsum (xfree S) (xN (S.1 2 0)) := fun z => room ⟨by omega, z⟩
      simp (decide := true) only [b91_16, d1, b91_21, t42', exists_eq_left, xtl, b91_28, d3, ↓reduceIte]
  have sm2 : ∀ (T : xS) r, T.1 59 = S.1 59 → T.1 58 = S.1 58 → T.1 54 = S.1 54 → (xX 59 152 16 [(0, .ref 54), (1, .int (nI w))] [] T r ↔ xX 59 152 37 [(0, .ref 54), (1, .int (nI w))] [] T r) := fun T r h59 h58 h54 => by
    by_cases d1 : 1 < nI w
    · have d3 : ¬ 6 < xsum (xfree S) (xN (S.1 2 0)) := fun z => room ⟨c1w.mp d1, z⟩
      have t151' := fun r => t151 57 T r hn (by rw [h54]; exact hn2)
      rw [sumE T h59 h58] at t151'
      simp (decide := true) only [b152_16, d1, b152_21, t151', exists_eq_left, xtl, b152_25, d3, ↓reduceIte]
    · rw [b152_16, if_neg d1]
  obtain ⟨U1, p1, e1⟩ := m47 h 54
  rcases m59 h p1 hw3 with ⟨g, U2, f2, e2⟩ | ⟨U2, t, g, p2, e2⟩
  · -- there is none
    have fr0 : frM (xwI U2 1 6 (U2.1 1 6 + 1)) S (xwI U2 1 6 (U2.1 1 6 + 1)) := ⟨fun c hc hc1 _ => by rw [xrd_ne _ _ _ _ _ (by omega)]; exact f2.1 c hc1, f2.2, rfl, rfl⟩
    rcases make152 h fr0 hw3 with ⟨-, T2, g2, e3⟩ | ⟨T2, t, g', -, -⟩
    case inr => rw [g] at g'; exact absurd g' (by simp)
    refine xOp_mk (z := -6) (S1 := xwI U2 1 6 (U2.1 1 6 + 1)) (S2 := xwI T2 84 6 (T2.1 84 6 + 1)) (fun r => (sx r).trans ((sx2 r).trans (Iff.trans ?_ (x91r U2 r).2.2))) (fun r => (sm _ r).trans ((sm2 _ r ?_ ?_ ?_).trans ((e3 r).trans (m152r T2 r).2.2))) ?_
    · simp (decide := true) only [b91_40, e1, exists_eq_left, xtl, xtl0, b91_63, e2, b91_75, ↓reduceIte]
    · rw [xrd_ne _ _ _ _ _ (by decide)]; exact f2.1 59 (by decide)
    · rw [xrd_ne _ _ _ _ _ (by decide)]; exact f2.1 58 (by decide)
    · rw [xrd_ne _ _ _ _ _ (by decide)]; exact f2.1 54 (by decide)
    · refine xInv_fr (fun c hc hc2 => ?_) ?_ (xInv_ref 6 (by decide) h)
      · have u1 : U2.1 1 = S.1 1 := f2.1 1 (by decide)
        have u5 : U2.1 5 = S.1 5 := f2.1 5 (by decide)
        by_cases x84 : c = 84
        · subst x84
          rw [xrd_same, xrd_same, xrd_ne S 1 6 _ 84 (by decide), g2.1 84 (by decide) (by decide) (by decide)]
        · rw [xrd_ne _ _ _ _ _ x84, xrd_ne _ _ _ _ _ x84]
          by_cases x1 : c = 1
          · subst x1
            rw [g2.2.2.1, xrd_same, xrd_same, u1]
          · rw [xrd_ne S _ _ _ _ x1]
            by_cases x5 : c = 5
            · subst x5
              rw [g2.2.2.2, xrd_ne _ _ _ _ _ (by decide)]; exact u5
            · exact g2.1 c (by omega) hc hc2
      · show T2.2.1 = S.2.1
        rw [g2.2.1]
  · have hK := gP_K h g
    obtain ⟨U3, q1, q2, q3, e3⟩ := m60 h p2
    have fc : ∀ c, c ≠ 5 → (c < 40 ∨ 53 < c) → U3.1 c = S.1 c := fun c hc hc1 => (q1 c hc).trans (p2.1.1 c hc1)
    have fr0 : frM U3 S U3 := ⟨fun c hc hc1 _ => fc c (by omega) hc1, q2.trans p2.1.2, rfl, rfl⟩
    rcases make152 h fr0 hw3 with ⟨g', -⟩ | ⟨T2, t', g', p4, e4⟩
    · rw [g] at g'; exact absurd g' (by simp)
    have ett : t = t' := Option.some.inj (g.symm.trans g')
    subst ett
    obtain ⟨T3, r1, r2, r3, e5⟩ := t152 h p4 hK
    have e45 : ∀ r, xX 58 45 0 [(0, .ref 2), (1, .ref 5)] [] U3 r ↔ r = (some (.int (nI (cN S t))), U3) := fun r => by
      have := t45_5 58 U3 r hn (by rw [fc 2 (by decide) (by decide)]; exact hn1)
      rw [fc 8 (by decide) (by decide), xcost_N h (t := t) (fun k hk => ⟨(p2.2 k hk).1, by rw [q3 k, if_pos hk]⟩)] at this
      exact this
    have e3' := e3 58
    refine xOp_mk (z := nI (cN S t)) (S1 := U3) (S2 := T3) (fun r => (sx r).trans ((sx2 r).trans ?_)) (fun r => (sm _ r).trans ((sm2 _ r (fc 59 (by decide) (by decide)) (fc 58 (by decide) (by decide)) (fc 54 (by decide) (by decide))).trans ((e4 r).trans (e5 58 r)))) ?_
    · simp (decide := true) only [b91_40, e1, exists_eq_left, xtl, xtl0, b91_63, e2, b91_75, b91_85, e3', b91_96, e45, b91_110, ↓reduceIte]
    · refine xInv_plan h hK (fun c h5 h57 hc hc2 => ?_) ?_ (fun k => ?_) r3
      · rw [r1 c h57]
        by_cases x1 : c = 1
        · subst x1; rw [p4.1.2.2.1]; exact fc 1 (by decide) (by decide)
        · exact p4.1.1 c (by omega) hc hc2
      · rw [r2, p4.1.2.1]
      · rw [r1 5 (by decide), p4.1.2.2.2]; exact q3 k
