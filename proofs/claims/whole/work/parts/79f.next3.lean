theorem aLg_fr2 {S S' : xS} {t : Nat → Nat} {v : Nat} (h : ∀ c, (c = 2 ∨ c = 3 ∨ c = 9 ∨ c = 10 ∨ c = 11 ∨ c = 12 ∨ c = 14 ∨ c = 15) → S'.1 c = S.1 c) : aLg S' t v = aLg S t v := by
  unfold aLg
  rw [h 2 (by decide), h 3 (by decide), h 14 (by decide), h 15 (by decide), h 9 (by decide), h 10 (by decide), h 11 (by decide), h 12 (by decide)]
theorem fW_fr2 {S S' : xS} {t : Nat → Nat} {w : Nat} (h : ∀ c, (c = 2 ∨ c = 3 ∨ c = 9 ∨ c = 10 ∨ c = 11 ∨ c = 12 ∨ c = 14 ∨ c = 15) → S'.1 c = S.1 c) (hf : fW S t w) : fW S' t w := ⟨hf.1, fun u hu => by rw [aLg_fr2 h]; exact hf.2.1 u hu, fun hw => by rw [aLg_fr2 h]; exact hf.2.2 hw⟩
theorem x97r (U : xS) (r : Option Value × xS) : xX 59 97 41 [(0, .ref 0)] [] U r ↔ r = (some (.int (-6)), xwI U 1 6 (U.1 1 6 + 1)) := by
  simp (decide := true) only [b97_41, b97_47, b68_0, b68_7, b68_10, b68_21, b25_0, b25_5, b25_10, b25_14, ↓reduceIte, xtl, exists_eq_left, and_assoc, exists_and_left, xbit_1, xbit_0, true_and, Int32.neg_neg, xn6, xv6]
theorem m161r (U : xS) (r : Option Value × xS) : xX 59 161 30 [(0, .ref 54)] [] U r ↔ r = (some (.int (-6)), xwI U 84 6 (U.1 84 6 + 1)) := by
  simp (decide := true) only [b161_30, b161_36, b114_0, ↓reduceIte, xtl, exists_eq_left, and_assoc, exists_and_left, true_and, Int32.neg_neg, xn6, xv6]
theorem op_next (S : xS) (h : xInv S) : xOpI xInv 97 161 [] S := by
  obtain ⟨hbE, hbb, hb0⟩ := h.hBeg
  obtain ⟨hw0, hw1, hw2⟩ := h.now
  obtain ⟨hn, hn1, hn2⟩ := h.cnt
  by_cases hb : S.1 0 9 = 0
  · exact xOp_ref 6 (by decide) h (fun r => by rw [b97_0, if_pos hb]; exact x97r S r) (fun r => by
      rw [b161_0, xrd_ne _ _ _ _ _ (by decide), hbE, if_pos hb]
      refine (m161r _ r).trans ?_
      rw [xrd_ne _ _ _ _ _ (by decide)])
  by_cases h5 : xN (S.1 0 10) = 5
  · rw [h5] at hw1 hw2
    have c5 : ¬ nI 5 < 5 := by decide
    have c6 : nI 5 = 5 := by decide
    exact xOp_ref 6 (by decide) h (fun r => by rw [b97_0, if_neg hb, b97_7, hw1, if_neg c5]; exact x97r S r) (fun r => by
      rw [b161_0, xrd_ne _ _ _ _ _ (by decide), hbE, if_neg hb, b161_7, xrd_ne _ _ _ _ _ (by decide), hw2, if_pos c6]
      refine (m161r _ r).trans ?_
      rw [xrd_ne _ _ _ _ _ (by decide)])
  have hw5 : xN (S.1 0 10) < 5 := by omega
  generalize hW0 : xN (S.1 0 10) = w0 at hw0 hw1 hw2 h5 hw5
  have c5 : nI w0 < 5 := nI_lt (b := 5) hw5 (by omega)
  have c5' : ¬ nI w0 = 5 := fun z => by have := (nI_eq (a := w0) (b := 5) (by omega) (by omega)).mp z; omega
  obtain ⟨Sx, wf, hwf, ex, fx, gx⟩ := m46 54 S h.R
  have hwf5 := hwf.1
  by_cases hlt : w0 < wf
  case neg =>
    have hSx : xInv Sx := xInv_fr (fun c hc _ => fx c (by omega)) (by rw [gx]) h
    have nlt : ¬ nI w0 < nI wf := nI_nlt (by omega) (by omega)
    have hR' : xInvR (xwI Sx 1 6 (Sx.1 1 6 + 1)) := xInvR_fr' (fun c hc => xrd_ne _ _ _ _ _ (by omega)) (fun j _ => congrFun (xrd_ne _ _ _ _ _ (by decide)) j) hSx.R
    obtain ⟨v, hv, ev⟩ := m140_57 _ hR' (xInvR.pl hR')
    have hv2 : fW S (fun k => xN (S.1 5 k)) v := by
      have g := fW_fr2 (S := xwI Sx 1 6 (Sx.1 1 6 + 1)) (S' := S) (fun c hc => by rw [xrd_ne _ _ _ _ _ (by omega), fx c (by omega)]) hv
      rw [xrd_ne _ _ _ _ _ (by decide), fx 5 (by decide)] at g
      exact g
    have ew := fW_uniq hv2 hwf
    subst ew
    refine xOp_mk (z := -6) (S1 := xwI Sx 1 6 (Sx.1 1 6 + 1)) (S2 := xwI (xwI Sx 1 6 (Sx.1 1 6 + 1)) 84 6 (Sx.1 84 6 + 1)) (fun r => ?_) (fun r => ?_) (xInv_ref 6 (by decide) hSx)
    · rw [b97_0, if_neg hb, b97_7, hw1, if_pos c5]
      simp only [b97_15, ex, exists_eq_left, xtl, b97_34, fx 0 (by decide), hw1, if_neg nlt]
      exact x97r Sx r
    · have ev' := ev 56
      rw [b161_0, xrd_ne _ _ _ _ _ (by decide), fx 54 (by decide), hbE, if_neg hb, b161_7, xrd_ne _ _ _ _ _ (by decide), fx 54 (by decide), hw2, if_neg c5']
      simp only [b161_15, ev', exists_eq_left, xtl, b161_23, xrd_ne _ _ _ _ _ (show (54 : Nat) ≠ 1 by decide), fx 54 (by decide), hw2, if_neg nlt]
      refine (m161r _ r).trans ?_
      rw [xrd_ne _ _ _ _ _ (by decide)]
  obtain ⟨nf, hnf12, hnf1, hnf2⟩ := h.hFil
  obtain ⟨⟨p, q, hp, hq, hpq⟩, ⟨pS, qS, hpS, hqS, hpqS⟩⟩ := h.hFre
  rw [hW0] at hpq hpqS
  obtain ⟨l, hl, hl1, hl2⟩ := h.hLwc
  obtain ⟨A, hA⟩ : ∃ A : hS, A = (S.1 67, S.1 68, S.1 69, S.1 13 7, q + xN (S.1 12 w0), qS + xN (S.1 12 (5 + w0)), S.1 13 10) := ⟨_, rfl⟩
  obtain ⟨py, hpy⟩ : ∃ py : Nat → Int32, ∀ o, py o = xpf (S.1 20) (S.1 23) (S.1 22) (S.1 21) (nI o) (nI w0) l := ⟨_, fun _ => rfl⟩
  obtain ⟨F, hF⟩ : ∃ F, F = sN (fun u => xN (S.1 12 u)) (w0 + 1) := ⟨_, rfl⟩
  obtain ⟨Ts, hTs⟩ : ∃ F, F = sN (fun u => xN (S.1 12 (5 + u))) (w0 + 1) := ⟨_, rfl⟩
  have hFb : F ≤ 2000 := by rw [hF]; exact xbFR h.R hw5
  have hTb : Ts ≤ 2000 := by rw [hTs]; exact xbSR h.R hw5
  have hF2 : p + (q + xN (S.1 12 w0)) = F := by rw [hF]; show _ = sN (fun u => xN (S.1 12 u)) w0 + xN (S.1 12 w0); omega
  have hT2 : pS + (qS + xN (S.1 12 (5 + w0))) = Ts := by rw [hTs]; show _ = sN (fun u => xN (S.1 12 (5 + u))) w0 + xN (S.1 12 (5 + w0)); omega
  have hOkA : hOk A := by
    subst hA
    refine ⟨?_, ?_, h.hTvl.2⟩
    · show q + xN (S.1 12 w0) ≤ 3000
      omega
    · show qS + xN (S.1 12 (5 + w0)) ≤ 3000
      omega
  obtain ⟨B, hB⟩ : ∃ B, B = hT (S.1 15) (S.1 13 6) (S.1 13 5) py (xN (S.1 2 0)) A := ⟨_, rfl⟩
  obtain ⟨C, hC⟩ : ∃ C, C = hW (S.1 15) (S.1 13 6) (S.1 13 5) py (fun c => xN (S.1 14 c)) (fun k => xN (S.1 5 k)) w0 (xN (S.1 2 0)) B.2 := ⟨_, rfl⟩
  have hOkC : hOk C.2 := by rw [hC]; exact hOk_W (by rw [hB]; exact hOk_T hOkA _ hn) _ hn
  obtain ⟨S6, eX, a1, a2, a3, a4, a5, a6, a7, a8, a9, a10, a11, a12, a13, a14, a15⟩ := next_x h hb hw1 hw5 hn1 hn hnf1 hnf12 hwf hlt hA hq hqS ⟨l, hl, hl1, hpy⟩ hOkA hB hC
  have hR6 : xInvR S6 := xInvR_fr' (fun c hc => a14 c (by omega)) (fun j _ => congrFun (a14 54 (by decide)) j) h.R
  have hwv : iPl (xN (S.1 2 0)) (S.1 57) (fun k => xN (S.1 5 k)) := xInvR.pl h.R
  have h54 : S6.1 54 = S.1 54 := a14 54 (by decide)
  obtain ⟨M6, eM, b1, b2, b3, b4, ⟨p', b5, b5F⟩, ⟨q', b6, b6T⟩, b7, b8, b9, b10, b11, b12, b13, b14, b15⟩ := next_m (S := S6) (A := A) (tr := S.1 15) (rent := S.1 13 6) (train := S.1 13 5) (w0 := w0) (n := xN (S.1 2 0)) (nf := nf) (F := F) (Ts := Ts) (wf := wf) (py := py) (folk := fun c => xN (S.1 14 c)) (w := fun k => xN (S.1 5 k)) hR6 (by
      refine ⟨⟨by rw [h54]; exact hw2, hw5⟩, by rw [h54]; exact h.hRnt.symm, by rw [h54]; exact h.hTrn.symm, fun c hc => by rw [a14 70 (by decide)]; exact h.hTrt.eq hc, fun k hk => ?_, ⟨fun u => xN (S.1 12 u), fun k hk => by rw [a14 63 (by decide)]; exact (h.hBec.1.get (by omega) hk).2.2, hF.symm⟩, ⟨fun u => xN (S.1 12 (5 + u)), fun k hk => by rw [a14 64 (by decide)]; exact (h.hBec.2.get (by omega) hk).2.2, hTs.symm⟩, ⟨l, hl, by rw [h54]; exact hl2, fun o => ?_⟩, ⟨by rw [h54]; exact hn2, hn⟩, by omega, by omega⟩
      · obtain ⟨t1, t2, t3⟩ := h.hTrt.get (by omega) (show 5 * k + 2 < 15 by omega)
        exact ⟨_, t1, t2⟩
      · rw [a14 77 (by decide), a14 78 (by decide), a14 79 (by decide), a14 80 (by decide), h.hLaw.pf hl]
        exact hpy o) (by
      subst hA
      refine ⟨fun c _ => congrFun (a14 67 (by decide)) c, fun c _ => congrFun (a14 68 (by decide)) c, fun c _ => congrFun (a14 69 (by decide)) c, by rw [h54]; exact h.hOnt.symm, ⟨p, by rw [h54]; exact hp, hF2⟩, ⟨pS, by rw [h54]; exact hpS, hT2⟩, by rw [h54]; exact h.hPai.symm, fun _ _ _ _ _ _ _ => rfl, fun _ _ _ _ _ => rfl, rfl⟩) (by rw [h54, hbE]; exact hb) (by rw [h54]; exact hnf2) hnf12 (by
      have g := fW_fr2 (S' := S6) (fun c hc => a14 c (by omega)) hwf
      rw [a14 5 (by decide)]
      exact g) hlt (by rw [a14 57 (by decide)]; exact hwv) (fun o ho hwo => by
      rw [a14 59 (by decide), h.hMov.eq (by omega)]
      by_cases z : S.1 7 o = 0
      · exact z
      · have := ((h.hPln o (by omega)).1 ho).mp z
        have hwo' : xN (S.1 5 o) = w0 := hwo
        omega) (fun o ho hwo k hk => by
      have hwo' : xN (S.1 5 o) = w0 := hwo
      have z : S.1 7 o = 0 := by
        by_cases z : S.1 7 o = 0
        · exact z
        · have := ((h.hPln o (by omega)).1 ho).mp z
          omega
      rw [a14 66 (by decide), h.hHer o (by omega) k hk, if_pos z]
      obtain ⟨u1, u2⟩ := xtwo h.R (show 3 * o + k < 30 by omega)
      exact ⟨u1, Nat.lt_of_le_of_lt u2 (by decide)⟩) hB hC
  refine xOp_mk eX eM ?_
  have gg : ∀ c, (c ≠ 0 ∧ c ≠ 7 ∧ c ≠ 13 ∧ c ≠ 16 ∧ c ≠ 17 ∧ c ≠ 18 ∧ c ≠ 27 ∧ c ≠ 54 ∧ c ≠ 59 ∧ c ≠ 66 ∧ c ≠ 67 ∧ c ≠ 68 ∧ c ≠ 69 ∧ c ≠ 83 ∧ (c < 41 ∨ 51 < c)) → M6.1 c = S.1 c := fun c hc => (b14 c (by omega)).trans (a14 c (by omega))
  have gs : ∀ c, (c = 0 ∨ c = 7 ∨ c = 13 ∨ c = 16 ∨ c = 17 ∨ c = 18 ∨ c = 27) → M6.1 c = S6.1 c := fun c hc => b14 c (by omega)
  have g54 : ∀ j, (j ≠ 5 ∧ j ≠ 7 ∧ j ≠ 10 ∧ j ≠ 11 ∧ j ≠ 12 ∧ j ≠ 13) → M6.1 54 j = S.1 54 j := fun j hj => (b10 j hj).trans (congrFun h54 j)
  have hnow : xN (M6.1 0 10) = w0 + 1 := by rw [gs 0 (by decide), a12]; exact xN_nI (by omega)
  refine ⟨?_, ?_, ?_, ?_, ?_, ?_, ?_, ?_, ?_, ?_, ?_, ?_, ?_, ?_, ?_, ?_, ?_, ?_, ?_, ?_, ?_, ?_, ?_, ?_, ?_, ?_, ?_, ?_, ?_, ?_, ?_, ?_, ?_, ?_, ?_, ?_, ?_, ?_, ?_⟩
  · rw [gg 1 (by decide), gg 84 (by decide)]; exact h.hRef
  · rw [gg 2 (by decide), g54 0 (by decide)]; exact h.hCnt
  · rw [gg 9 (by decide), g54 1 (by decide)]; exact h.hBld
  · rw [gg 19 (by decide), g54 2 (by decide)]; exact h.hLwc
  · rw [gg 24 (by decide), g54 3 (by decide)]; exact h.hEmb
  · rw [gg 26 (by decide), g54 4 (by decide)]; exact h.hFil
  · exact ⟨w0 + 1, by omega, by rw [gs 0 (by decide)]; exact a12, b9⟩
  · rw [gg 24 (by decide), g54 6 (by decide)]; exact h.hPal
  · rw [gs 13 (by decide), a9, b8]
  · rw [gg 9 (by decide), g54 8 (by decide)]; exact h.hMst
  · rw [gs 13 (by decide), a8, g54 9 (by decide)]; exact h.hTrn
  · rw [gs 13 (by decide), a4, b4]
  · rw [gs 13 (by decide), a7, b7]
  · rw [gg 19 (by decide), g54 14 (by decide)]; exact h.hFlt
  · rw [gs 0 (by decide), a13, g54 15 (by decide)]; exact ⟨hbE, hbb, fun z => absurd z hb⟩
  · rw [gg 3 (by decide), gg 55 (by decide)]; exact h.hDsk
  · rw [gg 4 (by decide), gg 56 (by decide)]; exact h.hRnk
  · rw [gg 5 (by decide), gg 57 (by decide)]; exact h.hWav
  · rw [gg 6 (by decide), gg 58 (by decide)]; exact h.hSty
  · intro k hk
    rw [gs 7 (by decide), a10 k hk, b11 k, a14 59 (by decide)]
    unfold movF
    by_cases e : k < xN (S.1 2 0) ∧ xN (S.1 5 k) = w0
    · rw [if_pos e, if_pos e]; exact Or.inr ⟨rfl, rfl⟩
    · rw [if_neg e, if_neg e]; exact h.hMov k hk
  · rw [gg 8 (by decide), gg 60 (by decide)]; exact h.hTie
  · rw [gg 10 (by decide), gg 61 (by decide)]; exact h.hRom
  · rw [gg 11 (by decide), gg 62 (by decide)]; exact h.hRdy
  · rw [gg 12 (by decide), gg 63 (by decide), gg 64 (by decide)]; exact h.hBec
  · rw [gg 14 (by decide), gg 65 (by decide)]; exact h.hFlk
  · intro k hk j hj
    rw [b12 k hk j hj, a14 66 (by decide), gs 7 (by decide), a10 k hk, gg 14 (by decide)]
    unfold movF
    by_cases e : k < xN (S.1 2 0) ∧ xN (S.1 5 k) = w0
    · rw [if_pos e, if_pos e, if_neg (by decide)]
    · rw [if_neg e, if_neg e]; exact h.hHer k hk j hj
  · rw [gg 15 (by decide), gg 70 (by decide)]; exact h.hTrt
  · rw [gs 13 (by decide), gs 16 (by decide), a4]
    refine ⟨fun c hc => by rw [a2 c hc, b2 c hc], ?_⟩
    rw [hOkC.2.2]
    exact xsum_congr (fun c hc => (b2 c hc).symm)
  · intro i hi
    rw [gs 17 (by decide), a1 i hi, b1 _ (by omega), b1 _ (by omega), b1 _ (by omega)]
    rfl
  · intro i hi
    rw [gs 18 (by decide), a3 i hi, b3 _ (by omega), b3 _ (by omega), b3 _ (by omega)]
    rfl
  · unfold jFre
    rw [hnow, gg 12 (by decide), gs 13 (by decide), a5, a6]
    exact ⟨⟨p', _, b5, rfl, by rw [b5F, hF]⟩, ⟨q', _, b6, rfl, by rw [b6T, hTs]⟩⟩
  · rw [gg 19 (by decide), gg 20 (by decide), gg 21 (by decide), gg 22 (by decide), gg 23 (by decide), gg 77 (by decide), gg 78 (by decide), gg 79 (by decide), gg 80 (by decide)]; exact h.hLaw
  · rw [gg 25 (by decide), gg 81 (by decide)]; exact h.hEmR
  · intro k hk
    rw [gs 27 (by decide), a11, b13, a14 83 (by decide)]
    unfold xarv
    rw [h.hPlc k hk]
  · rw [gg 2 (by decide), gg 29 (by decide), gg 71 (by decide), gg 72 (by decide), gg 74 (by decide)]; exact h.hShf
  · rw [gg 30 (by decide), gg 73 (by decide)]; exact h.hSiz
  · rw [b15, a15]; exact h.hCel
  · intro k hk
    rw [hnow, gg 2 (by decide), gg 5 (by decide), gg 6 (by decide), gs 7 (by decide), a10 k hk]
    obtain ⟨k1, k2, k3⟩ := h.hPln k hk
    rw [hW0] at k1
    unfold movF
    by_cases e : k < xN (S.1 2 0) ∧ xN (S.1 5 k) = w0
    · rw [if_pos e]
      exact ⟨fun _ => ⟨fun _ => by omega, fun _ => by decide⟩, k2, fun z => absurd e.1 (by omega)⟩
    · rw [if_neg e]
      refine ⟨fun z => ⟨fun y => ?_, fun y => ?_⟩, k2, k3⟩
      · have := (k1 z).mp y
        omega
      · refine (k1 z).mpr ?_
        rcases Nat.lt_or_ge (xN (S.1 5 k)) w0 with x | x
        · exact x
        · exact absurd ⟨z, by omega⟩ e
  · intro v hv
    rw [hnow] at hv
    rw [gg 5 (by decide), aLg_fr2 (S := S) (fun c hc => gg c (by omega))]
    exact hwf.2.1 v (by omega)
