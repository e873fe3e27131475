/-! a wave is lived: both sides -/
def clx (X : Int32) : Int32 := if 0 < (if X < 1000 then X else 1000) then (if X < 1000 then X else 1000) else 0
def rN (rent M : Int32) (f : Nat) : Int32 := clx (if 0 < f then rent + M / 10 + -1 else rent + M / 10)
theorem clx_eq (Y : Int32) : clx Y = if Y < 0 then 0 else if 1000 < Y then 1000 else Y := by
  have h0 : (0 : Int32).toInt = 0 := rfl
  have h1 : (1000 : Int32).toInt = 1000 := rfl
  unfold clx
  by_cases a : Y < 1000
  · rw [if_pos a]
    have a' := Int32.lt_iff_toInt_lt.mp a
    by_cases b : Y < 0
    · rw [if_pos b, if_neg (fun z => Int32.lt_irrefl (Int32.lt_trans b z))]
    · rw [if_neg b, if_neg (show ¬ 1000 < Y from fun z => by rw [Int32.lt_iff_toInt_lt] at z; omega)]
      by_cases c : 0 < Y
      · rw [if_pos c]
      · rw [if_neg c]; exact (Int32.le_antisymm (Int32.not_lt.mp c) (Int32.not_lt.mp b)).symm
  · rw [if_neg a, if_pos (by decide)]
    have a' : 1000 ≤ Y.toInt := by rw [Int32.lt_iff_toInt_lt] at a; omega
    rw [if_neg (show ¬ Y < 0 from fun z => by rw [Int32.lt_iff_toInt_lt] at z; omega)]
    by_cases c : 1000 < Y
    · rw [if_pos c]
    · rw [if_neg c]; exact (Int32.le_antisymm (Int32.not_lt.mp c) (Int32.not_lt.mp a)).symm
theorem next_x {S : xS} (h : xInv S) {A : hS} {w0 n nf q qS wf : Nat} {py : Nat → Int32} (hb : ¬ S.1 0 9 = 0) (hw0 : S.1 0 10 = nI w0) (hw5 : w0 < 5) (hn : S.1 2 0 = nI n) (hn10 : n ≤ 10) (hnf : S.1 26 0 = nI nf) (hnf12 : nf ≤ 12) (hfw : fW S (fun k => xN (S.1 5 k)) wf) (hlt : w0 < wf) (hA : A = (S.1 67, S.1 68, S.1 69, S.1 13 7, q + xN (S.1 12 w0), qS + xN (S.1 12 (5 + w0)), S.1 13 10)) (hq : S.1 13 8 = nI q) (hqS : S.1 13 9 = nI qS) (hpy : ∃ l, l ≤ 6 ∧ S.1 19 0 = nI l ∧ ∀ o, py o = xpf (S.1 20) (S.1 23) (S.1 22) (S.1 21) (nI o) (nI w0) l) (hOkA : hOk A)
    {B C : Int32 × hS} (hB : B = hT (S.1 15) (S.1 13 6) (S.1 13 5) py n A) (hC : C = hW (S.1 15) (S.1 13 6) (S.1 13 5) py (fun c => xN (S.1 14 c)) (fun k => xN (S.1 5 k)) w0 n B.2) :
    ∃ S6, (∀ r, xX 59 97 0 [(0, .ref 0)] [] S r ↔ r = (some (.int (B.1 + C.1)), S6)) ∧ (∀ i, i < 10 → S6.1 17 i = s3 C.2.1 i) ∧ (∀ c, c < 30 → S6.1 16 c = C.2.2.1 c) ∧ (∀ i, i < 10 → S6.1 18 i = s3 C.2.2.2.1 i) ∧ S6.1 13 7 = C.2.2.2.2.1 ∧ S6.1 13 8 = nI C.2.2.2.2.2.1 ∧ S6.1 13 9 = nI C.2.2.2.2.2.2.1 ∧ S6.1 13 10 = C.2.2.2.2.2.2.2 ∧ S6.1 13 5 = S.1 13 5 ∧ S6.1 13 6 = rN (S.1 13 6) (B.1 + C.1) C.2.2.2.2.2.1 ∧ (∀ k, k < 10 → S6.1 7 k = movF (S.1 7) (fun k => xN (S.1 5 k)) w0 n k) ∧ S6.1 27 = xarv (S.1 27) nf ∧ S6.1 0 10 = nI (w0 + 1) ∧ S6.1 0 9 = S.1 0 9 ∧ (∀ c, (c ≠ 0 ∧ c ≠ 7 ∧ c ≠ 13 ∧ c ≠ 16 ∧ c ≠ 17 ∧ c ≠ 18 ∧ c ≠ 27 ∧ (c < 41 ∨ 51 < c)) → S6.1 c = S.1 c) ∧ S6.2 = S.2 := by
  obtain ⟨Sx, w, hw, ex, fx, gx⟩ := m46 54 S h.R
  have ew := fW_uniq hw hfw
  subst ew
  have a0 : (0 : Int32) * 5 + nI w0 = nI w0 := by rw [Int32.zero_mul, Int32.zero_add]
  have a1 : (1 : Int32) * 5 + nI w0 = nI (5 + w0) := nI_m 5 5 (by decide) 1 w0
  have a2 : (nI (5 + w0)).toNatClampNeg = 5 + w0 := nI_clamp (by omega)
  have a3 : (nI w0).toNatClampNeg = w0 := nI_clamp (by omega)
  have v0 := vp_in_nI (show w0 < 10 by omega) (by omega : 10 < 2 ^ 31)
  have v1 := vp_in_nI (show 5 + w0 < 10 by omega) (by omega : 10 < 2 ^ 31)
  have b0 : S.1 12 w0 = nI (xN (S.1 12 w0)) := (h.hBec.1.get (by omega) hw5).2.1
  have b1 : S.1 12 (5 + w0) = nI (xN (S.1 12 (5 + w0))) := (h.hBec.2.get (by omega) hw5).2.1
  have eo : ∀ r, xX (57 + 1) 16 0 [(0, .ref 13), (1, .ref 9), (2, .int (nI w0))] [] Sx r ↔ r = (none, xwI (xwI Sx 13 8 (nI (q + xN (S.1 12 w0)))) 13 9 (nI (qS + xN (S.1 12 (5 + w0))))) := fun r => (t16 57 (nI w0) Sx r (by simp only [g16, a0, a1, v0, v1, and_self])).trans (by simp only [p16, a0, a1, a2, a3, fx 13 (by decide), fx 12 (by decide), hq, hqS]; rw [b0, b1, nI_add, nI_add, ← b0, ← b1])
  generalize hSb : xwI (xwI Sx 13 8 (nI (q + xN (S.1 12 w0)))) 13 9 (nI (qS + xN (S.1 12 (5 + w0)))) = Sb at eo
  have fb : ∀ c, c ≠ 13 → (c < 41 ∨ 51 < c) → Sb.1 c = S.1 c := fun c h1 h2 => by rw [← hSb, xrd_ne _ _ _ _ _ h1, xrd_ne _ _ _ _ _ h1]; exact fx c h2
  have fs : ∀ j, j ≠ 8 → j ≠ 9 → Sb.1 13 j = S.1 13 j := fun j h1 h2 => by rw [← hSb, xrd_n2 _ _ _ _ _ h2, xrd_n2 _ _ _ _ _ h1]; exact congrFun (fx 13 (by decide)) j
  have g8 : Sb.1 13 8 = nI (q + xN (S.1 12 w0)) := by rw [← hSb, xrd_n2 _ _ _ _ _ (by decide), xrd_eq]
  have g9 : Sb.1 13 9 = nI (qS + xN (S.1 12 (5 + w0))) := by rw [← hSb, xrd_eq]
  have gb : Sb.2 = S.2 := by rw [← hSb]; exact gx
  have hx0 : xHx Sb Sb A := by
    subst hA
    refine ⟨fun i hi => ?_, fun c hc => ?_, fun i hi => ?_, fs 7 (by decide) (by decide), g8, g9, fs 10 (by decide) (by decide), fun _ _ _ _ _ _ => rfl, rfl, rfl, rfl⟩
    · rw [fb 17 (by decide) (by decide)]; exact h.hSet i hi
    · rw [fb 16 (by decide) (by decide)]; exact h.hTvl.1 c hc
    · rw [fb 18 (by decide) (by decide)]; exact h.hQui i hi
  have hBs : xBase Sb (S.1 15) (S.1 13 6) (S.1 13 5) w0 n py := by
    obtain ⟨l, l1, l2, l3⟩ := hpy
    refine ⟨fb 15 (by decide) (by decide), fs 6 (by decide) (by decide), fs 5 (by decide) (by decide), ⟨l, l1, by rw [fb 19 (by decide) (by decide)]; exact l2, fun o => ?_⟩, by rw [fb 2 (by decide) (by decide)]; exact hn, hn10⟩
    rw [fb 20 (by decide) (by decide), fb 21 (by decide) (by decide), fb 22 (by decide) (by decide), fb 23 (by decide) (by decide)]
    exact l3 o
  obtain ⟨S2, x2, m2, e2⟩ := x21a hBs 54 hx0 hOkA
  rw [← hB] at x2 e2
  have hOkB : hOk B.2 := by rw [hB]; exact hOk_T hOkA n hn10
  obtain ⟨S3, x3, m3, e3⟩ := x97w (folk := fun c => xN (S.1 14 c)) (w := fun k => xN (S.1 5 k)) hBs (fun c hc => by
    rw [fb 14 (by decide) (by decide)]
    obtain ⟨u1, u2⟩ := xtwo h.R hc
    exact ⟨u1, Nat.lt_of_le_of_lt u2 (by decide)⟩) (by rw [fb 0 (by decide) (by decide)]; exact hw0) hw5 (fun k hk => by
    rw [fb 5 (by decide) (by decide)]
    exact ⟨(h.wav hk).2.1, (h.wav hk).1⟩) 54 x2 hOkB m2 B.1
  rw [← hC] at x3 e3
  obtain ⟨y1, y2, y3, y4, y5, y6, y7, y8, y9, y10, y11⟩ := x3
  have fS3 : ∀ c, (c ≠ 7 ∧ c ≠ 13 ∧ c ≠ 16 ∧ c ≠ 17 ∧ c ≠ 18 ∧ (c < 41 ∨ 51 < c)) → S3.1 c = S.1 c := fun c hc => (y8 c hc.2.1 hc.2.2.1 hc.2.2.2.1 hc.2.2.2.2.1 hc.1).trans (fb c hc.2.1 hc.2.2.2.2.2)
  have z5 : S3.1 13 5 = S.1 13 5 := y9.trans (fs 5 (by decide) (by decide))
  have z6 : S3.1 13 6 = S.1 13 6 := y10.trans (fs 6 (by decide) (by decide))
  have e23 : ∀ (d : Nat) r, xX d 23 0 [(0, .ref 13), (1, .int (B.1 + C.1))] [] S3 r ↔ r = (none, xwI S3 13 6 (rN (S.1 13 6) (B.1 + C.1) C.2.2.2.2.2.1)) := fun d r => by
    refine (t23 d _ S3 r).trans ?_
    have hCf : C.2.2.2.2.2.1 ≤ 3000 := by rw [hC]; exact (hOk_W (by rw [hB]; exact hOk_T hOkA n hn10) n hn10).1
    unfold p23 rN clx
    rw [y5, z6]
    by_cases c : 0 < C.2.2.2.2.2.1
    · rw [if_pos (nI_pos0 c hCf)]
      simp only [if_pos c]
    · rw [if_neg (nI_npos0 c)]
      simp only [if_neg c]
  have e6 := fun (d : Nat) r => t6 d (xwI S3 13 6 (rN (S.1 13 6) (B.1 + C.1) C.2.2.2.2.2.1)) r hnf12 (by rw [xrd_ne _ _ _ _ _ (by decide), fS3 26 (by decide)]; exact hnf)
  have q0 : Sx.1 0 = S.1 0 := fx 0 (by decide)
  have q1 : Sb.1 0 = S.1 0 := fb 0 (by decide) (by decide)
  refine ⟨xwI (xset (xwI S3 13 6 (rN (S.1 13 6) (B.1 + C.1) C.2.2.2.2.2.1)) 27 (xarv (S3.1 27) nf)) 0 10 (nI (w0 + 1)), fun r => ?_, ?_⟩
  · have c5 : nI w0 < 5 := nI_lt (b := 5) hw5 (by omega)
    have c6 : nI w0 < nI w := nI_lt hlt (by have := hw.1; omega)
    rw [b97_0, if_neg hb, b97_7, hw0, if_pos c5]
    simp only [b97_15, ex, exists_eq_left, xtl, b97_34, q0, hw0, if_pos c6, b97_48, eo, xtl0, b97_63, q1, e2, b97_82]
    refine (e3 r).trans ?_
    have r27 : (xwI S3 13 6 (rN (S.1 13 6) (B.1 + C.1) C.2.2.2.2.2.1)).1 27 = S3.1 27 := xrd_ne _ _ _ _ _ (by decide)
    have r0 : ∀ f, (xset (xwI S3 13 6 (rN (S.1 13 6) (B.1 + C.1) C.2.2.2.2.2.1)) 27 f).1 0 10 = nI w0 := fun f => by rw [xset_ne _ _ _ _ (by decide), xrd_ne _ _ _ _ _ (by decide), fS3 0 (by decide)]; exact hw0
    simp only [b97_151, e23, exists_eq_left, xtl0, b97_159, e6, b97_166, r27, r0, nI_1]
  · have f0 : ∀ c, c ≠ 0 → c ≠ 13 → c ≠ 27 → (xwI (xset (xwI S3 13 6 (rN (S.1 13 6) (B.1 + C.1) C.2.2.2.2.2.1)) 27 (xarv (S3.1 27) nf)) 0 10 (nI (w0 + 1))).1 c = S3.1 c := fun c h1 h2 h3 => by rw [xrd_ne _ _ _ _ _ h1, xset_ne _ _ _ _ h3, xrd_ne _ _ _ _ _ h2]
    have f13 : (xwI (xset (xwI S3 13 6 (rN (S.1 13 6) (B.1 + C.1) C.2.2.2.2.2.1)) 27 (xarv (S3.1 27) nf)) 0 10 (nI (w0 + 1))).1 13 = vupd (S3.1 13) 6 (rN (S.1 13 6) (B.1 + C.1) C.2.2.2.2.2.1) := by rw [xrd_ne _ _ _ _ _ (by decide), xset_ne _ _ _ _ (by decide), xrd_same]
    refine ⟨?_, ?_, ?_, ?_, ?_, ?_, ?_, ?_, ?_, ?_, ?_, ?_, ?_, ?_, ?_⟩
    · rw [f0 17 (by decide) (by decide) (by decide)]; exact y1
    · rw [f0 16 (by decide) (by decide) (by decide)]; exact y2
    · rw [f0 18 (by decide) (by decide) (by decide)]; exact y3
    · rw [f13, vupd_ne _ _ _ _ (by decide)]; exact y4
    · rw [f13, vupd_ne _ _ _ _ (by decide)]; exact y5
    · rw [f13, vupd_ne _ _ _ _ (by decide)]; exact y6
    · rw [f13, vupd_ne _ _ _ _ (by decide)]; exact y7
    · rw [f13, vupd_ne _ _ _ _ (by decide)]; exact z5
    · rw [f13, vupd_eq]
    · intro k hk
      rw [f0 7 (by decide) (by decide) (by decide), m3 k hk, fb 7 (by decide) (by decide)]
    · rw [xrd_ne _ _ _ _ _ (by decide), xset_same, fS3 27 (by decide)]
    · rw [xrd_eq]
    · rw [xrd_n2 _ _ _ _ _ (by decide), xset_ne _ _ _ _ (by decide), xrd_ne _ _ _ _ _ (by decide), fS3 0 (by decide)]
    · intro c hc
      rw [f0 c hc.1 hc.2.2.1 hc.2.2.2.2.2.2.1]
      exact fS3 c ⟨hc.2.1, hc.2.2.1, hc.2.2.2.1, hc.2.2.2.2.1, hc.2.2.2.2.2.1, hc.2.2.2.2.2.2.2⟩
    · show S3.2 = S.2
      rw [y11, gb]
