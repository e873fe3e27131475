theorem xwI_xwI (S : xS) (c k : Nat) (a b : Int32) : xwI (xwI S c k a) c k b = xwI S c k b := by
  unfold xwI
  refine Prod.ext ?_ rfl
  funext x y
  by_cases e1 : x = c <;> by_cases e2 : y = k <;> simp [e1, e2]
theorem m161f (d : Nat) (M : Int32) (S : xS) (r : Option Value × xS) {n : Nat} (hn : n ≤ 12) (hc : S.1 54 4 = nI n) : xX d 161 291 [(0, .ref 54), (1, .int M), (2, .int 0)] [] S r ↔ xX d 161 322 [(0, .ref 54), (1, .int M)] [] (xset S 83 (xarv (S.1 83) n)) r := by
  have hc' : ∀ f, (xset S 83 f).1 54 4 = nI n := fun f => by rw [xset_ne _ _ _ _ (by decide)]; exact hc
  have key := xX_loop (d := d) (f := 161) (pc := 291) (st := []) (fun j => ([(0, .ref 54), (1, .int M), (2, .int (nI j))], xset S 83 (xarv (S.1 83) j))) n (fun j hj r => by
    refine (b161_291 _ _ _ _ _).trans ?_
    rw [hc', if_pos (nI_lt hj (by omega))]
    have hv : vp_in (nI j) 12 := vp_in_nI (by omega) (by omega)
    have hcl : (nI j).toNatClampNeg = j := nI_clamp (by omega)
    have hj0 : xarv (S.1 83) j j = S.1 83 j := if_neg (Nat.lt_irrefl j)
    rcases Classical.em (S.1 83 j = 1) with c1 | c1
    · rw [← xarv_1 _ _ c1, ← xset_wI]
      simp (decide := true) only [b161_299, b161_309, hv, hcl, xset_same, hj0, c1, ↓reduceIte, true_and, nI_1]
    · rw [← xarv_0 _ _ c1]
      simp (decide := true) only [b161_299, b161_316, hv, hcl, xset_same, hj0, c1, ↓reduceIte, true_and, nI_1]) r
  have e0 : xset S 83 (xarv (S.1 83) 0) = S := by
    rw [show xarv (S.1 83) 0 = S.1 83 from by funext k; exact if_neg (Nat.not_lt_zero k), xset_id]
  simp only [e0, nI_0] at key
  refine key.trans ?_
  refine (b161_291 _ _ _ _ _).trans ?_
  rw [hc', if_neg (nI_nlt (Nat.le_refl n) (by omega))]
theorem next_m {S : xS} {A : hS} {tr : Nat → Int32} {rent train : Int32} {w0 n nf F Ts wf : Nat} {py : Nat → Int32} {folk w : Nat → Nat} (hR : xInvR S) (hBs : mBase S tr rent train w0 n py F Ts) (h0 : mHm S S F Ts A) (hb : ¬ S.1 54 15 = 0) (hnf : S.1 54 4 = nI nf) (hnf12 : nf ≤ 12) (hfw : fW S (fun k => xN (S.1 5 k)) wf) (hlt : w0 < wf) (hw : iPl n (S.1 57) w) (hmv : ∀ o, o < n → w o = w0 → S.1 59 o = 0) (hhr : ∀ o, o < n → w o = w0 → ∀ k, k < 3 → S.1 66 (3 * o + k) = nI (folk (3 * o + k)) ∧ folk (3 * o + k) < 2 ^ 31)
    {B C : Int32 × hS} (hB : B = hT tr rent train py n A) (hC : C = hW tr rent train py folk w w0 n B.2) :
    ∃ S6, (∀ r, xX 59 161 0 [(0, .ref 54)] [] S r ↔ r = (some (.int (B.1 + C.1)), S6)) ∧ (∀ c, c < 30 → S6.1 67 c = C.2.1 c) ∧ (∀ c, c < 30 → S6.1 68 c = C.2.2.1 c) ∧ (∀ c, c < 30 → S6.1 69 c = C.2.2.2.1 c) ∧ S6.1 54 12 = C.2.2.2.2.1 ∧ (∃ p, S6.1 54 10 = nI p ∧ p + C.2.2.2.2.2.1 = F) ∧ (∃ p, S6.1 54 11 = nI p ∧ p + C.2.2.2.2.2.2.1 = Ts) ∧ S6.1 54 13 = C.2.2.2.2.2.2.2 ∧ S6.1 54 7 = rN rent (B.1 + C.1) C.2.2.2.2.2.1 ∧ S6.1 54 5 = nI (w0 + 1) ∧ (∀ j, (j ≠ 5 ∧ j ≠ 7 ∧ j ≠ 10 ∧ j ≠ 11 ∧ j ≠ 12 ∧ j ≠ 13) → S6.1 54 j = S.1 54 j) ∧ (∀ k, S6.1 59 k = movF (S.1 59) w w0 n k) ∧ (∀ o, o < 10 → ∀ k, k < 3 → S6.1 66 (3 * o + k) = if o < n ∧ w o = w0 then 0 else S.1 66 (3 * o + k)) ∧ S6.1 83 = xarv (S.1 83) nf ∧ (∀ c, (c ≠ 54 ∧ c ≠ 59 ∧ c ≠ 66 ∧ c ≠ 67 ∧ c ≠ 68 ∧ c ≠ 69 ∧ c ≠ 83) → S6.1 c = S.1 c) ∧ S6.2 = S.2 := by
  have hw5 := hBs.1.2
  obtain ⟨v, hv, ev⟩ := m140_57 S hR (xInvR.pl hR)
  have e := fW_uniq hv hfw
  subst e
  obtain ⟨S2, x2, s59, s66, e2⟩ := m161t hBs 57 h0
  rw [← hB] at x2 e2
  obtain ⟨S3, x3, t59, t66, e3⟩ := m161w (folk := folk) hBs hw hmv hhr 57 x2 s59 s66 B.1
  rw [← hC] at x3 e3
  obtain ⟨y1, y2, y3, y4, ⟨p, y5, y5F⟩, ⟨q, y6, y6T⟩, y7, y8, y9, y10⟩ := x3
  obtain ⟨⟨b1, b1w⟩, b2, b3, b4, b5, ⟨f, b6, b6F⟩, ⟨g, b7, b7T⟩, b8, b9, b10, b11⟩ := hBs
  have h7 : S3.1 54 7 = rent := (y9 7 (by decide) (by decide) (by decide) (by decide)).trans b2
  have h5 : S3.1 54 5 = nI w0 := (y9 5 (by decide) (by decide) (by decide) (by decide)).trans b1
  have h4 : S3.1 54 4 = nI nf := (y9 4 (by decide) (by decide) (by decide) (by decide)).trans hnf
  have h63 : ∀ k, k < 5 → S3.1 63 k = nI (f k) := fun k hk => by rw [y8 63 (by decide) (by decide) (by decide) (by decide) (by decide) (by decide)]; exact b6 k hk
  have h83 : S3.1 83 = S.1 83 := y8 83 (by decide) (by decide) (by decide) (by decide) (by decide) (by decide)
  have i2 : (nI p < nI F) = (0 < C.2.2.2.2.2.1) := propext ((nI_ltI (by omega) (by omega)).trans (by constructor <;> intro <;> omega))
  -- rent
  have er : ∀ r, xX 59 161 218 [(0, .ref 54), (1, .int (B.1 + C.1))] [] S3 r ↔ xX 59 161 291 [(0, .ref 54), (1, .int (B.1 + C.1)), (2, .int 0)] [] (xwI S3 54 7 (rN rent (B.1 + C.1) C.2.2.2.2.2.1)) r := by
    intro r
    have n10 : ¬ (10 : Int32) = 0 := by decide
    have n1000 : ¬ (1000 : Int32) < 0 := by decide
    have g := fun (d : Nat) (r : Option Value × xS) (z : Int32) => m158_63 (xwI S3 54 7 z) (f := f) (fun k hk => by rw [xrd_ne _ _ _ _ _ (by decide)]; exact h63 k hk) hw5 d r
    rw [b161_218, h7, h5]
    simp only [n10, not_false_eq_true, true_and, g, exists_eq_left, xtl, b161_243, xrd_n2 _ _ _ _ _ (show 10 ≠ 7 by decide), y5, b6F, i2, b161_250, b161_260, xrd_eq, b161_267, b161_272, n1000, ↓reduceIte, b161_289, b161_282, xwI_xwI]
    unfold rN
    rw [clx_eq]
    by_cases c : 0 < C.2.2.2.2.2.1
    · simp only [if_pos c, ← Int32.sub_eq_add_neg]
      by_cases c1 : rent + (B.1 + C.1) / 10 - 1 < 0
      · simp only [if_pos c1]
      · simp only [if_neg c1]
        by_cases c2 : 1000 < rent + (B.1 + C.1) / 10 - 1
        · simp only [if_pos c2]
        · simp only [if_neg c2]
    · simp only [if_neg c]
      by_cases c1 : rent + (B.1 + C.1) / 10 < 0
      · simp only [if_pos c1]
      · simp only [if_neg c1]
        by_cases c2 : 1000 < rent + (B.1 + C.1) / 10
        · simp only [if_pos c2]
        · simp only [if_neg c2]
  refine ⟨xwI (xset (xwI S3 54 7 (rN rent (B.1 + C.1) C.2.2.2.2.2.1)) 83 (xarv (S3.1 83) nf)) 54 5 (nI (w0 + 1)), fun r => ?_, ?_⟩
  · have c5 : ¬ nI w0 = 5 := fun z => by have := (nI_eq (a := w0) (b := 5) (by omega) (by omega)).mp z; omega
    have c6 : nI w0 < nI v := nI_lt hlt (by have := hv.1; omega)
    have ev' := ev 56
    rw [b161_0, if_neg hb, b161_7, b1, if_neg c5]
    simp only [b161_15, ev', exists_eq_left, xtl, b161_23, b1, if_pos c6, b161_37]
    refine (e2 r).trans ((e3 r).trans ((er r).trans ?_))
    refine (m161f 59 _ _ r hnf12 (by rw [xrd_n2 _ _ _ _ _ (by decide)]; exact h4)).trans ?_
    have r83 : (xwI S3 54 7 (rN rent (B.1 + C.1) C.2.2.2.2.2.1)).1 83 = S3.1 83 := xrd_ne _ _ _ _ _ (by decide)
    have r5 : ∀ z, (xset (xwI S3 54 7 (rN rent (B.1 + C.1) C.2.2.2.2.2.1)) 83 z).1 54 5 = nI w0 := fun z => by rw [xset_ne _ _ _ _ (by decide), xrd_n2 _ _ _ _ _ (by decide)]; exact h5
    rw [b161_322, r83, r5, nI_1]
  · have f0 : ∀ c, c ≠ 54 → c ≠ 83 → (xwI (xset (xwI S3 54 7 (rN rent (B.1 + C.1) C.2.2.2.2.2.1)) 83 (xarv (S3.1 83) nf)) 54 5 (nI (w0 + 1))).1 c = S3.1 c := fun c h1 h2 => by rw [xrd_ne _ _ _ _ _ h1, xset_ne _ _ _ _ h2, xrd_ne _ _ _ _ _ h1]
    have f54 : ∀ j, j ≠ 5 → j ≠ 7 → (xwI (xset (xwI S3 54 7 (rN rent (B.1 + C.1) C.2.2.2.2.2.1)) 83 (xarv (S3.1 83) nf)) 54 5 (nI (w0 + 1))).1 54 j = S3.1 54 j := fun j h1 h2 => by rw [xrd_n2 _ _ _ _ _ h1, xset_ne _ _ _ _ (by decide), xrd_n2 _ _ _ _ _ h2]
    refine ⟨?_, ?_, ?_, ?_, ⟨p, ?_, y5F⟩, ⟨q, ?_, y6T⟩, ?_, ?_, ?_, ?_, ?_, ?_, ?_, ?_, y10⟩
    · rw [f0 67 (by decide) (by decide)]; exact y1
    · rw [f0 68 (by decide) (by decide)]; exact y2
    · rw [f0 69 (by decide) (by decide)]; exact y3
    · rw [f54 12 (by decide) (by decide)]; exact y4
    · rw [f54 10 (by decide) (by decide)]; exact y5
    · rw [f54 11 (by decide) (by decide)]; exact y6
    · rw [f54 13 (by decide) (by decide)]; exact y7
    · rw [xrd_n2 _ _ _ _ _ (by decide), xset_ne _ _ _ _ (by decide), xrd_eq]
    · rw [xrd_eq]
    · intro j hj
      rw [f54 j hj.1 hj.2.1]
      exact y9 j hj.2.2.1 hj.2.2.2.1 hj.2.2.2.2.1 hj.2.2.2.2.2
    · rw [f0 59 (by decide) (by decide)]; exact t59
    · rw [f0 66 (by decide) (by decide)]; exact t66
    · rw [xrd_ne _ _ _ _ _ (by decide), xset_same, h83]
    · intro c hc
      rw [f0 c hc.1 hc.2.2.2.2.2.2]
      exact y8 c hc.1 hc.2.1 hc.2.2.1 hc.2.2.2.1 hc.2.2.2.2.1 hc.2.2.2.2.2.1
