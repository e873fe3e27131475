/-! firstBreach; the reference's isLegal and firstWrong -/
theorem x1mul {c c' : Prop} [dc : Decidable c] [dc' : Decidable c'] {x : Nat} {y : Int32} (hy : y = nI x) (h : c' ↔ c) : 1 * (if c' then y else 0) = nI (if c then x else 0) := by
  rw [Int32.one_mul]
  by_cases e : c
  · rw [if_pos e, if_pos (h.mpr e), hy]
  · rw [if_neg e, if_neg (fun z => e (h.mp z)), nI_0]
theorem LdO_add {S T : xS} {t : Nat → Nat} {n j : Nat} (hR : LdR S n) (hj : j < n) (hO : LdO S t j) (hc : xCh S T j (t j) 1 5) : LdO T t (j + 1) := by
  obtain ⟨c1, c2, c3, c4, c5, c6⟩ := hc
  obtain ⟨r1, r2, r3⟩ := hR.2.1 j hj
  intro v hv
  obtain ⟨o1, o2, o3, o4⟩ := hO v hv
  rw [c5 3 (by decide), c5 14 (by decide), c5 15 (by decide), c1 v hv, c2 v hv, c3 v hv, c4 v hv, o1, o2, o3, o4, x1mul (c := t j ≤ v) r1 (by constructor <;> intro z <;> first | exact z.1 | exact ⟨z, hv⟩), x1mul (c := t j = v) r1 Iff.rfl, x1mul (c := t j ≤ v) r2 (by constructor <;> intro z <;> first | exact z.1 | exact ⟨z, hv⟩), x1mul (c := t j ≤ v) r3 (by constructor <;> intro z <;> first | exact z.1 | exact ⟨z, hv⟩), nI_add, nI_add, nI_add, nI_add]
  exact ⟨rfl, rfl, rfl, rfl⟩
def fW (S : xS) (t : Nat → Nat) (w : Nat) : Prop := w ≤ 5 ∧ (∀ u, u < w → aLg S t u) ∧ (w < 5 → ¬ aLg S t w)
theorem fW_uniq {S : xS} {t : Nat → Nat} {a b : Nat} (h1 : fW S t a) (h2 : fW S t b) : a = b := by
  have g1 := h1.1
  have g2 := h2.1
  rcases Nat.lt_trichotomy a b with h | h | h
  · exact absurd (h2.2.1 a h) (h1.2.2 (by omega))
  · exact h
  · exact absurd (h1.2.1 b h) (h2.2.2 (by omega))
theorem aLg_fr {S S' : xS} {t : Nat → Nat} {v : Nat} (h : ∀ c, c < 40 → S'.1 c = S.1 c) : aLg S' t v = aLg S t v := by
  unfold aLg
  rw [h 2 (by decide), h 3 (by decide), h 14 (by decide), h 15 (by decide), h 9 (by decide), h 10 (by decide), h 11 (by decide), h 12 (by decide)]
theorem fW_fr {S S' : xS} {t : Nat → Nat} {w : Nat} (h : ∀ c, c < 40 → S'.1 c = S.1 c) (hf : fW S' t w) : fW S t w := ⟨hf.1, fun u hu => by rw [← aLg_fr h]; exact hf.2.1 u hu, fun hw => by rw [← aLg_fr h]; exact hf.2.2 hw⟩
theorem scan46 (d : Nat) (T : xS) {t : Nat → Nat} (hT : xInvR T) (hR : LdR T (xN (T.1 2 0))) (hO : LdO T t (xN (T.1 2 0))) : ∀ m, m ≤ 5 → (∀ u, u < 5 - m → aLg T t u) → ∃ w, fW T t w ∧ ∀ r, xX (d + 1) 46 48 [(0, .ref 40), (4, .int (nI (5 - m)))] [] T r ↔ r = (some (.int (nI w)), T)
  | 0, _, hl => ⟨5, ⟨Nat.le_refl 5, hl, fun z => absurd z (by decide)⟩, fun r => by
    have d1 : ¬ nI (5 - 0) < 5 := by decide
    rw [b46_48, if_neg d1, b46_72]⟩
  | m + 1, hm, hl => by
    have hv : 5 - (m + 1) < 5 := by omega
    have d1 : nI (5 - (m + 1)) < 5 := nI_lt (b := 5) hv (by omega)
    rcases m34 T hT hR hO hv with ⟨g, e⟩ | ⟨g, e⟩
    · have es : 5 - m = 5 - (m + 1) + 1 := by omega
      obtain ⟨w, hw, ew⟩ := scan46 d T hT hR hO m (by omega) (fun u hu => by
        rcases Nat.lt_or_ge u (5 - (m + 1)) with z | z
        · exact hl u z
        · have : u = 5 - (m + 1) := by omega
          rw [this]; exact g)
      refine ⟨w, hw, fun r => ?_⟩
      rw [b46_48, if_pos d1]
      simp (decide := true) only [b46_54, e, exists_eq_left, xtl, b46_63, ↓reduceIte, b46_66, nI_1]
      rw [← es]
      exact ew r
    · refine ⟨5 - (m + 1), ⟨by omega, hl, fun _ => g⟩, fun r => ?_⟩
      rw [b46_48, if_pos d1]
      simp (decide := true) only [b46_54, e, exists_eq_left, xtl, b46_63, ↓reduceIte, b46_72]
theorem m46 (d : Nat) (S : xS) (h : xInvR S) : ∃ S' w, fW S (fun k => xN (S.1 5 k)) w ∧ (∀ r, xX (d + 4) 46 0 [(0, .ref 40), (1, .ref 2), (2, .ref 13), (3, .ref 9)] [] S r ↔ r = (some (.int (nI w)), S')) ∧ (∀ c, (c < 41 ∨ 51 < c) → S'.1 c = S.1 c) ∧ S'.2 = S.2 := by
  obtain ⟨hn, hn1, hn2⟩ := h.cnt
  obtain ⟨S1, e1, hR1, hO1, f1, g1⟩ := m32 d S h
  obtain ⟨l2, S2, ⟨rfl, hR2, hO2, f2, g2⟩, e2⟩ := xX_loopP (d := d + 4) (f := 46) (pc := 13) (st := []) (fun j l T => l = [(0, .ref 40), (1, .ref 2), (4, .int (nI j))] ∧ LdR T (xN (S.1 2 0)) ∧ LdO T (fun k => xN (S.1 5 k)) j ∧ (∀ c, (c < 41 ∨ 51 < c) → T.1 c = S.1 c) ∧ T.2 = S.2) (xN (S.1 2 0)) (by
    rintro j hj l T ⟨rfl, hR, hO, hf, hg⟩
    have hj10 : j < 10 := by omega
    have hT2 : T.1 2 0 = nI (xN (S.1 2 0)) := by rw [hf 2 (by decide)]; exact hn1
    have d1 : nI j < nI (xN (S.1 2 0)) := nI_lt hj (by omega)
    have d2 : vp_in (nI j) 10 := vp_in_nI hj10 (by omega)
    have d3 : (nI j).toNatClampNeg = j := nI_clamp (by omega)
    have f5 : T.1 5 j = nI (xN (S.1 5 j)) := by rw [hf 5 (by decide)]; exact (h.wav hj10).2.1
    obtain ⟨T1, e, hc⟩ := m33 (d + 2) T (k := j) (w := xN (S.1 5 j)) hj10 (h.wav hj10).1 1
    refine ⟨_, T1, ⟨rfl, LdR_fr (fun c hc' => hc.2.2.2.2.1 c (by omega)) hR, LdO_add hR hj hO hc, fun c hc' => by rw [hc.2.2.2.2.1 c (by omega)]; exact hf c hc', by rw [hc.2.2.2.2.2]; exact hg⟩, fun r => ?_⟩
    refine (b46_13 _ _ _ _).trans ?_
    rw [hT2, if_pos d1]
    simp only [b46_22, d2, d3, f5, true_and, e, exists_eq_left, xtl0, b46_39, nI_1]) _ S1 ⟨rfl, hR1, hO1 _, f1, g1⟩
  have hS2 : xInvR S2 := xInvR_fr (fun c hc _ => f2 c (by omega)) (by rw [g2]) h
  have hn' : xN (S2.1 2 0) = xN (S.1 2 0) := by rw [f2 2 (by decide)]
  obtain ⟨w, hw, ew⟩ := scan46 (d + 3) S2 hS2 (by rw [hn']; exact hR2) (by rw [hn']; exact hO2) 5 (by decide) (fun u hu => absurd hu (Nat.not_lt_zero u))
  refine ⟨S2, w, fW_fr (fun c hc => f2 c (by omega)) hw, fun r => ?_, f2, g2⟩
  simp only [b46_0, e1, exists_eq_left, xtl0, b46_10]
  refine (e2 r).trans ?_
  have hc2 : S2.1 2 0 = nI (xN (S.1 2 0)) := by rw [f2 2 (by decide)]; exact hn1
  rw [b46_13, hc2, if_neg (nI_nlt (Nat.le_refl _) (by omega)), b46_45]
  exact ew r
theorem nI_subneg {a b : Nat} (ha : a < 100000) (hb : b < 100000) : (nI a - nI b < 0) ↔ a < b := by
  have e : (nI a - nI b).toInt = (a : Int) - b := by
    rw [Int32.toInt_sub, nI_toInt (by omega), nI_toInt (by omega)]
    exact Int.bmod_eq_of_le (by omega) (by omega)
  have h0 : (0 : Int32).toInt = 0 := rfl
  rw [Int32.lt_iff_toInt_lt, e, h0]
  omega
def iPl (n : Nat) (b : Nat → Int32) (t : Nat → Nat) : Prop := ∀ k, k < n → t k ≤ 5 ∧ b k = (if t k = 5 then -1 else nI (t k))
theorem nI_nem1 {w : Nat} (h : w < 1000) : ¬ nI w = -1 := fun z => absurd (show nI w < 0 by rw [z]; decide) (nI_pos (by omega))
theorem iPl.ov {n : Nat} {b : Nat → Int32} {t : Nat → Nat} (h : iPl n b t) {k v : Nat} (hk : k < n) (hv : v < 5) : xov (b k) (nI v) = (if t k ≤ v then 1 else 0) := by
  obtain ⟨h1, h2⟩ := h k hk
  rw [h2]
  unfold xov
  by_cases e : t k = 5
  · rw [if_pos e, if_pos rfl, if_neg (by omega)]
  · rw [if_neg e, if_neg (nI_nem1 (by omega))]
    by_cases c : t k ≤ v
    · rw [if_pos c, if_neg (nI_nlt c (by omega))]
    · rw [if_neg c, if_pos (nI_lt (by omega) (by omega))]
theorem iPl.eq {n : Nat} {b : Nat → Int32} {t : Nat → Nat} (h : iPl n b t) {k v : Nat} (hk : k < n) (hv : v < 5) : (b k = nI v) ↔ t k = v := by
  obtain ⟨h1, h2⟩ := h k hk
  rw [h2]
  by_cases e : t k = 5
  · rw [if_pos e]
    constructor
    · intro z; exact absurd z.symm (nI_nem1 (by omega))
    · intro z; omega
  · rw [if_neg e, nI_eq (by omega) (by omega)]
theorem xdkM {S : xS} (h : xInvR S) {v : Nat} (hv : v < 5) : xdk (S.1 61) (S.1 62) (nI v) (xN (S.1 9 0)) = nI (aDR (S.1 9 0) (S.1 10) (S.1 11) v) := by
  rw [← xdk_eq h hv]
  have hb := h.bld.1
  refine xsum_congr (fun k hk => ?_)
  rw [h.hRdy.eq (by omega), h.hRom.eq (by omega)]
/-! BY PROGRAM -/
theorem m138_57 (S : xS) {n : Nat} {t : Nat → Nat} (hn : n ≤ 10) (hp : iPl n (S.1 57) t) {k v : Nat} (hk : k < n) (hv : v < 5) (d : Nat) (r : Option Value × xS) : xX d 138 0 [(0, .ref 54), (1, .ref 57), (2, .int (nI k)), (3, .int (nI v))] [] S r ↔ r = (some (.int (if t k ≤ v then 1 else 0)), S) := by
  have hv1 : vp_in (nI k) 10 := vp_in_nI (by omega) (by omega)
  have hcl : (nI k).toNatClampNeg = k := nI_clamp (by omega)
  rw [← hp.ov hk hv]
  rcases Classical.propComplete (S.1 57 k = -1) with c1 | c1 <;> by_cases c2 : nI v < S.1 57 k <;> simp (decide := true) only [b138_57_0, b138_57_18, b138_57_7, b138_57_14, hv1, hcl, c1, c2, ↓reduceIte, true_and, xov, xbit_0, xbit_1]
theorem m148_57 (S : xS) (h : xInvR S) (d : Nat) {k : Nat} (hk : k < 10) (v2 v3 v4 v5 v6 : Int32) (r : Option Value × xS) : xX d 139 148 [(0, .ref 54), (1, .ref 57), (2, .int v2), (3, .int v3), (4, .int v4), (5, .int v5), (6, .int v6), (7, .int (nI k)), (8, .int 0)] [] S r ↔ xX d 139 92 [(0, .ref 54), (1, .ref 57), (2, .int v2), (3, .int v3), (4, .int (v4 - nI (aH (S.1 14) k))), (5, .int (v5 - nI (aP (S.1 14) (S.1 15) k))), (6, .int v6), (7, .int (nI (k + 1)))] [] S r := by
  have m0 : 3 * nI k + 0 = nI (3 * k) := by have := nI_m' 3 3 (by decide) k 0; rw [nI_0] at this; exact this
  have m1 : 3 * nI k + 1 = nI (3 * k + 1) := nI_m' 3 3 (by decide) k 1
  have m2 : 3 * nI k + 2 = nI (3 * k + 2) := nI_m' 3 3 (by decide) k 2
  have x0 : (nI (3 * k)).toNatClampNeg = 3 * k := nI_clamp (by omega)
  have x1 : (nI (3 * k + 1)).toNatClampNeg = 3 * k + 1 := nI_clamp (by omega)
  have x2 : (nI (3 * k + 2)).toNatClampNeg = 3 * k + 2 := nI_clamp (by omega)
  have y0 := vp_in_nI (show 3 * k < 30 by omega) (by omega : 30 < 2 ^ 31)
  have y1 := vp_in_nI (show 3 * k + 1 < 30 by omega) (by omega : 30 < 2 ^ 31)
  have y2 := vp_in_nI (show 3 * k + 2 < 30 by omega) (by omega : 30 < 2 ^ 31)
  have u0 : vp_in (5 * 0 + 2) 15 := vp_in_d (by decide)
  have u1 : vp_in (5 * 1 + 2) 15 := vp_in_d (by decide)
  have u2 : vp_in (5 * 2 + 2) 15 := vp_in_d (by decide)
  have w0 : ((5 : Int32) * 0 + 2).toNatClampNeg = 2 := by decide
  have w1 : ((5 : Int32) * 1 + 2).toNatClampNeg = 7 := by decide
  have w2 : ((5 : Int32) * 2 + 2).toNatClampNeg = 12 := by decide
  have q0 : S.1 65 (3 * k) = nI (xN (S.1 14 (3 * k))) := by rw [h.hFlk.eq (by omega)]; exact (xtwo h (by omega)).1
  have q1 : S.1 65 (3 * k + 1) = nI (xN (S.1 14 (3 * k + 1))) := by rw [h.hFlk.eq (by omega)]; exact (xtwo h (by omega)).1
  have q2 : S.1 65 (3 * k + 2) = nI (xN (S.1 14 (3 * k + 2))) := by rw [h.hFlk.eq (by omega)]; exact (xtwo h (by omega)).1
  have t0 : S.1 70 2 = S.1 15 2 := h.hTrt.eq (by omega)
  have t1 : S.1 70 7 = S.1 15 7 := h.hTrt.eq (by omega)
  have t2 : S.1 70 12 = S.1 15 12 := h.hTrt.eq (by omega)
  have eH : v4 - nI (xN (S.1 14 (3 * k))) - nI (xN (S.1 14 (3 * k + 1))) - nI (xN (S.1 14 (3 * k + 2))) = v4 - nI (aH (S.1 14) k) := by
    unfold aH
    rw [← nI_add, ← nI_add, Int32.sub_sub, Int32.sub_sub, Int32.add_assoc]
  by_cases c0 : 0 < S.1 15 2 <;> by_cases c1 : 0 < S.1 15 7 <;> by_cases c2 : 0 < S.1 15 12
  all_goals
    simp (decide := true) only [b139_57_148, b139_57_154, b139_57_185, b139_57_202, b139_57_208, m0, m1, m2, x0, x1, x2, y0, y1, y2, u0, u1, u2, w0, w1, w2, q0, q1, q2, t0, t1, t2, c0, c1, c2, x01, x11, x21, ↓reduceIte, true_and, eH, nI_1]
    simp only [aP, aK, c0, c1, c2, ↓reduceIte, Nat.mul_zero, Nat.mul_one, Nat.zero_add, Nat.reduceMul, Nat.reduceAdd, Nat.add_zero, nI_0, ← nI_add, Int32.sub_sub, Int32.sub_zero, Int32.add_assoc]
theorem m139_57 (S : xS) (h : xInvR S) {t : Nat → Nat} (hp : iPl (xN (S.1 2 0)) (S.1 57) t) {v : Nat} (hv : v < 5) : (aLg S t v ∧ ∀ (d : Nat) (r : Option Value × xS), xX (d + 1) 139 0 [(0, .ref 54), (1, .ref 57), (2, .int (nI v))] [] S r ↔ r = (some (.int 1), S)) ∨ (¬ aLg S t v ∧ ∀ (d : Nat) (r : Option Value × xS), xX (d + 1) 139 0 [(0, .ref 54), (1, .ref 57), (2, .int (nI v))] [] S r ↔ r = (some (.int 0), S)) := by
  obtain ⟨hn, hn1, hn2⟩ := h.cnt
  obtain ⟨hb, hb1, hb2⟩ := h.bld
  obtain ⟨hm, hm1, hm2⟩ := h.mst
  have k1 : ∀ (d : Nat) (r : Option Value × xS), xX (d + 1) 139 0 [(0, .ref 54), (1, .ref 57), (2, .int (nI v))] [] S r ↔ xX (d + 1) 139 50 [(0, .ref 54), (1, .ref 57), (2, .int (nI v)), (3, .int (nI (aDR (S.1 9 0) (S.1 10) (S.1 11) v))), (4, .int 0), (5, .int 0), (6, .int 0)] [] S r := by
    intro d r
    have key := xX_loop (d := d + 1) (f := 139) (pc := 11) (st := []) (fun j => ([(0, .ref 54), (1, .ref 57), (2, .int (nI v)), (3, .int (xdk (S.1 61) (S.1 62) (nI v) j)), (4, .int 0), (5, .int 0), (6, .int (nI j))], S)) (xN (S.1 9 0)) (fun j hj r => by
      refine (b139_57_11 _ _ _ _ _ _ _ _).trans ?_
      rw [hb2, if_pos (nI_lt hj (by omega))]
      have hv1 : vp_in (nI j) 6 := vp_in_nI (by omega) (by omega)
      have hcl : (nI j).toNatClampNeg = j := nI_clamp (by omega)
      by_cases c1 : nI v < S.1 62 j <;> simp (decide := true) only [b139_57_20, b139_57_41, b139_57_31, hv1, hcl, c1, ↓reduceIte, true_and, xdk, xsum, nI_1, xadd0]) r
    rw [b139_57_0]
    refine key.trans ?_
    refine (b139_57_11 _ _ _ _ _ _ _ _).trans ?_
    rw [hb2, if_neg (nI_nlt (Nat.le_refl _) (by omega)), b139_57_47, xdkM h hv]
  have k2 : ∀ (d : Nat) (v3 : Int32) (r : Option Value × xS), xX (d + 1) 139 50 [(0, .ref 54), (1, .ref 57), (2, .int (nI v)), (3, .int v3), (4, .int 0), (5, .int 0), (6, .int 0)] [] S r ↔ xX (d + 1) 139 92 [(0, .ref 54), (1, .ref 57), (2, .int (nI v)), (3, .int v3), (4, .int (nI (aFR (S.1 12) v))), (5, .int (nI (aSR (S.1 12) v))), (6, .int 0), (7, .int 0)] [] S r := by
    intro d v3 r
    have key := xX_loop (d := d + 1) (f := 139) (pc := 50) (st := []) (fun j => ([(0, .ref 54), (1, .ref 57), (2, .int (nI v)), (3, .int v3), (4, .int (xsum (S.1 63) j)), (5, .int (xsum (S.1 64) j)), (6, .int (nI j))], S)) (v + 1) (fun j hj r => by
      refine (b139_57_50 _ _ _ _ _ _ _ _).trans ?_
      rw [if_neg (nI_nlt (show j ≤ v by omega) (by omega))]
      have hv1 : vp_in (nI j) 5 := vp_in_nI (by omega) (by omega)
      have hcl : (nI j).toNatClampNeg = j := nI_clamp (by omega)
      simp only [b139_57_56, hv1, hcl, true_and, xsum, nI_1]) r
    refine key.trans ?_
    refine (b139_57_50 _ _ _ _ _ _ _ _).trans ?_
    rw [if_pos (nI_lt (show v < v + 1 by omega) (by omega)), b139_57_86]
    have e1 : xsum (S.1 63) (v + 1) = nI (aFR (S.1 12) v) := xsum_nI (fun k hk => (h.hBec.1.get (by omega) (show k < 5 by omega)).2.2)
    have e2 : xsum (S.1 64) (v + 1) = nI (aSR (S.1 12) v) := xsum_nI (fun k hk => (h.hBec.2.get (by omega) (show k < 5 by omega)).2.2)
    rw [e1, e2]
  have k3 : ∀ (d : Nat) (a b c : Int32) (r : Option Value × xS), xX (d + 1) 139 92 [(0, .ref 54), (1, .ref 57), (2, .int (nI v)), (3, .int a), (4, .int b), (5, .int c), (6, .int 0), (7, .int 0)] [] S r ↔ xX (d + 1) 139 214 [(0, .ref 54), (3, .int (a - nI (sN (fun k => if t k ≤ v then xN (S.1 3 k) else 0) (xN (S.1 2 0))))), (4, .int (b - nI (sN (fun k => if t k ≤ v then aH (S.1 14) k else 0) (xN (S.1 2 0))))), (5, .int (c - nI (sN (fun k => if t k ≤ v then aP (S.1 14) (S.1 15) k else 0) (xN (S.1 2 0))))), (6, .int (nI (sN (fun k => if t k = v then xN (S.1 3 k) else 0) (xN (S.1 2 0)))))] [] S r := by
    intro d a b c r
    have key := xX_loop (d := d + 1) (f := 139) (pc := 92) (st := []) (fun j => ([(0, .ref 54), (1, .ref 57), (2, .int (nI v)), (3, .int (a - nI (sN (fun k => if t k ≤ v then xN (S.1 3 k) else 0) j))), (4, .int (b - nI (sN (fun k => if t k ≤ v then aH (S.1 14) k else 0) j))), (5, .int (c - nI (sN (fun k => if t k ≤ v then aP (S.1 14) (S.1 15) k else 0) j))), (6, .int (nI (sN (fun k => if t k = v then xN (S.1 3 k) else 0) j))), (7, .int (nI j))], S)) (xN (S.1 2 0)) (fun j hj r => by
      refine (b139_57_92 _ _ _ _ _ _ _ _ _).trans ?_
      rw [hn2, if_pos (nI_lt hj (by omega))]
      have hj10 : j < 10 := by omega
      have hv1 : vp_in (nI j) 10 := vp_in_nI hj10 (by omega)
      have hcl : (nI j).toNatClampNeg = j := nI_clamp (by omega)
      have g := fun (d : Nat) (r : Option Value × xS) => m138_57 S hn hp hj hv d r
      have gD : S.1 55 j = nI (xN (S.1 3 j)) := (h.dsk hj10).2.2
      have gE := hp.eq hj hv
      have gK := fun (d : Nat) (v2 v3 v4 v5 v6 : Int32) (r : Option Value × xS) => m148_57 S h d hj10 v2 v3 v4 v5 v6 r
      by_cases c1 : t j ≤ v
      · by_cases c2 : t j = v
        · have c3 := gE.mpr c2
          simp (decide := true) only [b139_57_101, g, exists_eq_left, xtl, b139_57_109, b139_57_112, b139_57_115, b139_57_133, b139_57_145, gK, hv1, hcl, gD, c1, c2, c3, ↓reduceIte, true_and, sN, ← nI_add, Int32.sub_sub, Nat.le_refl]
        · have c3 : ¬ S.1 57 j = nI v := fun z => c2 (gE.mp z)
          simp (decide := true) only [b139_57_101, g, exists_eq_left, xtl, b139_57_109, b139_57_112, b139_57_115, b139_57_133, b139_57_145, gK, hv1, hcl, gD, c1, c2, c3, ↓reduceIte, true_and, sN, ← nI_add, Int32.sub_sub, nI_0, Int32.add_zero]
      · have c2 : ¬ t j = v := by omega
        simp (decide := true) only [b139_57_101, g, exists_eq_left, xtl, b139_57_109, b139_57_112, hv1, hcl, c1, c2, ↓reduceIte, true_and, sN, ← nI_add, nI_0, Int32.add_zero]
        simp only [nI_1, nI_add]) r
    have e0 : ∀ f : Nat → Nat, nI (sN f 0) = 0 := fun _ => nI_0
    simp only [e0, Int32.sub_zero, nI_0] at key
    refine key.trans ?_
    refine (b139_57_92 _ _ _ _ _ _ _ _ _).trans ?_
    rw [hn2, if_neg (nI_nlt (Nat.le_refl _) (by omega))]
  have b1 := xbDR h v
  have b2 := xbFR h hv
  have b3 := xbSR h hv
  have s1 := xbS (c := fun k => t k ≤ v) (n := xN (S.1 2 0)) (fun k hk => (h.dsk (show k < 10 by omega)).1)
  have s2 := xbS (c := fun k => t k = v) (n := xN (S.1 2 0)) (fun k hk => (h.dsk (show k < 10 by omega)).1)
  have s3 := xbS (c := fun k => t k ≤ v) (n := xN (S.1 2 0)) (fun k hk => xbH h (show k < 10 by omega))
  have s4 := xbS (c := fun k => t k ≤ v) (n := xN (S.1 2 0)) (fun k hk => xbP h (show k < 10 by omega))
  have q1 := nI_subneg (a := aDR (S.1 9 0) (S.1 10) (S.1 11) v) (b := sN (fun k => if t k ≤ v then xN (S.1 3 k) else 0) (xN (S.1 2 0))) (by omega) (Nat.lt_of_le_of_lt s1 (by omega))
  have q2 := nI_ltB (a := xN (S.1 9 1)) (b := sN (fun k => if t k = v then xN (S.1 3 k) else 0) (xN (S.1 2 0))) (by omega) (Nat.lt_of_le_of_lt s2 (by omega))
  have q3 := nI_subneg (a := aFR (S.1 12) v) (b := sN (fun k => if t k ≤ v then aH (S.1 14) k else 0) (xN (S.1 2 0))) (by omega) (Nat.lt_of_le_of_lt s3 (by omega))
  have q4 := nI_subneg (a := aSR (S.1 12) v) (b := sN (fun k => if t k ≤ v then aP (S.1 14) (S.1 15) k else 0) (xN (S.1 2 0))) (by omega) (Nat.lt_of_le_of_lt s4 (by omega))
  have kk := fun (d : Nat) (r : Option Value × xS) => (k1 d r).trans ((k2 d _ r).trans (k3 d _ _ _ r))
  have fin : ∀ (z : Int32), (∀ (d : Nat) (r : Option Value × xS), xX (d + 1) 139 214 [(0, .ref 54), (3, .int (nI (aDR (S.1 9 0) (S.1 10) (S.1 11) v) - nI (sN (fun k => if t k ≤ v then xN (S.1 3 k) else 0) (xN (S.1 2 0))))), (4, .int (nI (aFR (S.1 12) v) - nI (sN (fun k => if t k ≤ v then aH (S.1 14) k else 0) (xN (S.1 2 0))))), (5, .int (nI (aSR (S.1 12) v) - nI (sN (fun k => if t k ≤ v then aP (S.1 14) (S.1 15) k else 0) (xN (S.1 2 0))))), (6, .int (nI (sN (fun k => if t k = v then xN (S.1 3 k) else 0) (xN (S.1 2 0)))))] [] S r ↔ r = (some (.int z), S)) → ∀ (d : Nat) (r : Option Value × xS), xX (d + 1) 139 0 [(0, .ref 54), (1, .ref 57), (2, .int (nI v))] [] S r ↔ r = (some (.int z), S) := fun z hz d r => (kk d r).trans (hz d r)
  unfold aLg LgA
  by_cases c1 : nI (aDR (S.1 9 0) (S.1 10) (S.1 11) v) - nI (sN (fun k => if t k ≤ v then xN (S.1 3 k) else 0) (xN (S.1 2 0))) < 0
  · exact Or.inr ⟨fun z => absurd z.1 (Nat.not_le.mpr (q1.mp c1)), fin 0 (fun d r => by simp (decide := true) only [b139_57_214, b139_57_241, c1, ↓reduceIte, true_and, xbit_0])⟩
  by_cases c3 : nI (aFR (S.1 12) v) - nI (sN (fun k => if t k ≤ v then aH (S.1 14) k else 0) (xN (S.1 2 0))) < 0
  · exact Or.inr ⟨fun z => absurd z.2.2.1 (Nat.not_le.mpr (q3.mp c3)), fin 0 (fun d r => by simp (decide := true) only [b139_57_214, b139_57_218, b139_57_241, c1, c3, ↓reduceIte, true_and, xbit_0])⟩
  by_cases c4 : nI (aSR (S.1 12) v) - nI (sN (fun k => if t k ≤ v then aP (S.1 14) (S.1 15) k else 0) (xN (S.1 2 0))) < 0
  · exact Or.inr ⟨fun z => absurd z.2.2.2 (Nat.not_le.mpr (q4.mp c4)), fin 0 (fun d r => by simp (decide := true) only [b139_57_214, b139_57_218, b139_57_223, b139_57_241, c1, c3, c4, ↓reduceIte, true_and, xbit_0])⟩
  by_cases c2 : nI (xN (S.1 9 1)) < nI (sN (fun k => if t k = v then xN (S.1 3 k) else 0) (xN (S.1 2 0)))
  · exact Or.inr ⟨fun z => absurd z.2.1 (Nat.not_le.mpr (q2.mp c2)), fin 0 (fun d r => by simp (decide := true) only [b139_57_214, b139_57_218, b139_57_223, b139_57_228, b139_57_241, hm2, c1, c2, c3, c4, ↓reduceIte, true_and, xbit_0])⟩
  · exact Or.inl ⟨⟨Nat.not_lt.mp (fun z => c1 (q1.mpr z)), Nat.not_lt.mp (fun z => c2 (q2.mpr z)), Nat.not_lt.mp (fun z => c3 (q3.mpr z)), Nat.not_lt.mp (fun z => c4 (q4.mpr z))⟩, fin 1 (fun d r => by simp (decide := true) only [b139_57_214, b139_57_218, b139_57_223, b139_57_228, b139_57_241, b139_57_237, hm2, c1, c2, c3, c4, ↓reduceIte, true_and, xbit_1])⟩
theorem scan140_57 (S : xS) (h : xInvR S) {t : Nat → Nat} (hp : iPl (xN (S.1 2 0)) (S.1 57) t) : ∀ m, m ≤ 5 → (∀ u, u < 5 - m → aLg S t u) → ∃ w, fW S t w ∧ ∀ (d : Nat) (r : Option Value × xS), xX (d + 2) 140 2 [(0, .ref 54), (1, .ref 57), (2, .int (nI (5 - m)))] [] S r ↔ r = (some (.int (nI w)), S)
  | 0, _, hl => ⟨5, ⟨Nat.le_refl 5, hl, fun z => absurd z (by decide)⟩, fun d r => by
    have d1 : ¬ nI (5 - 0) < 5 := by decide
    rw [b140_57_2, if_neg d1, b140_57_24]
    rfl⟩
  | m + 1, hm, hl => by
    have hv : 5 - (m + 1) < 5 := by omega
    have d1 : nI (5 - (m + 1)) < 5 := nI_lt (b := 5) hv (by omega)
    rcases m139_57 S h hp hv with ⟨g, e⟩ | ⟨g, e⟩
    · have es : 5 - m = 5 - (m + 1) + 1 := by omega
      obtain ⟨w, hw, ew⟩ := scan140_57 S h hp m (by omega) (fun u hu => by
        rcases Nat.lt_or_ge u (5 - (m + 1)) with z | z
        · exact hl u z
        · have : u = 5 - (m + 1) := by omega
          rw [this]; exact g)
      refine ⟨w, hw, fun d r => ?_⟩
      rw [b140_57_2, if_pos d1]
      simp (decide := true) only [b140_57_7, e, exists_eq_left, xtl, b140_57_13, ↓reduceIte, b140_57_18, nI_1]
      rw [← es]
      exact ew d r
    · refine ⟨5 - (m + 1), ⟨by omega, hl, fun _ => g⟩, fun d r => ?_⟩
      rw [b140_57_2, if_pos d1]
      simp (decide := true) only [b140_57_7, e, exists_eq_left, xtl, b140_57_13, ↓reduceIte, b140_57_16]
theorem m140_57 (S : xS) (h : xInvR S) {t : Nat → Nat} (hp : iPl (xN (S.1 2 0)) (S.1 57) t) : ∃ w, fW S t w ∧ ∀ (d : Nat) (r : Option Value × xS), xX (d + 2) 140 0 [(0, .ref 54), (1, .ref 57)] [] S r ↔ r = (some (.int (nI w)), S) := by
  obtain ⟨w, hw, e⟩ := scan140_57 S h hp 5 (by decide) (fun u hu => absurd hu (Nat.not_lt_zero u))
  exact ⟨w, hw, fun d r => by rw [b140_57_0]; exact e d r⟩

theorem m138_85 (S : xS) {n : Nat} {t : Nat → Nat} (hn : n ≤ 10) (hp : iPl n (S.1 85) t) {k v : Nat} (hk : k < n) (hv : v < 5) (d : Nat) (r : Option Value × xS) : xX d 138 0 [(0, .ref 54), (1, .ref 85), (2, .int (nI k)), (3, .int (nI v))] [] S r ↔ r = (some (.int (if t k ≤ v then 1 else 0)), S) := by
  have hv1 : vp_in (nI k) 10 := vp_in_nI (by omega) (by omega)
  have hcl : (nI k).toNatClampNeg = k := nI_clamp (by omega)
  rw [← hp.ov hk hv]
  rcases Classical.propComplete (S.1 85 k = -1) with c1 | c1 <;> by_cases c2 : nI v < S.1 85 k <;> simp (decide := true) only [b138_85_0, b138_85_18, b138_85_7, b138_85_14, hv1, hcl, c1, c2, ↓reduceIte, true_and, xov, xbit_0, xbit_1]
theorem m148_85 (S : xS) (h : xInvR S) (d : Nat) {k : Nat} (hk : k < 10) (v2 v3 v4 v5 v6 : Int32) (r : Option Value × xS) : xX d 139 148 [(0, .ref 54), (1, .ref 85), (2, .int v2), (3, .int v3), (4, .int v4), (5, .int v5), (6, .int v6), (7, .int (nI k)), (8, .int 0)] [] S r ↔ xX d 139 92 [(0, .ref 54), (1, .ref 85), (2, .int v2), (3, .int v3), (4, .int (v4 - nI (aH (S.1 14) k))), (5, .int (v5 - nI (aP (S.1 14) (S.1 15) k))), (6, .int v6), (7, .int (nI (k + 1)))] [] S r := by
  have m0 : 3 * nI k + 0 = nI (3 * k) := by have := nI_m' 3 3 (by decide) k 0; rw [nI_0] at this; exact this
  have m1 : 3 * nI k + 1 = nI (3 * k + 1) := nI_m' 3 3 (by decide) k 1
  have m2 : 3 * nI k + 2 = nI (3 * k + 2) := nI_m' 3 3 (by decide) k 2
  have x0 : (nI (3 * k)).toNatClampNeg = 3 * k := nI_clamp (by omega)
  have x1 : (nI (3 * k + 1)).toNatClampNeg = 3 * k + 1 := nI_clamp (by omega)
  have x2 : (nI (3 * k + 2)).toNatClampNeg = 3 * k + 2 := nI_clamp (by omega)
  have y0 := vp_in_nI (show 3 * k < 30 by omega) (by omega : 30 < 2 ^ 31)
  have y1 := vp_in_nI (show 3 * k + 1 < 30 by omega) (by omega : 30 < 2 ^ 31)
  have y2 := vp_in_nI (show 3 * k + 2 < 30 by omega) (by omega : 30 < 2 ^ 31)
  have u0 : vp_in (5 * 0 + 2) 15 := vp_in_d (by decide)
  have u1 : vp_in (5 * 1 + 2) 15 := vp_in_d (by decide)
  have u2 : vp_in (5 * 2 + 2) 15 := vp_in_d (by decide)
  have w0 : ((5 : Int32) * 0 + 2).toNatClampNeg = 2 := by decide
  have w1 : ((5 : Int32) * 1 + 2).toNatClampNeg = 7 := by decide
  have w2 : ((5 : Int32) * 2 + 2).toNatClampNeg = 12 := by decide
  have q0 : S.1 65 (3 * k) = nI (xN (S.1 14 (3 * k))) := by rw [h.hFlk.eq (by omega)]; exact (xtwo h (by omega)).1
  have q1 : S.1 65 (3 * k + 1) = nI (xN (S.1 14 (3 * k + 1))) := by rw [h.hFlk.eq (by omega)]; exact (xtwo h (by omega)).1
  have q2 : S.1 65 (3 * k + 2) = nI (xN (S.1 14 (3 * k + 2))) := by rw [h.hFlk.eq (by omega)]; exact (xtwo h (by omega)).1
  have t0 : S.1 70 2 = S.1 15 2 := h.hTrt.eq (by omega)
  have t1 : S.1 70 7 = S.1 15 7 := h.hTrt.eq (by omega)
  have t2 : S.1 70 12 = S.1 15 12 := h.hTrt.eq (by omega)
  have eH : v4 - nI (xN (S.1 14 (3 * k))) - nI (xN (S.1 14 (3 * k + 1))) - nI (xN (S.1 14 (3 * k + 2))) = v4 - nI (aH (S.1 14) k) := by
    unfold aH
    rw [← nI_add, ← nI_add, Int32.sub_sub, Int32.sub_sub, Int32.add_assoc]
  by_cases c0 : 0 < S.1 15 2 <;> by_cases c1 : 0 < S.1 15 7 <;> by_cases c2 : 0 < S.1 15 12
  all_goals
    simp (decide := true) only [b139_85_148, b139_85_154, b139_85_185, b139_85_202, b139_85_208, m0, m1, m2, x0, x1, x2, y0, y1, y2, u0, u1, u2, w0, w1, w2, q0, q1, q2, t0, t1, t2, c0, c1, c2, x01, x11, x21, ↓reduceIte, true_and, eH, nI_1]
    simp only [aP, aK, c0, c1, c2, ↓reduceIte, Nat.mul_zero, Nat.mul_one, Nat.zero_add, Nat.reduceMul, Nat.reduceAdd, Nat.add_zero, nI_0, ← nI_add, Int32.sub_sub, Int32.sub_zero, Int32.add_assoc]
theorem m139_85 (S : xS) (h : xInvR S) {t : Nat → Nat} (hp : iPl (xN (S.1 2 0)) (S.1 85) t) {v : Nat} (hv : v < 5) : (aLg S t v ∧ ∀ (d : Nat) (r : Option Value × xS), xX (d + 1) 139 0 [(0, .ref 54), (1, .ref 85), (2, .int (nI v))] [] S r ↔ r = (some (.int 1), S)) ∨ (¬ aLg S t v ∧ ∀ (d : Nat) (r : Option Value × xS), xX (d + 1) 139 0 [(0, .ref 54), (1, .ref 85), (2, .int (nI v))] [] S r ↔ r = (some (.int 0), S)) := by
  obtain ⟨hn, hn1, hn2⟩ := h.cnt
  obtain ⟨hb, hb1, hb2⟩ := h.bld
  obtain ⟨hm, hm1, hm2⟩ := h.mst
  have k1 : ∀ (d : Nat) (r : Option Value × xS), xX (d + 1) 139 0 [(0, .ref 54), (1, .ref 85), (2, .int (nI v))] [] S r ↔ xX (d + 1) 139 50 [(0, .ref 54), (1, .ref 85), (2, .int (nI v)), (3, .int (nI (aDR (S.1 9 0) (S.1 10) (S.1 11) v))), (4, .int 0), (5, .int 0), (6, .int 0)] [] S r := by
    intro d r
    have key := xX_loop (d := d + 1) (f := 139) (pc := 11) (st := []) (fun j => ([(0, .ref 54), (1, .ref 85), (2, .int (nI v)), (3, .int (xdk (S.1 61) (S.1 62) (nI v) j)), (4, .int 0), (5, .int 0), (6, .int (nI j))], S)) (xN (S.1 9 0)) (fun j hj r => by
      refine (b139_85_11 _ _ _ _ _ _ _ _).trans ?_
      rw [hb2, if_pos (nI_lt hj (by omega))]
      have hv1 : vp_in (nI j) 6 := vp_in_nI (by omega) (by omega)
      have hcl : (nI j).toNatClampNeg = j := nI_clamp (by omega)
      by_cases c1 : nI v < S.1 62 j <;> simp (decide := true) only [b139_85_20, b139_85_41, b139_85_31, hv1, hcl, c1, ↓reduceIte, true_and, xdk, xsum, nI_1, xadd0]) r
    rw [b139_85_0]
    refine key.trans ?_
    refine (b139_85_11 _ _ _ _ _ _ _ _).trans ?_
    rw [hb2, if_neg (nI_nlt (Nat.le_refl _) (by omega)), b139_85_47, xdkM h hv]
  have k2 : ∀ (d : Nat) (v3 : Int32) (r : Option Value × xS), xX (d + 1) 139 50 [(0, .ref 54), (1, .ref 85), (2, .int (nI v)), (3, .int v3), (4, .int 0), (5, .int 0), (6, .int 0)] [] S r ↔ xX (d + 1) 139 92 [(0, .ref 54), (1, .ref 85), (2, .int (nI v)), (3, .int v3), (4, .int (nI (aFR (S.1 12) v))), (5, .int (nI (aSR (S.1 12) v))), (6, .int 0), (7, .int 0)] [] S r := by
    intro d v3 r
    have key := xX_loop (d := d + 1) (f := 139) (pc := 50) (st := []) (fun j => ([(0, .ref 54), (1, .ref 85), (2, .int (nI v)), (3, .int v3), (4, .int (xsum (S.1 63) j)), (5, .int (xsum (S.1 64) j)), (6, .int (nI j))], S)) (v + 1) (fun j hj r => by
      refine (b139_85_50 _ _ _ _ _ _ _ _).trans ?_
      rw [if_neg (nI_nlt (show j ≤ v by omega) (by omega))]
      have hv1 : vp_in (nI j) 5 := vp_in_nI (by omega) (by omega)
      have hcl : (nI j).toNatClampNeg = j := nI_clamp (by omega)
      simp only [b139_85_56, hv1, hcl, true_and, xsum, nI_1]) r
    refine key.trans ?_
    refine (b139_85_50 _ _ _ _ _ _ _ _).trans ?_
    rw [if_pos (nI_lt (show v < v + 1 by omega) (by omega)), b139_85_86]
    have e1 : xsum (S.1 63) (v + 1) = nI (aFR (S.1 12) v) := xsum_nI (fun k hk => (h.hBec.1.get (by omega) (show k < 5 by omega)).2.2)
    have e2 : xsum (S.1 64) (v + 1) = nI (aSR (S.1 12) v) := xsum_nI (fun k hk => (h.hBec.2.get (by omega) (show k < 5 by omega)).2.2)
    rw [e1, e2]
  have k3 : ∀ (d : Nat) (a b c : Int32) (r : Option Value × xS), xX (d + 1) 139 92 [(0, .ref 54), (1, .ref 85), (2, .int (nI v)), (3, .int a), (4, .int b), (5, .int c), (6, .int 0), (7, .int 0)] [] S r ↔ xX (d + 1) 139 214 [(0, .ref 54), (3, .int (a - nI (sN (fun k => if t k ≤ v then xN (S.1 3 k) else 0) (xN (S.1 2 0))))), (4, .int (b - nI (sN (fun k => if t k ≤ v then aH (S.1 14) k else 0) (xN (S.1 2 0))))), (5, .int (c - nI (sN (fun k => if t k ≤ v then aP (S.1 14) (S.1 15) k else 0) (xN (S.1 2 0))))), (6, .int (nI (sN (fun k => if t k = v then xN (S.1 3 k) else 0) (xN (S.1 2 0)))))] [] S r := by
    intro d a b c r
    have key := xX_loop (d := d + 1) (f := 139) (pc := 92) (st := []) (fun j => ([(0, .ref 54), (1, .ref 85), (2, .int (nI v)), (3, .int (a - nI (sN (fun k => if t k ≤ v then xN (S.1 3 k) else 0) j))), (4, .int (b - nI (sN (fun k => if t k ≤ v then aH (S.1 14) k else 0) j))), (5, .int (c - nI (sN (fun k => if t k ≤ v then aP (S.1 14) (S.1 15) k else 0) j))), (6, .int (nI (sN (fun k => if t k = v then xN (S.1 3 k) else 0) j))), (7, .int (nI j))], S)) (xN (S.1 2 0)) (fun j hj r => by
      refine (b139_85_92 _ _ _ _ _ _ _ _ _).trans ?_
      rw [hn2, if_pos (nI_lt hj (by omega))]
      have hj10 : j < 10 := by omega
      have hv1 : vp_in (nI j) 10 := vp_in_nI hj10 (by omega)
      have hcl : (nI j).toNatClampNeg = j := nI_clamp (by omega)
      have g := fun (d : Nat) (r : Option Value × xS) => m138_85 S hn hp hj hv d r
      have gD : S.1 55 j = nI (xN (S.1 3 j)) := (h.dsk hj10).2.2
      have gE := hp.eq hj hv
      have gK := fun (d : Nat) (v2 v3 v4 v5 v6 : Int32) (r : Option Value × xS) => m148_85 S h d hj10 v2 v3 v4 v5 v6 r
      by_cases c1 : t j ≤ v
      · by_cases c2 : t j = v
        · have c3 := gE.mpr c2
          simp (decide := true) only [b139_85_101, g, exists_eq_left, xtl, b139_85_109, b139_85_112, b139_85_115, b139_85_133, b139_85_145, gK, hv1, hcl, gD, c1, c2, c3, ↓reduceIte, true_and, sN, ← nI_add, Int32.sub_sub, Nat.le_refl]
        · have c3 : ¬ S.1 85 j = nI v := fun z => c2 (gE.mp z)
          simp (decide := true) only [b139_85_101, g, exists_eq_left, xtl, b139_85_109, b139_85_112, b139_85_115, b139_85_133, b139_85_145, gK, hv1, hcl, gD, c1, c2, c3, ↓reduceIte, true_and, sN, ← nI_add, Int32.sub_sub, nI_0, Int32.add_zero]
      · have c2 : ¬ t j = v := by omega
        simp (decide := true) only [b139_85_101, g, exists_eq_left, xtl, b139_85_109, b139_85_112, hv1, hcl, c1, c2, ↓reduceIte, true_and, sN, ← nI_add, nI_0, Int32.add_zero]
        simp only [nI_1, nI_add]) r
    have e0 : ∀ f : Nat → Nat, nI (sN f 0) = 0 := fun _ => nI_0
    simp only [e0, Int32.sub_zero, nI_0] at key
    refine key.trans ?_
    refine (b139_85_92 _ _ _ _ _ _ _ _ _).trans ?_
    rw [hn2, if_neg (nI_nlt (Nat.le_refl _) (by omega))]
  have b1 := xbDR h v
  have b2 := xbFR h hv
  have b3 := xbSR h hv
  have s1 := xbS (c := fun k => t k ≤ v) (n := xN (S.1 2 0)) (fun k hk => (h.dsk (show k < 10 by omega)).1)
  have s2 := xbS (c := fun k => t k = v) (n := xN (S.1 2 0)) (fun k hk => (h.dsk (show k < 10 by omega)).1)
  have s3 := xbS (c := fun k => t k ≤ v) (n := xN (S.1 2 0)) (fun k hk => xbH h (show k < 10 by omega))
  have s4 := xbS (c := fun k => t k ≤ v) (n := xN (S.1 2 0)) (fun k hk => xbP h (show k < 10 by omega))
  have q1 := nI_subneg (a := aDR (S.1 9 0) (S.1 10) (S.1 11) v) (b := sN (fun k => if t k ≤ v then xN (S.1 3 k) else 0) (xN (S.1 2 0))) (by omega) (Nat.lt_of_le_of_lt s1 (by omega))
  have q2 := nI_ltB (a := xN (S.1 9 1)) (b := sN (fun k => if t k = v then xN (S.1 3 k) else 0) (xN (S.1 2 0))) (by omega) (Nat.lt_of_le_of_lt s2 (by omega))
  have q3 := nI_subneg (a := aFR (S.1 12) v) (b := sN (fun k => if t k ≤ v then aH (S.1 14) k else 0) (xN (S.1 2 0))) (by omega) (Nat.lt_of_le_of_lt s3 (by omega))
  have q4 := nI_subneg (a := aSR (S.1 12) v) (b := sN (fun k => if t k ≤ v then aP (S.1 14) (S.1 15) k else 0) (xN (S.1 2 0))) (by omega) (Nat.lt_of_le_of_lt s4 (by omega))
  have kk := fun (d : Nat) (r : Option Value × xS) => (k1 d r).trans ((k2 d _ r).trans (k3 d _ _ _ r))
  have fin : ∀ (z : Int32), (∀ (d : Nat) (r : Option Value × xS), xX (d + 1) 139 214 [(0, .ref 54), (3, .int (nI (aDR (S.1 9 0) (S.1 10) (S.1 11) v) - nI (sN (fun k => if t k ≤ v then xN (S.1 3 k) else 0) (xN (S.1 2 0))))), (4, .int (nI (aFR (S.1 12) v) - nI (sN (fun k => if t k ≤ v then aH (S.1 14) k else 0) (xN (S.1 2 0))))), (5, .int (nI (aSR (S.1 12) v) - nI (sN (fun k => if t k ≤ v then aP (S.1 14) (S.1 15) k else 0) (xN (S.1 2 0))))), (6, .int (nI (sN (fun k => if t k = v then xN (S.1 3 k) else 0) (xN (S.1 2 0)))))] [] S r ↔ r = (some (.int z), S)) → ∀ (d : Nat) (r : Option Value × xS), xX (d + 1) 139 0 [(0, .ref 54), (1, .ref 85), (2, .int (nI v))] [] S r ↔ r = (some (.int z), S) := fun z hz d r => (kk d r).trans (hz d r)
  unfold aLg LgA
  by_cases c1 : nI (aDR (S.1 9 0) (S.1 10) (S.1 11) v) - nI (sN (fun k => if t k ≤ v then xN (S.1 3 k) else 0) (xN (S.1 2 0))) < 0
  · exact Or.inr ⟨fun z => absurd z.1 (Nat.not_le.mpr (q1.mp c1)), fin 0 (fun d r => by simp (decide := true) only [b139_85_214, b139_85_241, c1, ↓reduceIte, true_and, xbit_0])⟩
  by_cases c3 : nI (aFR (S.1 12) v) - nI (sN (fun k => if t k ≤ v then aH (S.1 14) k else 0) (xN (S.1 2 0))) < 0
  · exact Or.inr ⟨fun z => absurd z.2.2.1 (Nat.not_le.mpr (q3.mp c3)), fin 0 (fun d r => by simp (decide := true) only [b139_85_214, b139_85_218, b139_85_241, c1, c3, ↓reduceIte, true_and, xbit_0])⟩
  by_cases c4 : nI (aSR (S.1 12) v) - nI (sN (fun k => if t k ≤ v then aP (S.1 14) (S.1 15) k else 0) (xN (S.1 2 0))) < 0
  · exact Or.inr ⟨fun z => absurd z.2.2.2 (Nat.not_le.mpr (q4.mp c4)), fin 0 (fun d r => by simp (decide := true) only [b139_85_214, b139_85_218, b139_85_223, b139_85_241, c1, c3, c4, ↓reduceIte, true_and, xbit_0])⟩
  by_cases c2 : nI (xN (S.1 9 1)) < nI (sN (fun k => if t k = v then xN (S.1 3 k) else 0) (xN (S.1 2 0)))
  · exact Or.inr ⟨fun z => absurd z.2.1 (Nat.not_le.mpr (q2.mp c2)), fin 0 (fun d r => by simp (decide := true) only [b139_85_214, b139_85_218, b139_85_223, b139_85_228, b139_85_241, hm2, c1, c2, c3, c4, ↓reduceIte, true_and, xbit_0])⟩
  · exact Or.inl ⟨⟨Nat.not_lt.mp (fun z => c1 (q1.mpr z)), Nat.not_lt.mp (fun z => c2 (q2.mpr z)), Nat.not_lt.mp (fun z => c3 (q3.mpr z)), Nat.not_lt.mp (fun z => c4 (q4.mpr z))⟩, fin 1 (fun d r => by simp (decide := true) only [b139_85_214, b139_85_218, b139_85_223, b139_85_228, b139_85_241, b139_85_237, hm2, c1, c2, c3, c4, ↓reduceIte, true_and, xbit_1])⟩
theorem scan140_85 (S : xS) (h : xInvR S) {t : Nat → Nat} (hp : iPl (xN (S.1 2 0)) (S.1 85) t) : ∀ m, m ≤ 5 → (∀ u, u < 5 - m → aLg S t u) → ∃ w, fW S t w ∧ ∀ (d : Nat) (r : Option Value × xS), xX (d + 2) 140 2 [(0, .ref 54), (1, .ref 85), (2, .int (nI (5 - m)))] [] S r ↔ r = (some (.int (nI w)), S)
  | 0, _, hl => ⟨5, ⟨Nat.le_refl 5, hl, fun z => absurd z (by decide)⟩, fun d r => by
    have d1 : ¬ nI (5 - 0) < 5 := by decide
    rw [b140_85_2, if_neg d1, b140_85_24]
    rfl⟩
  | m + 1, hm, hl => by
    have hv : 5 - (m + 1) < 5 := by omega
    have d1 : nI (5 - (m + 1)) < 5 := nI_lt (b := 5) hv (by omega)
    rcases m139_85 S h hp hv with ⟨g, e⟩ | ⟨g, e⟩
    · have es : 5 - m = 5 - (m + 1) + 1 := by omega
      obtain ⟨w, hw, ew⟩ := scan140_85 S h hp m (by omega) (fun u hu => by
        rcases Nat.lt_or_ge u (5 - (m + 1)) with z | z
        · exact hl u z
        · have : u = 5 - (m + 1) := by omega
          rw [this]; exact g)
      refine ⟨w, hw, fun d r => ?_⟩
      rw [b140_85_2, if_pos d1]
      simp (decide := true) only [b140_85_7, e, exists_eq_left, xtl, b140_85_13, ↓reduceIte, b140_85_18, nI_1]
      rw [← es]
      exact ew d r
    · refine ⟨5 - (m + 1), ⟨by omega, hl, fun _ => g⟩, fun d r => ?_⟩
      rw [b140_85_2, if_pos d1]
      simp (decide := true) only [b140_85_7, e, exists_eq_left, xtl, b140_85_13, ↓reduceIte, b140_85_16]
theorem m140_85 (S : xS) (h : xInvR S) {t : Nat → Nat} (hp : iPl (xN (S.1 2 0)) (S.1 85) t) : ∃ w, fW S t w ∧ ∀ (d : Nat) (r : Option Value × xS), xX (d + 2) 140 0 [(0, .ref 54), (1, .ref 85)] [] S r ↔ r = (some (.int (nI w)), S) := by
  obtain ⟨w, hw, e⟩ := scan140_85 S h hp 5 (by decide) (fun u hu => absurd hu (Nat.not_lt_zero u))
  exact ⟨w, hw, fun d r => by rw [b140_85_0]; exact e d r⟩
theorem xInvR.pl {S : xS} (h : xInvR S) : iPl (xN (S.1 2 0)) (S.1 57) (fun k => xN (S.1 5 k)) := fun k hk => by
  have := h.cnt.1
  obtain ⟨h1, h2, h3⟩ := h.wav (show k < 10 by omega)
  exact ⟨h1, h3⟩
theorem op_legal (S : xS) (h : xInv S) : xOpI xInv 95 156 [] S := by
  obtain ⟨S1, w, hw, e1, f1, g1⟩ := m46 54 S h.R
  have hS1 : xInv S1 := xInv_fr (fun c hc _ => f1 c (by omega)) (by rw [g1]) h
  obtain ⟨w2, hw2, e2⟩ := m140_57 S1 hS1.R (xInvR.pl hS1.R)
  have hw3 : fW S (fun k => xN (S.1 5 k)) w2 := by
    have := fW_fr (S := S) (fun c hc => f1 c (by omega)) hw2
    rw [f1 5 (by decide)] at this
    exact this
  have ew := fW_uniq hw hw3
  subst ew
  refine xOp_mk (z := nI w) (S1 := S1) (S2 := S1) (fun r => ?_) (fun r => ?_) hS1
  · simp only [b95_0, e1, exists_eq_left, xtl, b95_19]
  · have e3 := e2 56
    simp only [b156_0, e3, exists_eq_left, xtl, b156_8]
