/-! plans: the best, the reference's helpers -/
noncomputable def cf (S : xS) (j : Nat) : Nat := @ite _ (fr S j) (Classical.propDecidable _) 1 0
noncomputable def cnF (S : xS) (k : Nat) : Nat := sN (cf S) k
theorem cnF_f {S : xS} {k : Nat} (h : fr S k) : cnF S (k + 1) = cnF S k + 1 := by
  show cnF S k + cf S k = _
  have : cf S k = 1 := if_pos h
  rw [this]
theorem cnF_n {S : xS} {k : Nat} (h : ¬ fr S k) : cnF S (k + 1) = cnF S k := by
  show cnF S k + cf S k = _
  have : cf S k = 0 := if_neg h
  rw [this]; rfl
theorem cnF_mono {S : xS} {a b : Nat} (h : a ≤ b) : cnF S a ≤ cnF S b := sN_mono h
theorem cnF_le {S : xS} (k : Nat) : cnF S k ≤ k := by
  have := sN_bd (f := cf S) (c := 1) (n := k) (fun j _ => by
    unfold cf
    by_cases c : fr S j
    · rw [if_pos c]; exact Nat.le_refl _
    · rw [if_neg c]; exact Nat.zero_le _)
  unfold cnF; omega
theorem cnF_lt {S : xS} {j k : Nat} (hj : fr S j) (h : j < k) : cnF S j < cnF S k := by
  have := cnF_mono (S := S) (show j + 1 ≤ k by omega)
  rw [cnF_f hj] at this
  omega
theorem cnF_last {S : xS} : ∀ k, cnF S k = 0 ∨ ∃ j, j < k ∧ fr S j ∧ cnF S j + 1 = cnF S k ∧ ∀ x, j < x → x < k → ¬ fr S x := by
  intro k
  induction k with
  | zero => exact Or.inl rfl
  | succ k ih =>
    by_cases c : fr S k
    · exact Or.inr ⟨k, by omega, c, (cnF_f c).symm, fun x h1 h2 => absurd h1 (by omega)⟩
    · rw [cnF_n c]
      rcases ih with h | ⟨j, h1, h2, h3, h4⟩
      · exact Or.inl h
      · refine Or.inr ⟨j, by omega, h2, h3, fun x h5 h6 => ?_⟩
        by_cases e : x = k
        · subst e; exact c
        · exact h4 x h5 (by omega)
def lstM (S T : xS) : Prop := ∀ j, j < xN (S.1 2 0) → fr S j → T.1 87 (cnF S j) = nI j
theorem cd_inj {a b : Nat} (ha : a ≤ 5) (hb : b ≤ 5) : ((if a = 5 then (-1 : Int32) else nI a) = (if b = 5 then -1 else nI b)) ↔ a = b := by
  by_cases c : a = 5 <;> by_cases c' : b = 5
  · rw [if_pos c, if_pos c', c, c']; exact ⟨fun _ => rfl, fun _ => rfl⟩
  · rw [if_pos c, if_neg c']; exact ⟨fun z => absurd z.symm (nI_nem1 (by omega)), fun z => absurd (z.symm.trans c) c'⟩
  · rw [if_neg c, if_pos c']; exact ⟨fun z => absurd z (nI_nem1 (by omega)), fun z => absurd (z.trans c') c⟩
  · rw [if_neg c, if_neg c']; exact nI_inj (by omega) (by omega)
theorem m147 {Z : xS} {S T : xS} (hS : xInv S) {t : Nat → Nat} (h : plM Z S T t) (hl : lstM S T) {k : Nat} (hk : k ≤ xN (S.1 2 0)) (md : Nat) (hmd : md = 0 ∨ md = 1) : ∀ (d : Nat) (r : Option Value × xS), xX d 147 0 [(0, .ref 54), (1, .int (nI (cnF S k))), (2, .int (nI md))] [] T r ↔ r = (some (.int (nI (md * oN S t k))), T) := by
  obtain ⟨hn, hn1, hn2⟩ := hS.cnt
  have ck := cnF_le (S := S) k
  rcases hmd with e | e <;> subst e
  · intro d r
    have z : nI 0 = 0 := rfl
    rw [Nat.zero_mul, z]
    by_cases c : 0 < cnF S k
    · have c1 : (0 : Int32) < nI (cnF S k) := nI_pos0 c (by omega)
      simp (decide := true) only [b147_0, b147_5, c1, ↓reduceIte, b147_11, b147_51]
    · have c1 := nI_npos0 c
      simp (decide := true) only [b147_0, b147_5, c1, ↓reduceIte, b147_51]
  · intro d r
    obtain ⟨l2, T2, ⟨rfl, rfl⟩, e2⟩ := xX_loopD (e := 0) (f := 147) (pc := 5) (st := []) (fun j l T' => l = [(0, .ref 54), (1, .int (nI (cnF S k))), (2, .int (nI 1)), (3, .int (nI (oN S t j))), (4, .int (nI (cnF S j)))] ∧ T' = T) k (by
      rintro j hj l T' ⟨rfl, rfl⟩
      by_cases c : fr S j
      · have c1 : nI (cnF S j) < nI (cnF S k) := nI_lt (cnF_lt c hj) (by omega)
        have cj := cnF_lt c hj
        have a1 : (nI (cnF S j)).toNatClampNeg = cnF S j := nI_clamp (by omega)
        have a2 := vp_in_nI (show cnF S j < 10 by omega) (by omega : 10 < 2 ^ 31)
        have b1 : (nI j).toNatClampNeg = j := nI_clamp (by omega)
        have b2 := vp_in_nI (show j < 10 by omega) (by omega : 10 < 2 ^ 31)
        have f87 := hl j (by omega) c
        obtain ⟨t5, f85⟩ := h.2 j (by omega)
        obtain ⟨w5, -, w57⟩ := hS.wav (show j < 10 by omega)
        have f57 : T'.1 57 j = (if xN (S.1 5 j) = 5 then -1 else nI (xN (S.1 5 j))) := by rw [h.1.1 57 (by decide) (by decide) (by decide)]; exact w57
        have n1 : ¬ nI 1 = 0 := by decide
        by_cases e : t j = xN (S.1 5 j)
        · have ce : T'.1 85 j = T'.1 57 j := by rw [f85, f57, e]
          have o0 : oX S t j = 0 := if_neg (fun z => z.2 e)
          have o1 : oN S t (j + 1) = oN S t j := by show oN S t j + oX S t j = _; rw [o0]; rfl
          refine ⟨_, T', ⟨rfl, rfl⟩, fun d r => ?_⟩
          rw [b147_5, if_pos c1, b147_11, if_neg n1, b147_15, a1, f87, b1, if_pos ce, b147_45, nI_1, o1, cnF_f c]
          exact ⟨fun z => z.2.2.2.2, fun z => ⟨a2, b2, a2, b2, z⟩⟩
        · have ce : ¬ T'.1 85 j = T'.1 57 j := by rw [f85, f57, cd_inj t5 w5]; exact e
          have o0 : oX S t j = 1 := if_pos ⟨c, e⟩
          have o1 : oN S t (j + 1) = oN S t j + 1 := by show oN S t j + oX S t j = _; rw [o0]
          refine ⟨_, T', ⟨rfl, rfl⟩, fun d r => ?_⟩
          rw [b147_5, if_pos c1, b147_11, if_neg n1, b147_15, a1, f87, b1, if_neg ce, b147_42, nI_1, nI_1, o1, cnF_f c]
          exact ⟨fun z => z.2.2.2.2, fun z => ⟨a2, b2, a2, b2, z⟩⟩
      · have o0 : oX S t j = 0 := if_neg (fun z => c z.1)
        have o1 : oN S t (j + 1) = oN S t j := by show oN S t j + oX S t j = _; rw [o0]; rfl
        exact ⟨_, T', ⟨rfl, rfl⟩, fun d r => by rw [o1, cnF_n c]⟩) _ T ⟨rfl, rfl⟩
    have z : ¬ nI (cnF S k) < nI (cnF S k) := nI_nlt (Nat.le_refl _) (by omega)
    rw [b147_0, Nat.one_mul]
    refine (e2 d r).trans ?_
    rw [b147_5, if_neg z, b147_51]
theorem m148 {Z : xS} {S T : xS} (hS : xInv S) (h : frM Z S T) (hl : lstM S T) {k : Nat} (hk : k ≤ xN (S.1 2 0)) {o : Nat} (ho : o < xN (S.1 2 0)) : (cl S k o ∧ ∀ (d : Nat) (r : Option Value × xS), xX (d + 1) 148 0 [(0, .ref 54), (1, .int (nI o)), (2, .int (nI (cnF S k)))] [] T r ↔ r = (some (.int 0), T)) ∨ (¬ cl S k o ∧ ∀ (d : Nat) (r : Option Value × xS), xX (d + 1) 148 0 [(0, .ref 54), (1, .int (nI o)), (2, .int (nI (cnF S k)))] [] T r ↔ r = (some (.int 1), T)) := by
  obtain ⟨hn, hn1, hn2⟩ := hS.cnt
  have ck := cnF_le (S := S) k
  rcases m142 T (show o < 10 by omega) (frS_M hS h (show o < 10 by omega)) with ⟨c, e⟩ | ⟨c, e⟩
  · rcases cnF_last (S := S) k with z | ⟨j, j1, j2, j3, j4⟩
    · refine Or.inr ⟨fun y => y.elim (fun y => y c) (fun y => ?_), fun d r => ?_⟩
      · have := cnF_lt c y; omega
      · have z0 : nI 0 = 0 := rfl
        rw [z, z0]
        simp (decide := true) only [b148_0, e, exists_eq_left, xtl, b148_5, b148_8, b148_24, ↓reduceIte, xbit_1, true_and]
    · have n0 : ¬ nI (cnF S k) = 0 := by rw [← nI_0, nI_inj (by omega) (by omega)]; omega
      have d1 : nI (cnF S k) - 1 = nI (cnF S j) := by rw [nI_dec (by omega)]; congr 1; omega
      have a1 : (nI (cnF S j)).toNatClampNeg = cnF S j := nI_clamp (by omega)
      have a2 := vp_in_nI (show cnF S j < 10 by omega) (by omega : 10 < 2 ^ 31)
      have f87 := hl j (by omega) j2
      by_cases c2 : o < k
      · have l1 : ¬ nI j < nI o := nI_nlt (by
          by_cases y : j < o
          · exact absurd c (j4 o y c2)
          · omega) (by omega)
        refine Or.inl ⟨Or.inr c2, fun d r => ?_⟩
        simp (decide := true) only [b148_0, e, exists_eq_left, xtl, b148_5, b148_8, n0, b148_12, d1, a1, a2, f87, l1, b148_28, ↓reduceIte, xbit_0, true_and]
      · have l1 : nI j < nI o := nI_lt (by omega) (by omega)
        refine Or.inr ⟨fun y => y.elim (fun y => y c) c2, fun d r => ?_⟩
        simp (decide := true) only [b148_0, e, exists_eq_left, xtl, b148_5, b148_8, n0, b148_12, d1, a1, a2, f87, l1, b148_24, ↓reduceIte, xbit_1, true_and]
  · refine Or.inl ⟨Or.inl c, fun d r => ?_⟩
    simp (decide := true) only [b148_0, e, exists_eq_left, xtl, b148_5, b148_28, ↓reduceIte, xbit_0, true_and]
theorem sum149 {Z : xS} {S T : xS} (hS : xInv S) {t : Nat → Nat} (h : plM Z S T t) (hl : lstM S T) {k : Nat} (hk : k ≤ xN (S.1 2 0)) (v4 : Int32) : ∀ (d : Nat) (r : Option Value × xS), xX (d + 2) 149 34 [(0, .ref 54), (1, .int (nI (cnF S k))), (4, .int v4), (6, .int 0), (7, .int 0)] [] T r ↔ xX (d + 2) 149 178 [(4, .int v4), (6, .int (nI (aA S k t (xN (S.1 2 0)))))] [] T r := by
  obtain ⟨hn, hn1, hn2⟩ := hS.cnt
  intro d r
  have f54 : T.1 54 0 = nI (xN (S.1 2 0)) := by rw [h.1.1 54 (by decide) (by decide) (by decide)]; exact hn2
  have f60 : T.1 60 = S.1 60 := h.1.1 60 (by decide) (by decide) (by decide)
  obtain ⟨l2, T2, ⟨rfl, rfl⟩, e2⟩ := xX_loopD (e := 2) (f := 149) (pc := 34) (st := []) (fun a l T' => l = [(0, .ref 54), (1, .int (nI (cnF S k))), (4, .int v4), (6, .int (nI (aA S k t a))), (7, .int (nI a))] ∧ T' = T) (xN (S.1 2 0)) (by
    rintro a ha l T' ⟨rfl, rfl⟩
    have d1 : nI a < T'.1 54 0 := by rw [f54]; exact nI_lt ha (by omega)
    have st : aA S k t (a + 1) = aA S k t a + sN (tw S k t a) a := rfl
    rcases m148 hS h.1 hl hk ha with ⟨c, e⟩ | ⟨c, e⟩
    · obtain ⟨l3, T3, ⟨rfl, rfl⟩, e3⟩ := xX_loopD (e := 2) (f := 149) (pc := 59) (st := []) (fun b l T'' => l = [(0, .ref 54), (1, .int (nI (cnF S k))), (4, .int v4), (6, .int (nI (aA S k t a + sN (tw S k t a) b))), (7, .int (nI a)), (8, .int (nI b))] ∧ T'' = T') a (by
        rintro b hb l T'' ⟨rfl, rfl⟩
        have hbn : b < xN (S.1 2 0) := by omega
        have d2 : nI b < nI a := nI_lt hb (by omega)
        have st2 : sN (tw S k t a) (b + 1) = sN (tw S k t a) b + tw S k t a b := rfl
        rcases m148 hS h.1 hl hk hbn with ⟨c', e'⟩ | ⟨c', e'⟩
        · have tv : tw S k t a b = tie S a b * dst (t a) (t b) := if_pos ⟨c, c'⟩
          have a1 : (nI a).toNatClampNeg = a := nI_clamp (by omega)
          have a2 := vp_in_nI (show a < 10 by omega) (by omega : 10 < 2 ^ 31)
          have b1 : (nI b).toNatClampNeg = b := nI_clamp (by omega)
          have b2 := vp_in_nI (show b < 10 by omega) (by omega : 10 < 2 ^ 31)
          have x1 : 10 * nI a + nI b = nI (10 * a + b) := nI_10m a b
          have x2 : (nI (10 * a + b)).toNatClampNeg = 10 * a + b := nI_clamp (by omega)
          have x3 := vp_in_nI (show 10 * a + b < 100 by omega) (by omega : 100 < 2 ^ 31)
          have x5 := (tie_get hS (show a < 10 by omega) (show b < 10 by omega)).2.2
          obtain ⟨ta, fa⟩ := h.2 a ha
          obtain ⟨tb, fb⟩ := h.2 b hbn
          have dm := dst_m (t a) (by omega) (t b) (by omega)
          have acc : nI (aA S k t a + sN (tw S k t a) b) + nI (tie S a b) * nI (dst (t a) (t b)) = nI (aA S k t a + sN (tw S k t a) (b + 1)) := by
            rw [nI_mulN, nI_add, st2, tv, Nat.add_assoc]
          -- from the two waves on
          have fin : ∀ (d : Nat) (r : Option Value × xS), (if nI (t a) < nI (t b) then xX (d + 2) 149 149 [(0, .ref 54), (1, .int (nI (cnF S k))), (4, .int v4), (7, .int (nI a)), (8, .int (nI b)), (9, .int (nI (t a))), (10, .int (nI (t b)))] [.int (nI (tie S a b)), .int (nI (aA S k t a + sN (tw S k t a) b))] T'' r else xX (d + 2) 149 157 [(0, .ref 54), (1, .int (nI (cnF S k))), (4, .int v4), (7, .int (nI a)), (8, .int (nI b)), (9, .int (nI (t a))), (10, .int (nI (t b)))] [.int (nI (tie S a b)), .int (nI (aA S k t a + sN (tw S k t a) b))] T'' r) ↔ xX (d + 2) 149 59 [(0, .ref 54), (1, .int (nI (cnF S k))), (4, .int v4), (6, .int (nI (aA S k t a + sN (tw S k t a) (b + 1)))), (7, .int (nI a)), (8, .int (nI (b + 1)))] [] T'' r := fun d r => by
            by_cases y : nI (t a) < nI (t b)
            · rw [if_pos y] at dm ⊢
              rw [b149_149, dm, acc, nI_1]
            · rw [if_neg y] at dm ⊢
              rw [b149_157, dm, acc, nI_1]
          refine ⟨_, T'', ⟨rfl, rfl⟩, fun d r => ?_⟩
          refine (b149_59 _ _ _ _ _ _ _ _).trans ?_
          rw [if_pos d2]
          refine Iff.trans ?_ (fin d r)
          have n5 : nI 5 = 5 := rfl
          by_cases ya : t a = 5 <;> by_cases yb : t b = 5
          · rw [if_pos ya] at fa; rw [if_pos yb] at fb
            rw [ya, yb, n5]
            simp (decide := true) only [b149_66, e', exists_eq_left, xtl, b149_73, b149_79, b149_90, b149_114, a1, a2, b1, b2, fa, fb, x1, x2, x3, f60, x5, ↓reduceIte, true_and]
          · rw [if_pos ya] at fa; rw [if_neg yb] at fb
            have nb : ¬ nI (t b) = -1 := nI_nem1 (by omega)
            rw [ya, n5]
            simp (decide := true) only [b149_66, e', exists_eq_left, xtl, b149_73, b149_79, b149_90, b149_118, a1, a2, b1, b2, fa, fb, nb, x1, x2, x3, f60, x5, ↓reduceIte, true_and]
          · rw [if_neg ya] at fa; rw [if_pos yb] at fb
            have na : ¬ nI (t a) = -1 := nI_nem1 (by omega)
            rw [yb, n5]
            simp (decide := true) only [b149_66, e', exists_eq_left, xtl, b149_73, b149_79, b149_94, b149_114, a1, a2, b1, b2, fa, fb, na, x1, x2, x3, f60, x5, ↓reduceIte, true_and]
          · rw [if_neg ya] at fa; rw [if_neg yb] at fb
            have na : ¬ nI (t a) = -1 := nI_nem1 (by omega)
            have nb : ¬ nI (t b) = -1 := nI_nem1 (by omega)
            simp (decide := true) only [b149_66, e', exists_eq_left, xtl, b149_73, b149_79, b149_94, b149_118, a1, a2, b1, b2, fa, fb, na, nb, x1, x2, x3, f60, x5, ↓reduceIte, true_and]
        · have tv : tw S k t a b = 0 := if_neg (fun z => c' z.2)
          have st3 : sN (tw S k t a) (b + 1) = sN (tw S k t a) b := by rw [st2, tv]; rfl
          refine ⟨_, T'', ⟨rfl, rfl⟩, fun d r => ?_⟩
          refine (b149_59 _ _ _ _ _ _ _ _).trans ?_
          rw [if_pos d2]
          simp (decide := true) only [b149_66, e', exists_eq_left, xtl, b149_73, b149_76, ↓reduceIte, nI_1, st3]) _ T' ⟨rfl, rfl⟩
      refine ⟨_, T3, ⟨rfl, rfl⟩, fun d r => ?_⟩
      refine (b149_34 _ _ _ _ _ _ _).trans ?_
      rw [if_pos d1]
      have z : ¬ nI a < nI a := nI_nlt (Nat.le_refl _) (by omega)
      have e4 : xX (d + 2) 149 59 [(0, .ref 54), (1, .int (nI (cnF S k))), (4, .int v4), (6, .int (nI (aA S k t a + sN (tw S k t a) a))), (7, .int (nI a)), (8, .int (nI a))] [] T3 r ↔ xX (d + 2) 149 34 [(0, .ref 54), (1, .int (nI (cnF S k))), (4, .int v4), (6, .int (nI (aA S k t (a + 1)))), (7, .int (nI (a + 1)))] [] T3 r := by
        rw [b149_59, if_neg z, b149_172, nI_1, ← st]
      refine Iff.trans ?_ ((e3 d r).trans e4)
      simp (decide := true) only [b149_43, e, exists_eq_left, xtl, b149_50, b149_56, ↓reduceIte, nI_0]
      exact Iff.rfl
    · have s0 : sN (tw S k t a) a = 0 := sN_zero (fun b _ => if_neg (fun z => c z.1))
      have st' : aA S k t (a + 1) = aA S k t a := by rw [st, s0]; rfl
      refine ⟨_, T', ⟨rfl, rfl⟩, fun d r => ?_⟩
      refine (b149_34 _ _ _ _ _ _ _).trans ?_
      rw [if_pos d1]
      simp (decide := true) only [b149_43, e, exists_eq_left, xtl, b149_50, b149_53, ↓reduceIte, nI_1, st']) _ T ⟨rfl, rfl⟩
  refine (e2 d r).trans ?_
  rw [b149_34, f54, if_neg (nI_nlt (Nat.le_refl _) (by omega))]
