/-! plans: the class's search -/
theorem xcI_get (S : xS) (a b : Nat) {i : Nat} (hi : i < 10) : (xcI S a 0 b 0 10).1 b i = S.1 a i := by
  show (if b = b then va_cpy (S.1 a) (S.1 b) 0 0 10 i else _) = _
  rw [if_pos rfl]
  unfold va_cpy
  rw [if_pos ⟨Nat.zero_le _, by omega⟩, Nat.zero_add, Nat.sub_zero]
theorem xcI_ne (S : xS) (a b : Nat) {c : Nat} (hc : c ≠ b) : (xcI S a 0 b 0 10).1 c = S.1 c := by
  funext i
  exact if_neg hc
theorem nI_inj {a b : Nat} (ha : a < 2 ^ 31) (hb : b < 2 ^ 31) : (nI a = nI b) ↔ a = b := ⟨fun z => by
  have := congrArg xN z
  rw [xN_nI ha, xN_nI hb] at this
  exact this, fun z => by rw [z]⟩
theorem m49 {S U : xS} (hS : xInv S) {t : Nat → Nat} (h : plX S U t) {ch : Nat} (hch : U.1 40 5 = nI ch) {k : Nat} (hk : k < xN (S.1 2 0)) : ∀ (d : Nat) (r : Option Value × xS), xX (d + 1) 49 0 [(0, .ref 40), (1, .ref 2), (2, .int (nI k))] [] U r ↔ r = (some (.int (nI (poN S ch k t))), U) := by
  obtain ⟨hn, hn1, hn2⟩ := hS.cnt
  have a1 : (nI k).toNatClampNeg = k := nI_clamp (by omega)
  have a2 := vp_in_nI (show k < 10 by omega) (by omega : 10 < 2 ^ 31)
  have fk := h.2.2.1 k hk
  have f5 : U.1 5 k = nI (xN (S.1 5 k)) := by rw [h.2.2.2.1 5 (by decide)]; exact (hS.wav (show k < 10 by omega)).2.1
  have f8 : U.1 8 = S.1 8 := h.2.2.2.1 8 (by decide)
  have w5 := (hS.wav (show k < 10 by omega)).1
  have lp : ∀ c0 : Nat, ∀ (d : Nat) (r : Option Value × xS), xX (d + 1) 49 27 [(0, .ref 40), (1, .ref 2), (2, .int (nI k)), (3, .int (nI c0)), (4, .int 0)] [] U r ↔ r = (some (.int (nI (c0 + sN (pA S k t) (xN (S.1 2 0))))), U) := by
    intro c0 d r
    obtain ⟨l2, U2, ⟨rfl, rfl⟩, e2⟩ := xX_loopD (e := 1) (f := 49) (pc := 27) (st := []) (fun j l T => l = [(0, .ref 40), (1, .ref 2), (2, .int (nI k)), (3, .int (nI (c0 + sN (pA S k t) j))), (4, .int (nI j))] ∧ T = U) (xN (S.1 2 0)) (by
      rintro j hj l T ⟨rfl, rfl⟩
      have b1 : (nI j).toNatClampNeg = j := nI_clamp (by omega)
      have b2 := vp_in_nI (show j < 10 by omega) (by omega : 10 < 2 ^ 31)
      have d1 : nI j < T.1 2 0 := by rw [h.n, hn1]; exact nI_lt hj (by omega)
      have fj := h.2.2.1 j hj
      have x1 : nI k * 10 + nI j = nI (10 * k + j) := nI_m10 k j
      have x2 : (nI (10 * k + j)).toNatClampNeg = 10 * k + j := nI_clamp (by omega)
      have x3 := vp_in_nI (show 10 * k + j < 100 by omega) (by omega : 100 < 2 ^ 31)
      have x4 := dst_x (t k) (by omega) (t j) (by omega)
      have x5 := (tie_get hS (show k < 10 by omega) (show j < 10 by omega)).2.1
      have cnt : cl S k j → nI (c0 + sN (pA S k t) j) + nI (tie S k j) * nI (dst (t k) (t j)) = nI (c0 + sN (pA S k t) (j + 1)) := fun c => by
        rw [nI_mulN, nI_add]
        have : pA S k t j = tie S k j * dst (t k) (t j) := if_pos c
        rw [← this]
        show _ = nI (c0 + (sN (pA S k t) j + pA S k t j))
        rw [Nat.add_assoc]
      have go : cl S k j → ∀ (d : Nat) (r : Option Value × xS), xX (d + 1) 49 51 [(0, .ref 40), (1, .ref 2), (2, .int (nI k)), (3, .int (nI (c0 + sN (pA S k t) j))), (4, .int (nI j))] [] T r ↔ xX (d + 1) 49 27 [(0, .ref 40), (1, .ref 2), (2, .int (nI k)), (3, .int (nI (c0 + sN (pA S k t) (j + 1)))), (4, .int (nI (j + 1)))] [] T r := fun c d r => by
        rw [b49_51, x1, x2, a1, b1, fk.2, fj.2, x4, f8, x5, cnt c, nI_1]
        exact ⟨fun z => z.2.2.2, fun z => ⟨a2, b2, x3, z⟩⟩
      by_cases c1 : j < k
      · have l1 : nI j < nI k := nI_lt c1 (by omega)
        refine ⟨_, T, ⟨rfl, rfl⟩, fun d r => ?_⟩
        refine (b49_27 _ _ _ _ _ _).trans ?_
        rw [if_pos d1, b49_36, if_pos l1]
        exact go (Or.inr c1) d r
      · have l1 : ¬ nI j < nI k := nI_nlt (by omega) (by omega)
        rcases m41 T (show j < 10 by omega) with ⟨c, e⟩ | ⟨c, e⟩
        · have c' := (fr_lt h j).mp c
          have p0 : pA S k t j = 0 := if_neg (fun z => z.elim (fun z => z c') (fun z => c1 z))
          have p1 : sN (pA S k t) (j + 1) = sN (pA S k t) j := by show sN (pA S k t) j + pA S k t j = _; rw [p0]; rfl
          refine ⟨_, T, ⟨rfl, rfl⟩, fun d r => ?_⟩
          refine (b49_27 _ _ _ _ _ _).trans ?_
          rw [if_pos d1, b49_36, if_neg l1]
          simp (decide := true) only [b49_42, e, exists_eq_left, xtl, b49_48, b49_88, ↓reduceIte, nI_1, p1]
        · have c' : ¬ fr S j := fun z => c ((fr_lt h j).mpr z)
          refine ⟨_, T, ⟨rfl, rfl⟩, fun d r => ?_⟩
          refine (b49_27 _ _ _ _ _ _).trans ?_
          rw [if_pos d1, b49_36, if_neg l1]
          have g := go (Or.inl c') d
          simp (decide := true) only [b49_42, e, exists_eq_left, xtl, b49_48, ↓reduceIte, g]) _ U ⟨rfl, rfl⟩
    have z : ¬ nI (xN (S.1 2 0)) < U2.1 2 0 := by rw [h.n, hn1, xN_nI (by omega)]; exact nI_nlt (Nat.le_refl _) (by omega)
    refine Iff.trans ?_ ((e2 d r).trans ?_)
    · show xX (d + 1) 49 27 _ [] U2 r ↔ xX (d + 1) 49 27 [(0, .ref 40), (1, .ref 2), (2, .int (nI k)), (3, .int (nI c0)), (4, .int 0)] [] U2 r
      exact Iff.rfl
    · rw [b49_27, if_neg z, b49_94]
  intro d r
  by_cases c : t k = xN (S.1 5 k)
  · have c' : U.1 52 k = U.1 5 k := by rw [fk.2, f5, c]
    have := lp 0 d r
    rw [Nat.zero_add] at this
    have p : poN S ch k t = sN (pA S k t) (xN (S.1 2 0)) := by unfold poN; rw [if_pos c, Nat.zero_add]
    rw [p]
    refine Iff.trans ?_ this
    simp (decide := true) only [b49_0, a1, a2, c', ↓reduceIte, true_and, b49_15, nI_0]
  · have c' : ¬ U.1 52 k = U.1 5 k := by rw [fk.2, f5, nI_inj (by omega) (by omega)]; exact c
    have := lp ch d r
    have p : poN S ch k t = ch + sN (pA S k t) (xN (S.1 2 0)) := by unfold poN; rw [if_neg c]
    rw [p]
    refine Iff.trans ?_ this
    simp (decide := true) only [b49_0, a1, a2, c', ↓reduceIte, true_and, b49_19, hch]
noncomputable def kK (S : xS) : Nat := aA S 0 (t0 S) (xN (S.1 2 0))
def bX (S U : xS) (b : Option (Nat × (Nat → Nat))) : Prop := (b = none → U.1 40 4 = 1000000) ∧ ∀ x, b = some x → U.1 40 4 = nI (x.1 - kK S) ∧ kK S ≤ x.1 ∧ x.1 ≤ 104500 ∧ ∀ i, i < xN (S.1 2 0) → x.2 i ≤ 5 ∧ U.1 53 i = nI (x.2 i)
theorem bX_fr {S U U' : xS} {b : Option (Nat × (Nat → Nat))} (h1 : U'.1 40 = U.1 40) (h2 : U'.1 53 = U.1 53) (h : bX S U b) : bX S U' b := by
  unfold bX at *
  rw [h1, h2]; exact h
theorem bX_lt {S U : xS} {b : Option (Nat × (Nat → Nat))} (h : bX S U b) {q : Nat} (hq : kK S ≤ q) (hq2 : q ≤ 104500) : (nI (q - kK S) < U.1 40 4) ↔ bsT b q := by
  cases b with
  | none =>
    rw [h.1 rfl, show (1000000 : Int32) = nI 1000000 by decide, nI_ltI (by omega) (by omega)]
    exact ⟨fun _ x hx => absurd hx (by simp), fun _ => by omega⟩
  | some x =>
    obtain ⟨h1, h2, h3, h4⟩ := h.2 x rfl
    rw [h1, nI_ltI (by omega) (by omega)]
    exact ⟨fun z y hy => by have := Option.some.inj hy; subst this; omega, fun z => by have := z x rfl; omega⟩
/-- what a bough keeps -/
def gI (S : xS) (k : Nat) (t : Nat → Nat) : Prop := LG S t ∧ (∀ j, k ≤ j → j < xN (S.1 2 0) → fr S j → t j = 5) ∧ ∀ a, a < xN (S.1 2 0) → ¬ fr S a → t a = t0 S a
theorem gI_skip {S : xS} {k : Nat} {t : Nat → Nat} (h : gI S k t) : gI S (k + 1) t := ⟨h.1, fun j hj => h.2.1 j (by omega), h.2.2⟩
theorem gI_tU {S : xS} {k w : Nat} {t : Nat → Nat} (h : gI S k t) (hf : fr S k) (hL : LG S (tU t k w)) : gI S (k + 1) (tU t k w) := ⟨hL, fun j hj hn hfj => by rw [tU_ne _ _ _ _ (by omega)]; exact h.2.1 j (by omega) hn hfj, fun a ha hfa => by
  rw [tU_ne _ _ _ _ (fun z => hfa (by rw [z]; exact hf))]; exact h.2.2 a ha hfa⟩
theorem m50 {S : xS} (hS : xInv S) {ch : Nat} (hch : ch ≤ 10000) : ∀ m k U t b, k + m = xN (S.1 2 0) → plX S U t → gI S k t → bX S U b → bsT b (qN S ch k t) → U.1 40 5 = nI ch → ∃ U', plX S U' t ∧ bX S U' (gB S ch m k t b) ∧ U'.1 40 5 = nI ch ∧ ∀ (D : Nat) (r : Option Value × xS), m + 3 ≤ D → (xX D 50 0 [(0, .ref 40), (1, .ref 2), (2, .int (nI k)), (3, .int (nI (qN S ch k t - kK S)))] [] U r ↔ r = (none, U')) := by
  obtain ⟨hn, hn1, hn2⟩ := hS.cnt
  obtain ⟨hw, hw1, hw2⟩ := hS.now
  intro m
  induction m with
  | zero =>
    intro k U t b hk h hI hB hb h5
    have hkn : k = xN (S.1 2 0) := by omega
    subst hkn
    have ht : ∀ i, i < xN (S.1 2 0) → t i ≤ 5 := fun i hi => (h.2.2.1 i hi).1
    have q1 := qN_K0 hS (ch := ch) t hI.2.2 (xN (S.1 2 0))
    have q2 := qN_le hS hch ht (k := xN (S.1 2 0)) hn
    have c1 := (bX_lt hB q1 q2).mpr hb
    have c2 : ¬ nI (xN (S.1 2 0)) < U.1 2 0 := by rw [h.n, hn1, xN_nI (by omega)]; exact nI_nlt (Nat.le_refl _) (by omega)
    refine ⟨xcI (xwI U 40 4 (nI (qN S ch (xN (S.1 2 0)) t - kK S))) 52 0 53 0 10, ?_, ⟨fun z => absurd z (by simp [gB]), fun x hx => ?_⟩, ?_, fun D r hD => ?_⟩
    · obtain ⟨h1, h2, h3, h4, h5, h6⟩ := plX_40 h 4 (nI (qN S ch (xN (S.1 2 0)) t - kK S)) (by decide)
      refine ⟨LdR_fr (fun c hc => xcI_ne _ _ _ (by omega)) h1, LdO_fr (fun c hc => xcI_ne _ _ _ (by omega)) h2, fun i hi => ?_, fun c hc => (xcI_ne _ _ _ (by omega)).trans (h4 c hc), ?_, h6⟩
      · rw [xcI_ne _ _ _ (by decide)]; exact h3 i hi
      · rw [xcI_ne _ _ _ (by decide)]; exact h5
    · have hx' : (qN S ch (xN (S.1 2 0)) t, t) = x := Option.some.inj hx
      subst hx'
      refine ⟨?_, q1, q2, fun i hi => ⟨ht i hi, ?_⟩⟩
      · rw [xcI_ne _ _ _ (by decide), xrd_same, vupd_eq]
      · rw [xcI_get _ _ _ (by omega), xrd_ne _ _ _ _ _ (by decide)]; exact (h.2.2.1 i hi).2
    · rw [xcI_ne _ _ _ (by decide), xrd_same, vupd_ne _ _ _ _ (by decide)]; exact h5
    · rw [b50_0, if_pos c1, b50_9, if_neg c2, b50_17]
      exact ⟨fun z => z.2, fun z => ⟨by decide, z⟩⟩
  | succ m ih =>
    intro k U t b hk h hI hB hb h5
    have hkn : k < xN (S.1 2 0) := by omega
    have ht : ∀ i, i < xN (S.1 2 0) → t i ≤ 5 := fun i hi => (h.2.2.1 i hi).1
    have q1 := qN_K0 hS (ch := ch) t hI.2.2 k
    have q2 := qN_le hS hch ht (k := k) (by omega)
    have c1 := (bX_lt hB q1 q2).mpr hb
    have c2 : nI k < U.1 2 0 := by rw [h.n, hn1]; exact nI_lt hkn (by omega)
    rcases m41 U (show k < 10 by omega) with ⟨c, e⟩ | ⟨c, e⟩
    case inr =>
      have c' : ¬ fr S k := fun z => c ((fr_lt h k).mpr z)
      have eg : gB S ch (m + 1) k t b = gB S ch m (k + 1) t b := if_neg c'
      have eq := qN_skip (ch := ch) c' t
      obtain ⟨U', i1, i2, i3, i4⟩ := ih (k + 1) U t b (by omega) h (gI_skip hI) hB (by rw [eq]; exact hb) h5
      refine ⟨U', i1, by rw [eg]; exact i2, i3, fun D r hD => ?_⟩
      obtain ⟨D', rfl⟩ : ∃ D', D = D' + 1 := ⟨D - 1, by omega⟩
      have i4' := fun r => i4 D' r (by omega)
      rw [eq] at i4'
      rw [b50_0, if_pos c1, b50_9, if_pos c2]
      simp (decide := true) only [b50_38, e, exists_eq_left, xtl, xtl0, b50_43, b50_46, nI_1, i4', b50_55, ↓reduceIte]
    have c' := (fr_lt h k).mp c
    have t5 := hI.2.1 k (Nat.le_refl _) hkn c'
    have eg : gB S ch (m + 1) k t b = wF (fun w b => @ite _ (LG S (tU t k w) ∧ bsT b (qN S ch (k + 1) (tU t k w))) (Classical.propDecidable _) (gB S ch m (k + 1) (tU t k w) b) b) (5 - xN (S.1 0 10)) (xN (S.1 0 10)) b := if_pos c'
    have lp : ∀ q w U b, w + q = 5 → plX S U t → bX S U b → U.1 40 5 = nI ch → ∃ U', plX S U' t ∧ bX S U' (wF (fun w b => @ite _ (LG S (tU t k w) ∧ bsT b (qN S ch (k + 1) (tU t k w))) (Classical.propDecidable _) (gB S ch m (k + 1) (tU t k w) b) b) q w b) ∧ U'.1 40 5 = nI ch ∧ ∀ (D : Nat) (r : Option Value × xS), m + 1 + 3 ≤ D → (xX D 50 62 [(0, .ref 40), (1, .ref 2), (2, .int (nI k)), (3, .int (nI (qN S ch k t - kK S))), (4, .int (nI w))] [] U r ↔ r = (none, U')) := by
      intro q
      induction q with
      | zero =>
        intro w U b hw h hB h5
        have : w = 5 := by omega
        subst this
        have n5 : ¬ nI 5 < 5 := by decide
        exact ⟨U, h, hB, h5, fun D r _ => by rw [b50_62, if_neg n5, b50_116]⟩
      | succ q ihq =>
        intro w U b hw h hB h5
        have hw5 : w < 5 := by omega
        have d1 : nI w < 5 := nI_lt (a := w) (b := 5) hw5 (by omega)
        rcases m35X hS h hI.1 hkn t5 hw5 with ⟨c3, e3⟩ | ⟨c3, e3⟩
        · obtain ⟨U1, p1, x1, x2, e1⟩ := m48 hS h hkn (Nat.le_of_lt hw5)
          have hB1 := bX_fr x1 x2 hB
          have h51 : U1.1 40 5 = nI ch := by rw [x1]; exact h5
          have e49 := m49 hS p1 h51 hkn
          have hI1 := gI_tU hI c' c3
          have ht1 : ∀ i, i < xN (S.1 2 0) → tU t k w i ≤ 5 := fun i hi => (p1.2.2.1 i hi).1
          have r1 := qN_K0 hS (ch := ch) (tU t k w) hI1.2.2 (k + 1)
          have r2 := qN_le hS hch ht1 (k := k + 1) (by omega)
          have qs := qN_step hS (ch := ch) hkn c' t w
          have qe : nI (qN S ch k t - kK S) + nI (poN S ch k (tU t k w)) = nI (qN S ch (k + 1) (tU t k w) - kK S) := by
            have q1' : kK S ≤ qN S ch k t := q1
            rw [nI_add, qs]; congr 1; omega
          have sub : ∃ U2, plX S U2 (tU t k w) ∧ bX S U2 (@ite _ (LG S (tU t k w) ∧ bsT b (qN S ch (k + 1) (tU t k w))) (Classical.propDecidable _) (gB S ch m (k + 1) (tU t k w) b) b) ∧ U2.1 40 5 = nI ch ∧ ∀ (D : Nat) (r : Option Value × xS), m + 3 ≤ D → (xX D 50 0 [(0, .ref 40), (1, .ref 2), (2, .int (nI (k + 1))), (3, .int (nI (qN S ch (k + 1) (tU t k w) - kK S)))] [] U1 r ↔ r = (none, U2)) := by
            by_cases c4 : bsT b (qN S ch (k + 1) (tU t k w))
            · rw [if_pos ⟨c3, c4⟩]
              exact ih (k + 1) U1 (tU t k w) b (by omega) p1 hI1 hB1 c4 h51
            · rw [if_neg (fun z => c4 z.2)]
              have c5 : ¬ nI (qN S ch (k + 1) (tU t k w) - kK S) < U1.1 40 4 := fun z => c4 ((bX_lt hB1 r1 r2).mp z)
              exact ⟨U1, p1, hB1, h51, fun D r _ => by rw [b50_0, if_neg c5, b50_8]⟩
          obtain ⟨U2, p2, hB2, h52, e2⟩ := sub
          obtain ⟨U3, p3, y1, y2, e4⟩ := m48 hS p2 hkn (Nat.le_refl 5)
          rw [tU_tU, ← t5, tU_id] at p3
          obtain ⟨U', i1, i2, i3, i4⟩ := ihq (w + 1) U3 _ (by omega) p3 (bX_fr y1 y2 hB2) (by rw [y1]; exact h52)
          refine ⟨U', i1, i2, i3, fun D r hD => ?_⟩
          obtain ⟨D', rfl⟩ : ∃ D', D = D' + 2 + 1 := ⟨D - 3, by omega⟩
          have i4' := i4 (D' + 2 + 1) r hD
          have e2' := fun r => e2 (D' + 2) r (by omega)
          have e1' := e1 D'
          have e4' := e4 D'
          have e49' := e49 (D' + 1)
          have n5 : nI 5 = 5 := rfl
          rw [n5] at e4'
          refine Iff.trans ?_ i4'
          rw [b50_62, if_pos d1]
          simp (decide := true) only [b50_68, e3, exists_eq_left, xtl, xtl0, b50_78, b50_81, e1', b50_88, e49', b50_100, nI_1, qe, e2', b50_104, e4', b50_110, ↓reduceIte]
        · have ecd : (@ite _ (LG S (tU t k w) ∧ bsT b (qN S ch (k + 1) (tU t k w))) (Classical.propDecidable _) (gB S ch m (k + 1) (tU t k w) b) b) = b := if_neg (fun z => c3 z.1)
          obtain ⟨U', i1, i2, i3, i4⟩ := ihq (w + 1) U b (by omega) h hB h5
          refine ⟨U', i1, ?_, i3, fun D r hD => ?_⟩
          · show bX S U' (wF _ q (w + 1) (@ite _ (LG S (tU t k w) ∧ bsT b (qN S ch (k + 1) (tU t k w))) (Classical.propDecidable _) (gB S ch m (k + 1) (tU t k w) b) b))
            rw [ecd]; exact i2
          · obtain ⟨D', rfl⟩ : ∃ D', D = D' + 1 := ⟨D - 1, by omega⟩
            have i4' := i4 (D' + 1) r hD
            refine Iff.trans ?_ i4'
            rw [b50_62, if_pos d1]
            simp (decide := true) only [b50_68, e3, exists_eq_left, xtl, xtl0, b50_78, b50_110, nI_1, ↓reduceIte]
    obtain ⟨U', i1, i2, i3, i4⟩ := lp (5 - xN (S.1 0 10)) (xN (S.1 0 10)) U b (by omega) h hB h5
    have f3 : U.1 40 3 = nI (xN (S.1 0 10)) := by rw [h.2.2.2.2.1]; exact hw1
    refine ⟨U', i1, by rw [eg]; exact i2, i3, fun D r hD => ?_⟩
    obtain ⟨D', rfl⟩ : ∃ D', D = D' + 1 := ⟨D - 1, by omega⟩
    have i4' := i4 (D' + 1) r (by omega)
    refine Iff.trans ?_ i4'
    rw [b50_0, if_pos c1, b50_9, if_pos c2]
    simp (decide := true) only [b50_38, e, exists_eq_left, xtl, xtl0, b50_43, b50_56, f3, ↓reduceIte]
