/-! plans: by swaps, the class's exchanges and rounds -/
theorem fr_lt {S U : xS} {t : Nat → Nat} (h : plX S U t) (k : Nat) : fr U k ↔ fr S k := fr_X h.2.2.2.1 k
theorem m57 {S U : xS} (hS : xInv S) {t : Nat → Nat} (h : plX S U t) (hr : rpX U (mvK S t (xN (S.1 2 0)))) : ∃ U', plX S U' t ∧ rpX U' (exA S t (xN (S.1 2 0))) ∧ ∀ (d : Nat) (r : Option Value × xS), xX (d + 4) 57 0 [(0, .ref 40), (1, .ref 2)] [] U r ↔ r = (none, U') := by
  obtain ⟨hn, hn1, hn2⟩ := hS.cnt
  have ht : ∀ k, k < xN (S.1 2 0) → t k ≤ 5 := fun k hk => (h.2.2.1 k hk).1
  have hcn := cN_le hS ht
  obtain ⟨l2, U2, ⟨rfl, p2, r2⟩, e2⟩ := xX_loopD (e := 4) (f := 57) (pc := 2) (st := []) (fun a l T => l = [(0, .ref 40), (1, .ref 2), (2, .int (nI a))] ∧ plX S T t ∧ rpX T (exA S t a)) (xN (S.1 2 0)) (by
    rintro a ha l T ⟨rfl, hT, hrT⟩
    have a1 : (nI a).toNatClampNeg = a := nI_clamp (by omega)
    have a2 := vp_in_nI (show a < 10 by omega) (by omega : 10 < 2 ^ 31)
    have d1 : nI a < T.1 2 0 := by rw [hT.n, hn1]; exact nI_lt ha (by omega)
    obtain ⟨l3, U3, ⟨rfl, p3, r3⟩, e3⟩ := xX_loopD (e := 4) (f := 57) (pc := 14) (st := []) (fun j l T => l = [(0, .ref 40), (1, .ref 2), (2, .int (nI a)), (3, .int (nI (a + 1 + j)))] ∧ plX S T t ∧ rpX T (exB S t a (exA S t a) j)) (xN (S.1 2 0) - (a + 1)) (by
      rintro j hj l T ⟨rfl, hT, hrT⟩
      have hb : a + 1 + j < xN (S.1 2 0) := by omega
      have b1 : (nI (a + 1 + j)).toNatClampNeg = a + 1 + j := nI_clamp (by omega)
      have b2 := vp_in_nI (show a + 1 + j < 10 by omega) (by omega : 10 < 2 ^ 31)
      have en : nI (a + 1 + j) + 1 = nI (a + 1 + (j + 1)) := by rw [nI_1]; rfl
      have d1 : nI (a + 1 + j) < T.1 2 0 := by rw [hT.n, hn1]; exact nI_lt hb (by omega)
      have hv : vC S t (exB S t a (exA S t a) j) := exB_v (exA_v hS a (by omega)) j (by omega)
      rcases m41 T (show a < 10 by omega) with ⟨c, e⟩ | ⟨c, e⟩
      case inr =>
        have em : exB S t a (exA S t a) (j + 1) = exB S t a (exA S t a) j := if_neg (fun z => c ((fr_lt hT a).mpr z.1))
        refine ⟨_, T, ⟨rfl, hT, by rw [em]; exact hrT⟩, fun d r => ?_⟩
        refine (b57_14 _ _ _ _ _).trans ?_
        rw [if_pos d1]
        simp (decide := true) only [b57_22, e, exists_eq_left, xtl, b57_27, b57_68, ↓reduceIte, en]
      rcases m41 T (show a + 1 + j < 10 by omega) with ⟨c', e'⟩ | ⟨c', e'⟩
      case inr =>
        have em : exB S t a (exA S t a) (j + 1) = exB S t a (exA S t a) j := if_neg (fun z => c' ((fr_lt hT _).mpr z.2))
        refine ⟨_, T, ⟨rfl, hT, by rw [em]; exact hrT⟩, fun d r => ?_⟩
        refine (b57_14 _ _ _ _ _).trans ?_
        rw [if_pos d1]
        simp (decide := true) only [b57_22, e, e', exists_eq_left, xtl, b57_27, b57_30, b57_35, b57_68, ↓reduceIte, en]
      have em : exB S t a (exA S t a) (j + 1) = cdS S t (exB S t a (exA S t a) j) (a, a + 1 + j, 0) := if_pos ⟨(fr_lt hT a).mp c, (fr_lt hT _).mp c'⟩
      have hab : a ≠ a + 1 + j := by omega
      obtain ⟨U1, p1, q1, e1⟩ := m56 hS hT hab ha hb
      have hr1 := rpX_fr q1 hrT
      rcases m54 hS p1 (Nat.le_trans hv.1 hcn) hr1.1 with ⟨c1, c2, e2⟩ | ⟨c1, e2⟩
      · have ecd : cdS S t (exB S t a (exA S t a) j) (a, a + 1 + j, 0) = (cN S (ap t (a, a + 1 + j, 0)), some (a, a + 1 + j, 0)) := by
          rw [← ap_ex t (by omega)] at c1 c2
          exact if_pos ⟨c1, c2⟩
        obtain ⟨U2, p2, q2, e4⟩ := m56 hS (plX_40 (plX_40 (plX_40 p1 6 (nI (cN S (tU (tU t a (t (a + 1 + j))) (a + 1 + j) (t a)))) (by decide)) 7 (nI a) (by decide)) 8 (nI (a + 1 + j)) (by decide)) hab ha hb
        rw [sw_sw t hab] at p2
        refine ⟨_, U2, ⟨rfl, p2, ?_⟩, fun d r => ?_⟩
        · rw [em, ecd, ap_ex t (by omega)]
          exact rpX_fr q2 (rpX_2 U1 _ a (a + 1 + j) (by omega))
        · refine (b57_14 _ _ _ _ _).trans ?_
          rw [if_pos d1]
          have e2' := e2 (d + 2)
          simp (decide := true) only [b57_22, e, e', exists_eq_left, xtl, xtl0, b57_27, b57_30, b57_35, b57_38, e1, b57_44, e2', b57_49, b57_52, e4, b57_68, ↓reduceIte, en, true_and]
      · have ecd : cdS S t (exB S t a (exA S t a) j) (a, a + 1 + j, 0) = exB S t a (exA S t a) j := by
          rw [← ap_ex t (by omega)] at c1
          exact if_neg c1
        obtain ⟨U2, p2, q2, e4⟩ := m56 hS p1 hab ha hb
        rw [sw_sw t hab] at p2
        refine ⟨_, U2, ⟨rfl, p2, ?_⟩, fun d r => ?_⟩
        · rw [em, ecd]; exact rpX_fr q2 hr1
        · refine (b57_14 _ _ _ _ _).trans ?_
          rw [if_pos d1]
          have e2' := e2 (d + 2)
          simp (decide := true) only [b57_22, e, e', exists_eq_left, xtl, xtl0, b57_27, b57_30, b57_35, b57_38, e1, b57_44, e2', b57_49, b57_62, e4, b57_68, ↓reduceIte, en, true_and]) _ T ⟨rfl, hT, hrT⟩
    refine ⟨_, U3, ⟨rfl, p3, r3⟩, fun d r => ?_⟩
    refine (b57_2 _ _ _ _).trans ?_
    rw [if_pos d1, b57_10, nI_1]
    refine (e3 d r).trans ?_
    have z : ¬ nI (a + 1 + (xN (S.1 2 0) - (a + 1))) < U3.1 2 0 := by rw [p3.n, hn1, xN_nI (by omega)]; exact nI_nlt (by omega) (by omega)
    rw [b57_14, if_neg z, b57_74, nI_1]) _ U ⟨rfl, h, hr⟩
  refine ⟨U2, p2, r2, fun d r => ?_⟩
  rw [b57_0, ← nI_0]
  refine (e2 d r).trans ?_
  rw [b57_2, p2.n, hn1, xN_nI (by omega), if_neg (nI_nlt (Nat.le_refl _) (by omega)), b57_80]
theorem m58 {S : xS} (hS : xInv S) : ∀ m j U t, cN S t < m → cN S t + j ≤ 4500 → plX S U t → plK S t → ∃ U', plX S U' (gS S m t) ∧ ∀ (d : Nat) (r : Option Value × xS), xX (d + 5) 58 2 [(0, .ref 40), (1, .ref 2), (2, .int (nI j))] [] U r ↔ r = (none, U') := by
  intro m
  induction m with
  | zero => intro j U t h; exact absurd h (Nat.not_lt_zero _)
  | succ m ih =>
    intro j U t hm hj h hK
    have hn := hS.cnt.1
    have d1 : nI j < 5000 := by rw [show (5000 : Int32) = nI 5000 by decide]; exact nI_lt (by omega) (by omega)
    have ce := h.cost hS
    have h1 := plX_40 (plX_40 h 6 (nI (cN S t)) (by decide)) 7 (-1) (by decide)
    obtain ⟨U1, p1, r1, e1⟩ := m55 hS h1 ⟨by simp (decide := true) only [xrd_same, vupd_ne, vupd_eq], fun _ => by simp (decide := true) only [xrd_same, vupd_eq], fun _ _ _ z => absurd z (by simp)⟩
    obtain ⟨U2, p2, r2, e2⟩ := m57 hS p1 r1
    have hv := exA_v hS (t := t) (xN (S.1 2 0)) (Nat.le_refl _)
    have st : ∀ (d : Nat) (r : Option Value × xS), xX (d + 5) 58 2 [(0, .ref 40), (1, .ref 2), (2, .int (nI j))] [] U r ↔ xX (d + 5) 58 36 [(0, .ref 40), (1, .ref 2), (2, .int (nI j))] [] U2 r := fun d r => by
      refine (b58_2 _ _ _ _).trans ?_
      rw [if_pos d1]
      have e1' := e1 (d + 1)
      simp only [b58_9, ce, exists_eq_left, xtl, xtl0, b58_18, e1', b58_31, e2]
    unfold gS
    cases ex : (exA S t (xN (S.1 2 0))).2 with
    | none =>
      have c1 := r2.2.1 ex
      refine ⟨U2, p2, fun d r => (st d r).trans ?_⟩
      rw [b58_36, if_pos c1, b58_44]
    | some x =>
      obtain ⟨a, b, w⟩ := x
      obtain ⟨c1, c2, c3⟩ := r2.2.2 a b w ex
      obtain ⟨v1, v2, v3, v4⟩ := hv.2 _ ex
      have hK' := ap_K hS hK v1 v2
      rcases v1 with ⟨y1, y2, y3, y4, y5⟩ | ⟨y1, y2, y3, y4⟩
      · have hb : b = 100 := y1
        obtain ⟨z1, z2⟩ := c2 hb
        obtain ⟨U3, p3, -, -, e3⟩ := m48 hS p2 (k := a) (w := w) y2 (by have : w < 5 := y5; omega)
        have ea : ap t (a, b, w) = tU t a w := if_pos hb
        show ∃ U', plX S U' (gS S m (ap t (a, b, w))) ∧ _
        rw [ea] at v3 hK' ⊢
        obtain ⟨U', i1, i2⟩ := ih (j + 1) U3 (tU t a w) (by omega) (by omega) p3 hK'
        refine ⟨U', i1, fun d r => (st d r).trans (Iff.trans ?_ (i2 d r))⟩
        have n1 : ¬ nI a = -1 := nI_nem1 (by have : a < xN (S.1 2 0) := y2; omega)
        have e3' := e3 (d + 2)
        simp (decide := true) only [b58_36, c1, n1, b58_45, z1, b58_53, z2, e3', exists_eq_left, xtl0, b58_65, ↓reduceIte, nI_1]
      · have hb : b < xN (S.1 2 0) := y2
        have hab : a < b := y1
        have z1 := c3 (by omega)
        obtain ⟨U3, p3, -, e3⟩ := m56 hS p2 (a := a) (b := b) (by omega) (by omega) hb
        have ea : ap t (a, b, w) = tU (tU t a (t b)) b (t a) := if_neg (by show ¬ b = 100; omega)
        show ∃ U', plX S U' (gS S m (ap t (a, b, w))) ∧ _
        rw [ea] at v3 hK' ⊢
        obtain ⟨U', i1, i2⟩ := ih (j + 1) U3 _ (by omega) (by omega) p3 hK'
        refine ⟨U', i1, fun d r => (st d r).trans (Iff.trans ?_ (i2 d r))⟩
        have n1 : ¬ nI a = -1 := nI_nem1 (by omega)
        have n2 : ¬ nI b = -1 := nI_nem1 (by omega)
        have e3' := e3 (d + 1)
        simp (decide := true) only [b58_36, c1, n1, b58_45, z1, n2, b58_68, e3', exists_eq_left, xtl0, b58_80, ↓reduceIte, nI_1]
