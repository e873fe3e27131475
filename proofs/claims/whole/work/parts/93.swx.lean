/-! plans: by swaps, the class -/
def rpX (U : xS) (x : (Nat × Option (Nat × Nat × Nat))) : Prop := U.1 40 6 = nI x.1 ∧ (x.2 = none → U.1 40 7 = -1) ∧ ∀ a b w, x.2 = some (a, b, w) → U.1 40 7 = nI a ∧ (b = 100 → U.1 40 8 = -1 ∧ U.1 40 9 = nI w) ∧ (b ≠ 100 → U.1 40 8 = nI b)
theorem rpX_fr {U U' : xS} {x : (Nat × Option (Nat × Nat × Nat))} (h : U'.1 40 = U.1 40) (hr : rpX U x) : rpX U' x := by
  unfold rpX at *
  rw [h]; exact hr
theorem rpX_1 (U : xS) (L k w : Nat) : rpX (xwI (xwI (xwI (xwI U 40 6 (nI L)) 40 7 (nI k)) 40 8 (-1)) 40 9 (nI w)) (L, some (k, 100, w)) := by
  refine ⟨?_, fun z => absurd z (by simp), fun a b w' z => ?_⟩
  · simp (decide := true) only [xrd_same, vupd_ne, vupd_eq]
  · have z' := Option.some.inj z
    obtain ⟨rfl, z2⟩ := Prod.mk.inj z'
    obtain ⟨rfl, rfl⟩ := Prod.mk.inj z2
    refine ⟨?_, fun _ => ⟨?_, ?_⟩, fun y => absurd rfl y⟩ <;> simp (decide := true) only [xrd_same, vupd_ne, vupd_eq]
theorem rpX_2 (U : xS) (L a b : Nat) (hb : b ≠ 100) : rpX (xwI (xwI (xwI U 40 6 (nI L)) 40 7 (nI a)) 40 8 (nI b)) (L, some (a, b, 0)) := by
  refine ⟨?_, fun z => absurd z (by simp), fun a b w' z => ?_⟩
  · simp (decide := true) only [xrd_same, vupd_ne, vupd_eq]
  · have z' := Option.some.inj z
    obtain ⟨rfl, z2⟩ := Prod.mk.inj z'
    obtain ⟨rfl, rfl⟩ := Prod.mk.inj z2
    refine ⟨?_, fun y => absurd y hb, fun _ => ?_⟩ <;> simp (decide := true) only [xrd_same, vupd_ne, vupd_eq]
theorem plX_40 {S U : xS} {t : Nat → Nat} (h : plX S U t) (j : Nat) (v : Int32) (hj : j ≠ 3) : plX S (xwI U 40 j v) t := by
  obtain ⟨h1, h2, h3, h4, h5, h6⟩ := h
  refine ⟨LdR_fr (fun c hc => xrd_ne _ _ _ _ _ (by omega)) h1, LdO_fr (fun c hc => xrd_ne _ _ _ _ _ (by omega)) h2, fun k hk => ?_, fun c hc => (xrd_ne _ _ _ _ _ (by omega)).trans (h4 c hc), ?_, h6⟩
  · rw [xrd_ne _ _ _ _ _ (by decide)]; exact h3 k hk
  · rw [xrd_same, vupd_ne _ _ _ _ (Ne.symm hj)]; exact h5
theorem scan54 {S U : xS} (hS : xInv S) {t : Nat → Nat} (h : plX S U t) (c : Int32) : ∀ m, m ≤ 5 → ((∀ v, 5 - m ≤ v → v < 5 → aLg S t v) ∧ ∀ (d : Nat) (r : Option Value × xS), xX (d + 1) 54 21 [(0, .ref 40), (2, .int c), (3, .int (nI (5 - m)))] [] U r ↔ r = (some (.int 1), xwI U 40 6 c)) ∨ (¬ (∀ v, 5 - m ≤ v → v < 5 → aLg S t v) ∧ ∀ (d : Nat) (r : Option Value × xS), xX (d + 1) 54 21 [(0, .ref 40), (2, .int c), (3, .int (nI (5 - m)))] [] U r ↔ r = (some (.int 0), U)) := by
  have f : ∀ c, c < 40 → U.1 c = S.1 c := fun c hc => h.2.2.2.1 c (Or.inl hc)
  have n5 : ¬ nI 5 < 5 := by decide
  intro m
  induction m with
  | zero =>
    intro _
    refine Or.inl ⟨fun v h1 h2 => absurd h1 (by omega), fun d r => ?_⟩
    rw [b54_21, if_neg n5, b54_45]
    simp only [xbit_1, true_and]
  | succ m ih =>
    intro hm
    generalize hv : 5 - (m + 1) = v at *
    have hv5 : v < 5 := by omega
    have e5 : 5 - m = v + 1 := by omega
    rw [e5] at ih
    have d1 : nI v < 5 := nI_lt (a := v) (b := 5) hv5 (by omega)
    have q := m34 U (h.R hS) (t := t) (v := v) (by rw [h.n]; exact h.1) (by rw [h.n]; exact h.2.1) hv5
    rw [aLg_fr f] at q
    rcases q with ⟨c1, e⟩ | ⟨c1, e⟩
    · have st : ∀ (d : Nat) (r : Option Value × xS), xX (d + 1) 54 21 [(0, .ref 40), (2, .int c), (3, .int (nI v))] [] U r ↔ xX (d + 1) 54 21 [(0, .ref 40), (2, .int c), (3, .int (nI (v + 1)))] [] U r := fun d r => by
        refine (b54_21 _ _ _ _ _).trans ?_
        rw [if_pos d1]
        simp (decide := true) only [b54_26, e, exists_eq_left, xtl, b54_34, b54_39, ↓reduceIte, nI_1]
      rcases ih (by omega) with ⟨i1, i2⟩ | ⟨i1, i2⟩
      · refine Or.inl ⟨fun x hx1 hx2 => ?_, fun d r => (st d r).trans (i2 d r)⟩
        by_cases e : x = v
        · subst e; exact c1
        · exact i1 x (by omega) hx2
      · exact Or.inr ⟨fun z => i1 (fun x hx1 hx2 => z x (by omega) hx2), fun d r => (st d r).trans (i2 d r)⟩
    · refine Or.inr ⟨fun z => c1 (z v (Nat.le_refl _) hv5), fun d r => ?_⟩
      refine (b54_21 _ _ _ _ _).trans ?_
      rw [if_pos d1]
      simp (decide := true) only [b54_26, e, exists_eq_left, xtl, b54_34, b54_37, ↓reduceIte, xbit_0, true_and]
theorem m54 {S U : xS} (hS : xInv S) {t : Nat → Nat} (h : plX S U t) {L : Nat} (hL : L ≤ 4500) (h6 : U.1 40 6 = nI L) : (cN S t < L ∧ LG S t ∧ ∀ (d : Nat) (r : Option Value × xS), xX (d + 1) 54 0 [(0, .ref 40), (1, .ref 2)] [] U r ↔ r = (some (.int 1), xwI U 40 6 (nI (cN S t)))) ∨ (¬ (cN S t < L ∧ LG S t) ∧ ∀ (d : Nat) (r : Option Value × xS), xX (d + 1) 54 0 [(0, .ref 40), (1, .ref 2)] [] U r ↔ r = (some (.int 0), U)) := by
  have hc := cN_le hS (t := t) (fun k hk => (h.2.2.1 k hk).1)
  have e := h.cost hS
  have cc : (nI (cN S t) < U.1 40 6) ↔ cN S t < L := by rw [h6]; exact nI_ltI (by omega) (by omega)
  by_cases c1 : cN S t < L
  · have st : ∀ (d : Nat) (r : Option Value × xS), xX (d + 1) 54 0 [(0, .ref 40), (1, .ref 2)] [] U r ↔ xX (d + 1) 54 21 [(0, .ref 40), (2, .int (nI (cN S t))), (3, .int (nI (5 - 5)))] [] U r := fun d r => by
      have c1' := cc.mpr c1
      have z : nI (5 - 5) = 0 := rfl
      simp only [b54_0, e, exists_eq_left, xtl, b54_8, c1', ↓reduceIte, b54_19, z]
    rcases scan54 hS h (nI (cN S t)) 5 (Nat.le_refl _) with ⟨i1, i2⟩ | ⟨i1, i2⟩
    · exact Or.inl ⟨c1, fun v hv => i1 v (by omega) hv, fun d r => (st d r).trans (i2 d r)⟩
    · exact Or.inr ⟨fun z => i1 (fun v _ hv => z.2 v hv), fun d r => (st d r).trans (i2 d r)⟩
  · refine Or.inr ⟨fun z => c1 z.1, fun d r => ?_⟩
    have c1' : ¬ nI (cN S t) < U.1 40 6 := fun z => c1 (cc.mp z)
    simp only [b54_0, e, exists_eq_left, xtl, b54_8, c1', ↓reduceIte, b54_17, xbit_0, true_and]
theorem tU_tU (t : Nat → Nat) (k a b : Nat) : tU (tU t k a) k b = tU t k b := by
  funext i
  unfold tU
  by_cases e : i = k
  · rw [if_pos e, if_pos e]
  · rw [if_neg e, if_neg e, if_neg e]
theorem tU_id (t : Nat → Nat) (k : Nat) : tU t k (t k) = t := by
  funext i
  unfold tU
  by_cases e : i = k
  · rw [if_pos e, e]
  · rw [if_neg e]
theorem ap_mv (t : Nat → Nat) (k w : Nat) : ap t (k, 100, w) = tU t k w := if_pos rfl
theorem in55 {S : xS} (hS : xInv S) {t : Nat → Nat} (ht : ∀ k, k < xN (S.1 2 0) → t k ≤ 5) {k : Nat} (hk : k < xN (S.1 2 0)) (hf : fr S k) : ∀ m w x U cur, w + m = 5 → xN (S.1 0 10) ≤ w → plX S U cur → (∀ z, tU cur k z = tU t k z) → rpX U x → vC S t x → ∃ U' cur', plX S U' cur' ∧ (∀ z, tU cur' k z = tU t k z) ∧ rpX U' (mvW S t k m w x) ∧ ∀ (d : Nat) (r : Option Value × xS), xX (d + 3) 55 31 [(0, .ref 40), (1, .ref 2), (2, .int (nI k)), (3, .int (nI (t k))), (4, .int (nI w))] [] U r ↔ xX (d + 3) 55 74 [(0, .ref 40), (1, .ref 2), (2, .int (nI k)), (3, .int (nI (t k)))] [] U' r := by
  intro m
  induction m with
  | zero =>
    intro w x U cur hw hn h hc hr hv
    have : w = 5 := by omega
    subst this
    have n5 : ¬ nI 5 < 5 := by decide
    refine ⟨U, cur, h, hc, hr, fun d r => ?_⟩
    rw [b55_31, if_neg n5]
  | succ m ih =>
    intro w x U cur hw hn h hc hr hv
    have hw5 : w < 5 := by omega
    have d1 : nI w < 5 := nI_lt (a := w) (b := 5) hw5 (by omega)
    obtain ⟨U1, p1, q1, -, e1⟩ := m48 hS h hk (Nat.le_of_lt hw5)
    rw [hc w] at p1
    have hr1 : rpX U1 x := rpX_fr q1 hr
    have hb : x.1 ≤ 4500 := Nat.le_trans hv.1 (cN_le hS ht)
    have hva : vA S (k, 100, w) := Or.inl ⟨rfl, hk, hf, hn, hw5⟩
    have hv' := cdS_v (a := (k, 100, w)) hv hva
    rcases m54 hS p1 hb hr1.1 with ⟨c1, c2, e2⟩ | ⟨c1, e2⟩
    · have ecd : cdS S t x (k, 100, w) = (cN S (tU t k w), some (k, 100, w)) := by
        unfold cdS; rw [ap_mv, if_pos ⟨c1, c2⟩]
      rw [ecd] at hv'
      obtain ⟨U', cur', i1, i2, i3, i4⟩ := ih (w + 1) _ (xwI (xwI (xwI (xwI U1 40 6 (nI (cN S (tU t k w)))) 40 7 (nI k)) 40 8 (-1)) 40 9 (nI w)) (tU t k w) (by omega) (by omega) (plX_40 (plX_40 (plX_40 (plX_40 p1 6 _ (by decide)) 7 _ (by decide)) 8 _ (by decide)) 9 _ (by decide)) (fun z => tU_tU t k w z) (rpX_1 _ _ _ _) hv'
      refine ⟨U', cur', i1, i2, ?_, fun d r => ?_⟩
      · show rpX U' (mvW S t k m (w + 1) (cdS S t x (k, 100, w)))
        rw [ecd]; exact i3
      · refine (b55_31 _ _ _ _ _ _).trans ?_
        rw [if_pos d1]
        have e2' := e2 (d + 1)
        refine Iff.trans ?_ (i4 d r)
        simp (decide := true) only [b55_37, e1, exists_eq_left, xtl, xtl0, b55_44, e2', b55_49, b55_52, ↓reduceIte, nI_1]
    · have ecd : cdS S t x (k, 100, w) = x := by
        unfold cdS; rw [ap_mv, if_neg c1]
      obtain ⟨U', cur', i1, i2, i3, i4⟩ := ih (w + 1) x U1 (tU t k w) (by omega) (by omega) p1 (fun z => tU_tU t k w z) hr1 hv
      refine ⟨U', cur', i1, i2, ?_, fun d r => ?_⟩
      · show rpX U' (mvW S t k m (w + 1) (cdS S t x (k, 100, w)))
        rw [ecd]; exact i3
      · refine (b55_31 _ _ _ _ _ _).trans ?_
        rw [if_pos d1]
        have e2' := e2 (d + 1)
        refine Iff.trans ?_ (i4 d r)
        simp (decide := true) only [b55_37, e1, exists_eq_left, xtl, xtl0, b55_44, e2', b55_49, b55_68, ↓reduceIte, nI_1]
theorem m55 {S U : xS} (hS : xInv S) {t : Nat → Nat} (h : plX S U t) (hr : rpX U (cN S t, none)) : ∃ U', plX S U' t ∧ rpX U' (mvK S t (xN (S.1 2 0))) ∧ ∀ (d : Nat) (r : Option Value × xS), xX (d + 3) 55 0 [(0, .ref 40), (1, .ref 2)] [] U r ↔ r = (none, U') := by
  obtain ⟨hn, hn1, hn2⟩ := hS.cnt
  obtain ⟨hw, hw1, hw2⟩ := hS.now
  have ht : ∀ k, k < xN (S.1 2 0) → t k ≤ 5 := fun k hk => (h.2.2.1 k hk).1
  obtain ⟨l2, U2, ⟨rfl, p2, r2⟩, e2⟩ := xX_loopD (e := 3) (f := 55) (pc := 2) (st := []) (fun j l T => l = [(0, .ref 40), (1, .ref 2), (2, .int (nI j))] ∧ plX S T t ∧ rpX T (mvK S t j)) (xN (S.1 2 0)) (by
    rintro j hj l T ⟨rfl, hT, hrT⟩
    have a1 : (nI j).toNatClampNeg = j := nI_clamp (by omega)
    have a2 := vp_in_nI (show j < 10 by omega) (by omega : 10 < 2 ^ 31)
    have d1 : nI j < T.1 2 0 := by rw [hT.n, hn1]; exact nI_lt hj (by omega)
    rcases m41 T (show j < 10 by omega) with ⟨c, e⟩ | ⟨c, e⟩
    · have c' := (fr_X hT.2.2.2.1 j).mp c
      have em : mvK S t (j + 1) = mvW S t j (5 - xN (S.1 0 10)) (xN (S.1 0 10)) (mvK S t j) := if_pos c'
      obtain ⟨U1, cur, i1, i2, i3, i4⟩ := in55 hS ht hj c' (5 - xN (S.1 0 10)) (xN (S.1 0 10)) (mvK S t j) T t (by omega) (Nat.le_refl _) hT (fun _ => rfl) hrT (mvK_v hS j (by omega))
      obtain ⟨U', p', q', -, e'⟩ := m48 hS i1 hj (ht j hj)
      rw [i2, tU_id] at p'
      have f3 : T.1 40 3 = nI (xN (S.1 0 10)) := by rw [hT.2.2.2.2.1]; exact hw1
      have f52 := (hT.2.2.1 j hj).2
      refine ⟨_, U', ⟨rfl, p', by rw [em]; exact rpX_fr q' i3⟩, fun d r => ?_⟩
      refine (b55_2 _ _ _ _).trans ?_
      rw [if_pos d1]
      simp (decide := true) only [b55_10, e, exists_eq_left, xtl, b55_15, b55_18, a1, a2, f3, f52, i4, ↓reduceIte, true_and, b55_74, e', xtl0, b55_80a, nI_1]
    · have c' := fun z => c ((fr_X hT.2.2.2.1 j).mpr z)
      have em : mvK S t (j + 1) = mvK S t j := if_neg c'
      refine ⟨_, T, ⟨rfl, hT, by rw [em]; exact hrT⟩, fun d r => ?_⟩
      refine (b55_2 _ _ _ _).trans ?_
      rw [if_pos d1]
      simp (decide := true) only [b55_10, e, exists_eq_left, xtl, b55_15, b55_80, ↓reduceIte, nI_1]) _ U ⟨rfl, h, hr⟩
  refine ⟨U2, p2, r2, fun d r => ?_⟩
  rw [b55_0, ← nI_0]
  refine (e2 d r).trans ?_
  rw [b55_2, p2.n, hn1, xN_nI (by omega), if_neg (nI_nlt (Nat.le_refl _) (by omega)), b55_86]
theorem m56 {S U : xS} (hS : xInv S) {t : Nat → Nat} (h : plX S U t) {a b : Nat} (hab : a ≠ b) (ha : a < xN (S.1 2 0)) (hb : b < xN (S.1 2 0)) : ∃ U', plX S U' (tU (tU t a (t b)) b (t a)) ∧ U'.1 40 = U.1 40 ∧ ∀ (d : Nat) (r : Option Value × xS), xX (d + 3) 56 0 [(0, .ref 40), (1, .int (nI a)), (2, .int (nI b))] [] U r ↔ r = (none, U') := by
  have hn := hS.cnt.1
  have a1 : (nI a).toNatClampNeg = a := nI_clamp (by omega)
  have a2 := vp_in_nI (show a < 10 by omega) (by omega : 10 < 2 ^ 31)
  have b1 : (nI b).toNatClampNeg = b := nI_clamp (by omega)
  have b2 := vp_in_nI (show b < 10 by omega) (by omega : 10 < 2 ^ 31)
  have fa := (h.2.2.1 a ha).2
  have fb := (h.2.2.1 b hb).2
  obtain ⟨U1, p1, q1, -, e1⟩ := m48 hS h ha (h.2.2.1 b hb).1
  obtain ⟨U2, p2, q2, -, e2⟩ := m48 hS p1 hb (h.2.2.1 a ha).1
  refine ⟨U2, p2, q2.trans q1, fun d r => ?_⟩
  simp only [b56_0, a1, a2, b1, b2, fa, fb, e1, e2, exists_eq_left, xtl0, true_and, b56_18, b56_24]
theorem sw_sw (t : Nat → Nat) {a b : Nat} (h : a ≠ b) : tU (tU (tU (tU t a (t b)) b (t a)) a (tU (tU t a (t b)) b (t a) b)) b (tU (tU t a (t b)) b (t a) a) = t := by
  funext i
  have e1 : tU (tU t a (t b)) b (t a) b = t a := tU_eq _ _ _
  have e2 : tU (tU t a (t b)) b (t a) a = t b := by rw [tU_ne _ _ _ _ h, tU_eq]
  rw [e1, e2]
  by_cases c : i = b
  · subst c; rw [tU_eq]
  · rw [tU_ne _ _ _ _ c]
    by_cases c' : i = a
    · subst c'; rw [tU_eq]
    · rw [tU_ne _ _ _ _ c', tU_ne _ _ _ _ c, tU_ne _ _ _ _ c']
theorem ap_ex (t : Nat → Nat) {a b : Nat} (h : b ≠ 100) : ap t (a, b, 0) = tU (tU t a (t b)) b (t a) := if_neg h
