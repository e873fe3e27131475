/-! plans: what fits, the first wave that does -/
theorem aLg_tU {U : xS} {t : Nat → Nat} {k w : Nat} (hk : k < xN (U.1 2 0)) (ht : t k = 5) (v : Nat) (hv : v < 5) : aLg U (tU t k w) v ↔ (sN (fun i => if t i ≤ v then xN (U.1 3 i) else 0) (xN (U.1 2 0)) + (if w ≤ v then xN (U.1 3 k) else 0) ≤ aDR (U.1 9 0) (U.1 10) (U.1 11) v ∧ sN (fun i => if t i = v then xN (U.1 3 i) else 0) (xN (U.1 2 0)) + (if w = v then xN (U.1 3 k) else 0) ≤ xN (U.1 9 1) ∧ sN (fun i => if t i ≤ v then aH (U.1 14) i else 0) (xN (U.1 2 0)) + (if w ≤ v then aH (U.1 14) k else 0) ≤ aFR (U.1 12) v ∧ sN (fun i => if t i ≤ v then aP (U.1 14) (U.1 15) i else 0) (xN (U.1 2 0)) + (if w ≤ v then aP (U.1 14) (U.1 15) k else 0) ≤ aSR (U.1 12) v) := by
  have e1 : ∀ X : Nat → Nat, sN (fun i => if tU t k w i ≤ v then X i else 0) (xN (U.1 2 0)) = sN (fun i => if t i ≤ v then X i else 0) (xN (U.1 2 0)) + (if w ≤ v then X k else 0) := fun X => by
    have := sN_tU (t := t) (w := w) hk X (fun x => x ≤ v)
    rw [if_neg (show ¬ t k ≤ v by omega)] at this
    exact this
  have e2 : ∀ X : Nat → Nat, sN (fun i => if tU t k w i = v then X i else 0) (xN (U.1 2 0)) = sN (fun i => if t i = v then X i else 0) (xN (U.1 2 0)) + (if w = v then X k else 0) := fun X => by
    have := sN_tU (t := t) (w := w) hk X (fun x => x = v)
    rw [if_neg (show ¬ t k = v by omega)] at this
    exact this
  show LgA _ _ _ _ _ _ _ _ _ _ ↔ _
  unfold LgA
  rw [e1, e2, e1, e1]
def fF (U : xS) (t : Nat → Nat) (k v : Nat) : Prop := sN (fun i => if t i ≤ v then xN (U.1 3 i) else 0) (xN (U.1 2 0)) + xN (U.1 3 k) ≤ aDR (U.1 9 0) (U.1 10) (U.1 11) v ∧ sN (fun i => if t i ≤ v then aH (U.1 14) i else 0) (xN (U.1 2 0)) + aH (U.1 14) k ≤ aFR (U.1 12) v ∧ sN (fun i => if t i ≤ v then aP (U.1 14) (U.1 15) i else 0) (xN (U.1 2 0)) + aP (U.1 14) (U.1 15) k ≤ aSR (U.1 12) v
theorem nI_addlt {a b c : Nat} {x y z : Int32} (hx : x = nI a) (hy : y = nI b) (hz : z = nI c) (ha : a < 100000) (hb : b < 100000) (hc : c < 100000) : (x < y + z) ↔ a < b + c := by
  rw [hx, hy, hz, nI_add]; exact nI_ltI (by omega) (by omega)
theorem scan35 (U : xS) (h : xInvR U) {t : Nat → Nat} (hR : LdR U (xN (U.1 2 0))) (hO : LdO U t (xN (U.1 2 0))) {k : Nat} (hk : k < xN (U.1 2 0)) : ∀ m, m ≤ 5 → ((∀ v, 5 - m ≤ v → v < 5 → fF U t k v) ∧ ∀ (d : Nat) (r : Option Value × xS), xX d 35 24 [(0, .ref 41), (1, .int (nI k)), (3, .int (nI (5 - m)))] [] U r ↔ r = (some (.int 1), U)) ∨ (¬ (∀ v, 5 - m ≤ v → v < 5 → fF U t k v) ∧ ∀ (d : Nat) (r : Option Value × xS), xX d 35 24 [(0, .ref 41), (1, .int (nI k)), (3, .int (nI (5 - m)))] [] U r ↔ r = (some (.int 0), U)) := by
  obtain ⟨hn, hn1, hn2⟩ := h.cnt
  have a1 : (nI k).toNatClampNeg = k := nI_clamp (by omega)
  have a2 := vp_in_nI (show k < 10 by omega) (by omega : 10 < 2 ^ 31)
  have n5 : ¬ nI 5 < 5 := by decide
  intro m
  induction m with
  | zero =>
    intro _
    refine Or.inl ⟨fun v h1 h2 => absurd h1 (by omega), fun d r => ?_⟩
    rw [b35_24, if_neg n5, b35_103]
    simp only [xbit_1, true_and]
  | succ m ih =>
    intro hm
    generalize hv : 5 - (m + 1) = v at *
    have hv5 : v < 5 := by omega
    have e5 : 5 - m = v + 1 := by omega
    rw [e5] at ih
    have d1 : nI v < 5 := nI_lt (a := v) (b := 5) hv5 (by omega)
    have d2 : vp_in (nI v) 5 := vp_in_nI hv5 (by omega)
    have d3 : (nI v).toNatClampNeg = v := nI_clamp (by omega)
    obtain ⟨r1, r2, r3⟩ := hR.1 v hv5
    obtain ⟨p1, p2, p3⟩ := hR.2.1 k hk
    obtain ⟨o1, o2, o3, o4⟩ := hO v hv5
    have b1 := xbDR h v
    have b2 := xbFR h hv5
    have b3 := xbSR h hv5
    have s1 := xbS (c := fun k => t k ≤ v) (n := xN (U.1 2 0)) (fun k hk => (h.dsk (show k < 10 by omega)).1)
    have s3 := xbS (c := fun k => t k ≤ v) (n := xN (U.1 2 0)) (fun k hk => xbH h (show k < 10 by omega))
    have s4 := xbS (c := fun k => t k ≤ v) (n := xN (U.1 2 0)) (fun k hk => xbP h (show k < 10 by omega))
    have t1 := (h.dsk (show k < 10 by omega)).1
    have t2 := xbH h (show k < 10 by omega)
    have t3 := xbP h (show k < 10 by omega)
    have q1 := nI_addlt r1 o1 p1 (Nat.lt_of_le_of_lt b1 (by omega)) (Nat.lt_of_le_of_lt s1 (by omega)) (by omega)
    have q2 := nI_addlt r2 o3 p2 (Nat.lt_of_le_of_lt b2 (by omega)) (Nat.lt_of_le_of_lt s3 (by omega)) (by omega)
    have q3 := nI_addlt r3 o4 p3 (Nat.lt_of_le_of_lt b3 (by omega)) (Nat.lt_of_le_of_lt s4 (by omega)) (by omega)
    by_cases c1 : U.1 46 v < U.1 42 v + U.1 49 k
    · refine Or.inr ⟨fun z => absurd (z v (Nat.le_refl _) hv5).1 (Nat.not_le.mpr (q1.mp c1)), fun d r => ?_⟩
      refine (b35_24 _ _ _ _ _).trans ?_
      rw [if_pos d1]
      simp (decide := true) only [b35_29, b35_95, d2, d3, a1, a2, c1, ↓reduceIte, true_and, xbit_0, xbit_1]
    by_cases c2 : U.1 47 v < U.1 44 v + U.1 50 k
    · refine Or.inr ⟨fun z => absurd (z v (Nat.le_refl _) hv5).2.1 (Nat.not_le.mpr (q2.mp c2)), fun d r => ?_⟩
      refine (b35_24 _ _ _ _ _).trans ?_
      rw [if_pos d1]
      simp (decide := true) only [b35_29, b35_51, b35_95, d2, d3, a1, a2, c1, c2, ↓reduceIte, true_and, xbit_0, xbit_1]
    by_cases c3 : U.1 48 v < U.1 45 v + U.1 51 k
    · refine Or.inr ⟨fun z => absurd (z v (Nat.le_refl _) hv5).2.2 (Nat.not_le.mpr (q3.mp c3)), fun d r => ?_⟩
      refine (b35_24 _ _ _ _ _).trans ?_
      rw [if_pos d1]
      simp (decide := true) only [b35_29, b35_51, b35_73, b35_95, d2, d3, a1, a2, c1, c2, c3, ↓reduceIte, true_and, xbit_0, xbit_1]
    have st : ∀ (d : Nat) (r : Option Value × xS), xX d 35 24 [(0, .ref 41), (1, .int (nI k)), (3, .int (nI v))] [] U r ↔ xX d 35 24 [(0, .ref 41), (1, .int (nI k)), (3, .int (nI (v + 1)))] [] U r := fun d r => by
      refine (b35_24 _ _ _ _ _).trans ?_
      rw [if_pos d1]
      simp (decide := true) only [b35_29, b35_51, b35_73, b35_97, d2, d3, a1, a2, c1, c2, c3, ↓reduceIte, true_and, nI_1]
    have ff : fF U t k v := ⟨Nat.not_lt.mp (fun z => c1 (q1.mpr z)), Nat.not_lt.mp (fun z => c2 (q2.mpr z)), Nat.not_lt.mp (fun z => c3 (q3.mpr z))⟩
    rcases ih (by omega) with ⟨i1, i2⟩ | ⟨i1, i2⟩
    · refine Or.inl ⟨fun x hx1 hx2 => ?_, fun d r => (st d r).trans (i2 d r)⟩
      by_cases e : x = v
      · subst e; exact ff
      · exact i1 x (by omega) hx2
    · exact Or.inr ⟨fun z => i1 (fun x hx1 hx2 => z x (by omega) hx2), fun d r => (st d r).trans (i2 d r)⟩
theorem m35 (U : xS) (h : xInvR U) {t : Nat → Nat} (hR : LdR U (xN (U.1 2 0))) (hO : LdO U t (xN (U.1 2 0))) {k w : Nat} (hk : k < xN (U.1 2 0)) (ht : t k = 5) (hw : w < 5) (hL : LG U t) : (LG U (tU t k w) ∧ ∀ (d : Nat) (r : Option Value × xS), xX d 35 0 [(0, .ref 41), (1, .int (nI k)), (2, .int (nI w))] [] U r ↔ r = (some (.int 1), U)) ∨ (¬ LG U (tU t k w) ∧ ∀ (d : Nat) (r : Option Value × xS), xX d 35 0 [(0, .ref 41), (1, .int (nI k)), (2, .int (nI w))] [] U r ↔ r = (some (.int 0), U)) := by
  obtain ⟨hn, hn1, hn2⟩ := h.cnt
  obtain ⟨hm, hm1, hm2⟩ := h.mst
  have a1 : (nI k).toNatClampNeg = k := nI_clamp (by omega)
  have a2 := vp_in_nI (show k < 10 by omega) (by omega : 10 < 2 ^ 31)
  have d2 : vp_in (nI w) 5 := vp_in_nI hw (by omega)
  have d3 : (nI w).toNatClampNeg = w := nI_clamp (by omega)
  obtain ⟨p1, p2, p3⟩ := hR.2.1 k hk
  obtain ⟨o1, o2, o3, o4⟩ := hO w hw
  have s2 := xbS (c := fun k => t k = w) (n := xN (U.1 2 0)) (fun k hk => (h.dsk (show k < 10 by omega)).1)
  have t1 := (h.dsk (show k < 10 by omega)).1
  have q := nI_addlt (hR.2.2.trans hm1) o2 p1 (Nat.lt_of_le_of_lt hm (by omega)) (Nat.lt_of_le_of_lt s2 (by omega)) (by omega)
  by_cases c1 : U.1 41 10 < U.1 43 w + U.1 49 k
  · refine Or.inr ⟨fun z => ?_, fun d r => ?_⟩
    · have := ((aLg_tU (w := w) hk ht w hw).mp (z w hw)).2.1
      rw [if_pos rfl] at this
      exact absurd this (Nat.not_le.mpr (q.mp c1))
    · simp (decide := true) only [b35_0, b35_20, d2, d3, a1, a2, c1, ↓reduceIte, true_and, xbit_0]
  have st : ∀ (d : Nat) (r : Option Value × xS), xX d 35 0 [(0, .ref 41), (1, .int (nI k)), (2, .int (nI w))] [] U r ↔ xX d 35 24 [(0, .ref 41), (1, .int (nI k)), (3, .int (nI w))] [] U r := fun d r => by
    simp (decide := true) only [b35_0, b35_22, d2, d3, a1, a2, c1, ↓reduceIte, true_and]
  have c1' := Nat.not_lt.mp (fun z => c1 (q.mpr z))
  have sc := scan35 U h hR hO hk (5 - w) (by omega)
  rw [show 5 - (5 - w) = w by omega] at sc
  rcases sc with ⟨i1, i2⟩ | ⟨i1, i2⟩
  · refine Or.inl ⟨fun v hv => (aLg_tU hk ht v hv).mpr ?_, fun d r => (st d r).trans (i2 d r)⟩
    obtain ⟨l1, l2, l3, l4⟩ := hL v hv
    by_cases c : w ≤ v
    · obtain ⟨f1, f2, f3⟩ := i1 v c hv
      rw [if_pos c, if_pos c, if_pos c]
      refine ⟨f1, ?_, f2, f3⟩
      by_cases e : w = v
      · subst e; rw [if_pos rfl]; exact c1'
      · rw [if_neg e]; exact l2
    · rw [if_neg c, if_neg c, if_neg c, if_neg (by omega)]
      exact ⟨l1, l2, l3, l4⟩
  · refine Or.inr ⟨fun z => i1 (fun v hv1 hv2 => ?_), fun d r => (st d r).trans (i2 d r)⟩
    obtain ⟨f1, f2, f3, f4⟩ := (aLg_tU hk ht v hv2).mp (z v hv2)
    rw [if_pos hv1] at f1 f3 f4
    exact ⟨f1, f3, f4⟩
