/-! plans: the class's sheet -/
theorem xX_loopD {e f pc : Nat} {st : List Value} (P : Nat → xL → xS → Prop) (N : Nat) (h : ∀ j, j < N → ∀ l S, P j l S → ∃ l' S', P (j + 1) l' S' ∧ ∀ (d : Nat) (r : Option Value × xS), (xX (d + e) f pc l st S r ↔ xX (d + e) f pc l' st S' r)) : ∀ l S, P 0 l S → ∃ l' S', P N l' S' ∧ ∀ (d : Nat) (r : Option Value × xS), (xX (d + e) f pc l st S r ↔ xX (d + e) f pc l' st S' r) := by
  intro l S h0
  induction N with
  | zero => exact ⟨l, S, h0, fun _ _ => Iff.rfl⟩
  | succ N ih =>
    obtain ⟨l1, S1, h1, e1⟩ := ih (fun j hj => h j (Nat.lt_succ_of_lt hj))
    obtain ⟨l2, S2, h2, e2⟩ := h N (Nat.lt_succ_self N) l1 S1 h1
    exact ⟨l2, S2, h2, fun d r => (e1 d r).trans (e2 d r)⟩
theorem m33D (S : xS) {k w : Nat} (hk : k < 10) (hw : w ≤ 5) (sg : Int32) : ∃ S', (∀ (d : Nat) (r : Option Value × xS), xX (d + 1) 33 0 [(0, .ref 41), (1, .int (nI k)), (2, .int (nI w)), (3, .int sg)] [] S r ↔ r = (none, S')) ∧ xCh S S' k w sg 5 := by
  have hik : vp_in (nI k) 10 := vp_in_nI hk (by omega)
  have hck : (nI k).toNatClampNeg = k := nI_clamp (by omega)
  have c1 : ¬ nI w < 0 := nI_pos (by omega)
  by_cases hw5 : w = 5
  · subst hw5
    have c2 : ¬ nI 5 < 5 := by decide
    refine ⟨S, fun d r => by simp (decide := true) only [b33_0, b33_4, b33_9, c1, c2, ↓reduceIte, xtl, exists_eq_left, and_assoc, exists_and_left, true_and, xbit_0, xbit_1], ?_⟩
    refine ⟨fun v hv => ?_, fun v hv => ?_, fun v hv => ?_, fun v hv => ?_, fun _ _ => rfl, rfl⟩ <;> rw [if_neg (by omega), Int32.mul_zero, Int32.add_zero]
  · have hw5 : w < 5 := by omega
    have c2 : nI w < 5 := nI_lt (a := w) (b := 5) hw5 (by omega)
    have hiw : vp_in (nI w) 5 := vp_in_nI hw5 (by omega)
    have hcw : (nI w).toNatClampNeg = w := nI_clamp (by omega)
    obtain ⟨l', S', ⟨rfl, hS'⟩, e⟩ := xX_loopD (e := 1) (f := 33) (pc := 30) (st := []) (fun j l T => l = [(0, .ref 41), (1, .int (nI k)), (3, .int sg), (4, .int (nI (w + j)))] ∧ xCh S T k w sg (w + j)) (5 - w) (by
      rintro j hj l T ⟨rfl, hT⟩
      have hj5 : w + j < 5 := by omega
      have d1 : nI (w + j) < 5 := nI_lt (a := w + j) (b := 5) hj5 (by omega)
      have d2 : vp_in (nI (w + j)) 5 := vp_in_nI hj5 (by omega)
      have d3 : (nI (w + j)).toNatClampNeg = w + j := nI_clamp (by omega)
      obtain ⟨h1, h2, h3, h4, h5, h6⟩ := hT
      have q49 := h5 49 (by decide)
      have q50 := h5 50 (by decide)
      have q51 := h5 51 (by decide)
      refine ⟨_, xwI (xwI (xwI T 42 (w + j) (T.1 42 (w + j) + sg * T.1 49 k)) 44 (w + j) (T.1 44 (w + j) + sg * T.1 50 k)) 45 (w + j) (T.1 45 (w + j) + sg * T.1 51 k), ⟨rfl, ?_⟩, fun d r => ?_⟩
      · rw [q49, q50, q51]
        refine ⟨?_, ?_, ?_, ?_, fun c hc => ?_, h6⟩
        · simp (decide := true) only [xrd_ne, xrd_same]; exact xCh_st (by omega) hj5 h1
        · simp (decide := true) only [xrd_ne]; exact h2
        · simp (decide := true) only [xrd_ne, xrd_same]; exact xCh_st (by omega) hj5 h3
        · simp (decide := true) only [xrd_ne, xrd_same]; exact xCh_st (by omega) hj5 h4
        · rw [xrd_ne _ _ _ _ _ (by omega), xrd_ne _ _ _ _ _ (by omega), xrd_ne _ _ _ _ _ (by omega)]; exact h5 c hc
      · refine (b33_30 _ _ _ _ _ _).trans ?_
        rw [if_pos d1]
        simp only [b33_36, d2, d3, hik, hck, true_and, nI_1, Nat.add_assoc]) _ (xwI S 43 w (S.1 43 w + sg * S.1 49 k)) ⟨rfl, by
        refine ⟨fun v hv => ?_, fun v hv => ?_, fun v hv => ?_, fun v hv => ?_, fun c hc => xrd_ne _ _ _ _ _ (by omega), rfl⟩
        · rw [xrd_ne _ _ _ _ _ (by decide), if_neg (by omega), Int32.mul_zero, Int32.add_zero]
        · rw [xrd_same]
          by_cases e : v = w
          · subst e; rw [vupd_eq, if_pos rfl]
          · rw [vupd_ne _ _ _ _ e, if_neg (Ne.symm e), Int32.mul_zero, Int32.add_zero]
        · rw [xrd_ne _ _ _ _ _ (by decide), if_neg (by omega), Int32.mul_zero, Int32.add_zero]
        · rw [xrd_ne _ _ _ _ _ (by decide), if_neg (by omega), Int32.mul_zero, Int32.add_zero]⟩
    have e5 : w + (5 - w) = 5 := by omega
    rw [e5] at hS' e
    refine ⟨S', fun d r => ?_, hS'⟩
    have g1 : xX (d + 1) 33 0 [(0, .ref 41), (1, .int (nI k)), (2, .int (nI w)), (3, .int sg)] [] S r ↔ xX (d + 1) 33 30 [(0, .ref 41), (1, .int (nI k)), (3, .int sg), (4, .int (nI w))] [] (xwI S 43 w (S.1 43 w + sg * S.1 49 k)) r := by
      simp (decide := true) only [b33_0, b33_4, b33_10, c1, c2, hik, hck, hiw, hcw, ↓reduceIte, xtl, exists_eq_left, and_assoc, exists_and_left, true_and, xbit_0, xbit_1]
    refine g1.trans ((e d r).trans ?_)
    have d1 : ¬ nI 5 < 5 := by decide
    rw [b33_30, if_neg d1, b33_96]
def tU (t : Nat → Nat) (k w : Nat) : Nat → Nat := fun i => if i = k then w else t i
theorem tU_eq (t : Nat → Nat) (k w : Nat) : tU t k w k = w := if_pos rfl
theorem tU_ne (t : Nat → Nat) (k w i : Nat) (h : i ≠ k) : tU t k w i = t i := if_neg h
def plX (S U : xS) (t : Nat → Nat) : Prop := LdR U (xN (S.1 2 0)) ∧ LdO U t (xN (S.1 2 0)) ∧ (∀ k, k < xN (S.1 2 0) → t k ≤ 5 ∧ U.1 52 k = nI (t k)) ∧ (∀ c, (c < 40 ∨ 53 < c) → U.1 c = S.1 c) ∧ U.1 40 3 = S.1 0 10 ∧ U.2 = S.2
theorem nI_mv {A B a b : Nat} (h : B + a = A + b) : nI A + -1 * nI a + 1 * nI b = nI B := by
  have h1 : nI A + nI b = nI B + nI a := by rw [nI_add, nI_add, h]
  rw [Int32.neg_mul, Int32.one_mul, Int32.one_mul, Int32.add_assoc, Int32.add_comm (-nI a), ← Int32.add_assoc, h1, ← Int32.sub_eq_add_neg, Int32.add_sub_cancel]
theorem if_nI {c c' : Prop} [dc : Decidable c] [dc' : Decidable c'] {x : Nat} {y : Int32} (hy : y = nI x) (h : c' ↔ c) : (if c' then y else 0) = nI (if c then x else 0) := by
  by_cases e : c
  · rw [if_pos e, if_pos (h.mpr e), hy]
  · rw [if_neg e, if_neg (fun z => e (h.mp z)), nI_0]
theorem sN_tU {t : Nat → Nat} {k w n : Nat} (hk : k < n) (X : Nat → Nat) (p : Nat → Prop) [dp : ∀ i, Decidable (p i)] : sN (fun i => if p (tU t k w i) then X i else 0) n + (if p (t k) then X k else 0) = sN (fun i => if p (t i) then X i else 0) n + (if p w then X k else 0) := by
  have := sN_swap (f := fun i => if p (tU t k w i) then X i else 0) (g := fun i => if p (t i) then X i else 0) hk (fun i hi => by show (if p (tU t k w i) then X i else 0) = _; rw [tU_ne _ _ _ _ hi])
  simp only [tU_eq] at this
  exact this
theorem LdO_mv {U U1 U2 : xS} {t : Nat → Nat} {n k w : Nat} (hR : LdR U n) (hO : LdO U t n) (hk : k < n) (h1 : xCh U U1 k (t k) (-1) 5) (h2 : xCh (xwI U1 52 k (nI w)) U2 k w 1 5) : LdO U2 (tU t k w) n := by
  obtain ⟨r1, r2, r3⟩ := hR.2.1 k hk
  obtain ⟨a1, a2, a3, a4, a5, a6⟩ := h1
  obtain ⟨b1, b2, b3, b4, b5, b6⟩ := h2
  intro v hv
  obtain ⟨o1, o2, o3, o4⟩ := hO v hv
  have f : ∀ c, c ≠ 52 → (xwI U1 52 k (nI w)).1 c = U1.1 c := fun c hc => xrd_ne _ _ _ _ _ hc
  rw [f 42 (by decide), f 49 (by decide)] at b1
  rw [f 43 (by decide), f 49 (by decide)] at b2
  rw [f 44 (by decide), f 50 (by decide)] at b3
  rw [f 45 (by decide), f 51 (by decide)] at b4
  have g : ∀ c, (c < 42 ∨ 45 < c) → c ≠ 52 → U2.1 c = U.1 c := fun c hc hc2 => by rw [b5 c hc, f c hc2, a5 c hc]
  rw [g 3 (by decide) (by decide), g 14 (by decide) (by decide), g 15 (by decide) (by decide), b1 v hv, b2 v hv, b3 v hv, b4 v hv, a1 v hv, a2 v hv, a3 v hv, a4 v hv, a5 49 (by decide), a5 50 (by decide), a5 51 (by decide), o1, o2, o3, o4]
  have i1 : ∀ x, (x ≤ v ∧ v < 5) ↔ x ≤ v := fun x => ⟨fun z => z.1, fun z => ⟨z, hv⟩⟩
  refine ⟨?_, ?_, ?_, ?_⟩
  · rw [if_nI (c := t k ≤ v) r1 (i1 _), if_nI (c := w ≤ v) r1 (i1 _)]
    exact nI_mv (sN_tU hk (fun k => xN (U.1 3 k)) (fun x => x ≤ v))
  · rw [if_nI (c := t k = v) r1 Iff.rfl, if_nI (c := w = v) r1 Iff.rfl]
    exact nI_mv (sN_tU hk (fun k => xN (U.1 3 k)) (fun x => x = v))
  · rw [if_nI (c := t k ≤ v) r2 (i1 _), if_nI (c := w ≤ v) r2 (i1 _)]
    exact nI_mv (sN_tU hk (aH (U.1 14)) (fun x => x ≤ v))
  · rw [if_nI (c := t k ≤ v) r3 (i1 _), if_nI (c := w ≤ v) r3 (i1 _)]
    exact nI_mv (sN_tU hk (aP (U.1 14) (U.1 15)) (fun x => x ≤ v))
/-- move -/
theorem m48 {S U : xS} (hS : xInv S) {t : Nat → Nat} (h : plX S U t) {k w : Nat} (hk : k < xN (S.1 2 0)) (hw : w ≤ 5) : ∃ U', plX S U' (tU t k w) ∧ U'.1 40 = U.1 40 ∧ U'.1 53 = U.1 53 ∧ ∀ (d : Nat) (r : Option Value × xS), xX (d + 2) 48 0 [(0, .ref 40), (1, .int (nI k)), (2, .int (nI w))] [] U r ↔ r = (none, U') := by
  have hn := hS.cnt.1
  obtain ⟨h1, h2, h3, h4, h5, h6⟩ := h
  have a1 : (nI k).toNatClampNeg = k := nI_clamp (by omega)
  have a2 := vp_in_nI (show k < 10 by omega) (by omega : 10 < 2 ^ 31)
  obtain ⟨U1, e1, c1⟩ := m33D U (show k < 10 by omega) (h3 k hk).1 (-1)
  obtain ⟨U2, e2, c2⟩ := m33D (xwI U1 52 k (nI w)) (show k < 10 by omega) hw 1
  have g : ∀ c, (c < 42 ∨ 45 < c) → c ≠ 52 → U2.1 c = U.1 c := fun c hc hc2 => by rw [c2.2.2.2.2.1 c hc, xrd_ne _ _ _ _ _ hc2, c1.2.2.2.2.1 c hc]
  have g52 : U2.1 52 = vupd (U.1 52) k (nI w) := by rw [c2.2.2.2.2.1 52 (by decide), xrd_same, c1.2.2.2.2.1 52 (by decide)]
  refine ⟨U2, ⟨LdR_fr (fun c hc => g c (by omega) (by omega)) h1, LdO_mv h1 h2 hk c1 c2, fun i hi => ?_, fun c hc => (g c (by omega) (by omega)).trans (h4 c hc), by rw [g 40 (by decide) (by decide)]; exact h5, by rw [c2.2.2.2.2.2]; show U1.2 = S.2; rw [c1.2.2.2.2.2]; exact h6⟩, g 40 (by decide) (by decide), g 53 (by decide) (by decide), fun d r => ?_⟩
  · rw [g52]
    by_cases e : i = k
    · subst e; rw [tU_eq, vupd_eq]; exact ⟨hw, rfl⟩
    · rw [tU_ne _ _ _ _ e, vupd_ne _ _ _ _ e]; exact h3 i hi
  · have e1' := e1 d
    have e2' := e2 d
    rw [b48_0]
    simp only [a1, a2, (h3 k hk).2, true_and, e1', exists_eq_left, xtl0, b48_15, e2', b48_32]
def LG (S : xS) (t : Nat → Nat) : Prop := ∀ v, v < 5 → aLg S t v
theorem LG_mono {S : xS} {t t' : Nat → Nat} (h : ∀ k, k < xN (S.1 2 0) → t' k = t k ∨ 5 ≤ t' k) (hl : LG S t) : LG S t' := by
  intro v hv
  obtain ⟨l1, l2, l3, l4⟩ := hl v hv
  have m1 : ∀ X : Nat → Nat, sN (fun k => if t' k ≤ v then X k else 0) (xN (S.1 2 0)) ≤ sN (fun k => if t k ≤ v then X k else 0) (xN (S.1 2 0)) := fun X => sN_le (fun k hk => by
    show (if t' k ≤ v then X k else 0) ≤ (if t k ≤ v then X k else 0)
    rcases h k hk with e | e
    · rw [e]; exact Nat.le_refl _
    · rw [if_neg (by omega)]; exact Nat.zero_le _)
  have m2 : ∀ X : Nat → Nat, sN (fun k => if t' k = v then X k else 0) (xN (S.1 2 0)) ≤ sN (fun k => if t k = v then X k else 0) (xN (S.1 2 0)) := fun X => sN_le (fun k hk => by
    show (if t' k = v then X k else 0) ≤ (if t k = v then X k else 0)
    rcases h k hk with e | e
    · rw [e]; exact Nat.le_refl _
    · rw [if_neg (by omega)]; exact Nat.zero_le _)
  exact ⟨Nat.le_trans (m1 _) l1, Nat.le_trans (m2 _) l2, Nat.le_trans (m1 _) l3, Nat.le_trans (m1 _) l4⟩
