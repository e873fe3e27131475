/-! plans: by the rule, the reference -/
def frM (Z S T : xS) : Prop := (∀ c, ¬ (c = 5 ∨ c = 1) → (c < 40 ∨ 53 < c) → c < 85 → T.1 c = S.1 c) ∧ T.2 = S.2 ∧ T.1 1 = Z.1 1 ∧ T.1 5 = Z.1 5
theorem frM.Q {Z : xS} {S T : xS} (hS : xInv S) (h : frM Z S T) : xInvQ T := ⟨S.1 5, xInvR_fr' (fun c hc => by
  by_cases e : c = 5
  · subst e; exact xset_same _ _ _
  · rw [xset_ne _ _ _ _ e]; exact h.1 c (by omega) (by omega) (by omega)) (fun j _ => by rw [xset_ne _ _ _ _ (by decide), h.1 54 (by decide) (by decide) (by decide)]) hS.R⟩
theorem LG_frM {Z : xS} {S T : xS} (h : frM Z S T) {t : Nat → Nat} : LG T t ↔ LG S t := by
  unfold LG aLg
  rw [h.1 2 (by decide) (by decide) (by decide), h.1 3 (by decide) (by decide) (by decide), h.1 14 (by decide) (by decide) (by decide), h.1 15 (by decide) (by decide) (by decide), h.1 9 (by decide) (by decide) (by decide), h.1 10 (by decide) (by decide) (by decide), h.1 11 (by decide) (by decide) (by decide), h.1 12 (by decide) (by decide) (by decide)]
theorem m140X {Z : xS} {S T : xS} (hS : xInv S) (h : frM Z S T) {t : Nat → Nat} (hp : iPl (xN (S.1 2 0)) (T.1 85) t) : (LG S t ∧ ∀ (d : Nat) (r : Option Value × xS), xX (d + 2) 140 0 [(0, .ref 54), (1, .ref 85)] [] T r ↔ r = (some (.int 5), T)) ∨ (¬ LG S t ∧ ∃ x : Int32, ¬ x = 5 ∧ ∀ (d : Nat) (r : Option Value × xS), xX (d + 2) 140 0 [(0, .ref 54), (1, .ref 85)] [] T r ↔ r = (some (.int x), T)) := by
  have e2 : T.1 2 = S.1 2 := h.1 2 (by decide) (by decide) (by decide)
  obtain ⟨w, hw, e⟩ := m140_85Q T (h.Q hS) (t := t) (by rw [e2]; exact hp)
  by_cases c : w = 5
  · subst c
    exact Or.inl ⟨(LG_frM h).mp (fun v hv => hw.2.1 v hv), e⟩
  · have h5 := hw.1
    refine Or.inr ⟨fun z => hw.2.2 (by omega) ((LG_frM h).mpr z w (by omega)), nI w, fun z => ?_, e⟩
    have := congrArg xN z
    rw [xN_nI (by omega)] at this
    exact c this
def plM (Z S T : xS) (t : Nat → Nat) : Prop := frM Z S T ∧ iPl (xN (S.1 2 0)) (T.1 85) t
theorem frM_wI {Z : xS} {S T : xS} (h : frM Z S T) (c k : Nat) (v : Int32) (hc : 85 ≤ c) : frM Z S (xwI T c k v) := ⟨fun a h1 h2 h3 => by rw [xrd_ne _ _ _ _ _ (by omega)]; exact h.1 a h1 h2 h3, h.2.1, by rw [xrd_ne _ _ _ _ _ (by omega)]; exact h.2.2.1, by rw [xrd_ne _ _ _ _ _ (by omega)]; exact h.2.2.2⟩
theorem m143 {Z : xS} {S T : xS} (hS : xInv S) (h : frM Z S T) : ∃ T', plM Z S T' (t0 S) ∧ ∀ (d : Nat) (r : Option Value × xS), xX d 143 0 [(0, .ref 54)] [] T r ↔ r = (none, T') := by
  obtain ⟨hn, hn1, hn2⟩ := hS.cnt
  obtain ⟨l2, T2, ⟨rfl, f2, p2⟩, e2⟩ := xX_loopD (e := 0) (f := 143) (pc := 2) (st := []) (fun j l T => l = [(0, .ref 54), (1, .int (nI j))] ∧ frM Z S T ∧ iPl j (T.1 85) (t0 S)) (xN (S.1 2 0)) (by
    rintro j hj l T ⟨rfl, hf, hp⟩
    have hj10 : j < 10 := by omega
    have hT : T.1 54 0 = nI (xN (S.1 2 0)) := by rw [hf.1 54 (by decide) (by decide) (by decide)]; exact hn2
    have d1 : nI j < nI (xN (S.1 2 0)) := nI_lt hj (by omega)
    have d2 : vp_in (nI j) 10 := vp_in_nI hj10 (by omega)
    have d3 : (nI j).toNatClampNeg = j := nI_clamp (by omega)
    have f59 : T.1 59 j = S.1 7 j := by rw [hf.1 59 (by decide) (by decide) (by decide)]; exact hS.hMov.eq hj10
    have f57 : T.1 57 j = S.1 57 j := by rw [hf.1 57 (by decide) (by decide) (by decide)]
    have new : ∀ x : Int32, x = (if t0 S j = 5 then -1 else nI (t0 S j)) → iPl (j + 1) ((xwI T 85 j x).1 85) (t0 S) := fun x hx k hk => by
      rw [xrd_same]
      by_cases e : k = j
      · subst e; rw [vupd_eq]; exact ⟨t0_le hS hj10, hx⟩
      · rw [vupd_ne _ _ _ _ e]; exact hp k (by omega)
    by_cases c : S.1 7 j = 0
    · refine ⟨_, xwI T 85 j (-1), ⟨rfl, frM_wI hf _ _ _ (by decide), new _ (by unfold t0; rw [if_pos c, if_pos rfl])⟩, fun d r => ?_⟩
      refine (b143_2 _ _ _ _).trans ?_
      rw [hT, if_pos d1]
      simp only [b143_10, b143_33, d2, d3, f59, c, ↓reduceIte, true_and, nI_1]
    · refine ⟨_, xwI T 85 j (S.1 57 j), ⟨rfl, frM_wI hf _ _ _ (by decide), new _ (by unfold t0; rw [if_neg c]; exact (hS.wav hj10).2.2)⟩, fun d r => ?_⟩
      refine (b143_2 _ _ _ _).trans ?_
      rw [hT, if_pos d1]
      simp only [b143_10, b143_24, d2, d3, f59, f57, c, ↓reduceIte, true_and, nI_1]) _ T ⟨rfl, h, fun k hk => absurd hk (Nat.not_lt_zero _)⟩
  refine ⟨T2, ⟨f2, p2⟩, fun d r => ?_⟩
  rw [b143_0, ← nI_0]
  refine (e2 d r).trans ?_
  have hc2 : T2.1 54 0 = nI (xN (S.1 2 0)) := by rw [f2.1 54 (by decide) (by decide) (by decide)]; exact hn2
  rw [b143_2, hc2, if_neg (nI_nlt (Nat.le_refl _) (by omega)), b143_41]
def insL (l : Nat → Nat) (p k : Nat) : Nat → Nat := fun i => if i < p then l i else if i = p then k else l (i - 1)
def pO (S : xS) (l : Nat → Nat) (k : Nat) : Nat → Nat
  | 0 => 0
  | p + 1 => if xN (S.1 4 (l p)) < xN (S.1 4 k) then pO S l k p else p + 1
noncomputable def lO (S : xS) : Nat → (Nat → Nat) × Nat
  | 0 => (fun _ => 0, 0)
  | k + 1 => @ite _ (fr S k) (Classical.propDecidable _) (insL (lO S k).1 (pO S (lO S k).1 k (lO S k).2) k, (lO S k).2 + 1) (lO S k)
def OrdP (S : xS) (n : Nat) (l : Nat → Nat) (m : Nat) : Prop := m ≤ n ∧ (∀ i, i < m → l i < n ∧ fr S (l i)) ∧ (∀ k, k < n → fr S k → ∃ i, i < m ∧ l i = k) ∧ ∀ i j, i < j → j < m → kO S (l i) < kO S (l j)
theorem pO_s {S : xS} (hS : xInv S) {n : Nat} (hn : n ≤ 9) {l : Nat → Nat} {m : Nat} (h : OrdP S n l m) : ∀ p, p ≤ m → (∀ i, p ≤ i → i < m → xN (S.1 4 (l i)) < xN (S.1 4 n)) → pO S l n p ≤ p ∧ (∀ i, i < pO S l n p → xN (S.1 4 n) ≤ xN (S.1 4 (l i))) ∧ ∀ i, pO S l n p ≤ i → i < m → xN (S.1 4 (l i)) < xN (S.1 4 n) := by
  intro p
  induction p with
  | zero => intro _ hi; exact ⟨Nat.le_refl _, fun i hi => absurd hi (Nat.not_lt_zero _), hi⟩
  | succ p ih =>
    intro hp hi
    unfold pO
    by_cases c : xN (S.1 4 (l p)) < xN (S.1 4 n)
    · rw [if_pos c]
      obtain ⟨i1, i2, i3⟩ := ih (by omega) (fun i h1 h2 => by
        by_cases e : i = p
        · subst e; exact c
        · exact hi i (by omega) h2)
      exact ⟨by omega, i2, i3⟩
    · rw [if_neg c]
      refine ⟨Nat.le_refl _, fun i h1 => ?_, hi⟩
      by_cases e : i = p
      · subst e; omega
      · have y := h.2.2.2 i p (by omega) (by omega)
        obtain ⟨x1, x2⟩ := h.2.1 i (by omega)
        obtain ⟨x3, x4⟩ := h.2.1 p (by omega)
        have x5 := (hS.rnk (show l i < 10 by omega)).1
        have x6 := (hS.rnk (show l p < 10 by omega)).1
        unfold kO at y
        omega
theorem lO_s {S : xS} (hS : xInv S) : ∀ n, n ≤ 10 → OrdP S n (lO S n).1 (lO S n).2 := by
  intro n
  induction n with
  | zero => intro _; exact ⟨Nat.le_refl _, fun i hi => absurd hi (Nat.not_lt_zero _), fun k hk => absurd hk (Nat.not_lt_zero _), fun i j _ hj => absurd hj (Nat.not_lt_zero _)⟩
  | succ n ih =>
    intro hn
    have h := ih (by omega)
    obtain ⟨h0, h1, h2, h3⟩ := id h
    unfold lO
    by_cases c : fr S n
    · rw [if_pos c]
      obtain ⟨p1, p2, p3⟩ := pO_s hS (show n ≤ 9 by omega) h (lO S n).2 (Nat.le_refl _) (fun i h1 h2 => absurd h1 (by omega))
      generalize pO S (lO S n).1 n (lO S n).2 = p at *
      generalize (lO S n).1 = l at *
      generalize (lO S n).2 = m at *
      have xr := (hS.rnk (show n < 10 by omega)).1
      have a1 : ∀ i, i < p → insL l p n i = l i := fun i hi => if_pos hi
      have a2 : insL l p n p = n := by unfold insL; rw [if_neg (Nat.lt_irrefl _), if_pos rfl]
      have a3 : ∀ i, p < i → insL l p n i = l (i - 1) := fun i hi => by unfold insL; rw [if_neg (by omega), if_neg (by omega)]
      refine ⟨by show m + 1 ≤ n + 1; omega, fun i hi => ?_, fun k hk hf => ?_, fun i j hij hj => ?_⟩
      · show insL l p n i < n + 1 ∧ fr S (insL l p n i)
        have hi' : i < m + 1 := hi
        rcases Nat.lt_trichotomy i p with z | z | z
        · rw [a1 i z]; exact ⟨Nat.lt_succ_of_lt (h1 i (by omega)).1, (h1 i (by omega)).2⟩
        · rw [z, a2]; exact ⟨by omega, c⟩
        · rw [a3 i z]; exact ⟨Nat.lt_succ_of_lt (h1 _ (by omega)).1, (h1 _ (by omega)).2⟩
      · show ∃ i, i < m + 1 ∧ insL l p n i = k
        by_cases e : k = n
        · exact ⟨p, by omega, by rw [a2, e]⟩
        · obtain ⟨i, hi, he⟩ := h2 k (by omega) hf
          by_cases z : i < p
          · exact ⟨i, by omega, by rw [a1 i z, he]⟩
          · exact ⟨i + 1, by omega, by rw [a3 _ (by omega), Nat.add_sub_cancel, he]⟩
      · show kO S (insL l p n i) < kO S (insL l p n j)
        have hj' : j < m + 1 := hj
        have k1 : ∀ i, i < p → kO S (l i) < kO S n := fun i hi => by
          have y := p2 i hi
          have z := (h1 i (by omega)).1
          have x := (hS.rnk (show l i < 10 by omega)).1
          unfold kO
          omega
        have k2 : ∀ i, p ≤ i → i < m → kO S n < kO S (l i) := fun i hi hm => by
          have y := p3 i hi hm
          have z := (h1 i (by omega)).1
          unfold kO
          omega
        rcases Nat.lt_trichotomy i p with z | z | z
        · rw [a1 i z]
          rcases Nat.lt_trichotomy j p with w | w | w
          · rw [a1 j w]; exact h3 i j hij (by omega)
          · rw [w, a2]; exact k1 i z
          · rw [a3 j w]; exact h3 i (j - 1) (by omega) (by omega)
        · rw [z, a2, a3 j (by omega)]; exact k2 _ (by omega) (by omega)
        · rw [a3 i z, a3 j (by omega)]; exact h3 _ _ (by omega) (by omega)
    · rw [if_neg c]
      refine ⟨by omega, fun i hi => ⟨Nat.lt_succ_of_lt (h1 i hi).1, (h1 i hi).2⟩, fun k hk hf => ?_, h3⟩
      by_cases e : k = n
      · exact absurd (e ▸ hf) c
      · exact h2 k (by omega) hf
