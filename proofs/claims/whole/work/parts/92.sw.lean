/-! plans: what one costs; the candidates of a round -/
theorem nI_mulN (a b : Nat) : nI a * nI b = nI (a * b) := by
  have := nI_m b (nI b) rfl a 0
  rw [nI_0, Int32.add_zero, Nat.add_zero] at this
  rw [this, Nat.mul_comm]
def tie (S : xS) (a b : Nat) : Nat := xN (S.1 8 (10 * a + b))
def cN (S : xS) (t : Nat → Nat) : Nat := sN (fun a => sN (fun b => tie S a b * dst (t a) (t b)) a) (xN (S.1 2 0))
theorem tie_get {S : xS} (h : xInv S) {a b : Nat} (ha : a < 10) (hb : b < 10) : tie S a b ≤ 20 ∧ S.1 8 (10 * a + b) = nI (tie S a b) ∧ S.1 60 (10 * a + b) = nI (tie S a b) := h.hTie.1.get (by omega) (by omega)
theorem dst_le {i j : Nat} (hi : i ≤ 5) (hj : j ≤ 5) : dst i j ≤ 5 := by
  unfold dst
  by_cases c : i < j
  · rw [if_pos c]; omega
  · rw [if_neg c]; omega
theorem dst_comm (i j : Nat) : dst i j = dst j i := by
  unfold dst
  rcases Nat.lt_trichotomy i j with c | c | c
  · rw [if_pos c, if_neg (by omega)]
  · subst c; rfl
  · rw [if_neg (by omega), if_pos c]
theorem cN_le {S : xS} (h : xInv S) {t : Nat → Nat} (ht : ∀ k, k < xN (S.1 2 0) → t k ≤ 5) : cN S t ≤ 4500 := by
  have hn := h.cnt.1
  have e : cN S t ≤ sN (fun a => 100 * a) (xN (S.1 2 0)) := sN_le (fun a ha => sN_bd (fun b hb => by
    have := Nat.mul_le_mul (tie_get h (show a < 10 by omega) (show b < 10 by omega)).1 (dst_le (ht a ha) (ht b (by omega)))
    exact this))
  exact Nat.le_trans e (Nat.le_trans (sN_mono hn) (by decide))
theorem cN_congr {S : xS} {t t' : Nat → Nat} (h : ∀ k, k < xN (S.1 2 0) → t k = t' k) : cN S t = cN S t' := sN_congr (fun a ha => sN_congr (fun b hb => by
  show tie S a b * dst (t a) (t b) = tie S a b * dst (t' a) (t' b)
  rw [h a ha, h b (by omega)]))
theorem xcost_N {S : xS} (h : xInv S) {p : Nat → Int32} {t : Nat → Nat} (hp : ∀ k, k < xN (S.1 2 0) → t k ≤ 5 ∧ p k = nI (t k)) : xcost (S.1 8) p (xN (S.1 2 0)) = nI (cN S t) := by
  have hn := h.cnt.1
  refine xsum_nI (fun a ha => xsum_nI (fun b hb => ?_))
  obtain ⟨a1, a2⟩ := hp a ha
  obtain ⟨b1, b2⟩ := hp b (by omega)
  show xpr (S.1 8) p a b = _
  unfold xpr
  rw [a2, b2, dst_x (t a) (by omega) (t b) (by omega), (tie_get h (show a < 10 by omega) (show b < 10 by omega)).2.1, nI_mulN]
theorem xcostM_N {S : xS} (h : xInv S) {p : Nat → Int32} {t : Nat → Nat} (hp : iPl (xN (S.1 2 0)) p t) : xcostM (S.1 60) p (xN (S.1 2 0)) = nI (cN S t) := by
  have hn := h.cnt.1
  have wv : ∀ k, k < xN (S.1 2 0) → xwv (p k) = nI (t k) := fun k hk => by
    obtain ⟨h1, h2⟩ := hp k hk
    rw [h2]
    unfold xwv
    by_cases e : t k = 5
    · rw [if_pos e, if_pos rfl, e]; rfl
    · rw [if_neg e, if_neg (nI_nem1 (by omega))]
  refine xsum_nI (fun a ha => xsum_nI (fun b hb => ?_))
  obtain ⟨a1, a2⟩ := hp a ha
  obtain ⟨b1, b2⟩ := hp b (by omega)
  show xprM (S.1 60) p a b = _
  unfold xprM
  rw [wv a ha, wv b (by omega), dst_m (t a) (by omega) (t b) (by omega), (tie_get h (show a < 10 by omega) (show b < 10 by omega)).2.2, nI_mulN]
theorem plX.cost {S U : xS} (hS : xInv S) {t : Nat → Nat} (h : plX S U t) (d : Nat) (r : Option Value × xS) : xX d 45 0 [(0, .ref 2), (1, .ref 52)] [] U r ↔ r = (some (.int (nI (cN S t))), U) := by
  have f8 : U.1 8 = S.1 8 := h.2.2.2.1 8 (by decide)
  have := t45_52 d U r hS.cnt.1 (by rw [h.n]; exact hS.cnt.2.1)
  rw [f8, xcost_N hS (fun k hk => h.2.2.1 k hk)] at this
  exact this
theorem plM.cost {Z : xS} {S T : xS} (hS : xInv S) {t : Nat → Nat} (h : plM Z S T t) (d : Nat) (r : Option Value × xS) : xX d 141 0 [(0, .ref 54), (1, .ref 85)] [] T r ↔ r = (some (.int (nI (cN S t))), T) := by
  have f60 : T.1 60 = S.1 60 := h.1.1 60 (by decide) (by decide) (by decide)
  have := t141_85 d T r hS.cnt.1 (by rw [h.1.1 54 (by decide) (by decide) (by decide)]; exact hS.cnt.2.2)
  rw [f60, xcostM_N hS h.2] at this
  exact this
/-- an act: an office and its wave (b = 100), or two offices that exchange theirs -/
def ap (t : Nat → Nat) (x : Nat × Nat × Nat) : Nat → Nat := if x.2.1 = 100 then tU t x.1 x.2.2 else tU (tU t x.1 (t x.2.1)) x.2.1 (t x.1)
noncomputable def cdS (S : xS) (t : Nat → Nat) (x : (Nat × Option (Nat × Nat × Nat))) (a : Nat × Nat × Nat) : (Nat × Option (Nat × Nat × Nat)) := @ite _ (cN S (ap t a) < x.1 ∧ LG S (ap t a)) (Classical.propDecidable _) (cN S (ap t a), some a) x
noncomputable def mvW (S : xS) (t : Nat → Nat) (k : Nat) : Nat → Nat → (Nat × Option (Nat × Nat × Nat)) → (Nat × Option (Nat × Nat × Nat))
  | 0, _, x => x
  | m + 1, w, x => mvW S t k m (w + 1) (cdS S t x (k, 100, w))
noncomputable def mvK (S : xS) (t : Nat → Nat) : Nat → (Nat × Option (Nat × Nat × Nat))
  | 0 => (cN S t, none)
  | k + 1 => @ite _ (fr S k) (Classical.propDecidable _) (mvW S t k (5 - xN (S.1 0 10)) (xN (S.1 0 10)) (mvK S t k)) (mvK S t k)
noncomputable def exB (S : xS) (t : Nat → Nat) (a : Nat) (x : (Nat × Option (Nat × Nat × Nat))) : Nat → (Nat × Option (Nat × Nat × Nat))
  | 0 => x
  | j + 1 => @ite _ (fr S a ∧ fr S (a + 1 + j)) (Classical.propDecidable _) (cdS S t (exB S t a x j) (a, a + 1 + j, 0)) (exB S t a x j)
noncomputable def exA (S : xS) (t : Nat → Nat) : Nat → (Nat × Option (Nat × Nat × Nat))
  | 0 => mvK S t (xN (S.1 2 0))
  | a + 1 => exB S t a (exA S t a) (xN (S.1 2 0) - (a + 1))
def vA (S : xS) (a : Nat × Nat × Nat) : Prop := (a.2.1 = 100 ∧ a.1 < xN (S.1 2 0) ∧ fr S a.1 ∧ xN (S.1 0 10) ≤ a.2.2 ∧ a.2.2 < 5) ∨ (a.1 < a.2.1 ∧ a.2.1 < xN (S.1 2 0) ∧ fr S a.1 ∧ fr S a.2.1)
def vC (S : xS) (t : Nat → Nat) (x : (Nat × Option (Nat × Nat × Nat))) : Prop := x.1 ≤ cN S t ∧ ∀ a, x.2 = some a → vA S a ∧ LG S (ap t a) ∧ x.1 = cN S (ap t a) ∧ x.1 < cN S t
theorem cdS_v {S : xS} {t : Nat → Nat} {x : (Nat × Option (Nat × Nat × Nat))} {a : Nat × Nat × Nat} (h : vC S t x) (ha : vA S a) : vC S t (cdS S t x a) := by
  unfold cdS
  by_cases c : cN S (ap t a) < x.1 ∧ LG S (ap t a)
  · rw [if_pos c]
    have := h.1
    refine ⟨by show cN S (ap t a) ≤ _; omega, fun b hb => ?_⟩
    have : a = b := Option.some.inj hb
    subst this
    exact ⟨ha, c.2, rfl, by show cN S (ap t a) < _; omega⟩
  · rw [if_neg c]; exact h
theorem cdS_same {S : xS} {t : Nat → Nat} {x : (Nat × Option (Nat × Nat × Nat))} {a : Nat × Nat × Nat} (h : vC S t x) (he : cN S (ap t a) = cN S t) : cdS S t x a = x := if_neg (fun z => by have := h.1; omega)
theorem mvW_v {S : xS} {t : Nat → Nat} {k : Nat} (hk : k < xN (S.1 2 0)) (hf : fr S k) : ∀ m w x, w + m = 5 → xN (S.1 0 10) ≤ w → vC S t x → vC S t (mvW S t k m w x) := by
  intro m
  induction m with
  | zero => intro w x _ _ h; exact h
  | succ m ih => intro w x hw hn h; exact ih (w + 1) _ (by omega) (by omega) (cdS_v h (Or.inl ⟨rfl, hk, hf, hn, by show w < 5; omega⟩))
theorem mvK_v {S : xS} (hS : xInv S) {t : Nat → Nat} : ∀ k, k ≤ xN (S.1 2 0) → vC S t (mvK S t k) := by
  have hw := hS.now.1
  intro k
  induction k with
  | zero => intro _; exact ⟨Nat.le_refl _, fun a ha => by cases ha⟩
  | succ k ih =>
    intro hk
    unfold mvK
    by_cases c : fr S k
    · rw [if_pos c]; exact mvW_v (by omega) c _ _ _ (by omega) (Nat.le_refl _) (ih (by omega))
    · rw [if_neg c]; exact ih (by omega)
theorem exB_v {S : xS} {t : Nat → Nat} {a : Nat} {x : (Nat × Option (Nat × Nat × Nat))} (h : vC S t x) : ∀ j, a + 1 + j ≤ xN (S.1 2 0) → vC S t (exB S t a x j) := by
  intro j
  induction j with
  | zero => intro _; exact h
  | succ j ih =>
    intro hj
    unfold exB
    by_cases c : fr S a ∧ fr S (a + 1 + j)
    · rw [if_pos c]; exact cdS_v (ih (by omega)) (Or.inr ⟨by show a < a + 1 + j; omega, by show a + 1 + j < _; omega, c.1, c.2⟩)
    · rw [if_neg c]; exact ih (by omega)
theorem exA_v {S : xS} (hS : xInv S) {t : Nat → Nat} : ∀ a, a ≤ xN (S.1 2 0) → vC S t (exA S t a) := by
  intro a
  induction a with
  | zero => intro _; exact mvK_v hS _ (Nat.le_refl _)
  | succ a ih => intro ha; exact exB_v (ih (by omega)) _ (by omega)
theorem ap_K {S : xS} (hS : xInv S) {t : Nat → Nat} {a : Nat × Nat × Nat} (h : plK S t) (ha : vA S a) (hl : LG S (ap t a)) : plK S (ap t a) := by
  have hn := hS.cnt.1
  refine ⟨hl, fun k hk => ?_⟩
  unfold ap
  rcases ha with ⟨h1, h2, h3, h4, h5⟩ | ⟨h1, h2, h3, h4⟩
  · rw [if_pos h1]
    by_cases e : k = a.1
    · subst e; rw [tU_eq]; exact ⟨fun _ => ⟨h4, h5⟩, fun z => absurd h3 z⟩
    · rw [tU_ne _ _ _ _ e]; exact h.2 k hk
  · rw [if_neg (by omega)]
    by_cases e : k = a.2.1
    · subst e; rw [tU_eq]; exact ⟨fun _ => (h.2 a.1 (by omega)).1 h3, fun z => absurd h4 z⟩
    · rw [tU_ne _ _ _ _ e]
      by_cases e' : k = a.1
      · subst e'; rw [tU_eq]; exact ⟨fun _ => (h.2 a.2.1 h2).1 h4, fun z => absurd h3 z⟩
      · rw [tU_ne _ _ _ _ e']; exact h.2 k hk
/-- the rounds -/
noncomputable def gS (S : xS) : Nat → (Nat → Nat) → (Nat → Nat)
  | 0, t => t
  | m + 1, t => match (exA S t (xN (S.1 2 0))).2 with
    | none => t
    | some a => gS S m (ap t a)
theorem gS_K {S : xS} (hS : xInv S) : ∀ m t, plK S t → plK S (gS S m t) := by
  intro m
  induction m with
  | zero => intro t h; exact h
  | succ m ih =>
    intro t h
    have hv := exA_v hS (t := t) (xN (S.1 2 0)) (Nat.le_refl _)
    unfold gS
    cases e : (exA S t (xN (S.1 2 0))).2 with
    | none => exact h
    | some a =>
      obtain ⟨v1, v2, -, -⟩ := hv.2 a e
      exact ih _ (ap_K hS h v1 v2)
