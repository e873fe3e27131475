/-! plans: every way, both sides -/
def gJ (S : xS) (k : Nat) (t : Nat → Nat) : Prop := ∀ j, j < k → j < xN (S.1 2 0) → fr S j → xN (S.1 0 10) ≤ t j ∧ t j < 5
theorem wF_P {P : Option (Nat × (Nat → Nat)) → Prop} {f : Nat → Option (Nat × (Nat → Nat)) → Option (Nat × (Nat → Nat))} {lo : Nat} (hf : ∀ w b, lo ≤ w → w < 5 → P b → P (f w b)) : ∀ q w b, w + q = 5 → lo ≤ w → P b → P (wF f q w b) := by
  intro q
  induction q with
  | zero => intro w b _ _ h; exact h
  | succ q ih => intro w b hw hl h; exact ih (w + 1) _ (by omega) (by omega) (hf w b hl (by omega) h)
theorem gB_K {S : xS} (hS : xInv S) {ch : Nat} : ∀ m k t b, k + m = xN (S.1 2 0) → gI S k t → gJ S k t → (∀ x, b = some x → plK S x.2) → ∀ x, gB S ch m k t b = some x → plK S x.2 := by
  intro m
  induction m with
  | zero =>
    intro k t b hk hI hJ _ x hx
    have := Option.some.inj hx
    subst this
    exact ⟨hI.1, fun j hj => ⟨fun hf => hJ j (by omega) hj hf, fun hf => hI.2.2 j hj hf⟩⟩
  | succ m ih =>
    intro k t b hk hI hJ hb
    by_cases c : fr S k
    · have eg : gB S ch (m + 1) k t b = wF (fun w b => @ite _ (LG S (tU t k w) ∧ bsT b (qN S ch (k + 1) (tU t k w))) (Classical.propDecidable _) (gB S ch m (k + 1) (tU t k w) b) b) (5 - xN (S.1 0 10)) (xN (S.1 0 10)) b := if_pos c
      rw [eg]
      refine wF_P (P := fun b => ∀ x, b = some x → plK S x.2) (lo := xN (S.1 0 10)) (fun w b hl hw hb => ?_) _ _ _ (by have := hS.now.1; omega) (Nat.le_refl _) hb
      by_cases c1 : LG S (tU t k w) ∧ bsT b (qN S ch (k + 1) (tU t k w))
      · show ∀ x, (@ite _ (LG S (tU t k w) ∧ bsT b (qN S ch (k + 1) (tU t k w))) (Classical.propDecidable _) (gB S ch m (k + 1) (tU t k w) b) b) = some x → plK S x.2
        rw [if_pos c1]
        refine ih (k + 1) _ b (by omega) (gI_tU hI c c1.1) (fun j hj hn hf => ?_) hb
        by_cases e : j = k
        · subst e; rw [tU_eq]; exact ⟨hl, hw⟩
        · rw [tU_ne _ _ _ _ e]; exact hJ j (by omega) hn hf
      · show ∀ x, (@ite _ (LG S (tU t k w) ∧ bsT b (qN S ch (k + 1) (tU t k w))) (Classical.propDecidable _) (gB S ch m (k + 1) (tU t k w) b) b) = some x → plK S x.2
        rw [if_neg c1]; exact hb
    · have eg : gB S ch (m + 1) k t b = gB S ch m (k + 1) t b := if_neg c
      rw [eg]
      refine ih (k + 1) t b (by omega) (gI_skip hI) (fun j hj hn hf => ?_) hb
      by_cases e : j = k
      · subst e; exact absurd hf c
      · exact hJ j (by omega) hn hf
theorem gI_0 {S : xS} (hS : xInv S) : gI S 0 (t0 S) := ⟨t0_LG hS, fun _ _ _ hf => t0_fr hf, fun _ _ _ => rfl⟩
noncomputable def gX (S : xS) (md : Nat) : Option (Nat → Nat) := (gB S (10000 * md) (xN (S.1 2 0)) 0 (t0 S) none).map Prod.snd
theorem gX_K {S : xS} (hS : xInv S) {md : Nat} {t : Nat → Nat} (h : gX S md = some t) : plK S t := by
  unfold gX at h
  cases e : gB S (10000 * md) (xN (S.1 2 0)) 0 (t0 S) none with
  | none => rw [e] at h; exact absurd h (by simp)
  | some x =>
    rw [e] at h
    have h' : x.2 = t := Option.some.inj h
    rw [← h']
    exact gB_K hS _ 0 (t0 S) none (Nat.zero_add _) (gI_0 hS) (fun j hj => absurd hj (Nat.not_lt_zero _)) (fun x hx => absurd hx (by simp)) x e
def plE (S U : xS) (t : Nat → Nat) : Prop := frX S U ∧ ∀ k, k < xN (S.1 2 0) → t k ≤ 5 ∧ U.1 52 k = nI (t k)
theorem plX.E {S U : xS} {t : Nat → Nat} (h : plX S U t) : plE S U t := ⟨h.fr, h.2.2.1⟩
theorem m51 {S U : xS} (hS : xInv S) (h : plX S U (t0 S)) {md : Nat} (hmd : md = 0 ∨ md = 1) : (gX S md = none ∧ ∃ U', frX S U' ∧ ∀ r, xX 57 51 0 [(0, .ref 40), (1, .ref 2), (2, .int (nI md))] [] U r ↔ r = (some (.int 0), U')) ∨ ∃ U' t, gX S md = some t ∧ plE S U' t ∧ ∀ r, xX 57 51 0 [(0, .ref 40), (1, .ref 2), (2, .int (nI md))] [] U r ↔ r = (some (.int 1), U') := by
  obtain ⟨hn, hn1, hn2⟩ := hS.cnt
  have h1 := plX_40 (plX_40 h 4 1000000 (by decide)) 5 (nI (10000 * md)) (by decide)
  have q0 : qN S (10000 * md) 0 (t0 S) - kK S = 0 := by
    have : qN S (10000 * md) 0 (t0 S) = 10000 * md * 0 + kK S := rfl
    rw [this]; omega
  obtain ⟨U2, p2, b2, -, e2⟩ := m50 hS (ch := 10000 * md) (by rcases hmd with z | z <;> subst z <;> omega) (xN (S.1 2 0)) 0 _ (t0 S) none (Nat.zero_add _) h1 (gI_0 hS) ⟨fun _ => by simp (decide := true) only [xrd_same, vupd_ne, vupd_eq], fun x hx => absurd hx (by simp)⟩ (fun x hx => absurd hx (by simp)) (by simp (decide := true) only [xrd_same, vupd_eq])
  rw [q0, nI_0] at e2
  have e2' := fun r => e2 56 r (by omega)
  have st : ∀ r, xX 57 51 0 [(0, .ref 40), (1, .ref 2), (2, .int (nI md))] [] U r ↔ xX 57 51 28 [(0, .ref 40), (1, .ref 2)] [] U2 r := fun r => by
    rcases hmd with z | z <;> subst z
    · have z0 : nI 0 = 0 := rfl
      have z1 : nI (10000 * 0) = 0 := rfl
      rw [z1] at e2'
      simp (decide := true) only [z0, b51_0, ↓reduceIte, b51_17, e2', exists_eq_left, xtl0]
    · have z0 : nI 1 = 1 := rfl
      have z1 : nI (10000 * 1) = 10000 := rfl
      rw [z1] at e2'
      simp (decide := true) only [z0, b51_0, ↓reduceIte, b51_11, e2', exists_eq_left, xtl0]
  cases e : gB S (10000 * md) (xN (S.1 2 0)) 0 (t0 S) none with
  | none =>
    rw [e] at b2
    have z := b2.1 rfl
    refine Or.inl ⟨by unfold gX; rw [e]; rfl, U2, p2.fr, fun r => (st r).trans ?_⟩
    rw [b51_28, if_pos z, b51_37]
    simp only [xbit_0, true_and]
  | some x =>
    rw [e] at b2
    obtain ⟨y1, y2, y3, y4⟩ := b2.2 x rfl
    have z : ¬ U2.1 40 4 = 1000000 := by rw [y1, show (1000000 : Int32) = nI 1000000 by decide, nI_inj (by omega) (by omega)]; omega
    refine Or.inr ⟨xcI U2 53 0 52 0 10, x.2, by unfold gX; rw [e]; rfl, ⟨⟨fun c hc => (xcI_ne _ _ _ (by omega)).trans (p2.2.2.2.1 c hc), p2.2.2.2.2.2⟩, fun k hk => ⟨(y4 k hk).1, ?_⟩⟩, fun r => (st r).trans ?_⟩
    · rw [xcI_get _ _ _ (by omega)]; exact (y4 k hk).2
    · rw [b51_28, if_neg z, b51_39]
      simp (decide := true) only [xbit_1, true_and]
theorem m150 {Z : xS} {S T : xS} (hS : xInv S) (h : frM Z S T) {md : Nat} (hmd : md = 0 ∨ md = 1) : (gX S md = none ∧ ∃ T', frM Z S T' ∧ ∀ (d : Nat) (r : Option Value × xS), xX (d + 4) 150 0 [(0, .ref 54), (1, .int (nI md))] [] T r ↔ r = (some (.int 0), T')) ∨ ∃ T' t', gX S md = some t' ∧ plM Z S T' t' ∧ ∀ (d : Nat) (r : Option Value × xS), xX (d + 4) 150 0 [(0, .ref 54), (1, .int (nI md))] [] T r ↔ r = (some (.int 1), T') := by
  obtain ⟨hn, hn1, hn2⟩ := hS.cnt
  obtain ⟨T1, p1, e1⟩ := m143 hS h
  obtain ⟨T2, p2, l2, e2⟩ := list150 hS p1 (nI md)
  obtain ⟨T3, u3, u4, u5, p3, -, b3, e3⟩ := dfs150 hS hmd (xN (S.1 2 0)) 0 T2 (t0 S) none 0 0 0 (Nat.zero_add _) p2 l2 (gI_0 hS) ⟨fun _ => rfl, fun x hx => absurd hx (by simp)⟩ (fun x hx => absurd hx (by simp))
  have st : ∀ (d : Nat) (r : Option Value × xS), xX (d + 4) 150 0 [(0, .ref 54), (1, .int (nI md))] [] T r ↔ xX (d + 4) 150 296 [(0, .ref 54), (3, .int u3)] [] T3 r := fun d r => by
    have e1' := e1 (d + 3)
    have e2' := e2 (d + 3)
    have e3' := e3 (d + 1) r
    have c0 : nI (cnF S 0) = 0 := rfl
    have c1 : (0 : Int32) + (-1) < 0 := by decide
    rw [c0] at e3'
    rw [b150_51 _ _ _ _ _ _ (0 + (-1)), if_pos c1] at e3'
    refine Iff.trans ?_ e3'
    simp only [b150_0, e1', exists_eq_left, xtl0]
    exact e2' r
  cases e : gB S (10000 * md) (xN (S.1 2 0)) 0 (t0 S) none with
  | none =>
    rw [e] at b3
    have z := b3.1 rfl
    refine Or.inl ⟨by unfold gX; rw [e]; rfl, T3, p3.1, fun d r => (st d r).trans ?_⟩
    rw [b150_296, if_pos z, b150_332, z]
    simp only [xbit_0, true_and]
  | some x =>
    rw [e] at b3
    obtain ⟨z1, c, s, -, -, -, -, -, -, hi⟩ := b3.2 x rfl
    obtain ⟨T4, p4, e4⟩ := cp85 hS p3.1 hi
    refine Or.inr ⟨T4, x.2, by unfold gX; rw [e]; rfl, p4, fun d r => (st d r).trans ?_⟩
    rw [z1]
    exact e4 (d + 4) r
/-- the plan of each way -/
noncomputable def gP (S : xS) (w : Nat) : Option (Nat → Nat) := if w = 0 then gR S else if w = 1 then gW S else gX S (w - 2)
theorem gP_K {S : xS} (hS : xInv S) {w : Nat} {t : Nat → Nat} (h : gP S w = some t) : plK S t := by
  unfold gP at h
  by_cases c : w = 0
  · rw [if_pos c] at h; exact gR_K hS h
  · rw [if_neg c] at h
    by_cases c' : w = 1
    · rw [if_pos c'] at h; exact gW_K hS h
    · rw [if_neg c'] at h; exact gX_K hS h
theorem m59 {S U : xS} (hS : xInv S) (h : plX S U (t0 S)) {w : Nat} (hw : w ≤ 3) : (gP S w = none ∧ ∃ U', frX S U' ∧ ∀ r, xX 58 59 0 [(0, .ref 40), (1, .ref 2), (2, .int (nI w))] [] U r ↔ r = (some (.int 0), U')) ∨ ∃ U' t, gP S w = some t ∧ plE S U' t ∧ ∀ r, xX 58 59 0 [(0, .ref 40), (1, .ref 2), (2, .int (nI w))] [] U r ↔ r = (some (.int 1), U') := by
  have hc : w = 0 ∨ w = 1 ∨ w = 2 ∨ w = 3 := by omega
  rcases hc with c | c | c | c <;> subst c
  · have z : nI 0 = 0 := rfl
    have eP : gP S 0 = gR S := if_pos rfl
    rw [eP]
    rcases m53R hS h with ⟨i1, U', i2, i3⟩ | ⟨U', t, i1, -, i3, i4⟩
    · have i3' := i3 53
      exact Or.inl ⟨i1, U', i2, fun r => by simp (decide := true) only [z, b59_0, b59_21, i3', exists_eq_left, xtl, b59_26, b59_29, ↓reduceIte, xbit_0, true_and]⟩
    · have i4' := i4 53
      exact Or.inr ⟨U', t, i3, i1.E, fun r => by simp (decide := true) only [z, b59_0, b59_21, i4', exists_eq_left, xtl, b59_26, b59_31, b59_41, ↓reduceIte, xbit_1, true_and]⟩
  · have z : nI 1 = 1 := rfl
    have eP : gP S 1 = gW S := by unfold gP; rw [if_neg (by decide), if_pos rfl]
    rw [eP]
    rcases m53R hS h with ⟨i1, U', i2, i3⟩ | ⟨U', t, i1, -, i3, i4⟩
    · have i3' := i3 53
      exact Or.inl ⟨by unfold gW; rw [i1]; rfl, U', i2, fun r => by simp (decide := true) only [z, b59_0, b59_21, i3', exists_eq_left, xtl, b59_26, b59_29, ↓reduceIte, xbit_0, true_and]⟩
    · have i4' := i4 53
      have hK := gR_K hS i3
      have hcb := cN_le hS (t := t) (fun k hk => hK.le hS hk)
      obtain ⟨U2, p2, e2⟩ := m58 hS 4501 0 U' t (by omega) (by omega) i1 hK
      have e2' := fun r => (b58_0 57 U' r).trans (e2 52 r)
      exact Or.inr ⟨U2, _, by unfold gW; rw [i3]; rfl, p2.E, fun r => by simp (decide := true) only [z, b59_0, b59_21, i4', exists_eq_left, xtl, xtl0, b59_26, b59_31, b59_36, e2', b59_41a, ↓reduceIte, xbit_1, true_and]⟩
  · have z : nI 2 = 2 := rfl
    have eP : gP S 2 = gX S 0 := by unfold gP; rw [if_neg (by decide), if_neg (by decide)]
    rw [eP]
    have z0 : nI 0 = 0 := rfl
    rcases m51 hS h (md := 0) (Or.inl rfl) with ⟨i1, U', i2, i3⟩ | ⟨U', t, i1, i2, i3⟩
    · rw [z0] at i3
      exact Or.inl ⟨i1, U', i2, fun r => by simp (decide := true) only [z, b59_0, b59_5, b59_16, i3, exists_eq_left, xtl, b59_20, ↓reduceIte, xbit_0, true_and]⟩
    · rw [z0] at i3
      exact Or.inr ⟨U', t, i1, i2, fun r => by simp (decide := true) only [z, b59_0, b59_5, b59_16, i3, exists_eq_left, xtl, b59_20, ↓reduceIte, xbit_1, true_and]⟩
  · have z : nI 3 = 3 := rfl
    have eP : gP S 3 = gX S 1 := by unfold gP; rw [if_neg (by decide), if_neg (by decide)]
    rw [eP]
    have z0 : nI 1 = 1 := rfl
    rcases m51 hS h (md := 1) (Or.inr rfl) with ⟨i1, U', i2, i3⟩ | ⟨U', t, i1, i2, i3⟩
    · rw [z0] at i3
      exact Or.inl ⟨i1, U', i2, fun r => by simp (decide := true) only [z, b59_0, b59_5, b59_12, i3, exists_eq_left, xtl, b59_20, ↓reduceIte, xbit_0, true_and]⟩
    · rw [z0] at i3
      exact Or.inr ⟨U', t, i1, i2, fun r => by simp (decide := true) only [z, b59_0, b59_5, b59_12, i3, exists_eq_left, xtl, b59_20, ↓reduceIte, xbit_1, true_and]⟩
