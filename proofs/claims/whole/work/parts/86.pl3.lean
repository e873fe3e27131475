/-! plans: by the rule -/
def fr (S : xS) (k : Nat) : Prop := S.1 7 k = 0 ∧ S.1 6 k = 0
theorem m41 (U : xS) {k : Nat} (hk : k < 10) : (fr U k ∧ ∀ (d : Nat) (r : Option Value × xS), xX d 41 0 [(0, .ref 2), (1, .int (nI k))] [] U r ↔ r = (some (.int 1), U)) ∨ (¬ fr U k ∧ ∀ (d : Nat) (r : Option Value × xS), xX d 41 0 [(0, .ref 2), (1, .int (nI k))] [] U r ↔ r = (some (.int 0), U)) := by
  have a1 : (nI k).toNatClampNeg = k := nI_clamp (by omega)
  have a2 := vp_in_nI hk (by omega : 10 < 2 ^ 31)
  by_cases c1 : U.1 7 k = 0
  · by_cases c2 : U.1 6 k = 0
    · exact Or.inl ⟨⟨c1, c2⟩, fun d r => (t41 d _ U r (by simp only [g41, a1, a2, c1, ↓reduceIte, and_true])).trans (by simp only [p41, a1, c1, c2, ↓reduceIte])⟩
    · exact Or.inr ⟨fun z => c2 z.2, fun d r => (t41 d _ U r (by simp only [g41, a1, a2, c1, ↓reduceIte, and_true])).trans (by simp only [p41, a1, c1, c2, ↓reduceIte])⟩
  · exact Or.inr ⟨fun z => c1 z.1, fun d r => (t41 d _ U r (by simp only [g41, a1, a2, c1, ↓reduceIte, and_true])).trans (by simp only [p41, a1, c1, ↓reduceIte])⟩
theorem m142 (U : xS) {k : Nat} (hk : k < 10) {p : Prop} (hp : p ↔ (U.1 59 k = 0 ∧ U.1 58 k = 0)) : (p ∧ ∀ (d : Nat) (r : Option Value × xS), xX d 142 0 [(0, .ref 54), (1, .int (nI k))] [] U r ↔ r = (some (.int 1), U)) ∨ (¬ p ∧ ∀ (d : Nat) (r : Option Value × xS), xX d 142 0 [(0, .ref 54), (1, .int (nI k))] [] U r ↔ r = (some (.int 0), U)) := by
  have a1 : (nI k).toNatClampNeg = k := nI_clamp (by omega)
  have a2 := vp_in_nI hk (by omega : 10 < 2 ^ 31)
  by_cases c1 : U.1 59 k = 0
  · by_cases c2 : U.1 58 k = 0
    · exact Or.inl ⟨hp.mpr ⟨c1, c2⟩, fun d r => (t142 d _ U r (by simp only [g142, a1, a2, c1, ↓reduceIte, and_true])).trans (by simp only [p142, a1, c1, c2, ↓reduceIte])⟩
    · exact Or.inr ⟨fun z => c2 (hp.mp z).2, fun d r => (t142 d _ U r (by simp only [g142, a1, a2, c1, ↓reduceIte, and_true])).trans (by simp only [p142, a1, c1, c2, ↓reduceIte])⟩
  · exact Or.inr ⟨fun z => c1 (hp.mp z).1, fun d r => (t142 d _ U r (by simp only [g142, a1, a2, c1, ↓reduceIte, and_true])).trans (by simp only [p142, a1, c1, ↓reduceIte])⟩
noncomputable def eW (S : xS) (t : Nat → Nat) (k : Nat) : Nat → Nat → Nat
  | 0, w => w
  | m + 1, w => @ite _ (LG S (tU t k w)) (Classical.propDecidable _) w (eW S t k m (w + 1))
theorem eW_le {S : xS} {t : Nat → Nat} {k : Nat} : ∀ m w, w ≤ eW S t k m w ∧ eW S t k m w ≤ w + m ∧ (eW S t k m w < w + m → LG S (tU t k (eW S t k m w))) := by
  intro m
  induction m with
  | zero => intro w; exact ⟨Nat.le_refl _, Nat.le_refl _, fun h => absurd h (Nat.lt_irrefl _)⟩
  | succ m ih =>
    intro w
    unfold eW
    by_cases c : LG S (tU t k w)
    · rw [if_pos c]; exact ⟨Nat.le_refl _, by omega, fun _ => c⟩
    · rw [if_neg c]
      obtain ⟨i1, i2, i3⟩ := ih (w + 1)
      exact ⟨by omega, by omega, fun h => i3 (by omega)⟩
theorem LG_fr {S S' : xS} {t : Nat → Nat} (h : ∀ c, c < 40 → S'.1 c = S.1 c) : LG S' t ↔ LG S t := by
  unfold LG
  exact ⟨fun z v hv => by rw [← aLg_fr h]; exact z v hv, fun z v hv => by rw [aLg_fr h]; exact z v hv⟩
theorem plX.R {S U : xS} {t : Nat → Nat} (hS : xInv S) (h : plX S U t) : xInvR U := xInvR_fr (fun c hc _ => h.2.2.2.1 c hc) (by rw [h.2.2.2.2.2]) hS.R
theorem plX.n {S U : xS} {t : Nat → Nat} (h : plX S U t) : U.1 2 = S.1 2 := h.2.2.2.1 2 (by decide)
theorem m35X {S U : xS} (hS : xInv S) {t : Nat → Nat} (h : plX S U t) (hL : LG S t) {k w : Nat} (hk : k < xN (S.1 2 0)) (ht : t k = 5) (hw : w < 5) : (LG S (tU t k w) ∧ ∀ (d : Nat) (r : Option Value × xS), xX d 35 0 [(0, .ref 41), (1, .int (nI k)), (2, .int (nI w))] [] U r ↔ r = (some (.int 1), U)) ∨ (¬ LG S (tU t k w) ∧ ∀ (d : Nat) (r : Option Value × xS), xX d 35 0 [(0, .ref 41), (1, .int (nI k)), (2, .int (nI w))] [] U r ↔ r = (some (.int 0), U)) := by
  have f : ∀ c, c < 40 → U.1 c = S.1 c := fun c hc => h.2.2.2.1 c (Or.inl hc)
  have e := m35 U (h.R hS) (t := t) (k := k) (w := w) (by rw [h.n]; exact h.1) (by rw [h.n]; exact h.2.1) (by rw [h.n]; exact hk) ht hw ((LG_fr f).mpr hL)
  rw [LG_fr f] at e
  exact e
/-- the class's place of one office -/
theorem m52 {S : xS} (hS : xInv S) {U : xS} {t : Nat → Nat} (h : plX S U t) (hL : LG S t) {k : Nat} (hk : k < xN (S.1 2 0)) (ht : t k = 5) : ∀ m w, w + m = 5 → (eW S t k m w = 5 ∧ ∀ (d : Nat) (r : Option Value × xS), xX (d + 3) 52 5 [(0, .ref 40), (1, .int (nI k)), (2, .int (nI w))] [] U r ↔ r = (some (.int 0), U)) ∨ (eW S t k m w < 5 ∧ ∃ U', plX S U' (tU t k (eW S t k m w)) ∧ ∀ (d : Nat) (r : Option Value × xS), xX (d + 3) 52 5 [(0, .ref 40), (1, .int (nI k)), (2, .int (nI w))] [] U r ↔ r = (some (.int 1), U')) := by
  intro m
  induction m with
  | zero =>
    intro w hw
    have : w = 5 := by omega
    subst this
    have n5 : ¬ nI 5 < 5 := by decide
    refine Or.inl ⟨rfl, fun d r => ?_⟩
    rw [b52_5, if_neg n5, b52_36]
    simp only [xbit_0, true_and]
  | succ m ih =>
    intro w hw
    have hw5 : w < 5 := by omega
    have d1 : nI w < 5 := nI_lt (a := w) (b := 5) hw5 (by omega)
    unfold eW
    rcases m35X hS h hL hk ht hw5 with ⟨c, e⟩ | ⟨c, e⟩
    · rw [if_pos c]
      obtain ⟨U', p', -, -, e'⟩ := m48 hS h hk (Nat.le_of_lt hw5)
      refine Or.inr ⟨hw5, U', p', fun d r => ?_⟩
      refine (b52_5 _ _ _ _ _).trans ?_
      rw [if_pos d1]
      simp (decide := true) only [b52_10, e, e', exists_eq_left, xtl, xtl0, b52_19, b52_22, b52_28, ↓reduceIte, xbit_1, true_and]
    · rw [if_neg c]
      have st : ∀ (d : Nat) (r : Option Value × xS), xX (d + 3) 52 5 [(0, .ref 40), (1, .int (nI k)), (2, .int (nI w))] [] U r ↔ xX (d + 3) 52 5 [(0, .ref 40), (1, .int (nI k)), (2, .int (nI (w + 1)))] [] U r := fun d r => by
        refine (b52_5 _ _ _ _ _).trans ?_
        rw [if_pos d1]
        simp (decide := true) only [b52_10, e, exists_eq_left, xtl, b52_19, b52_30, ↓reduceIte, nI_1]
      rcases ih (w + 1) (by omega) with ⟨i1, i2⟩ | ⟨i1, U', i2, i3⟩
      · exact Or.inl ⟨i1, fun d r => (st d r).trans (i2 d r)⟩
      · exact Or.inr ⟨i1, U', i2, fun d r => (st d r).trans (i3 d r)⟩
noncomputable def gF (S : xS) (now : Nat) (l : Nat → Nat) : Nat → (Nat → Nat) → Nat → Option (Nat → Nat)
  | 0, t, _ => some t
  | m + 1, t, i => if eW S t (l i) (5 - now) now = 5 then none else gF S now l m (tU t (l i) (eW S t (l i) (5 - now) now)) (i + 1)
def kO (S : xS) (k : Nat) : Nat := (9 - xN (S.1 4 k)) * 16 + k
def Ord (S : xS) (l : Nat → Nat) (m : Nat) : Prop := (∀ i, i < m → l i < xN (S.1 2 0) ∧ fr S (l i)) ∧ (∀ k, k < xN (S.1 2 0) → fr S k → ∃ i, i < m ∧ l i = k) ∧ ∀ i j, i < j → j < m → kO S (l i) < kO S (l j)
theorem Ord.inj {S : xS} {l : Nat → Nat} {m : Nat} (h : Ord S l m) {i j : Nat} (hi : i < m) (hj : j < m) (e : l i = l j) : i = j := by
  rcases Nat.lt_trichotomy i j with c | c | c
  · have := h.2.2 i j c hj; rw [e] at this; omega
  · exact c
  · have := h.2.2 j i c hi; rw [e] at this; omega
theorem gF_some {S : xS} {now : Nat} (hn : now ≤ 5) {l : Nat → Nat} {M : Nat} (hO : Ord S l M) : ∀ m t i t', i + m = M → LG S t → gF S now l m t i = some t' → LG S t' ∧ (∀ k, (∀ j, i ≤ j → j < M → l j ≠ k) → t' k = t k) ∧ ∀ j, i ≤ j → j < M → now ≤ t' (l j) ∧ t' (l j) < 5 := by
  intro m
  induction m with
  | zero =>
    intro t i t' hi hL he
    have : t = t' := Option.some.inj he
    subst this
    exact ⟨hL, fun _ _ => rfl, fun j h1 h2 => absurd h2 (by omega)⟩
  | succ m ih =>
    intro t i t' hi hL he
    unfold gF at he
    obtain ⟨w1, w2, w3⟩ := eW_le (S := S) (t := t) (k := l i) (5 - now) now
    by_cases c : eW S t (l i) (5 - now) now = 5
    · rw [if_pos c] at he; exact absurd he (by simp)
    · rw [if_neg c] at he
      obtain ⟨i1, i2, i3⟩ := ih _ (i + 1) t' (by omega) (w3 (by omega)) he
      refine ⟨i1, fun k hk => ?_, fun j h1 h2 => ?_⟩
      · rw [i2 k (fun j h1 h2 => hk j (by omega) h2), tU_ne _ _ _ _ (fun z => hk i (Nat.le_refl _) (by omega) z.symm)]
      · by_cases e : j = i
        · subst e
          rw [i2 (l j) (fun x h3 h4 z => by have := hO.inj h4 h2 z; omega), tU_eq]
          omega
        · exact i3 j (by omega) h2
def frX (S U : xS) : Prop := (∀ c, (c < 40 ∨ 53 < c) → U.1 c = S.1 c) ∧ U.2 = S.2
theorem plX.fr {S U : xS} {t : Nat → Nat} (h : plX S U t) : frX S U := ⟨h.2.2.2.1, h.2.2.2.2.2⟩
def rI (S : xS) (l : Nat → Nat) (M : Nat) (G : Option (Nat → Nat)) (K c : Nat) (U : xS) (t : Nat → Nat) : Prop := plX S U t ∧ LG S t ∧ c ≤ M ∧ (∀ i, i < M → (i < c ↔ kO S (l i) < K)) ∧ (∀ i, c ≤ i → i < M → t (l i) = 5) ∧ gF S (xN (S.1 0 10)) l (M - c) t c = G
theorem fr_X {S U : xS} (h : ∀ c, (c < 40 ∨ 53 < c) → U.1 c = S.1 c) (k : Nat) : fr U k ↔ fr S k := by
  unfold fr; rw [h 7 (by decide), h 6 (by decide)]
theorem xInv.rnk {S : xS} (h : xInv S) {k : Nat} (hk : k < 10) : xN (S.1 4 k) ≤ 9 ∧ S.1 4 k = nI (xN (S.1 4 k)) ∧ S.1 56 k = nI (xN (S.1 4 k)) := h.hRnk.get (by omega) hk
theorem in53 {S : xS} (hS : xInv S) {l : Nat → Nat} {M : Nat} (hO : Ord S l M) {G : Option (Nat → Nat)} {ρ : Nat} (hρ : ρ ≤ 9) : ∀ q k c U t, k + q = xN (S.1 2 0) → rI S l M G ((9 - ρ) * 16 + k) c U t → (G = none ∧ ∃ U', frX S U' ∧ ∀ (d : Nat) (r : Option Value × xS), xX (d + 4) 53 9 [(0, .ref 40), (1, .ref 2), (2, .int (nI ρ)), (3, .int (nI k))] [] U r ↔ r = (some (.int 0), U')) ∨ ∃ c' U' t', rI S l M G ((9 - ρ) * 16 + xN (S.1 2 0)) c' U' t' ∧ ∀ (d : Nat) (r : Option Value × xS), xX (d + 4) 53 9 [(0, .ref 40), (1, .ref 2), (2, .int (nI ρ)), (3, .int (nI k))] [] U r ↔ xX (d + 4) 53 51 [(0, .ref 40), (1, .ref 2), (2, .int (nI ρ))] [] U' r := by
  obtain ⟨hn, hn1, hn2⟩ := hS.cnt
  obtain ⟨hw, hw1, hw2⟩ := hS.now
  intro q
  induction q with
  | zero =>
    intro k c U t hk h
    have hk' : k = xN (S.1 2 0) := by omega
    subst hk'
    refine Or.inr ⟨c, U, t, h, fun d r => ?_⟩
    rw [b53_9, h.1.n, hn1, xN_nI (by omega), if_neg (nI_nlt (Nat.le_refl _) (by omega))]
  | succ q ih =>
    intro k c U t hk h
    obtain ⟨h1, h2, h3, h4, h5, h6⟩ := id h
    have hkn : k < xN (S.1 2 0) := by omega
    have a1 : (nI k).toNatClampNeg = k := nI_clamp (by omega)
    have a2 := vp_in_nI (show k < 10 by omega) (by omega : 10 < 2 ^ 31)
    have d1 : nI k < U.1 2 0 := by rw [h1.n, hn1]; exact nI_lt hkn (by omega)
    obtain ⟨r1, r2, r3⟩ := hS.rnk (show k < 10 by omega)
    have f4 : U.1 4 = S.1 4 := h1.2.2.2.1 4 (by decide)
    have skip : ¬ (xN (S.1 4 k) = ρ ∧ fr S k) → rI S l M G ((9 - ρ) * 16 + (k + 1)) c U t := fun hne => by
      refine ⟨h1, h2, h3, fun i hi => (h4 i hi).trans ?_, h5, h6⟩
      obtain ⟨x1, x2⟩ := hO.1 i hi
      have x3 := (hS.rnk (show l i < 10 by omega)).1
      unfold kO
      refine ⟨fun z => by omega, fun z => ?_⟩
      by_cases e : (9 - xN (S.1 4 (l i))) * 16 + l i = (9 - ρ) * 16 + k
      · exfalso
        have e1 : l i = k := by omega
        rw [e1] at e x2
        exact hne ⟨by omega, x2⟩
      · omega
    have go : ∀ (U' : xS) (c' : Nat) (t' : Nat → Nat), rI S l M G ((9 - ρ) * 16 + (k + 1)) c' U' t' → (∀ (d : Nat) (r : Option Value × xS), xX (d + 4) 53 9 [(0, .ref 40), (1, .ref 2), (2, .int (nI ρ)), (3, .int (nI k))] [] U r ↔ xX (d + 4) 53 9 [(0, .ref 40), (1, .ref 2), (2, .int (nI ρ)), (3, .int (nI (k + 1)))] [] U' r) → (G = none ∧ ∃ U', frX S U' ∧ ∀ (d : Nat) (r : Option Value × xS), xX (d + 4) 53 9 [(0, .ref 40), (1, .ref 2), (2, .int (nI ρ)), (3, .int (nI k))] [] U r ↔ r = (some (.int 0), U')) ∨ ∃ c' U' t', rI S l M G ((9 - ρ) * 16 + xN (S.1 2 0)) c' U' t' ∧ ∀ (d : Nat) (r : Option Value × xS), xX (d + 4) 53 9 [(0, .ref 40), (1, .ref 2), (2, .int (nI ρ)), (3, .int (nI k))] [] U r ↔ xX (d + 4) 53 51 [(0, .ref 40), (1, .ref 2), (2, .int (nI ρ))] [] U' r := fun U' c' t' hr st => by
      rcases ih (k + 1) c' U' t' (by omega) hr with ⟨i1, U2, i2, i3⟩ | ⟨c2, U2, t2, i2, i3⟩
      · exact Or.inl ⟨i1, U2, i2, fun d r => (st d r).trans (i3 d r)⟩
      · exact Or.inr ⟨c2, U2, t2, i2, fun d r => (st d r).trans (i3 d r)⟩
    by_cases c1 : xN (S.1 4 k) = ρ
    · have c1' : U.1 4 k = nI ρ := by rw [f4, r2, c1]
      rcases m41 U (show k < 10 by omega) with ⟨c2, e2⟩ | ⟨c2, e2⟩
      · have c2' := (fr_X h1.2.2.2.1 k).mp c2
        obtain ⟨i, hi, hik⟩ := hO.2.1 k hkn c2'
        have hic : i = c := by
          have y1 := h4 i hi
          rw [hik] at y1
          unfold kO at y1
          have y2 : ¬ i < c := fun z => by have := y1.mp z; omega
          by_cases y3 : c < i
          · have y4 := hO.2.2 c i y3 hi
            rw [hik] at y4
            have y5 := (h4 c (by omega)).mpr (by unfold kO at y4 ⊢; omega)
            exact absurd y5 (Nat.lt_irrefl _)
          · omega
        subst hic
        have ht5 := h5 i (Nat.le_refl _) hi
        rw [hik] at ht5
        have hG := h6
        rw [show M - i = (M - (i + 1)) + 1 by omega] at hG
        unfold gF at hG
        rw [hik] at hG
        have f3 : U.1 40 3 = nI (xN (S.1 0 10)) := by rw [h1.2.2.2.2.1]; exact hw1
        obtain ⟨w1, w2, w3⟩ := eW_le (S := S) (t := t) (k := k) (5 - xN (S.1 0 10)) (xN (S.1 0 10))
        rcases m52 hS h1 h2 hkn ht5 (5 - xN (S.1 0 10)) (xN (S.1 0 10)) (by omega) with ⟨p1, p2⟩ | ⟨p1, U', p2, p3⟩
        · rw [if_pos p1] at hG
          refine Or.inl ⟨hG.symm, U, h1.fr, fun d r => ?_⟩
          refine (b53_9 _ _ _ _ _).trans ?_
          rw [if_pos d1]
          have p2' := p2 d
          simp (decide := true) only [b53_17, b53_27, b53_32, b53_35, b53_40, b53_43, a1, a2, c1', e2, b52_0, f3, p2', exists_eq_left, xtl, ↓reduceIte, xbit_0, true_and]
        · rw [if_neg (by omega)] at hG
          refine go U' (i + 1) _ ⟨p2, w3 (by omega), by omega, fun j hj => ?_, fun j hj1 hj2 => ?_, hG⟩ (fun d r => ?_)
          · have y1 : i < j → kO S k < kO S (l j) := fun z => by have := hO.2.2 i j z hj; rw [hik] at this; exact this
            have y2 : j < i → kO S (l j) < kO S k := fun z => by have := hO.2.2 j i z hi; rw [hik] at this; exact this
            have y3 : j = i → kO S (l j) = kO S k := fun z => by rw [z, hik]
            have y4 : kO S k = (9 - ρ) * 16 + k := by unfold kO; rw [c1]
            rcases Nat.lt_trichotomy i j with z | z | z
            · have := y1 z; omega
            · have := y3 z.symm; omega
            · have := y2 z; omega
          · rw [tU_ne _ _ _ _ (fun z => by have := hO.inj hj2 hi (z.trans hik.symm); omega)]
            exact h5 j (by omega) hj2
          · refine (b53_9 _ _ _ _ _).trans ?_
            rw [if_pos d1]
            have p3' := p3 d
            simp (decide := true) only [b53_17, b53_27, b53_32, b53_35, b53_40, b53_45, a1, a2, c1', e2, b52_0, f3, p3', exists_eq_left, xtl, ↓reduceIte, true_and, nI_1]
      · refine go U c t (skip (fun z => c2 ((fr_X h1.2.2.2.1 k).mpr z.2))) (fun d r => ?_)
        refine (b53_9 _ _ _ _ _).trans ?_
        rw [if_pos d1]
        simp (decide := true) only [b53_17, b53_27, b53_32, b53_45, a1, a2, c1', e2, exists_eq_left, xtl, ↓reduceIte, true_and, nI_1]
    · have c1' : ¬ U.1 4 k = nI ρ := by
        rw [f4, r2]; intro z
        have := congrArg xN z
        rw [xN_nI (by omega), xN_nI (by omega)] at this
        exact c1 this
      refine go U c t (skip (fun z => c1 z.1)) (fun d r => ?_)
      refine (b53_9 _ _ _ _ _).trans ?_
      rw [if_pos d1]
      simp (decide := true) only [b53_17, b53_45, a1, a2, c1', ↓reduceIte, true_and, nI_1]
