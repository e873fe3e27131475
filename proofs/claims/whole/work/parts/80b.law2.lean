/-! the law's grammar, both sides at once -/
section LAW2
variable {S T : xS} {s q m : Nat} {c : Nat → Int32}
theorem m167_1 (h : lmC T s m c) {p top : Nat} (hp : p ≤ m) (ht : top ≤ 9) : (∃ e, dgt c m p ∧ c p = nI (48 + e) ∧ e ≤ top ∧ ∀ (d : Nat) (r : Option Value × xS), xX (d + 1) 167 0 [(0, .ref 54), (1, .int (nI s)), (2, .int (nI top))] [] (pT T p) r ↔ r = (some (.int (nI e)), pT T (p + 1))) ∨ ((∀ e, dgt c m p → c p = nI (48 + e) → e ≤ 9 → top < e) ∧ ∀ (d : Nat) (r : Option Value × xS), xX (d + 1) 167 0 [(0, .ref 54), (1, .int (nI s)), (2, .int (nI top))] [] (pT T p) r ↔ r = (some (.int (-1)), pT T p)) := by
  have hm := h.2.2.1
  by_cases k : dgt c m p
  · obtain ⟨e, he, hc⟩ := dgt_of k
    by_cases k1 : e ≤ top
    · refine Or.inl ⟨e, k, hc, k1, fun d r => ?_⟩
      have g := m167d h k.1 he hc (show 0 ≤ 99 by decide) (show 0 ≤ 60 by decide) (show top ≤ 99 by omega) d r
      rw [if_neg (by omega), nI_0] at g
      rw [b167_0]
      refine g.trans ?_
      rw [Nat.mul_zero, Nat.zero_add, Nat.zero_add]
      by_cases k2 : dgt c m (p + 1)
      · obtain ⟨e', he', hc'⟩ := dgt_of k2
        refine (m167d h k2.1 he' hc' (show e ≤ 99 by omega) (show 1 ≤ 60 by decide) (show top ≤ 99 by omega) d r).trans ?_
        rw [if_pos (by omega), if_neg (by decide)]
      · refine (m167s h (show p + 1 ≤ 60 by have := k.1; omega) k2 (nI top) (nI e) (nI 1) d r).trans ?_
        rw [if_neg (by decide)]
    · refine Or.inr ⟨fun e2 _ hc2 he2 => ?_, fun d r => ?_⟩
      · have : 48 + e = 48 + e2 := (nI_eq (by omega) (by omega)).mp (hc.symm.trans hc2)
        omega
      · have g := m167d h k.1 he hc (show 0 ≤ 99 by decide) (show 0 ≤ 60 by decide) (show top ≤ 99 by omega) d r
        rw [if_pos (by omega), if_pos rfl, nI_0] at g
        rw [b167_0]
        exact g
  · refine Or.inr ⟨fun e2 k2 => absurd k2 k, fun d r => ?_⟩
    rw [b167_0]
    refine (m167s h (by omega) k (nI top) 0 0 d r).trans ?_
    rw [if_pos rfl]
/-- number() up to 99 -/
theorem m167_99 (h : lmC T s m c) {p : Nat} (hp : p ≤ m) : (∃ e, dgt c m p ∧ c p = nI (48 + e) ∧ e ≤ 9 ∧ (e = 0 ∨ ¬ dgt c m (p + 1)) ∧ ∀ (d : Nat) (r : Option Value × xS), xX (d + 1) 167 0 [(0, .ref 54), (1, .int (nI s)), (2, .int (nI 99))] [] (pT T p) r ↔ r = (some (.int (nI e)), pT T (p + 1))) ∨ (∃ e e', dgt c m p ∧ c p = nI (48 + e) ∧ e ≤ 9 ∧ 0 < e ∧ dgt c m (p + 1) ∧ c (p + 1) = nI (48 + e') ∧ e' ≤ 9 ∧ ∀ (d : Nat) (r : Option Value × xS), xX (d + 1) 167 0 [(0, .ref 54), (1, .int (nI s)), (2, .int (nI 99))] [] (pT T p) r ↔ r = (some (.int (nI (10 * e + e'))), pT T (p + 2))) ∨ (¬ dgt c m p ∧ ∀ (d : Nat) (r : Option Value × xS), xX (d + 1) 167 0 [(0, .ref 54), (1, .int (nI s)), (2, .int (nI 99))] [] (pT T p) r ↔ r = (some (.int (-1)), pT T p)) := by
  have hm := h.2.2.1
  by_cases k : dgt c m p
  · obtain ⟨e, he, hc⟩ := dgt_of k
    have kp := k.1
    have g := fun (d : Nat) (r : Option Value × xS) => m167d h k.1 he hc (show 0 ≤ 99 by decide) (show 0 ≤ 60 by decide) (show 99 ≤ 99 by decide) d r
    by_cases k2 : dgt c m (p + 1)
    · obtain ⟨e', he', hc'⟩ := dgt_of k2
      have kp2 := k2.1
      have g2 := fun (d : Nat) (r : Option Value × xS) => m167d h k2.1 he' hc' (show e ≤ 99 by omega) (show 1 ≤ 60 by decide) (show 99 ≤ 99 by decide) d r
      by_cases k3 : e = 0
      · refine Or.inl ⟨e, k, hc, he, Or.inl k3, fun d r => ?_⟩
        have g' := g d r
        rw [if_neg (by omega), nI_0] at g'
        rw [b167_0]
        refine g'.trans ?_
        rw [Nat.mul_zero, Nat.zero_add, Nat.zero_add]
        refine (g2 d r).trans ?_
        rw [if_pos (Or.inl ⟨by decide, k3⟩), if_neg (by decide)]
      · refine Or.inr (Or.inl ⟨e, e', k, hc, he, by omega, k2, hc', he', fun d r => ?_⟩)
        have g' := g d r
        rw [if_neg (by omega), nI_0] at g'
        rw [b167_0]
        refine g'.trans ?_
        rw [Nat.mul_zero, Nat.zero_add, Nat.zero_add]
        refine (g2 d r).trans ?_
        rw [if_neg (by omega)]
        by_cases k4 : dgt c m (p + 1 + 1)
        · obtain ⟨e2, he2, hc2⟩ := dgt_of k4
          refine (m167d h k4.1 he2 hc2 (show 10 * e + e' ≤ 99 by omega) (show 1 + 1 ≤ 60 by decide) (show 99 ≤ 99 by decide) d r).trans ?_
          rw [if_pos (by omega), if_neg (by decide)]
        · refine (m167s h (by omega) k4 (nI 99) _ _ d r).trans ?_
          rw [if_neg (by decide)]
    · refine Or.inl ⟨e, k, hc, he, Or.inr k2, fun d r => ?_⟩
      have g' := g d r
      rw [if_neg (by omega), nI_0] at g'
      rw [b167_0]
      refine g'.trans ?_
      rw [Nat.mul_zero, Nat.zero_add, Nat.zero_add]
      refine (m167s h (by omega) k2 (nI 99) _ _ d r).trans ?_
      rw [if_neg (by decide)]
  · refine Or.inr (Or.inr ⟨k, fun d r => ?_⟩)
    rw [b167_0]
    refine (m167s h (by omega) k (nI 99) 0 0 d r).trans ?_
    rw [if_pos rfl]
/-- the class's reader in state st at place p -/
def cR (d : Nat) (S : xS) (s m : Nat) (st : Int32) (p : Nat) (ow nu fw : Int32) (r : Option Value × xS) : Prop := xX (d + 2) 29 23 [(0, .ref 19), (1, .ref 28), (2, .int (nI s)), (3, .int st), (4, .int (nI m)), (5, .int (nI p))] [] (cS S (-1) ow nu fw) r
theorem cR_step (h : lxC S s q m c) {p : Nat} (hp : p < m) {st st' ow nu fw ow' nu' fw' : Int32} (e : p28 (cS S (-1) ow nu fw) st (c p) = (some (.int st'), cS S (-1) ow' nu' fw')) (hs : ¬ st' = -1) (d : Nat) (r : Option Value × xS) : cR d S s m st p ow nu fw r ↔ cR d S s m st' (p + 1) ow' nu' fw' r := by
  have hm := h.2.2.2.1
  have g1 := fun (d : Nat) (r : Option Value × xS) => x26l h hp (-1) ow nu fw d r
  have g2 := fun (d : Nat) (r : Option Value × xS) => t28 d st (c p) (cS S (-1) ow nu fw) r
  rw [e] at g2
  unfold cR
  rw [b29_23, if_pos (nI_lt hp (by omega))]
  simp only [b29_30, g1, exists_eq_left, xtl, b29_39, h.2.2.2.2.2 p hp, g2, b29_43, if_neg hs, b29_56, nI_1]
theorem cR_bad (h : lxC S s q m c) {p : Nat} (hp : p < m) {st ow nu fw ow' nu' fw' : Int32} (e : p28 (cS S (-1) ow nu fw) st (c p) = (some (.int (-1)), cS S (-1) ow' nu' fw')) (d : Nat) (r : Option Value × xS) : cR d S s m st p ow nu fw r ↔ r = (none, cS S (nI p) ow' nu' fw') := by
  have hm := h.2.2.2.1
  have g1 := fun (d : Nat) (r : Option Value × xS) => x26l h hp (-1) ow nu fw d r
  have g2 := fun (d : Nat) (r : Option Value × xS) => t28 d st (c p) (cS S (-1) ow nu fw) r
  rw [e] at g2
  unfold cR
  rw [b29_23, if_pos (nI_lt hp (by omega))]
  simp (decide := true) only [b29_30, g1, exists_eq_left, xtl, b29_39, h.2.2.2.2.2 p hp, g2, b29_43, ↓reduceIte, b29_49, cS_w5]
theorem cR_end (h : lxC S s q m c) {st ow nu fw : Int32} (d : Nat) (r : Option Value × xS) : cR d S s m st m ow nu fw r ↔ r = (none, cS S (if st = 7 then -1 else nI m) ow nu fw) := by
  have hm := h.2.2.2.1
  unfold cR
  rw [b29_23, if_neg (nI_nlt (Nat.le_refl m) (by omega)), b29_62]
  rcases Classical.propComplete (st = 7) with z | z <;> simp (decide := true) only [z, ↓reduceIte, b29_74, b29_68, cS_w5]
theorem cR_end' (h : lxC S s q m c) {st ow nu fw : Int32} {p : Nat} (hp : p = m) (d : Nat) (r : Option Value × xS) : cR d S s m st p ow nu fw r ↔ r = (none, cS S (if st = 7 then -1 else nI p) ow nu fw) := by
  subst hp
  exact cR_end h d r
/-- what the reference comes to -/
def mOut (d : Nat) (T : xS) (ow nu fw : Int32) (p : Nat) (ok : Bool) (r : Option Value × xS) : Prop := match ok with
  | true => xX (d + 2) 168 249 [(0, .ref 54), (2, .int ow), (3, .int nu), (4, .int fw)] [] (xwI (pT T p) 54 14 (-1)) r
  | false => xX (d + 2) 168 242 [(0, .ref 54)] [] (xwI (pT T p) 54 14 (nI p)) r
theorem m227 (d : Nat) (v2 v3 v4 : Int32) {p : Nat} (hp : p ≤ 60) (ow nu fw : Int32) (r : Option Value × xS) : xX (d + 2) 168 227 [(0, .ref 54), (2, .int v2), (3, .int v3), (4, .int v4)] [.ref 54] (pT T p) r ↔ mOut d T ow nu fw p false r := by
  rw [b168_227, pT_r, if_neg (nI_nem1 (by omega))]
  exact Iff.rfl
def lOut (S T : xS) (s m : Nat) (st : Int32) (p : Nat) (ow nu fw : Int32) (M : Nat → Option Value × xS → Prop) : Prop := ∃ (ok : Bool) (p' : Nat) (ow' nu' fw' : Int32), p' ≤ 60 ∧ (∀ (d : Nat) (r : Option Value × xS), cR d S s m st p ow nu fw r ↔ r = (none, cS S (bif ok then -1 else nI p') ow' nu' fw')) ∧ ∀ (d : Nat) (r : Option Value × xS), M d r ↔ mOut d T ow' nu' fw' p' ok r
theorem dg_not {p : Nat} (hp : p < m) (h : ¬ dgt c m p) : c p < 48 ∨ 57 < c p := by
  by_cases c1 : c p < 48
  · exact Or.inl c1
  · by_cases c2 : 57 < c p
    · exact Or.inr c2
    · exact absurd ⟨hp, c1, c2⟩ h
theorem dg_x {e : Nat} (he : e ≤ 9) : ¬ nI (48 + e) < 48 ∧ ¬ 57 < nI (48 + e) ∧ nI (48 + e) - 48 = nI e ∧ ¬ nI e = -1 ∧ ¬ nI e < 0 ∧ ¬ nI (48 + e) = 97 ∧ ¬ nI (48 + e) = 111 ∧ ¬ nI (48 + e) = 109 ∧ ¬ nI (48 + e) = 102 := by
  rcases (show e = 0 ∨ e = 1 ∨ e = 2 ∨ e = 3 ∨ e = 4 ∨ e = 5 ∨ e = 6 ∨ e = 7 ∨ e = 8 ∨ e = 9 by omega) with z | z | z | z | z | z | z | z | z | z <;> subst z <;> decide
theorem law_W (hx : lxC S s q m c) (hm : lmC T s m c) {p : Nat} (hp : p < m) (ow nu fw : Int32) : lOut S T s m 6 (p + 1) ow nu fw (fun d r => xX (d + 2) 168 190 [(0, .ref 54), (1, .int (nI s)), (2, .int ow), (3, .int nu)] [] (pT T p) r) := by
  have hm60 := hm.2.2.1
  rcases m167_1 hm (p := p + 1) (top := 4) (by omega) (by decide) with ⟨e, k, hc, he, g⟩ | ⟨hno, g⟩
  · obtain ⟨u1, u2, u3, u4, u5, -⟩ := dg_x (e := e) (by omega)
    have u6 : nI e < 5 := nI_lt (b := 5) (by omega) (by omega)
    have kp := k.1
    have es : p28 (cS S (-1) ow nu fw) 6 (c (p + 1)) = (some (.int 7), cS S (-1) ow nu (nI e)) := by
      rw [hc]; simp (decide := true) only [p28, u1, u2, u3, u5, u6, ↓reduceIte, cS_w8]
    have n7 : ¬ (7 : Int32) = -1 := by decide
    have gi := fun (d : Nat) (r : Option Value × xS) => m164l hm (show p + 2 ≤ 60 by omega) d r
    by_cases ke : p + 2 < m
    · refine ⟨false, p + 2, ow, nu, nI e, by omega, fun d r => (cR_step hx kp es n7 d r).trans (cR_bad hx ke (by simp (decide := true) only [p28, ↓reduceIte, ite_self]) d r), fun d r => ?_⟩
      have g' := g d
      have gi' := gi (d + 1)
      rw [if_pos ke] at gi'
      simp (decide := true) only [b168_190, pT_r, pT_s, show (4 : Int32) = nI 4 by decide, g', exists_eq_left, xtl, b168_206, if_neg u4, b168_215, gi', b168_220, ↓reduceIte]
      exact m227 d _ _ _ (by omega) _ _ _ r
    · have ke2 : p + 2 = m := by omega
      refine ⟨true, p + 2, ow, nu, nI e, by omega, fun d r => (cR_step hx kp es n7 d r).trans ?_, fun d r => ?_⟩
      · have ge := cR_end hx (st := 7) (ow := ow) (nu := nu) (fw := nI e) d r
        rw [if_pos rfl] at ge
        rw [show p + 1 + 1 = m by omega]
        exact ge
      · have g' := g d
        have gi' := gi (d + 1)
        rw [if_neg ke] at gi'
        simp (decide := true) only [b168_190, pT_r, pT_s, show (4 : Int32) = nI 4 by decide, g', exists_eq_left, xtl, b168_206, if_neg u4, b168_215, gi', b168_220, ↓reduceIte, b168_223]
        exact Iff.rfl
  · have mo : ∀ (d : Nat) (r : Option Value × xS), xX (d + 2) 168 190 [(0, .ref 54), (1, .int (nI s)), (2, .int ow), (3, .int nu)] [] (pT T p) r ↔ mOut d T ow nu fw (p + 1) false r := fun d r => by
      have g' := g d
      simp (decide := true) only [b168_190, pT_r, pT_s, show (4 : Int32) = nI 4 by decide, g', exists_eq_left, xtl, b168_206, ↓reduceIte]
      exact m227 d _ _ _ (by omega) _ _ _ r
    by_cases kp : p + 1 < m
    · by_cases k : dgt c m (p + 1)
      · obtain ⟨e, he, hc⟩ := dgt_of k
        obtain ⟨u1, u2, u3, u4, u5, -⟩ := dg_x he
        have he5 := hno e k hc he
        have u6 : ¬ nI e < 5 := nI_nlt (b := 5) (by omega) (by omega)
        exact ⟨false, p + 1, ow, nu, nI e, by omega, fun d r => cR_bad hx kp (by rw [hc]; simp (decide := true) only [p28, u1, u2, u3, u5, u6, ↓reduceIte, cS_w8]) d r, mo⟩
      · refine ⟨false, p + 1, ow, nu, -1, by omega, fun d r => cR_bad hx kp ?_ d r, mo⟩
        rcases dg_not kp k with z | z
        · simp (decide := true) only [p28, z, ↓reduceIte, cS_w8]
        · by_cases z2 : c (p + 1) < 48 <;> simp (decide := true) only [p28, z, z2, ↓reduceIte, cS_w8]
    · refine ⟨false, p + 1, ow, nu, fw, by omega, fun d r => ?_, mo⟩
      have ge := cR_end' hx (p := p + 1) (by omega) (st := 6) (ow := ow) (nu := nu) (fw := fw) d r
      have n67 : ¬ (6 : Int32) = 7 := by decide
      rw [if_neg n67] at ge
      exact ge
theorem law_F (hx : lxC S s q m c) (hm : lmC T s m c) {p : Nat} (hp : p ≤ m) {st : Int32} (hq : st = 5 ∨ (st = 4 ∧ ¬ dgt c m p)) (ow : Int32) {nu : Int32} (hnu : ¬ nu = -1) (fw : Int32) : lOut S T s m st p ow nu fw (fun d r => xX (d + 2) 168 180 [(0, .ref 54), (1, .int (nI s)), (2, .int ow), (3, .int nu), (4, .int (-1))] [] (pT T p) r) := by
  have hm60 := hm.2.2.1
  have g := fun (d : Nat) (r : Option Value × xS) => m166l hm (show p ≤ 60 by omega) 102 d r
  by_cases k : p < m ∧ c p = 102
  · have es : p28 (cS S (-1) ow nu fw) st (c p) = (some (.int 6), cS S (-1) ow nu fw) := by
      rw [k.2]
      rcases hq with z | ⟨z, -⟩ <;> subst z <;> simp (decide := true) only [p28, ↓reduceIte]
    obtain ⟨ok, p', ow', nu', fw', h1, h2, h3⟩ := law_W hx hm k.1 ow nu fw
    refine ⟨ok, p', ow', nu', fw', h1, fun d r => (cR_step hx k.1 es (by decide) d r).trans (h2 d r), fun d r => ?_⟩
    have g' := g d
    rw [if_pos k] at g'
    refine Iff.trans ?_ (h3 d r)
    simp (decide := true) only [b168_180, g', exists_eq_left, xtl, b168_187, ↓reduceIte]
  · have mo : ∀ (d : Nat) (r : Option Value × xS), xX (d + 2) 168 180 [(0, .ref 54), (1, .int (nI s)), (2, .int ow), (3, .int nu), (4, .int (-1))] [] (pT T p) r ↔ mOut d T ow nu fw p false r := fun d r => by
      have g' := g d
      rw [if_neg k] at g'
      simp (decide := true) only [b168_180, g', exists_eq_left, xtl, b168_187, ↓reduceIte, b168_208]
      exact m227 d _ _ _ (by omega) _ _ _ r
    by_cases kp : p < m
    · have kc : ¬ c p = 102 := fun z => k ⟨kp, z⟩
      refine ⟨false, p, ow, nu, fw, by omega, fun d r => cR_bad hx kp ?_ d r, mo⟩
      rcases hq with z | ⟨z, z2⟩
      · subst z
        simp (decide := true) only [p28, kc, ↓reduceIte, ite_self]
      · subst z
        rcases dg_not kp z2 with y | y
        · simp (decide := true) only [p28, kc, y, ↓reduceIte]
        · simp (decide := true) only [p28, kc, y, ↓reduceIte, ite_self]
    · refine ⟨false, p, ow, nu, fw, by omega, fun d r => ?_, mo⟩
      have ge := cR_end' hx (p := p) (by omega) (st := st) (ow := ow) (nu := nu) (fw := fw) d r
      have n7 : ¬ st = 7 := by rcases hq with z | ⟨z, -⟩ <;> rw [z] <;> decide
      rw [if_neg n7] at ge
      exact ge
theorem law_N (hx : lxC S s q m c) (hm : lmC T s m c) {p : Nat} (hp : p < m) (ow nu fw : Int32) : lOut S T s m 3 (p + 1) ow nu fw (fun d r => xX (d + 2) 168 157 [(0, .ref 54), (1, .int (nI s)), (2, .int ow), (4, .int (-1))] [] (pT T p) r) := by
  have hm60 := hm.2.2.1
  have e99 : (99 : Int32) = nI 99 := by decide
  rcases m167_99 hm (p := p + 1) (by omega) with ⟨e, k, hc, he, hk, g⟩ | ⟨e, e', k, hc, he, he0, k2, hc2, he2, g⟩ | ⟨k, g⟩
  · obtain ⟨u1, u2, u3, u4, u5, -⟩ := dg_x he
    have hF : lOut S T s m (if e = 0 then 5 else 4) (p + 2) ow (nI e) fw (fun d r => xX (d + 2) 168 180 [(0, .ref 54), (1, .int (nI s)), (2, .int ow), (3, .int (nI e)), (4, .int (-1))] [] (pT T (p + 2)) r) := law_F hx hm (by have := k.1; omega) (by
      by_cases z : e = 0
      · rw [if_pos z]; exact Or.inl rfl
      · rw [if_neg z]; exact Or.inr ⟨rfl, hk.resolve_left z⟩) ow u4 fw
    obtain ⟨ok, p', ow', nu', fw', h1, h2, h3⟩ := hF
    refine ⟨ok, p', ow', nu', fw', h1, fun d r => (cR_step hx k.1 (st' := if e = 0 then 5 else 4) (ow' := ow) (nu' := nI e) (fw' := fw) ?_ ?_ d r).trans (h2 d r), fun d r => ?_⟩
    · rw [hc]
      by_cases z : e = 0
      · subst z; simp (decide := true) only [p28, u1, u2, u3, u4, nI_0, ↓reduceIte, cS_w7]
      · have z0 : ¬ nI e = 0 := nI_ne0 (by omega) (by omega)
        simp (decide := true) only [p28, u1, u2, u3, u4, z, z0, ↓reduceIte, cS_w7]
    · by_cases z : e = 0
      · rw [if_pos z]; decide
      · rw [if_neg z]; decide
    · have g' := g d
      refine Iff.trans ?_ (h3 d r)
      simp (decide := true) only [b168_157, pT_r, pT_s, e99, g', exists_eq_left, xtl, b168_174, if_neg u4]
  · obtain ⟨u1, u2, u3, u4, u5, -⟩ := dg_x he
    obtain ⟨w1, w2, w3, w4, w5, -⟩ := dg_x he2
    have u6 : ¬ nI (10 * e + e') = -1 := nI_nem1 (by omega)
    have z0 : ¬ nI e = 0 := nI_ne0 (by omega) (by omega)
    have hF : lOut S T s m 5 (p + 3) ow (nI (10 * e + e')) fw (fun d r => xX (d + 2) 168 180 [(0, .ref 54), (1, .int (nI s)), (2, .int ow), (3, .int (nI (10 * e + e'))), (4, .int (-1))] [] (pT T (p + 3)) r) := law_F hx hm (by have := k2.1; omega) (Or.inl rfl) ow u6 fw
    obtain ⟨ok, p', ow', nu', fw', h1, h2, h3⟩ := hF
    refine ⟨ok, p', ow', nu', fw', h1, fun d r => (cR_step hx k.1 (st' := 4) (ow' := ow) (nu' := nI e) (fw' := fw) ?_ (by decide) d r).trans ((cR_step hx k2.1 (st' := 5) (ow' := ow) (nu' := nI (10 * e + e')) (fw' := fw) ?_ (by decide) d r).trans (h2 d r)), fun d r => ?_⟩
    · rw [hc]; simp (decide := true) only [p28, u1, u2, u3, u4, z0, ↓reduceIte, cS_w7]
    · rw [hc2]; simp (decide := true) only [p28, w1, w2, w3, w4, cS_r7, nI_10m, ↓reduceIte, cS_w7]
    · have g' := g d
      refine Iff.trans ?_ (h3 d r)
      simp (decide := true) only [b168_157, pT_r, pT_s, e99, g', exists_eq_left, xtl, b168_174, if_neg u6]
  · have mo : ∀ (d : Nat) (r : Option Value × xS), xX (d + 2) 168 157 [(0, .ref 54), (1, .int (nI s)), (2, .int ow), (4, .int (-1))] [] (pT T p) r ↔ mOut d T ow nu fw (p + 1) false r := fun d r => by
      have g' := g d
      simp (decide := true) only [b168_157, pT_r, pT_s, e99, g', exists_eq_left, xtl, b168_174, ↓reduceIte, b168_208]
      exact m227 d _ _ _ (by omega) _ _ _ r
    by_cases kp : p + 1 < m
    · refine ⟨false, p + 1, ow, -1, fw, by omega, fun d r => cR_bad hx kp ?_ d r, mo⟩
      rcases dg_not kp k with y | y
      · simp (decide := true) only [p28, y, ↓reduceIte, cS_w7]
      · by_cases y2 : c (p + 1) < 48 <;> simp (decide := true) only [p28, y, y2, ↓reduceIte, cS_w7]
    · refine ⟨false, p + 1, ow, nu, fw, by omega, fun d r => ?_, mo⟩
      have ge := cR_end' hx (p := p + 1) (by omega) (st := 3) (ow := ow) (nu := nu) (fw := fw) d r
      have n7 : ¬ (3 : Int32) = 7 := by decide
      rw [if_neg n7] at ge
      exact ge
theorem law_M (hx : lxC S s q m c) (hm : lmC T s m c) {p : Nat} (hp : p ≤ m) (ow nu fw : Int32) : lOut S T s m 2 p ow nu fw (fun d r => xX (d + 2) 168 147 [(0, .ref 54), (1, .int (nI s)), (2, .int ow), (3, .int (-1)), (4, .int (-1))] [] (pT T p) r) := by
  have hm60 := hm.2.2.1
  have g := fun (d : Nat) (r : Option Value × xS) => m166l hm (show p ≤ 60 by omega) 109 d r
  by_cases k : p < m ∧ c p = 109
  · obtain ⟨ok, p', ow', nu', fw', h1, h2, h3⟩ := law_N hx hm k.1 ow nu fw
    refine ⟨ok, p', ow', nu', fw', h1, fun d r => (cR_step hx k.1 (st' := 3) (by rw [k.2]; simp (decide := true) only [p28, ↓reduceIte]) (by decide) d r).trans (h2 d r), fun d r => ?_⟩
    have g' := g d
    rw [if_pos k] at g'
    refine Iff.trans ?_ (h3 d r)
    simp (decide := true) only [b168_147, g', exists_eq_left, xtl, b168_154, ↓reduceIte]
  · have mo : ∀ (d : Nat) (r : Option Value × xS), xX (d + 2) 168 147 [(0, .ref 54), (1, .int (nI s)), (2, .int ow), (3, .int (-1)), (4, .int (-1))] [] (pT T p) r ↔ mOut d T ow nu fw p false r := fun d r => by
      have g' := g d
      rw [if_neg k] at g'
      simp (decide := true) only [b168_147, g', exists_eq_left, xtl, b168_154, ↓reduceIte, b168_175, b168_208]
      exact m227 d _ _ _ (by omega) _ _ _ r
    by_cases kp : p < m
    · have kc : ¬ c p = 109 := fun z => k ⟨kp, z⟩
      exact ⟨false, p, ow, nu, fw, by omega, fun d r => cR_bad hx kp (by simp (decide := true) only [p28, kc, ↓reduceIte, ite_self]) d r, mo⟩
    · refine ⟨false, p, ow, nu, fw, by omega, fun d r => ?_, mo⟩
      have ge := cR_end' hx (p := p) (by omega) (st := 2) (ow := ow) (nu := nu) (fw := fw) d r
      have n7 : ¬ (2 : Int32) = 7 := by decide
      rw [if_neg n7] at ge
      exact ge
theorem law_all (hx : lxC S s q m c) (hm : lmC T s m c) (nu fw : Int32) : lOut S T s m 0 0 (-1) nu fw (fun d r => xX (d + 2) 168 46 [(0, .ref 54), (1, .int (nI s))] [] T r) := by
  have hm60 := hm.2.2.1
  have g1 := fun (d : Nat) (r : Option Value × xS) => m166l hm (show 0 ≤ 60 by omega) 97 d r
  have g2 := fun (d : Nat) (r : Option Value × xS) => m166l hm (show 0 ≤ 60 by omega) 111 d r
  have e0 : xwI T 54 50 0 = pT T 0 := by unfold pT; rw [nI_0]
  have n97 : ¬ (97 : Int32) = 111 := by decide
  by_cases k : 0 < m ∧ c 0 = 97
  · have k2 : ¬ (0 < m ∧ c 0 = 111) := fun z => n97 (k.2.symm.trans z.2)
    obtain ⟨ok, p', ow', nu', fw', h1, h2, h3⟩ := law_M hx hm (p := 1) k.1 (-1) nu fw
    refine ⟨ok, p', ow', nu', fw', h1, fun d r => (cR_step hx k.1 (st' := 2) (by rw [k.2]; simp (decide := true) only [p28, ↓reduceIte]) (by decide) d r).trans (h2 d r), fun d r => ?_⟩
    have g1' := g1 d
    rw [if_pos k] at g1'
    have g5 := fun (d : Nat) (r : Option Value × xS) => m165l hm k.1 d r
    refine Iff.trans ?_ (h3 d r)
    simp (decide := true) only [b168_46, e0, g1', exists_eq_left, xtl, b168_65, b168_78, b168_90, g5, k.2, b168_95, b168_104, b168_142, pT_r, pT_s, ↓reduceIte]
  · by_cases k2 : 0 < m ∧ c 0 = 111
    · have g1' := fun d => g1 d
      have g2' := fun d => g2 d
      simp only [if_neg k] at g1'
      simp only [if_pos k2] at g2'
      have g5 := fun (d : Nat) (r : Option Value × xS) => m165l hm k2.1 d r
      have es : p28 (cS S (-1) (-1) nu fw) 0 (c 0) = (some (.int 1), cS S (-1) (-1) nu fw) := by rw [k2.2]; simp (decide := true) only [p28, ↓reduceIte]
      have e9 : (9 : Int32) = nI 9 := by decide
      rcases m167_1 hm (p := 1) (top := 9) k2.1 (by decide) with ⟨e, kd, hc, he, g⟩ | ⟨hno, g⟩
      · obtain ⟨u1, u2, u3, u4, u5, -⟩ := dg_x he
        obtain ⟨ok, p', ow', nu', fw', h1, h2, h3⟩ := law_M hx hm (p := 2) kd.1 (nI e) nu fw
        refine ⟨ok, p', ow', nu', fw', h1, fun d r => (cR_step hx k2.1 es (by decide) d r).trans ((cR_step hx kd.1 (st' := 2) (ow' := nI e) (nu' := nu) (fw' := fw) (by rw [hc]; simp (decide := true) only [p28, u1, u2, u3, u4, ↓reduceIte, cS_w6]) (by decide) d r).trans (h2 d r)), fun d r => ?_⟩
        have g' := g d
        refine Iff.trans ?_ (h3 d r)
        simp (decide := true) only [b168_46, e0, g1', g2', exists_eq_left, xtl, b168_65, b168_68, b168_75, b168_78, b168_90, g5, k2.2, b168_95, b168_100, b168_122, pT_r, pT_s, e9, g', b168_129, if_neg u4, b168_135, ↓reduceIte]
      · have mo : ∀ (d : Nat) (r : Option Value × xS), xX (d + 2) 168 46 [(0, .ref 54), (1, .int (nI s))] [] T r ↔ mOut d T (-1) nu fw 1 false r := fun d r => by
          have g' := g d
          simp (decide := true) only [b168_46, e0, g1', g2', exists_eq_left, xtl, b168_65, b168_68, b168_75, b168_78, b168_90, g5, k2.2, b168_95, b168_100, b168_122, pT_r, pT_s, e9, g', b168_129, b168_139, b168_175, b168_208, ↓reduceIte]
          exact m227 d _ _ _ (by omega) _ _ _ r
        by_cases kp : 1 < m
        · have kd : ¬ dgt c m 1 := fun z => by
            obtain ⟨e, he, hc⟩ := dgt_of z
            have := hno e z hc he
            omega
          refine ⟨false, 1, -1, nu, fw, by omega, fun d r => (cR_step hx k2.1 es (by decide) d r).trans (cR_bad hx kp ?_ d r), mo⟩
          rcases dg_not kp kd with y | y
          · simp (decide := true) only [p28, y, ↓reduceIte, cS_w6]
          · by_cases y2 : c 1 < 48 <;> simp (decide := true) only [p28, y, y2, ↓reduceIte, cS_w6]
        · refine ⟨false, 1, -1, nu, fw, by omega, fun d r => (cR_step hx k2.1 es (by decide) d r).trans ?_, mo⟩
          have ge := cR_end' hx (p := 1) (by omega) (st := 1) (ow := -1) (nu := nu) (fw := fw) d r
          have n7 : ¬ (1 : Int32) = 7 := by decide
          rw [if_neg n7] at ge
          exact ge
    · have mo : ∀ (d : Nat) (r : Option Value × xS), xX (d + 2) 168 46 [(0, .ref 54), (1, .int (nI s))] [] T r ↔ mOut d T (-1) nu fw 0 false r := fun d r => by
        have g1' := g1 d
        have g2' := g2 d
        rw [if_neg k] at g1'
        rw [if_neg k2] at g2'
        simp (decide := true) only [b168_46, e0, g1', g2', exists_eq_left, xtl, b168_65, b168_68, b168_75, b168_82, b168_142, b168_175, b168_208, ↓reduceIte]
        exact m227 d _ _ _ (by omega) _ _ _ r
      by_cases kp : 0 < m
      · have kc : ¬ c 0 = 97 := fun z => k ⟨kp, z⟩
        have kc2 : ¬ c 0 = 111 := fun z => k2 ⟨kp, z⟩
        exact ⟨false, 0, -1, nu, fw, by omega, fun d r => cR_bad hx kp (by simp (decide := true) only [p28, kc, kc2, ↓reduceIte, ite_self]) d r, mo⟩
      · refine ⟨false, 0, -1, nu, fw, by omega, fun d r => ?_, mo⟩
        have ge := cR_end' hx (p := 0) (by omega) (st := 0) (ow := -1) (nu := nu) (fw := fw) d r
        have n7 : ¬ (0 : Int32) = 7 := by decide
        rw [if_neg n7] at ge
        exact ge
end LAW2
