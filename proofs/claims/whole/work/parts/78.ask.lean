/-! one household chooses: what it does, by both sides -/
abbrev hS : Type := (Nat → Int32) × (Nat → Int32) × (Nat → Int32) × Int32 × Nat × Nat × Int32
def hMv (rent : Int32) (tr : Nat → Int32) (k : Nat) (pay : Int32) : Int32 := if 0 < rent + tr (5 * k) + tr (5 * k + 1) - pay then rent + tr (5 * k) + tr (5 * k + 1) - pay else 0
/-- 0 moves, 1 travels, 2 quits -/
def hD (tr : Nat → Int32) (rent train : Int32) (A : hS) (k : Nat) (pay : Int32) : Nat :=
  if 0 < A.2.2.2.2.1 ∧ (¬ 0 < tr (5 * k + 2) ∨ 0 < A.2.2.2.2.2.1) ∧ ¬ tr (5 * k + 4) < hMv rent tr k pay ∧ (¬ A.2.2.2.1 < train ∨ ¬ tr (5 * k + 3) + tr (5 * k + 2) < hMv rent tr k pay) then 0
  else if A.2.2.2.1 < train ∧ ¬ tr (5 * k + 4) < tr (5 * k + 3) + tr (5 * k + 2) then 1 else 2
def hStep (tr : Nat → Int32) (A : hS) (c k : Nat) (pay : Int32) (D : Nat) : hS :=
  if D = 0 then (vupd A.1 c (A.1 c + 1), A.2.1, A.2.2.1, A.2.2.2.1, A.2.2.2.2.1 - 1, (if 0 < tr (5 * k + 2) then A.2.2.2.2.2.1 - 1 else A.2.2.2.2.2.1), A.2.2.2.2.2.2 + pay)
  else if D = 1 then (A.1, vupd A.2.1 c (A.2.1 c + 1), A.2.2.1, A.2.2.2.1 + 1, A.2.2.2.2.1, A.2.2.2.2.2.1, A.2.2.2.2.2.2)
  else (A.1, A.2.1, vupd A.2.2.1 c (A.2.2.1 c + 1), A.2.2.2.1, A.2.2.2.2.1, A.2.2.2.2.2.1, A.2.2.2.2.2.2)
def s3 (g : Nat → Int32) (i : Nat) : Int32 := g (3 * i) + g (3 * i + 1) + g (3 * i + 2)
theorem s3_upd (g : Nat → Int32) {o k : Nat} (hk : k < 3) (i : Nat) : s3 (vupd g (3 * o + k) (g (3 * o + k) + 1)) i = if i = o then s3 g o + 1 else s3 g i := by
  unfold s3 vupd
  by_cases e : i = o
  · subst e
    rw [if_pos rfl]
    rcases (show k = 0 ∨ k = 1 ∨ k = 2 by omega) with z | z | z <;> subst z
    · rw [if_pos (by omega), if_neg (by omega), if_neg (by omega), Nat.add_zero, Int32.add_assoc, Int32.add_assoc, Int32.add_comm 1, Int32.add_assoc, Int32.add_assoc, Int32.add_assoc]
    · rw [if_neg (by omega), if_pos rfl, if_neg (by omega), Int32.add_assoc, Int32.add_assoc, Int32.add_comm 1, Int32.add_assoc, Int32.add_assoc]
    · rw [if_neg (by omega), if_neg (by omega), if_pos rfl, Int32.add_assoc, Int32.add_assoc, Int32.add_assoc]
  · rw [if_neg e, if_neg (by omega), if_neg (by omega), if_neg (by omega)]
/-- the class's cells hold A -/
def xHx (S0 S : xS) (A : hS) : Prop := (∀ i, i < 10 → S.1 17 i = s3 A.1 i) ∧ (∀ c, c < 30 → S.1 16 c = A.2.1 c) ∧ (∀ i, i < 10 → S.1 18 i = s3 A.2.2.1 i) ∧ S.1 13 7 = A.2.2.2.1 ∧ S.1 13 8 = nI A.2.2.2.2.1 ∧ S.1 13 9 = nI A.2.2.2.2.2.1 ∧ S.1 13 10 = A.2.2.2.2.2.2 ∧ (∀ c, c ≠ 13 → c ≠ 16 → c ≠ 17 → c ≠ 18 → c ≠ 7 → S.1 c = S0.1 c) ∧ S.1 13 5 = S0.1 13 5 ∧ S.1 13 6 = S0.1 13 6 ∧ S.2 = S0.2
/-- the reference's cells hold A; F flats and T seats are ready -/
def mHm (S0 S : xS) (F T : Nat) (A : hS) : Prop := (∀ c, c < 30 → S.1 67 c = A.1 c) ∧ (∀ c, c < 30 → S.1 68 c = A.2.1 c) ∧ (∀ c, c < 30 → S.1 69 c = A.2.2.1 c) ∧ S.1 54 12 = A.2.2.2.1 ∧ (∃ p, S.1 54 10 = nI p ∧ p + A.2.2.2.2.1 = F) ∧ (∃ p, S.1 54 11 = nI p ∧ p + A.2.2.2.2.2.1 = T) ∧ S.1 54 13 = A.2.2.2.2.2.2 ∧ (∀ c, c ≠ 54 → c ≠ 59 → c ≠ 66 → c ≠ 67 → c ≠ 68 → c ≠ 69 → S.1 c = S0.1 c) ∧ (∀ j, j ≠ 10 → j ≠ 11 → j ≠ 12 → j ≠ 13 → S.1 54 j = S0.1 54 j) ∧ S.2 = S0.2
theorem nI_dec {n : Nat} (h : 0 < n) : nI n - 1 = nI (n - 1) := nI_sub (b := 1) h
theorem xHx_0 {S0 S : xS} {tr : Nat → Int32} {A : hS} {o k : Nat} {pay : Int32} (h : xHx S0 S A) (ho : o < 10) (hk : k < 3) (hf : 0 < A.2.2.2.2.1) (hc : ¬ 0 < tr (5 * k + 2)) : xHx S0 (xwI (xwI (xwI S 17 o (S.1 17 o + 1)) 13 8 (S.1 13 8 - 1)) 13 10 (S.1 13 10 + pay)) (hStep tr A (3 * o + k) k pay 0) := by
  obtain ⟨h1, h2, h3, h4, h5, h6, h7, h8, h9, h10, h11⟩ := h
  unfold hStep
  rw [if_pos rfl, if_neg hc]
  refine ⟨fun i hi => ?_, fun c hc => ?_, fun i hi => ?_, ?_, ?_, ?_, ?_, fun c c1 c2 c3 c4 c5 => ?_, ?_, ?_, h11⟩ <;> try simp (decide := true) only [xrd_ne, xrd_same, vupd_eq, vupd_ne]
  · show vupd (S.1 17) o (S.1 17 o + 1) i = s3 (vupd A.1 (3 * o + k) (A.1 (3 * o + k) + 1)) i
    rw [s3_upd _ hk]
    by_cases e : i = o
    · subst e; rw [vupd_eq, if_pos rfl, h1 _ hi]
    · rw [vupd_ne _ _ _ _ e, if_neg e, h1 _ hi]
  · exact h2 c hc
  · exact h3 i hi
  · exact h4
  · rw [h5, nI_dec hf]
  · exact h6
  · rw [h7]
  · rw [xrd_ne _ _ _ _ _ c1, xrd_ne _ _ _ _ _ c1, xrd_ne _ _ _ _ _ c3]; exact h8 c c1 c2 c3 c4 c5
  · exact h9
  · exact h10
theorem xHx_0c {S0 S : xS} {tr : Nat → Int32} {A : hS} {o k : Nat} {pay : Int32} (h : xHx S0 S A) (ho : o < 10) (hk : k < 3) (hf : 0 < A.2.2.2.2.1) (hs : 0 < A.2.2.2.2.2.1) (hc : 0 < tr (5 * k + 2)) : xHx S0 (xwI (xwI (xwI (xwI S 17 o (S.1 17 o + 1)) 13 8 (S.1 13 8 - 1)) 13 9 (S.1 13 9 - 1)) 13 10 (S.1 13 10 + pay)) (hStep tr A (3 * o + k) k pay 0) := by
  obtain ⟨h1, h2, h3, h4, h5, h6, h7, h8, h9, h10, h11⟩ := h
  unfold hStep
  rw [if_pos rfl, if_pos hc]
  refine ⟨fun i hi => ?_, fun c hc => ?_, fun i hi => ?_, ?_, ?_, ?_, ?_, fun c c1 c2 c3 c4 c5 => ?_, ?_, ?_, h11⟩ <;> try simp (decide := true) only [xrd_ne, xrd_same, vupd_eq, vupd_ne]
  · show vupd (S.1 17) o (S.1 17 o + 1) i = s3 (vupd A.1 (3 * o + k) (A.1 (3 * o + k) + 1)) i
    rw [s3_upd _ hk]
    by_cases e : i = o
    · subst e; rw [vupd_eq, if_pos rfl, h1 _ hi]
    · rw [vupd_ne _ _ _ _ e, if_neg e, h1 _ hi]
  · exact h2 c hc
  · exact h3 i hi
  · exact h4
  · rw [h5, nI_dec hf]
  · rw [h6, nI_dec hs]
  · rw [h7]
  · rw [xrd_ne _ _ _ _ _ c1, xrd_ne _ _ _ _ _ c1, xrd_ne _ _ _ _ _ c1, xrd_ne _ _ _ _ _ c3]; exact h8 c c1 c2 c3 c4 c5
  · exact h9
  · exact h10
theorem xHx_1 {S0 S : xS} {tr : Nat → Int32} {A : hS} {o k : Nat} {pay : Int32} (h : xHx S0 S A) (ho : o < 10) (hk : k < 3) : xHx S0 (xwI (xwI S 16 (3 * o + k) (S.1 16 (3 * o + k) + 1)) 13 7 (S.1 13 7 + 1)) (hStep tr A (3 * o + k) k pay 1) := by
  obtain ⟨h1, h2, h3, h4, h5, h6, h7, h8, h9, h10, h11⟩ := h
  unfold hStep
  rw [if_neg (by decide), if_pos rfl]
  refine ⟨fun i hi => ?_, fun c hc => ?_, fun i hi => ?_, ?_, ?_, ?_, ?_, fun c c1 c2 c3 c4 c5 => ?_, ?_, ?_, h11⟩ <;> try simp (decide := true) only [xrd_ne, xrd_same, vupd_eq, vupd_ne]
  · exact h1 i hi
  · by_cases e : c = 3 * o + k
    · subst e; rw [vupd_eq, vupd_eq, h2 _ hc]
    · rw [vupd_ne _ _ _ _ e, vupd_ne _ _ _ _ e, h2 _ hc]
  · exact h3 i hi
  · rw [h4]
  · exact h5
  · exact h6
  · exact h7
  · rw [xrd_ne _ _ _ _ _ c1, xrd_ne _ _ _ _ _ c2]; exact h8 c c1 c2 c3 c4 c5
  · exact h9
  · exact h10
theorem xHx_2 {S0 S : xS} {tr : Nat → Int32} {A : hS} {o k : Nat} {pay : Int32} (h : xHx S0 S A) (ho : o < 10) (hk : k < 3) : xHx S0 (xwI S 18 o (S.1 18 o + 1)) (hStep tr A (3 * o + k) k pay 2) := by
  obtain ⟨h1, h2, h3, h4, h5, h6, h7, h8, h9, h10, h11⟩ := h
  unfold hStep
  rw [if_neg (by decide), if_neg (by decide)]
  refine ⟨fun i hi => ?_, fun c hc => ?_, fun i hi => ?_, ?_, ?_, ?_, ?_, fun c c1 c2 c3 c4 c5 => ?_, ?_, ?_, h11⟩ <;> try simp (decide := true) only [xrd_ne, xrd_same, vupd_eq, vupd_ne]
  · exact h1 i hi
  · exact h2 c hc
  · show vupd (S.1 18) o (S.1 18 o + 1) i = s3 (vupd A.2.2.1 (3 * o + k) (A.2.2.1 (3 * o + k) + 1)) i
    rw [s3_upd _ hk]
    by_cases e : i = o
    · subst e; rw [vupd_eq, if_pos rfl, h3 _ hi]
    · rw [vupd_ne _ _ _ _ e, if_neg e, h3 _ hi]
  · exact h4
  · exact h5
  · exact h6
  · exact h7
  · rw [xrd_ne _ _ _ _ _ c4]; exact h8 c c1 c2 c3 c4 c5
  · exact h9
  · exact h10
