/-! plans: the best; what is told so far costs -/
def cl (S : xS) (k a : Nat) : Prop := ¬ fr S a ∨ a < k
noncomputable def tw (S : xS) (k : Nat) (t : Nat → Nat) (a b : Nat) : Nat := @ite _ (cl S k a ∧ cl S k b) (Classical.propDecidable _) (tie S a b * dst (t a) (t b)) 0
noncomputable def aA (S : xS) (k : Nat) (t : Nat → Nat) (n : Nat) : Nat := sN (fun a => sN (tw S k t a) a) n
noncomputable def pA (S : xS) (k : Nat) (t : Nat → Nat) (b : Nat) : Nat := @ite _ (cl S k b) (Classical.propDecidable _) (tie S k b * dst (t k) (t b)) 0
noncomputable def oX (S : xS) (t : Nat → Nat) (j : Nat) : Nat := @ite _ (fr S j ∧ t j ≠ xN (S.1 5 j)) (Classical.propDecidable _) 1 0
noncomputable def oN (S : xS) (t : Nat → Nat) (k : Nat) : Nat := sN (oX S t) k
noncomputable def qN (S : xS) (ch k : Nat) (t : Nat → Nat) : Nat := ch * oN S t k + aA S k t (xN (S.1 2 0))
theorem tie_sym {S : xS} (h : xInv S) {a b : Nat} (ha : a < 10) (hb : b < 10) : tie S a b = tie S b a := by
  unfold tie; rw [h.hTie.2 a b ha hb]
theorem aA_step {S : xS} (h : xInv S) {k : Nat} (hf : fr S k) (t : Nat → Nat) : ∀ n, n ≤ 10 → aA S (k + 1) t n = aA S k t n + (if k < n then sN (pA S k t) n else 0) := by
  have nk : ¬ cl S k k := fun z => z.elim (fun z => z hf) (fun z => absurd z (Nat.lt_irrefl _))
  have ck : cl S (k + 1) k := Or.inr (Nat.lt_succ_self k)
  have cne : ∀ a, a ≠ k → (cl S (k + 1) a ↔ cl S k a) := fun a ha => by
    unfold cl
    exact ⟨fun z => z.elim Or.inl (fun z => Or.inr (by omega)), fun z => z.elim Or.inl (fun z => Or.inr (by omega))⟩
  have tw0 : ∀ j t a b, ¬ (cl S j a ∧ cl S j b) → tw S j t a b = 0 := fun j t a b z => if_neg z
  have tw1 : ∀ j t a b, (cl S j a ∧ cl S j b) → tw S j t a b = tie S a b * dst (t a) (t b) := fun j t a b z => if_pos z
  have twe : ∀ a b, a ≠ k → b ≠ k → tw S (k + 1) t a b = tw S k t a b := fun a b ha hb => by
    by_cases c : cl S k a ∧ cl S k b
    · rw [tw1 _ _ _ _ c, tw1 _ _ _ _ ⟨(cne a ha).mpr c.1, (cne b hb).mpr c.2⟩]
    · rw [tw0 _ _ _ _ c, tw0 _ _ _ _ (fun z => c ⟨(cne a ha).mp z.1, (cne b hb).mp z.2⟩)]
  have pk : pA S k t k = 0 := if_neg nk
  intro n
  induction n with
  | zero => intro _; rw [if_neg (Nat.not_lt_zero _)]; rfl
  | succ n ih =>
    intro hn
    have i := ih (by omega)
    show aA S (k + 1) t n + sN (tw S (k + 1) t n) n = aA S k t n + sN (tw S k t n) n + _
    rw [i]
    rcases Nat.lt_trichotomy n k with c | c | c
    · rw [if_neg (by omega), if_neg (by omega), sN_congr (fun b hb => twe n b (by omega) (by omega))]
      omega
    · subst c
      have e1 : sN (tw S n t n) n = 0 := sN_zero (fun b _ => tw0 _ _ _ _ (fun z => nk z.1))
      have e2 : sN (tw S (n + 1) t n) n = sN (pA S n t) n := sN_congr (fun b hb => by
        by_cases c : cl S n b
        · rw [tw1 _ _ _ _ ⟨ck, (cne b (by omega)).mpr c⟩]; exact (if_pos c).symm
        · rw [tw0 _ _ _ _ (fun z => c ((cne b (by omega)).mp z.2))]; exact (if_neg c).symm)
      rw [if_neg (Nat.lt_irrefl _), if_pos (Nat.lt_succ_self _), e1, e2]
      show _ = _ + _ + (sN (pA S n t) n + pA S n t n)
      rw [pk]
      omega
    · rw [if_pos c, if_pos (by omega)]
      have e := sN_swap (f := tw S (k + 1) t n) (g := tw S k t n) c (fun b hb => twe n b (by omega) hb)
      have e1 : tw S k t n k = 0 := tw0 _ _ _ _ (fun z => nk z.2)
      have e2 : tw S (k + 1) t n k = pA S k t n := by
        by_cases c' : cl S k n
        · rw [tw1 _ _ _ _ ⟨(cne n (by omega)).mpr c', ck⟩, tie_sym h (by omega) (by omega), dst_comm]; exact (if_pos c').symm
        · rw [tw0 _ _ _ _ (fun z => c' ((cne n (by omega)).mp z.1))]; exact (if_neg c').symm
      rw [e1, e2, Nat.add_zero] at e
      rw [e]
      show _ = _ + _ + (sN (pA S k t) n + pA S k t n)
      omega
theorem aA_tU {S : xS} {k : Nat} (hf : fr S k) (t : Nat → Nat) (w n : Nat) : aA S k (tU t k w) n = aA S k t n := sN_congr (fun a _ => sN_congr (fun b _ => by
  have nk : ¬ cl S k k := fun z => z.elim (fun z => z hf) (fun z => absurd z (Nat.lt_irrefl _))
  unfold tw
  by_cases c : cl S k a ∧ cl S k b
  · rw [if_pos c, if_pos c, tU_ne _ _ _ _ (fun z => nk (by have y := c.1; rw [z] at y; exact y)), tU_ne _ _ _ _ (fun z => nk (by have y := c.2; rw [z] at y; exact y))]
  · rw [if_neg c, if_neg c]))
theorem aA_skip {S : xS} {k : Nat} (hf : ¬ fr S k) (t : Nat → Nat) (n : Nat) : aA S (k + 1) t n = aA S k t n := by
  have e : cl S (k + 1) = cl S k := by
    funext a
    refine propext ⟨fun z => z.elim Or.inl (fun z => ?_), fun z => z.elim Or.inl (fun z => Or.inr (by omega))⟩
    by_cases c : a = k
    · subst c; exact Or.inl hf
    · exact Or.inr (by omega)
  unfold aA tw
  rw [e]
theorem aA_end {S : xS} (t : Nat → Nat) : aA S (xN (S.1 2 0)) t (xN (S.1 2 0)) = cN S t := sN_congr (fun a ha => sN_congr (fun b hb => by
  unfold tw
  rw [if_pos ⟨Or.inr ha, Or.inr (by omega)⟩]))
theorem aA_le {S : xS} (h : xInv S) {t : Nat → Nat} (ht : ∀ k, k < xN (S.1 2 0) → t k ≤ 5) (k : Nat) : aA S k t (xN (S.1 2 0)) ≤ 4500 := by
  refine Nat.le_trans (sN_le (fun a ha => sN_le (fun b hb => ?_))) (cN_le h ht)
  unfold tw
  by_cases c : cl S k a ∧ cl S k b
  · rw [if_pos c]; exact Nat.le_refl _
  · rw [if_neg c]; exact Nat.zero_le _
theorem oN_le {S : xS} {t : Nat → Nat} (k : Nat) : oN S t k ≤ k := by
  have := sN_bd (f := oX S t) (c := 1) (n := k) (fun j _ => by
    unfold oX
    by_cases c : fr S j ∧ t j ≠ xN (S.1 5 j)
    · rw [if_pos c]; exact Nat.le_refl _
    · rw [if_neg c]; exact Nat.zero_le _)
  unfold oN; omega
theorem oN_tU {S : xS} (t : Nat → Nat) (k w : Nat) : oN S (tU t k w) k = oN S t k := sN_congr (fun j hj => by
  unfold oX
  rw [tU_ne _ _ _ _ (by omega)])
noncomputable def poN (S : xS) (ch k : Nat) (t : Nat → Nat) : Nat := (if t k = xN (S.1 5 k) then 0 else ch) + sN (pA S k t) (xN (S.1 2 0))
theorem qN_step {S : xS} (h : xInv S) {ch k : Nat} (hk : k < xN (S.1 2 0)) (hf : fr S k) (t : Nat → Nat) (w : Nat) : qN S ch (k + 1) (tU t k w) = qN S ch k t + poN S ch k (tU t k w) := by
  have e1 := aA_step h hf (tU t k w) (xN (S.1 2 0)) h.cnt.1
  rw [if_pos hk, aA_tU hf] at e1
  have e2 : ch * oN S (tU t k w) (k + 1) = ch * oN S t k + (if tU t k w k = xN (S.1 5 k) then 0 else ch) := by
    show ch * (oN S (tU t k w) k + oX S (tU t k w) k) = _
    rw [oN_tU, Nat.mul_add]
    unfold oX
    by_cases c : tU t k w k = xN (S.1 5 k)
    · rw [if_pos c, if_neg (fun z => z.2 c), Nat.mul_zero]
    · rw [if_neg c, if_pos ⟨hf, c⟩, Nat.mul_one]
  unfold qN poN
  rw [e1, e2]
  omega
theorem qN_skip {S : xS} {ch k : Nat} (hf : ¬ fr S k) (t : Nat → Nat) : qN S ch (k + 1) t = qN S ch k t := by
  unfold qN
  rw [aA_skip hf]
  show ch * (oN S t k + oX S t k) + _ = _
  have e : oX S t k = 0 := if_neg (fun z => hf z.1)
  rw [e]
  rfl
theorem qN_le {S : xS} (h : xInv S) {ch : Nat} (hc : ch ≤ 10000) {t : Nat → Nat} (ht : ∀ k, k < xN (S.1 2 0) → t k ≤ 5) {k : Nat} (hk : k ≤ 10) : qN S ch k t ≤ 104500 := by
  have e1 := aA_le h ht k
  have e2 := Nat.mul_le_mul hc (Nat.le_trans (oN_le (S := S) (t := t) k) hk)
  unfold qN
  omega
theorem qN_K0 {S : xS} (h : xInv S) {ch : Nat} (t : Nat → Nat) (hn : ∀ a, a < xN (S.1 2 0) → ¬ fr S a → t a = t0 S a) (k : Nat) : aA S 0 (t0 S) (xN (S.1 2 0)) ≤ qN S ch k t := by
  refine Nat.le_trans (sN_le (fun a ha => sN_le (fun b hb => ?_))) (Nat.le_add_left _ _)
  unfold tw
  by_cases c : cl S 0 a ∧ cl S 0 b
  · have ca : ¬ fr S a := c.1.elim id (fun z => absurd z (Nat.not_lt_zero _))
    have cb : ¬ fr S b := c.2.elim id (fun z => absurd z (Nat.not_lt_zero _))
    rw [if_pos c, if_pos ⟨Or.inl ca, Or.inl cb⟩, hn a ha ca, hn b (by omega) cb]
    exact Nat.le_refl _
  · rw [if_neg c]; exact Nat.zero_le _
/-- the search: what is the best behind a bough -/
def bsT (b : Option (Nat × (Nat → Nat))) (q : Nat) : Prop := ∀ x, b = some x → q < x.1
def wF (f : Nat → Option (Nat × (Nat → Nat)) → Option (Nat × (Nat → Nat))) : Nat → Nat → Option (Nat × (Nat → Nat)) → Option (Nat × (Nat → Nat))
  | 0, _, b => b
  | m + 1, w, b => wF f m (w + 1) (f w b)
noncomputable def gB (S : xS) (ch : Nat) : Nat → Nat → (Nat → Nat) → Option (Nat × (Nat → Nat)) → Option (Nat × (Nat → Nat))
  | 0, k, t, _ => some (qN S ch k t, t)
  | m + 1, k, t, b => @ite _ (fr S k) (Classical.propDecidable _) (wF (fun w b => @ite _ (LG S (tU t k w) ∧ bsT b (qN S ch (k + 1) (tU t k w))) (Classical.propDecidable _) (gB S ch m (k + 1) (tU t k w) b) b) (5 - xN (S.1 0 10)) (xN (S.1 0 10)) b) (gB S ch m (k + 1) t b)
