/-! offices whose wave it is: the class -/
section XW
variable {S0 : xS} {tr : Nat → Int32} {rent train : Int32} {w0 n : Nat} {py : Nat → Int32} {folk : Nat → Nat}
theorem x22k (hBs : xBase S0 tr rent train w0 n py) (hf : ∀ c, c < 30 → S0.1 14 c = nI (folk c) ∧ folk c < 2 ^ 31) (d : Nat) {S : xS} {A : hS} (h : xHx S0 S A) (hA : hOk A) {o k : Nat} (ho : o < 10) (hk : k < 3) (T : Int32) : ∃ S', xHx S0 S' (hIt tr rent train py false o k (folk (3 * o + k)) A).2 ∧ S'.1 7 = S.1 7 ∧ ∀ r, xX (d + 4) 22 5 [(0, .ref 13), (1, .int (nI o)), (2, .int (py o)), (3, .int T), (4, .int (nI k))] [] S r ↔ xX (d + 4) 22 5 [(0, .ref 13), (1, .int (nI o)), (2, .int (py o)), (3, .int (T + (hIt tr rent train py false o k (folk (3 * o + k)) A).1)), (4, .int (nI (k + 1)))] [] S' r := by
  have hc30 : 3 * o + k < 30 := by omega
  have mc : nI o * 3 + nI k = nI (3 * o + k) := nI_m 3 3 (by decide) o k
  have xc : (nI (3 * o + k)).toNatClampNeg = 3 * o + k := nI_clamp (by omega)
  have yc := vp_in_nI hc30 (by omega : 30 < 2 ^ 31)
  have hk3 : nI k < 3 := nI_lt (b := 3) hk (by omega)
  have ha : S.1 14 (3 * o + k) = nI (folk (3 * o + k)) := by rw [h.2.2.2.2.2.2.2.1 14 (by decide) (by decide) (by decide) (by decide) (by decide)]; exact (hf _ hc30).1
  have hm := (hf _ hc30).2
  obtain ⟨l', S', ⟨rfl, g1, g2⟩, e⟩ := xX_loopP (d := d + 4) (f := 22) (pc := 27) (st := []) (fun j l U => l = [(0, .ref 13), (1, .int (nI o)), (2, .int (py o)), (3, .int (T + (hIt tr rent train py false o k j A).1)), (4, .int (nI k)), (5, .int (nI (folk (3 * o + k)))), (6, .int (nI j))] ∧ xHx S0 U (hIt tr rent train py false o k j A).2 ∧ U.1 7 = S.1 7) (folk (3 * o + k)) (by
    rintro j hj l U ⟨rfl, q1, q2⟩
    have hOk' := hOk_it (tr := tr) (rent := rent) (train := train) (pay := py) (pre := false) ho hk hA j
    obtain ⟨U', u1, u2, u3⟩ := x20 hBs q1 hOk'.1 hOk'.2.1 ho hk (py o)
    refine ⟨_, U', ⟨rfl, by rw [hIt_s, hAdd_2]; exact u1, u2.trans q2⟩, fun r => ?_⟩
    refine (b22_27 _ _ _ _ _ _ _ _ _).trans ?_
    rw [if_pos (nI_lt hj hm), b22_34]
    simp only [u3 d, exists_eq_left, xtl, b22_43, nI_1, hIt_s, hAdd_1, Int32.add_assoc]
    exact Iff.rfl) _ S ⟨rfl, by rw [hIt]; exact h, rfl⟩
  refine ⟨S', g1, g2, fun r => ?_⟩
  rw [b22_5, if_pos hk3, b22_11]
  simp only [mc, xc, yc, true_and, ha]
  have e' := e r
  rw [show (hIt tr rent train py false o k 0 A).1 = 0 by rw [hIt], Int32.add_zero, nI_0] at e'
  refine e'.trans ?_
  rw [b22_27, if_neg (nI_nlt (Nat.le_refl _) hm), b22_51, nI_1]
theorem x22 (hBs : xBase S0 tr rent train w0 n py) (hf : ∀ c, c < 30 → S0.1 14 c = nI (folk c) ∧ folk c < 2 ^ 31) (d : Nat) {S : xS} {A : hS} (h : xHx S0 S A) (hA : hOk A) {o : Nat} (ho : o < 10) : ∃ S', xHx S0 S' (hK tr rent train py false (fun _ c => folk c) o 3 A).2 ∧ S'.1 7 = S.1 7 ∧ ∀ r, xX (d + 4) 22 0 [(0, .ref 13), (1, .int (nI o)), (2, .int (py o))] [] S r ↔ r = (some (.int (hK tr rent train py false (fun _ c => folk c) o 3 A).1), S') := by
  obtain ⟨l', S', ⟨rfl, g1, g2⟩, e⟩ := xX_loopP (d := d + 4) (f := 22) (pc := 5) (st := []) (fun k l U => l = [(0, .ref 13), (1, .int (nI o)), (2, .int (py o)), (3, .int (hK tr rent train py false (fun _ c => folk c) o k A).1), (4, .int (nI k))] ∧ xHx S0 U (hK tr rent train py false (fun _ c => folk c) o k A).2 ∧ U.1 7 = S.1 7) 3 (by
    rintro k hk l U ⟨rfl, q1, q2⟩
    obtain ⟨U', u1, u2, u3⟩ := x22k hBs hf d q1 (hOk_K ho hA k (by omega)) ho hk (hK tr rent train py false (fun _ c => folk c) o k A).1
    exact ⟨_, U', ⟨rfl, by rw [hK_s, hAdd_2]; exact u1, u2.trans q2⟩, fun r => (u3 r).trans (by rw [hK_s, hAdd_1])⟩) _ S ⟨rfl, by rw [hK]; exact h, rfl⟩
  refine ⟨S', g1, g2, fun r => ?_⟩
  rw [b22_0]
  have e' := e r
  rw [show (hK tr rent train py false (fun _ c => folk c) o 0 A).1 = 0 by rw [hK], nI_0] at e'
  refine e'.trans ?_
  have d3 : ¬ nI 3 < 3 := by decide
  rw [b22_5, if_neg d3, b22_57]
def movF (m : Nat → Int32) (w : Nat → Nat) (w0 o k : Nat) : Int32 := if k < o ∧ w k = w0 then 1 else m k
theorem movF_n {m : Nat → Int32} {w : Nat → Nat} {w0 o : Nat} (h : ¬ w o = w0) (k : Nat) : movF m w w0 (o + 1) k = movF m w w0 o k := by
  unfold movF
  by_cases e : k < o ∧ w k = w0
  · rw [if_pos e, if_pos ⟨by omega, e.2⟩]
  · rw [if_neg e, if_neg (fun z => e ⟨by
      rcases Nat.lt_or_ge k o with y | y
      · exact y
      · have : k = o := by omega
        rw [this] at z; exact absurd z.2 h, z.2⟩)]
theorem movF_y {m : Nat → Int32} {w : Nat → Nat} {w0 o : Nat} (h : w o = w0) (k : Nat) : movF m w w0 (o + 1) k = vupd (movF m w w0 o) o 1 k := by
  by_cases e : k = o
  · subst e; rw [vupd_eq]; exact if_pos ⟨Nat.lt_succ_self k, h⟩
  · rw [vupd_ne _ _ _ _ e]
    unfold movF
    by_cases c : k < o ∧ w k = w0
    · rw [if_pos c, if_pos ⟨by omega, c.2⟩]
    · rw [if_neg c, if_neg (fun z => c ⟨by omega, z.2⟩)]
theorem xHx_mov {S : xS} {A : hS} (h : xHx S0 S A) (o : Nat) : xHx S0 (xwI S 7 o 1) A := by
  obtain ⟨h1, h2, h3, h4, h5, h6, h7, h8, h9, h10, h11⟩ := h
  exact ⟨h1, h2, h3, h4, h5, h6, h7, fun c c1 c2 c3 c4 c5 => (xrd_ne _ _ _ _ _ c5).trans (h8 c c1 c2 c3 c4 c5), h9, h10, h11⟩
theorem x97w (hBs : xBase S0 tr rent train w0 n py) (hf : ∀ c, c < 30 → S0.1 14 c = nI (folk c) ∧ folk c < 2 ^ 31) (hw0 : S0.1 0 10 = nI w0) (hw5 : w0 < 5) {w : Nat → Nat} (hw : ∀ k, k < 10 → S0.1 5 k = nI (w k) ∧ w k ≤ 5) (d : Nat) {S : xS} {A : hS} (h : xHx S0 S A) (hA : hOk A) (hm : S.1 7 = S0.1 7) (T : Int32) : ∃ S', xHx S0 S' (hW tr rent train py folk w w0 n A).2 ∧ (∀ k, k < 10 → S'.1 7 k = movF (S0.1 7) w w0 n k) ∧ ∀ r, xX (d + 5) 97 85 [(0, .ref 0), (1, .int T), (2, .int 0)] [] S r ↔ xX (d + 5) 97 151 [(0, .ref 0), (1, .int (T + (hW tr rent train py folk w w0 n A).1))] [] S' r := by
  have hn10 := hBs.2.2.2.2.2
  obtain ⟨l', S', ⟨rfl, g1, g2⟩, e⟩ := xX_loopP (d := d + 5) (f := 97) (pc := 85) (st := []) (fun o l U => l = [(0, .ref 0), (1, .int (T + (hW tr rent train py folk w w0 o A).1)), (2, .int (nI o))] ∧ xHx S0 U (hW tr rent train py folk w w0 o A).2 ∧ ∀ k, k < 10 → U.1 7 k = movF (S0.1 7) w w0 o k) n (by
    rintro o ho l U ⟨rfl, q1, q2⟩
    have ho10 : o < 10 := by omega
    have hn : U.1 2 0 = nI n := by rw [q1.2.2.2.2.2.2.2.1 2 (by decide) (by decide) (by decide) (by decide) (by decide)]; exact hBs.2.2.2.2.1
    have hU5 : U.1 5 o = nI (w o) := by rw [q1.2.2.2.2.2.2.2.1 5 (by decide) (by decide) (by decide) (by decide) (by decide)]; exact (hw o ho10).1
    have hU0 : U.1 0 10 = nI w0 := by rw [q1.2.2.2.2.2.2.2.1 0 (by decide) (by decide) (by decide) (by decide) (by decide)]; exact hw0
    have xo : (nI o).toNatClampNeg = o := nI_clamp (by omega)
    have yo := vp_in_nI ho10 (by omega : 10 < 2 ^ 31)
    have hw5o := (hw o ho10).2
    by_cases c : w o = w0
    · have hOk' := hOk_W (tr := tr) (rent := rent) (train := train) (pay := py) (folk := folk) (w := w) (w0 := w0) hA o (by omega)
      have q1' := xHx_mov q1 o
      obtain ⟨U', u1, u2, u3⟩ := x22 hBs hf d q1' hOk' ho10
      refine ⟨_, U', ⟨rfl, by rw [hW_y _ _ _ _ _ _ _ _ _ c, hAdd_2]; exact u1, fun k hk => ?_⟩, fun r => ?_⟩
      · rw [u2, xrd_same, movF_y c]
        by_cases e : k = o
        · subst e; rw [vupd_eq, vupd_eq]
        · rw [vupd_ne _ _ _ _ e, vupd_ne _ _ _ _ e]; exact q2 k hk
      · refine (b97_85 _ _ _ _ _).trans ?_
        rw [hn, if_pos (nI_lt ho (by omega)), b97_96, hU0, xo, hU5, c]
        simp only [yo, true_and, ↓reduceIte, b97_112, xo, hU0, xbit_1, x17 hBs q1' o, exists_eq_left, xtl, b97_140, u3, b97_143, nI_1]
        rw [hW_y _ _ _ _ _ _ _ _ _ c, hAdd_1, Int32.add_assoc]
    · have c' : ¬ nI (w o) = nI w0 := fun z => c ((nI_eq (by omega) (by omega)).mp z)
      refine ⟨_, U, ⟨rfl, by rw [hW_n _ _ _ _ _ _ _ _ _ c]; exact q1, fun k hk => by rw [movF_n c]; exact q2 k hk⟩, fun r => ?_⟩
      refine (b97_85 _ _ _ _ _).trans ?_
      rw [hn, if_pos (nI_lt ho (by omega)), b97_96, hU0, xo, hU5, if_neg c', b97_145, hW_n _ _ _ _ _ _ _ _ _ c, nI_1]
      simp only [yo, true_and]) _ S ⟨rfl, by rw [hW]; exact h, fun k _ => by rw [hm]; unfold movF; rw [if_neg (by omega)]⟩
  refine ⟨S', g1, g2, fun r => ?_⟩
  have hn : S'.1 2 0 = nI n := by rw [g1.2.2.2.2.2.2.2.1 2 (by decide) (by decide) (by decide) (by decide) (by decide)]; exact hBs.2.2.2.2.1
  have e' := e r
  rw [show (hW tr rent train py folk w w0 0 A).1 = 0 by rw [hW], Int32.add_zero, nI_0] at e'
  refine e'.trans ?_
  rw [b97_85, hn, if_neg (nI_nlt (Nat.le_refl n) (by omega))]
end XW
