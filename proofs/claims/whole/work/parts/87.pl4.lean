/-! plans: by the rule, the class's end; the start -/
theorem o53 {S : xS} (hS : xInv S) {l : Nat → Nat} {M : Nat} (hO : Ord S l M) {G : Option (Nat → Nat)} : ∀ p ρ c U t, ρ + 1 = p → ρ ≤ 9 → rI S l M G ((9 - ρ) * 16) c U t → (G = none ∧ ∃ U', frX S U' ∧ ∀ (d : Nat) (r : Option Value × xS), xX (d + 4) 53 3 [(0, .ref 40), (1, .ref 2), (2, .int (nI ρ))] [] U r ↔ r = (some (.int 0), U')) ∨ ∃ U' t', plX S U' t' ∧ LG S t' ∧ G = some t' ∧ ∀ (d : Nat) (r : Option Value × xS), xX (d + 4) 53 3 [(0, .ref 40), (1, .ref 2), (2, .int (nI ρ))] [] U r ↔ r = (some (.int 1), U') := by
  obtain ⟨hn, hn1, hn2⟩ := hS.cnt
  intro p
  induction p with
  | zero => intro ρ c U t h; exact absurd h (by omega)
  | succ p ih =>
    intro ρ c U t hp hρ h
    have c0 : ¬ nI ρ < 0 := nI_pos (by omega)
    have st : ∀ (d : Nat) (r : Option Value × xS), xX (d + 4) 53 3 [(0, .ref 40), (1, .ref 2), (2, .int (nI ρ))] [] U r ↔ xX (d + 4) 53 9 [(0, .ref 40), (1, .ref 2), (2, .int (nI ρ)), (3, .int (nI 0))] [] U r := fun d r => by
      rw [b53_3, if_neg c0, b53_7, nI_0]
    rcases in53 hS hO hρ (xN (S.1 2 0)) 0 c U t (by omega) h with ⟨i1, U1, i2, i3⟩ | ⟨c1, U1, t1, i2, i3⟩
    · exact Or.inl ⟨i1, U1, i2, fun d r => (st d r).trans (i3 d r)⟩
    · obtain ⟨h1, h2, h3, h4, h5, h6⟩ := id i2
      have hk : ∀ i, i < M → (kO S (l i) < (9 - ρ) * 16 + xN (S.1 2 0) ↔ kO S (l i) < (9 - ρ) * 16 + 16) := fun i hi => by
        obtain ⟨x1, x2⟩ := hO.1 i hi
        have x3 := (hS.rnk (show l i < 10 by omega)).1
        unfold kO
        omega
      cases p with
      | zero =>
        have hr0 : ρ = 0 := by omega
        subst hr0
        have hcM : c1 = M := by
          rcases Nat.lt_or_ge c1 M with z | z
          · have y := (h4 c1 z).mpr ((hk c1 z).mpr (by
              obtain ⟨x1, x2⟩ := hO.1 c1 z
              unfold kO
              omega))
            exact absurd y (Nat.lt_irrefl _)
          · omega
        subst hcM
        rw [Nat.sub_self] at h6
        refine Or.inr ⟨U1, t1, h1, h2, h6.symm, fun d r => (st d r).trans ((i3 d r).trans ?_)⟩
        have e1 : nI 0 + (-1) < 0 := by decide
        rw [b53_51, b53_3, if_pos e1, b53_57]
        simp only [xbit_1, true_and]
      | succ p =>
        have st2 : ∀ (d : Nat) (r : Option Value × xS), xX (d + 4) 53 51 [(0, .ref 40), (1, .ref 2), (2, .int (nI ρ))] [] U1 r ↔ xX (d + 4) 53 3 [(0, .ref 40), (1, .ref 2), (2, .int (nI (ρ - 1)))] [] U1 r := fun d r => by
          rw [b53_51, nI_addm1 (by omega)]
        have i2' : rI S l M G ((9 - (ρ - 1)) * 16) c1 U1 t1 := ⟨h1, h2, h3, fun i hi => (h4 i hi).trans ((hk i hi).trans (by rw [show (9 - (ρ - 1)) * 16 = (9 - ρ) * 16 + 16 by omega])), h5, h6⟩
        rcases ih (ρ - 1) c1 U1 t1 (by omega) (by omega) i2' with ⟨j1, U2, j2, j3⟩ | ⟨U2, t2, j1, j2, j3, j4⟩
        · exact Or.inl ⟨j1, U2, j2, fun d r => (st d r).trans ((i3 d r).trans ((st2 d r).trans (j3 d r)))⟩
        · exact Or.inr ⟨U2, t2, j1, j2, j3, fun d r => (st d r).trans ((i3 d r).trans ((st2 d r).trans (j4 d r)))⟩
theorem m53 {S : xS} (hS : xInv S) {l : Nat → Nat} {M : Nat} (hO : Ord S l M) {U : xS} {t : Nat → Nat} (h : plX S U t) (hL : LG S t) (h5 : ∀ i, i < M → t (l i) = 5) : (gF S (xN (S.1 0 10)) l M t 0 = none ∧ ∃ U', frX S U' ∧ ∀ (d : Nat) (r : Option Value × xS), xX (d + 4) 53 0 [(0, .ref 40), (1, .ref 2)] [] U r ↔ r = (some (.int 0), U')) ∨ ∃ U' t', plX S U' t' ∧ LG S t' ∧ gF S (xN (S.1 0 10)) l M t 0 = some t' ∧ ∀ (d : Nat) (r : Option Value × xS), xX (d + 4) 53 0 [(0, .ref 40), (1, .ref 2)] [] U r ↔ r = (some (.int 1), U') := by
  have e9 : (9 : Int32) = nI 9 := by decide
  have := o53 hS hO (G := gF S (xN (S.1 0 10)) l M t 0) 10 9 0 U t rfl (by omega) ⟨h, hL, Nat.zero_le _, fun i _ => ⟨fun z => absurd z (Nat.not_lt_zero _), fun z => absurd z (by omega)⟩, fun i _ hi => h5 i hi, rfl⟩
  rcases this with ⟨i1, U1, i2, i3⟩ | ⟨U1, t1, i1, i2, i3, i4⟩
  · exact Or.inl ⟨i1, U1, i2, fun d r => by rw [b53_0, e9]; exact i3 d r⟩
  · exact Or.inr ⟨U1, t1, i1, i2, i3, fun d r => by rw [b53_0, e9]; exact i4 d r⟩
def t0 (S : xS) (k : Nat) : Nat := if S.1 7 k = 0 then 5 else xN (S.1 5 k)
theorem t0_le {S : xS} (h : xInv S) {k : Nat} (hk : k < 10) : t0 S k ≤ 5 := by
  unfold t0
  by_cases c : S.1 7 k = 0
  · rw [if_pos c]; omega
  · rw [if_neg c]; exact (h.wav hk).1
theorem t0_now {S : xS} (h : xInv S) {k : Nat} (hk : k < xN (S.1 2 0)) : t0 S k = 5 ∨ t0 S k < xN (S.1 0 10) := by
  have hn := h.cnt.1
  unfold t0
  by_cases c : S.1 7 k = 0
  · exact Or.inl (if_pos c)
  · rw [if_neg c]; exact Or.inr (((h.hPln k (by omega)).1 hk).mp c)
theorem aDR_mono {nb : Int32} {room ready : Nat → Int32} {u v : Nat} (h : u ≤ v) : aDR nb room ready u ≤ aDR nb room ready v := sN_le (fun b _ => by
  show (if xN (ready b) ≤ u then xN (room b) else 0) ≤ (if xN (ready b) ≤ v then xN (room b) else 0)
  by_cases c : xN (ready b) ≤ u
  · rw [if_pos c, if_pos (Nat.le_trans c h)]; exact Nat.le_refl _
  · rw [if_neg c]; exact Nat.zero_le _)
theorem sN_mono {f : Nat → Nat} {a b : Nat} (h : a ≤ b) : sN f a ≤ sN f b := by
  induction h with
  | refl => exact Nat.le_refl _
  | step _ ih => exact Nat.le_trans ih (Nat.le_add_right _ _)
theorem sN_zero {f : Nat → Nat} : ∀ {n : Nat}, (∀ k, k < n → f k = 0) → sN f n = 0 := by
  intro n h
  have := sN_bd (f := f) (c := 0) (n := n) (fun k hk => Nat.le_of_eq (h k hk))
  omega
theorem t0_LG {S : xS} (h : xInv S) : LG S (t0 S) := by
  obtain ⟨hw, hw1, hw2⟩ := h.now
  have hn := h.cnt.1
  have low : ∀ v, v < xN (S.1 0 10) → aLg S (t0 S) v := fun v hv => LgA_w (fun k hk => by
    by_cases c : S.1 7 k = 0
    · have : ¬ xN (S.1 5 k) < xN (S.1 0 10) := fun z => (((h.hPln k (by omega)).1 hk).mpr z) c
      refine Or.inr ⟨by show v < xN (S.1 5 k); omega, ?_⟩
      unfold t0; rw [if_pos c]; omega
    · refine Or.inl ?_
      unfold t0; rw [if_neg c]) (h.hLeg v hv)
  intro v hv
  by_cases c : v < xN (S.1 0 10)
  · exact low v c
  · by_cases z : xN (S.1 0 10) = 0
    · have e5 : ∀ k, k < xN (S.1 2 0) → t0 S k = 5 := fun k hk => by
        rcases t0_now h hk with e | e
        · exact e
        · omega
      refine ⟨?_, ?_, ?_, ?_⟩
      · rw [sN_zero (fun k hk => if_neg (by rw [e5 k hk]; omega))]; exact Nat.zero_le _
      · rw [sN_zero (fun k hk => if_neg (by rw [e5 k hk]; omega))]; exact Nat.zero_le _
      · rw [sN_zero (fun k hk => if_neg (by rw [e5 k hk]; omega))]; exact Nat.zero_le _
      · rw [sN_zero (fun k hk => if_neg (by rw [e5 k hk]; omega))]; exact Nat.zero_le _
    · obtain ⟨l1, l2, l3, l4⟩ := low (xN (S.1 0 10) - 1) (by omega)
      have eq : ∀ k, k < xN (S.1 2 0) → (t0 S k ≤ v ↔ t0 S k ≤ xN (S.1 0 10) - 1) := fun k hk => by
        rcases t0_now h hk with e | e <;> rw [] <;> omega
      have es : ∀ X : Nat → Nat, sN (fun k => if t0 S k ≤ v then X k else 0) (xN (S.1 2 0)) = sN (fun k => if t0 S k ≤ xN (S.1 0 10) - 1 then X k else 0) (xN (S.1 2 0)) := fun X => sN_congr (fun k hk => by
        by_cases y : t0 S k ≤ v
        · rw [if_pos y, if_pos ((eq k hk).mp y)]
        · rw [if_neg y, if_neg (fun w => y ((eq k hk).mpr w))])
      refine ⟨?_, ?_, ?_, ?_⟩
      · rw [es]; exact Nat.le_trans l1 (aDR_mono (by omega))
      · rw [sN_zero (fun k hk => if_neg (by rcases t0_now h hk with e | e <;> omega))]; exact Nat.zero_le _
      · rw [es]; exact Nat.le_trans l3 (sN_mono (by omega))
      · rw [es]; exact Nat.le_trans l4 (sN_mono (by omega))
theorem m47 {S : xS} (hS : xInv S) (d : Nat) : ∃ U, plX S U (t0 S) ∧ ∀ r, xX (d + 4) 47 0 [(0, .ref 40), (1, .ref 2), (2, .ref 13), (3, .ref 9), (4, .int (S.1 0 10))] [] S r ↔ r = (none, U) := by
  obtain ⟨hn, hn1, hn2⟩ := hS.cnt
  have hS0 : xInvR (xwI S 40 3 (S.1 0 10)) := xInvR_fr (fun c hc _ => xrd_ne _ _ _ _ _ (by omega)) rfl hS.R
  obtain ⟨S1, e1, hR1, hO1, f1, g1⟩ := m32 d _ hS0
  have k2 : (xwI S 40 3 (S.1 0 10)).1 2 = S.1 2 := xrd_ne _ _ _ _ _ (by decide)
  rw [k2] at hR1
  have f1' : ∀ c, (c < 40 ∨ 51 < c) → S1.1 c = S.1 c := fun c hc => by rw [f1 c (by omega), xrd_ne _ _ _ _ _ (by omega)]
  have f40 : S1.1 40 3 = S.1 0 10 := by rw [f1 40 (by decide), xrd_same, vupd_eq]
  obtain ⟨l2, S2, ⟨rfl, hR2, hO2, f2, q2, h52, g2⟩, e2⟩ := xX_loopP (d := d + 4) (f := 47) (pc := 19) (st := []) (fun j l T => l = [(0, .ref 40), (1, .ref 2), (5, .int (nI j))] ∧ LdR T (xN (S.1 2 0)) ∧ LdO T (t0 S) j ∧ (∀ c, (c < 40 ∨ 53 < c) → T.1 c = S.1 c) ∧ T.1 40 3 = S.1 0 10 ∧ (∀ k, k < j → T.1 52 k = nI (t0 S k)) ∧ T.2 = S.2) (xN (S.1 2 0)) (by
    rintro j hj l T ⟨rfl, hR, hO, hf, hq, h52, hg⟩
    have hj10 : j < 10 := by omega
    have hT2 : T.1 2 0 = nI (xN (S.1 2 0)) := by rw [hf 2 (by decide)]; exact hn1
    have d1 : nI j < nI (xN (S.1 2 0)) := nI_lt hj (by omega)
    have d2 : vp_in (nI j) 10 := vp_in_nI hj10 (by omega)
    have d3 : (nI j).toNatClampNeg = j := nI_clamp (by omega)
    have f5 : T.1 5 j = nI (xN (S.1 5 j)) := by rw [hf 5 (by decide)]; exact (hS.wav hj10).2.1
    have f7 : T.1 7 = S.1 7 := hf 7 (by decide)
    obtain ⟨T1, e, hc⟩ := m33D (xwI T 52 j (nI (t0 S j))) (k := j) (w := t0 S j) hj10 (t0_le hS hj10) 1
    have e' := e (d + 2)
    have g : ∀ c, (c < 42 ∨ 45 < c) → c ≠ 52 → T1.1 c = T.1 c := fun c hc1 hc2 => by rw [hc.2.2.2.2.1 c hc1, xrd_ne _ _ _ _ _ hc2]
    have g52 : T1.1 52 = vupd (T.1 52) j (nI (t0 S j)) := by rw [hc.2.2.2.2.1 52 (by decide), xrd_same]
    have r52 : (xwI T 52 j (nI (t0 S j))).1 52 j = nI (t0 S j) := by rw [xrd_same, vupd_eq]
    have hRw : LdR (xwI T 52 j (nI (t0 S j))) (xN (S.1 2 0)) := LdR_fr (fun c hc' => xrd_ne _ _ _ _ _ (by omega)) hR
    have hOw : LdO (xwI T 52 j (nI (t0 S j))) (t0 S) j := LdO_fr (fun c hc' => xrd_ne _ _ _ _ _ (by omega)) hO
    refine ⟨_, T1, ⟨rfl, LdR_fr (fun c hc' => hc.2.2.2.2.1 c (by omega)) hRw, LdO_add hRw hj hOw hc, fun c hc' => (g c (by omega) (by omega)).trans (hf c hc'), by rw [g 40 (by decide) (by decide)]; exact hq, fun k hk => ?_, by rw [hc.2.2.2.2.2]; exact hg⟩, fun r => ?_⟩
    · rw [g52]
      by_cases x : k = j
      · subst x; rw [vupd_eq]
      · rw [vupd_ne _ _ _ _ x]; exact h52 k (by omega)
    · refine (b47_19 _ _ _ _).trans ?_
      rw [hT2, if_pos d1]
      by_cases c : S.1 7 j = 0
      · have ht : t0 S j = 5 := if_pos c
        have n5 : nI 5 = 5 := rfl
        rw [ht, n5] at r52 e'
        simp only [b47_28, b47_54, d2, d3, f7, c, ↓reduceIte, true_and, r52, e', exists_eq_left, xtl0, b47_73, nI_1]
      · have ht : t0 S j = xN (S.1 5 j) := if_neg c
        rw [ht] at r52 e'
        simp only [b47_28, b47_44, d2, d3, f7, f5, c, ↓reduceIte, true_and, r52, e', exists_eq_left, xtl0, b47_73, nI_1]) _ S1 ⟨rfl, hR1, hO1 _, fun c hc => f1' c (by omega), f40, fun k hk => absurd hk (Nat.not_lt_zero _), g1⟩
  refine ⟨S2, ⟨hR2, hO2, fun k hk => ⟨t0_le hS (by omega), h52 k hk⟩, f2, q2, g2⟩, fun r => ?_⟩
  simp only [b47_0, e1, exists_eq_left, xtl0, b47_16]
  refine (e2 r).trans ?_
  have hc2 : S2.1 2 0 = nI (xN (S.1 2 0)) := by rw [f2 2 (by decide)]; exact hn1
  rw [b47_19, hc2, if_neg (nI_nlt (Nat.le_refl _) (by omega)), b47_79]
