/-! households one behind the other: the reference -/
theorem hD_le (tr : Nat → Int32) (rent train : Int32) (A : hS) (k : Nat) (pay : Int32) : hD tr rent train A k pay ≤ 2 := by
  unfold hD
  by_cases c : 0 < A.2.2.2.2.1 ∧ (¬ 0 < tr (5 * k + 2) ∨ 0 < A.2.2.2.2.2.1) ∧ ¬ tr (5 * k + 4) < hMv rent tr k pay ∧ (¬ A.2.2.2.1 < train ∨ ¬ tr (5 * k + 3) + tr (5 * k + 2) < hMv rent tr k pay)
  · rw [if_pos c]; omega
  · rw [if_neg c]
    by_cases c2 : A.2.2.2.1 < train ∧ ¬ tr (5 * k + 4) < tr (5 * k + 3) + tr (5 * k + 2)
    · rw [if_pos c2]; omega
    · rw [if_neg c2]; omega
theorem mHm_pre {S0 S : xS} {F T : Nat} {A : hS} {c : Nat} (h : mHm S0 S F T A) : mHm S0 (xwI (xwI S 68 c (S.1 68 c - 1)) 54 12 (S.1 54 12 - 1)) F T (hPre A c) ∨ ¬ c < 30 := by
  by_cases hc : c < 30
  · refine Or.inl ?_
    obtain ⟨h1, h2, h3, h4, ⟨p, h5, h5b⟩, ⟨q, h6, h6b⟩, h7, h8, h9, h10⟩ := h
    refine ⟨fun j hj => ?_, fun j hj => ?_, fun j hj => ?_, ?_, ?_, ?_, ?_, fun j c1 c2 c3 c4 c5 c6 => ?_, fun j c1 c2 c3 c4 => ?_, h10⟩ <;> try simp (decide := true) only [xrd_ne, xrd_same, vupd_eq, vupd_ne, hPre]
    · exact h1 j hj
    · by_cases e : j = c
      · subst e; rw [vupd_eq, vupd_eq, h2 _ hc]
      · rw [vupd_ne _ _ _ _ e, vupd_ne _ _ _ _ e, h2 _ hj]
    · exact h3 j hj
    · rw [h4]
    · exact ⟨p, h5, h5b⟩
    · exact ⟨q, h6, h6b⟩
    · exact h7
    · rw [xrd_ne _ _ _ _ _ c1, xrd_ne _ _ _ _ _ c5]; exact h8 j c1 c2 c3 c4 c5 c6
    · rw [vupd_ne _ _ _ _ c3]; exact h9 j c1 c2 c3 c4
  · exact Or.inr hc
theorem mHm_66 {S0 S : xS} {F T : Nat} {A : hS} (h : mHm S0 S F T A) (c : Nat) (v : Int32) : mHm S0 (xwI S 66 c v) F T A := by
  obtain ⟨h1, h2, h3, h4, h5, h6, h7, h8, h9, h10⟩ := h
  exact ⟨h1, h2, h3, h4, h5, h6, h7, fun j c1 c2 c3 c4 c5 c6 => (xrd_ne _ _ _ _ _ c3).trans (h8 j c1 c2 c3 c4 c5 c6), h9, h10⟩
theorem mHm_59 {S0 S : xS} {F T : Nat} {A : hS} (h : mHm S0 S F T A) (c : Nat) (v : Int32) : mHm S0 (xwI S 59 c v) F T A := by
  obtain ⟨h1, h2, h3, h4, h5, h6, h7, h8, h9, h10⟩ := h
  exact ⟨h1, h2, h3, h4, h5, h6, h7, fun j c1 c2 c3 c4 c5 c6 => (xrd_ne _ _ _ _ _ c2).trans (h8 j c1 c2 c3 c4 c5 c6), h9, h10⟩
theorem div3 : ∀ o, o < 10 → ∀ k, k < 3 → nI (3 * o + k) / 3 = nI o ∧ nI (3 * o + k) - nI o * 3 = nI k := by decide +kernel
section MH
variable {S0 : xS} {tr : Nat → Int32} {rent train : Int32} {w0 n F Ts : Nat} {py : Nat → Int32}
theorem m161k (hBs : mBase S0 tr rent train w0 n py F Ts) (d : Nat) {S : xS} {A : hS} (h : mHm S0 S F Ts A) {o k : Nat} (ho : o < n) (hk : k < 3) (T : Int32) : ∃ S', mHm S0 S' F Ts (hIt tr rent train py true o k (cnT A (3 * o + k)) A).2 ∧ S'.1 59 = S.1 59 ∧ S'.1 66 = S.1 66 ∧ ∀ r, xX (d + 2) 161 41 [(0, .ref 54), (1, .int T), (2, .int (nI (3 * o + k)))] [] S r ↔ xX (d + 2) 161 41 [(0, .ref 54), (1, .int (T + (hIt tr rent train py true o k (cnT A (3 * o + k)) A).1)), (2, .int (nI (3 * o + k + 1)))] [] S' r := by
  have hn10 := hBs.2.2.2.2.2.2.2.2.1.2
  have hn : S.1 54 0 = nI n := (h.2.2.2.2.2.2.2.2.1 0 (by decide) (by decide) (by decide) (by decide)).trans hBs.2.2.2.2.2.2.2.2.1.1
  have ho10 : o < 10 := by omega
  have hc30 : 3 * o + k < 30 := by omega
  have xc : (nI (3 * o + k)).toNatClampNeg = 3 * o + k := nI_clamp (by omega)
  have yc := vp_in_nI hc30 (by omega : 30 < 2 ^ 31)
  have hlt : nI (3 * o + k) < 3 * nI n := by
    have e3 : (3 : Int32) * nI n = nI (3 * n) := by have := nI_m' 3 3 (by decide) n 0; rw [nI_0, Int32.add_zero] at this; exact this
    rw [e3]; exact nI_lt (by omega) (by omega)
  obtain ⟨v1, v2⟩ := div3 o ho10 k hk
  have n3 : ¬ (3 : Int32) = 0 := by decide
  have ha : S.1 68 (3 * o + k) = A.2.1 (3 * o + k) := h.2.1 _ hc30
  obtain ⟨l', S', ⟨rfl, g1, g2, g3⟩, e⟩ := xX_loopP (d := d + 2) (f := 161) (pc := 61) (st := []) (fun j l U => l = [(0, .ref 54), (1, .int (T + (hIt tr rent train py true o k j A).1)), (2, .int (nI (3 * o + k))), (3, .int (A.2.1 (3 * o + k))), (4, .int (nI j))] ∧ mHm S0 U F Ts (hIt tr rent train py true o k j A).2 ∧ U.1 59 = S.1 59 ∧ U.1 66 = S.1 66) (cnT A (3 * o + k)) (by
    rintro j hj l U ⟨rfl, q1, q2, q3⟩
    have hp := (mHm_pre (c := 3 * o + k) q1).resolve_right (not_not_intro hc30)
    obtain ⟨U', u1, u2, u3, u4⟩ := m160 hBs hp ho10 hk
    refine ⟨_, U', ⟨rfl, by rw [hIt_s, hAdd_2]; exact u1, u2.trans ?_, u3.trans ?_⟩, fun r => ?_⟩
    · rw [xrd_ne _ _ _ _ _ (by decide), xrd_ne _ _ _ _ _ (by decide)]; exact q2
    · rw [xrd_ne _ _ _ _ _ (by decide), xrd_ne _ _ _ _ _ (by decide)]; exact q3
    · refine (b161_61 _ _ _ _ _ _ _).trans ?_
      rw [if_pos ((lt_cnt (Nat.lt_trans hj (cnt_lt _))).mpr hj), b161_67, xc, v1, v2]
      simp only [yc, true_and, n3, not_false_eq_true, u4 d, exists_eq_left, xtl, b161_97, b161_100, b161_103, nI_1, hIt_s, hAdd_1]
      by_cases c : hD tr rent train (hPre (hIt tr rent train py true o k j A).2 (3 * o + k)) k (py o) = 0
      · have e1 : (hOne tr rent train py true o k (hIt tr rent train py true o k j A).2).1 = 1 := if_pos c
        rw [e1, if_pos (by rw [c]; exact nI_0), Int32.add_assoc]
      · have e1 : (hOne tr rent train py true o k (hIt tr rent train py true o k j A).2).1 = 0 := if_neg c
        have h2 := hD_le tr rent train (hPre (hIt tr rent train py true o k j A).2 (3 * o + k)) k (py o)
        rw [e1, if_neg (nI_ne0 (by omega) (by omega)), Int32.add_zero]) _ S ⟨rfl, by rw [hIt]; exact h, rfl, rfl⟩
  refine ⟨S', g1, g2, g3, fun r => ?_⟩
  rw [b161_41, hn, if_pos hlt, b161_51]
  simp only [xc, yc, true_and, ha]
  have e' := e r
  rw [show (hIt tr rent train py true o k 0 A).1 = 0 by rw [hIt], Int32.add_zero, nI_0] at e'
  refine e'.trans ?_
  rw [b161_61, if_neg (show ¬ nI (cnT A (3 * o + k)) < A.2.1 (3 * o + k) from fun z => Nat.lt_irrefl _ ((lt_cnt (cnt_lt _)).mp z)), b161_109, nI_1]
theorem m161t (hBs : mBase S0 tr rent train w0 n py F Ts) (d : Nat) {S : xS} {A : hS} (h : mHm S0 S F Ts A) : ∃ S', mHm S0 S' F Ts (hT tr rent train py n A).2 ∧ S'.1 59 = S.1 59 ∧ S'.1 66 = S.1 66 ∧ ∀ r, xX (d + 2) 161 41 [(0, .ref 54), (1, .int 0), (2, .int 0)] [] S r ↔ xX (d + 2) 161 115 [(0, .ref 54), (1, .int (hT tr rent train py n A).1)] [] S' r := by
  have hn10 := hBs.2.2.2.2.2.2.2.2.1.2
  obtain ⟨l', S', ⟨rfl, g1, g2, g3⟩, e⟩ := xX_loopP (d := d + 2) (f := 161) (pc := 41) (st := []) (fun o l U => l = [(0, .ref 54), (1, .int (hT tr rent train py o A).1), (2, .int (nI (3 * o)))] ∧ mHm S0 U F Ts (hT tr rent train py o A).2 ∧ U.1 59 = S.1 59 ∧ U.1 66 = S.1 66) n (by
    rintro o ho l U ⟨rfl, q1, q2, q3⟩
    obtain ⟨l2, U', ⟨rfl, u1, u2, u3⟩, e2⟩ := xX_loopP (d := d + 2) (f := 161) (pc := 41) (st := []) (fun k l V => l = [(0, .ref 54), (1, .int ((hT tr rent train py o A).1 + (hK tr rent train py true cnT o k (hT tr rent train py o A).2).1)), (2, .int (nI (3 * o + k)))] ∧ mHm S0 V F Ts (hK tr rent train py true cnT o k (hT tr rent train py o A).2).2 ∧ V.1 59 = U.1 59 ∧ V.1 66 = U.1 66) 3 (by
      rintro k hk l V ⟨rfl, p1, p2, p3⟩
      obtain ⟨V', w1, w2, w3, w4⟩ := m161k hBs d p1 ho hk ((hT tr rent train py o A).1 + (hK tr rent train py true cnT o k (hT tr rent train py o A).2).1)
      exact ⟨_, V', ⟨rfl, by rw [hK_s, hAdd_2]; exact w1, w2.trans p2, w3.trans p3⟩, fun r => (w4 r).trans (by rw [hK_s, hAdd_1, Int32.add_assoc]; exact Iff.rfl)⟩) _ U ⟨rfl, by rw [hK]; exact q1, rfl, rfl⟩
    refine ⟨_, U', ⟨rfl, by rw [hT_s, hAdd_2]; exact u1, u2.trans q2, u3.trans q3⟩, fun r => ?_⟩
    have e3 := e2 r
    rw [show (hK tr rent train py true cnT o 0 (hT tr rent train py o A).2).1 = 0 by rw [hK], Int32.add_zero, Nat.add_zero] at e3
    refine e3.trans ?_
    rw [hT_s, hAdd_1]
    exact Iff.rfl) _ S ⟨rfl, by rw [hT]; exact h, rfl, rfl⟩
  refine ⟨S', g1, g2, g3, fun r => ?_⟩
  have hn : S'.1 54 0 = nI n := (g1.2.2.2.2.2.2.2.2.1 0 (by decide) (by decide) (by decide) (by decide)).trans hBs.2.2.2.2.2.2.2.2.1.1
  have e' := e r
  rw [show (hT tr rent train py 0 A).1 = 0 by rw [hT], Nat.mul_zero, nI_0] at e'
  refine e'.trans ?_
  have e3 : (3 : Int32) * nI n = nI (3 * n) := by have := nI_m' 3 3 (by decide) n 0; rw [nI_0, Int32.add_zero] at this; exact this
  rw [b161_41, hn, e3, if_neg (nI_nlt (Nat.le_refl _) (by omega))]
variable {folk : Nat → Nat}
theorem m161j (hBs : mBase S0 tr rent train w0 n py F Ts) (d : Nat) {S : xS} {A : hS} (h : mHm S0 S F Ts A) {o k : Nat} (ho : o < 10) (hk : k < 3) (hm : S.1 66 (3 * o + k) = nI (folk (3 * o + k)) ∧ folk (3 * o + k) < 2 ^ 31) (T : Int32) : ∃ S', mHm S0 S' F Ts (hIt tr rent train py false o k (folk (3 * o + k)) A).2 ∧ S'.1 59 = S.1 59 ∧ (∀ c, S'.1 66 c = if c = 3 * o + k then 0 else S.1 66 c) ∧ ∀ r, xX (d + 2) 161 159 [(0, .ref 54), (1, .int T), (2, .int (nI o)), (3, .int (nI k))] [] S r ↔ xX (d + 2) 161 159 [(0, .ref 54), (1, .int (T + (hIt tr rent train py false o k (folk (3 * o + k)) A).1)), (2, .int (nI o)), (3, .int (nI (k + 1)))] [] S' r := by
  have hc30 : 3 * o + k < 30 := by omega
  have mc : 3 * nI o + nI k = nI (3 * o + k) := nI_m' 3 3 (by decide) o k
  have xc : (nI (3 * o + k)).toNatClampNeg = 3 * o + k := nI_clamp (by omega)
  have yc := vp_in_nI hc30 (by omega : 30 < 2 ^ 31)
  have hk3 : nI k < 3 := nI_lt (b := 3) hk (by omega)
  obtain ⟨hm1, hm2⟩ := hm
  obtain ⟨l', S', ⟨rfl, g1, g2, g3⟩, e⟩ := xX_loopP (d := d + 2) (f := 161) (pc := 164) (st := []) (fun j l U => l = [(0, .ref 54), (1, .int (T + (hIt tr rent train py false o k j A).1)), (2, .int (nI o)), (3, .int (nI k))] ∧ mHm S0 U F Ts (hIt tr rent train py false o k j A).2 ∧ U.1 59 = S.1 59 ∧ ∀ c, U.1 66 c = if c = 3 * o + k then nI (folk (3 * o + k) - j) else S.1 66 c) (folk (3 * o + k)) (by
    rintro j hj l U ⟨rfl, q1, q2, q3⟩
    have h66 : U.1 66 (3 * o + k) = nI (folk (3 * o + k) - j) := by rw [q3, if_pos rfl]
    obtain ⟨U', u1, u2, u3, u4⟩ := m160 hBs (mHm_66 q1 (3 * o + k) (U.1 66 (3 * o + k) - 1)) ho hk
    refine ⟨_, U', ⟨rfl, by rw [hIt_s, hAdd_2]; exact u1, u2.trans ?_, fun c => ?_⟩, fun r => ?_⟩
    · rw [xrd_ne _ _ _ _ _ (by decide)]; exact q2
    · rw [u3, xrd_same]
      by_cases e : c = 3 * o + k
      · subst e
        rw [vupd_eq, if_pos rfl, h66, nI_dec (by omega), Nat.sub_sub]
      · rw [vupd_ne _ _ _ _ e, if_neg e, q3, if_neg e]
    · have hpos : 0 < nI (folk (3 * o + k) - j) := by rw [← nI_0]; exact nI_lt (by omega) (by omega)
      refine (b161_164 _ _ _ _ _ _).trans ?_
      rw [mc, xc, h66, if_pos hpos, b161_177, mc, xc]
      simp only [yc, true_and, u4 d, exists_eq_left, xtl, b161_197, b161_200, hIt_s, hAdd_1]
      by_cases c : hD tr rent train (hIt tr rent train py false o k j A).2 k (py o) = 0
      · have e1 : (hOne tr rent train py false o k (hIt tr rent train py false o k j A).2).1 = 1 := if_pos c
        rw [e1, if_pos (by rw [c]; exact nI_0), Int32.add_assoc]
      · have e1 : (hOne tr rent train py false o k (hIt tr rent train py false o k j A).2).1 = 0 := if_neg c
        have h2 := hD_le tr rent train (hIt tr rent train py false o k j A).2 k (py o)
        rw [e1, if_neg (nI_ne0 (by omega) (by omega)), Int32.add_zero]) _ S ⟨rfl, by rw [hIt]; exact h, rfl, fun c => by
      by_cases e : c = 3 * o + k
      · rw [if_pos e, e, hm1, Nat.sub_zero]
      · rw [if_neg e]⟩
  refine ⟨S', g1, g2, fun c => by rw [g3 c, Nat.sub_self, nI_0], fun r => ?_⟩
  rw [b161_159, if_pos hk3]
  have e' := e r
  rw [show (hIt tr rent train py false o k 0 A).1 = 0 by rw [hIt], Int32.add_zero] at e'
  refine e'.trans ?_
  have h66 : S'.1 66 (3 * o + k) = 0 := by rw [g3, if_pos rfl, Nat.sub_self, nI_0]
  rw [b161_164, mc, xc, h66]
  have z0 : ¬ (0 : Int32) < 0 := by decide
  rw [if_neg z0, b161_206, nI_1]
  simp only [yc, true_and]
theorem m161w (hBs : mBase S0 tr rent train w0 n py F Ts) {w : Nat → Nat} (hw : iPl n (S0.1 57) w) (hmv : ∀ o, o < n → w o = w0 → S0.1 59 o = 0) (hhr : ∀ o, o < n → w o = w0 → ∀ k, k < 3 → S0.1 66 (3 * o + k) = nI (folk (3 * o + k)) ∧ folk (3 * o + k) < 2 ^ 31) (d : Nat) {S : xS} {A : hS} (h : mHm S0 S F Ts A) (h59 : S.1 59 = S0.1 59) (h66 : S.1 66 = S0.1 66) (T : Int32) : ∃ S', mHm S0 S' F Ts (hW tr rent train py folk w w0 n A).2 ∧ (∀ k, S'.1 59 k = movF (S0.1 59) w w0 n k) ∧ (∀ o, o < 10 → ∀ k, k < 3 → S'.1 66 (3 * o + k) = if o < n ∧ w o = w0 then 0 else S0.1 66 (3 * o + k)) ∧ ∀ r, xX (d + 2) 161 115 [(0, .ref 54), (1, .int T)] [] S r ↔ xX (d + 2) 161 218 [(0, .ref 54), (1, .int (T + (hW tr rent train py folk w w0 n A).1))] [] S' r := by
  have hn10 := hBs.2.2.2.2.2.2.2.2.1.2
  have hw05 := hBs.1.2
  obtain ⟨l', S', ⟨rfl, g1, g2, g3⟩, e⟩ := xX_loopP (d := d + 2) (f := 161) (pc := 117) (st := []) (fun o l U => l = [(0, .ref 54), (1, .int (T + (hW tr rent train py folk w w0 o A).1)), (2, .int (nI o))] ∧ mHm S0 U F Ts (hW tr rent train py folk w w0 o A).2 ∧ (∀ k, U.1 59 k = movF (S0.1 59) w w0 o k) ∧ ∀ i, i < 10 → ∀ k, k < 3 → U.1 66 (3 * i + k) = if i < o ∧ w i = w0 then 0 else S0.1 66 (3 * i + k)) n (by
    rintro o ho l U ⟨rfl, q1, q2, q3⟩
    have ho10 : o < 10 := by omega
    have hn : U.1 54 0 = nI n := (q1.2.2.2.2.2.2.2.2.1 0 (by decide) (by decide) (by decide) (by decide)).trans hBs.2.2.2.2.2.2.2.2.1.1
    have hnow : U.1 54 5 = nI w0 := (q1.2.2.2.2.2.2.2.2.1 5 (by decide) (by decide) (by decide) (by decide)).trans hBs.1.1
    have h57 : U.1 57 = S0.1 57 := q1.2.2.2.2.2.2.2.1 57 (by decide) (by decide) (by decide) (by decide) (by decide) (by decide)
    have xo : (nI o).toNatClampNeg = o := nI_clamp (by omega)
    have yo := vp_in_nI ho10 (by omega : 10 < 2 ^ 31)
    by_cases c : w o = w0
    · have c57 : S0.1 57 o = nI w0 := (hw.eq ho hw05).mpr c
      have c59 : U.1 59 o = 0 := by
        rw [q2]
        unfold movF
        rw [if_neg (by omega)]; exact hmv o ho c
      obtain ⟨l2, U', ⟨rfl, u1, u2, u3⟩, e2⟩ := xX_loopP (d := d + 2) (f := 161) (pc := 159) (st := []) (fun k l V => l = [(0, .ref 54), (1, .int (T + (hW tr rent train py folk w w0 o A).1 + (hK tr rent train py false (fun _ c => folk c) o k (hW tr rent train py folk w w0 o A).2).1)), (2, .int (nI o)), (3, .int (nI k))] ∧ mHm S0 V F Ts (hK tr rent train py false (fun _ c => folk c) o k (hW tr rent train py folk w w0 o A).2).2 ∧ V.1 59 = vupd (U.1 59) o 1 ∧ ∀ c, V.1 66 c = if 3 * o ≤ c ∧ c < 3 * o + k then 0 else U.1 66 c) 3 (by
        rintro k hk l V ⟨rfl, p1, p2, p3⟩
        obtain ⟨V', w1, w2, w3, w4⟩ := m161j (folk := folk) hBs d p1 ho10 hk (by
          rw [p3, if_neg (by omega), q3 o ho10 k hk, if_neg (by omega)]
          exact hhr o ho c k hk) (T + (hW tr rent train py folk w w0 o A).1 + (hK tr rent train py false (fun _ c => folk c) o k (hW tr rent train py folk w w0 o A).2).1)
        refine ⟨_, V', ⟨rfl, by rw [hK_s, hAdd_2]; exact w1, w2.trans p2, fun c => ?_⟩, fun r => (w4 r).trans (by rw [hK_s, hAdd_1, ← Int32.add_assoc])⟩
        rw [w3, p3]
        by_cases e : c = 3 * o + k
        · rw [if_pos e, if_pos (by omega)]
        · rw [if_neg e]
          by_cases e2 : 3 * o ≤ c ∧ c < 3 * o + k
          · rw [if_pos e2, if_pos (by omega)]
          · rw [if_neg e2, if_neg (by omega)]) _ (xwI U 59 o 1) ⟨rfl, by rw [hK]; exact mHm_59 q1 o 1, xrd_same _ _ _ _, fun c => by rw [if_neg (by omega), xrd_ne _ _ _ _ _ (by decide)]⟩
      refine ⟨_, U', ⟨rfl, by rw [hW_y _ _ _ _ _ _ _ _ _ c, hAdd_2]; exact u1, fun k => ?_, fun i hi k hk => ?_⟩, fun r => ?_⟩
      · rw [u2, movF_y c]
        by_cases e : k = o
        · subst e; rw [vupd_eq, vupd_eq]
        · rw [vupd_ne _ _ _ _ e, vupd_ne _ _ _ _ e]; exact q2 k
      · rw [u3, q3 i hi k hk]
        by_cases e : i = o
        · subst e; rw [if_pos (by omega), if_pos ⟨Nat.lt_succ_self i, c⟩]
        · rw [if_neg (by omega)]
          by_cases e2 : i < o ∧ w i = w0
          · rw [if_pos e2, if_pos ⟨by omega, e2.2⟩]
          · rw [if_neg e2, if_neg (fun z => e2 ⟨by omega, z.2⟩)]
      · refine (b161_117 _ _ _ _ _).trans ?_
        rw [hn, if_pos (nI_lt ho (by omega)), b161_125, hnow, xo, h57, if_pos c57, b161_138, xo, if_pos c59, b161_150, xo]
        simp only [yo, true_and, xbit_1]
        have e3 := e2 r
        rw [show (hK tr rent train py false (fun _ c => folk c) o 0 (hW tr rent train py folk w w0 o A).2).1 = 0 by rw [hK], Int32.add_zero, nI_0] at e3
        refine e3.trans ?_
        have d3 : ¬ nI 3 < 3 := by decide
        rw [b161_159, if_neg d3, b161_212, hW_y _ _ _ _ _ _ _ _ _ c, hAdd_1, nI_1, Int32.add_assoc]
    · have c57 : ¬ S0.1 57 o = nI w0 := fun z => c ((hw.eq ho hw05).mp z)
      refine ⟨_, U, ⟨rfl, by rw [hW_n _ _ _ _ _ _ _ _ _ c]; exact q1, fun k => by rw [movF_n c]; exact q2 k, fun i hi k hk => ?_⟩, fun r => ?_⟩
      · rw [q3 i hi k hk]
        by_cases e2 : i < o ∧ w i = w0
        · rw [if_pos e2, if_pos ⟨by omega, e2.2⟩]
        · rw [if_neg e2, if_neg (fun z => e2 ⟨by
            rcases Nat.lt_or_ge i o with y | y
            · exact y
            · have e3 : i = o := by omega
              rw [e3] at z; exact absurd z.2 c, z.2⟩)]
      · refine (b161_117 _ _ _ _ _).trans ?_
        rw [hn, if_pos (nI_lt ho (by omega)), b161_125, hnow, xo, h57, if_neg c57, b161_212, hW_n _ _ _ _ _ _ _ _ _ c, nI_1]
        simp only [yo, true_and]) _ S ⟨rfl, by rw [hW]; exact h, fun k => by rw [h59]; unfold movF; rw [if_neg (by omega)], fun i hi k hk => by rw [h66, if_neg (by omega)]⟩
  refine ⟨S', g1, g2, g3, fun r => ?_⟩
  have hn : S'.1 54 0 = nI n := (g1.2.2.2.2.2.2.2.2.1 0 (by decide) (by decide) (by decide) (by decide)).trans hBs.2.2.2.2.2.2.2.2.1.1
  rw [b161_115]
  have e' := e r
  rw [show (hW tr rent train py folk w w0 0 A).1 = 0 by rw [hW], Int32.add_zero, nI_0] at e'
  refine e'.trans ?_
  rw [b161_117, hn, if_neg (nI_nlt (Nat.le_refl n) (by omega))]
end MH
