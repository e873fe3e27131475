theorem nI_addm1 {a : Nat} (h : 0 < a) : nI a + (-1) = nI (a - 1) := by
  rw [← Int32.sub_eq_add_neg]; exact nI_dec h
theorem x4r (d : Nat) (S : xS) {pl : Nat} (hpl : pl < 36) (hp : S.1 24 1 = nI pl) {x : Nat} (hx : x < 36) : ∀ (k dd p a : Nat), clsF pl k dd p a = x → dd ≤ 12 → p ≤ 36 → a ≤ 100 → ∀ r, xX (d + 1) 4 17 [(0, .ref 24), (2, .int (nI a)), (3, .int (nI dd)), (4, .int (nI p))] [] S r ↔ r = (some (.int (nI x)), S)
  | 0, dd, p, a, hc, _, _, _ => by
    have : (36 : Nat) = x := hc
    omega
  | k + 1, dd, p, a, hc, h1, h2, h3 => by
    intro r
    unfold clsF at hc
    by_cases e1 : p < 36
    · have b1 : Nat.blt p 36 = true := Nat.ble_eq_true_of_le e1
      rw [b1, cond_true] at hc
      have g := fun (r : Option Value × xS) => t3 d (nI p) S r
      have l := dN_le p e1 pl hpl
      simp only [p3, hp, dN_x p e1 pl hpl] at g
      have d36 : nI p < 36 := nI_lt (b := 36) e1 (by omega)
      rw [b4_17, if_pos d36]
      simp only [b4_24, g, exists_eq_left, xtl, b4_30]
      by_cases e2 : dN pl p = dd
      · rw [e2, Nat.beq_refl, cond_true] at hc
        rw [e2, if_pos rfl, b4_34]
        by_cases e3 : a = 0
        · subst e3
          have hc' : p = x := hc
          rw [nI_0, if_pos rfl, b4_38, hc']
        · have b3 : Nat.beq a 0 = false := by
            cases z : Nat.beq a 0 with
            | false => rfl
            | true => exact absurd (Nat.eq_of_beq_eq_true z) e3
          rw [b3, cond_false] at hc
          have a0 : ¬ nI a = 0 := nI_ne0 (by omega) (by omega)
          rw [if_neg a0, b4_41, nI_addm1 (by omega), nI_1]
          exact x4r d S hpl hp hx k dd (p + 1) (a - 1) hc h1 (by omega) (by omega) r
      · have b2 : Nat.beq (dN pl p) dd = false := by
          cases z : Nat.beq (dN pl p) dd with
          | false => rfl
          | true => exact absurd (Nat.eq_of_beq_eq_true z) e2
        rw [b2, cond_false] at hc
        rw [if_neg (fun z => e2 ((nI_eq (by omega) (by omega)).mp z)), b4_44, nI_1]
        exact x4r d S hpl hp hx k dd (p + 1) a hc h1 (by omega) h3 r
    · have e1' : p = 36 := by omega
      subst e1'
      have b1 : Nat.blt 36 36 = false := by decide
      rw [b1, cond_false] at hc
      have n36 : ¬ nI 36 < 36 := by decide
      rw [b4_17, if_neg n36, b4_50]
      by_cases e2 : dd < 12
      · have b2 : Nat.blt dd 12 = true := Nat.ble_eq_true_of_le e2
        rw [b2, cond_true] at hc
        have n12 : ¬ 12 < nI (dd + 1) := by rw [show (12 : Int32) = nI 12 by decide]; exact nI_nlt (by omega) (by omega)
        rw [nI_1, b4_8, if_neg n12, b4_14, ← nI_0]
        exact x4r d S hpl hp hx k (dd + 1) 0 a hc (by omega) (by omega) h3 r
      · have b2 : Nat.blt dd 12 = false := by
          cases z : Nat.blt dd 12 with
          | false => rfl
          | true => exact absurd (Nat.le_of_ble_eq_true z) e2
        rw [b2, cond_false] at hc
        omega
/-- how many embassies come ahead -/
def psN (rk : Nat → Nat) (n r f : Nat) : Nat := sN (fun k => if r < rk k ∨ (rk k = r ∧ k < f) then 1 else 0) n
theorem sN_swap {f g : Nat → Nat} {k0 : Nat} : ∀ {n : Nat}, k0 < n → (∀ k, k ≠ k0 → f k = g k) → sN f n + g k0 = sN g n + f k0
  | 0, h, _ => absurd h (Nat.not_lt_zero _)
  | n + 1, h, he => by
    show sN f n + f n + g k0 = sN g n + g n + f k0
    by_cases e : k0 = n
    · subst e
      rw [sN_congr (f := f) (g := g) (fun k hk => he k (by omega))]
      omega
    · have := sN_swap (n := n) (by omega) he
      have := he n (fun z => e z.symm)
      omega
theorem psN_y {rk : Nat → Nat} {n r f : Nat} (hf : f < n) (h : rk f = r) : psN rk n r (f + 1) = psN rk n r f + 1 := by
  have : sN (fun k => if r < rk k ∨ (rk k = r ∧ k < f + 1) then 1 else 0) n + (if r < rk f ∨ (rk f = r ∧ f < f) then 1 else 0) = sN (fun k => if r < rk k ∨ (rk k = r ∧ k < f) then 1 else 0) n + (if r < rk f ∨ (rk f = r ∧ f < f + 1) then 1 else 0) := sN_swap (f := fun k => if r < rk k ∨ (rk k = r ∧ k < f + 1) then 1 else 0) (g := fun k => if r < rk k ∨ (rk k = r ∧ k < f) then 1 else 0) hf (fun k hk => by
    by_cases c : r < rk k ∨ (rk k = r ∧ k < f)
    · show (if _ then 1 else 0) = (if _ then 1 else 0)
      rw [if_pos c, if_pos (by omega)]
    · show (if _ then 1 else 0) = (if _ then 1 else 0)
      rw [if_neg c, if_neg (by omega)])
  rw [if_neg (show ¬ (r < rk f ∨ (rk f = r ∧ f < f)) by omega), if_pos (show r < rk f ∨ (rk f = r ∧ f < f + 1) by omega)] at this
  unfold psN
  omega
theorem psN_n {rk : Nat → Nat} {n r f : Nat} (h : ¬ rk f = r) : psN rk n r (f + 1) = psN rk n r f := by
  refine sN_congr (fun k hk => ?_)
  by_cases c : r < rk k ∨ (rk k = r ∧ k < f)
  · rw [if_pos c, if_pos (by omega)]
  · rw [if_neg c, if_neg (fun z => by
      rcases z with z | ⟨z, z'⟩
      · exact c (Or.inl z)
      · by_cases e : k = f
        · rw [e] at z; exact h z
        · exact c (Or.inr ⟨z, by omega⟩))]
theorem psN_r {rk : Nat → Nat} {n r : Nat} (hr : 0 < r) : psN rk n r n = psN rk n (r - 1) 0 := by
  refine sN_congr (fun k hk => ?_)
  by_cases c : r < rk k ∨ (rk k = r ∧ k < n)
  · rw [if_pos c, if_pos (by omega)]
  · rw [if_neg c, if_neg (by omega)]
theorem psN_lt {rk : Nat → Nat} {n r f : Nat} (hf : f < n) (h : rk f = r) : psN rk n r f < n := by
  have := psN_y hf h
  have b : psN rk n r (f + 1) ≤ 1 * n := sN_bd (fun k hk => by
    show (if _ then 1 else 0) ≤ 1
    by_cases c : r < rk k ∨ (rk k = r ∧ k < f + 1)
    · rw [if_pos c]; exact Nat.le_refl 1
    · rw [if_neg c]; exact Nat.zero_le 1)
  omega
theorem x2c (d : Nat) (S : xS) {n e : Nat} {rk : Nat → Nat} (hn10 : n ≤ 10) (hn : S.1 24 0 = nI n) (he : e < n) (hrk : ∀ k, k < n → S.1 25 k = nI (rk k) ∧ rk k ≤ 9) (r : Option Value × xS) : xX d 2 0 [(0, .ref 24), (1, .int (nI e))] [] S r ↔ r = (some (.int (nI (psN rk n (rk e) e))), S) := by
  have ae : (nI e).toNatClampNeg = e := nI_clamp (by omega)
  have ie := vp_in_nI (show e < 10 by omega) (by omega : 10 < 2 ^ 31)
  have key := xX_loop (d := d) (f := 2) (pc := 4) (st := []) (fun j => ([(0, .ref 24), (1, .int (nI e)), (2, .int (nI (sN (fun k => if rk e < rk k ∨ (rk k = rk e ∧ k < e) then 1 else 0) j))), (3, .int (nI j))], S)) n (fun j hj r => by
    have aj : (nI j).toNatClampNeg = j := nI_clamp (by omega)
    have ij := vp_in_nI (show j < 10 by omega) (by omega : 10 < 2 ^ 31)
    obtain ⟨r1, r2⟩ := hrk j hj
    obtain ⟨r3, r4⟩ := hrk e he
    have l1 : (nI (rk e) < nI (rk j)) = (rk e < rk j) := propext (nI_ltI (by omega) (by omega))
    have l2 : (nI (rk j) = nI (rk e)) = (rk j = rk e) := propext (nI_eq (by omega) (by omega))
    have l3 : (nI j < nI e) = (j < e) := propext (nI_ltI (by omega) (by omega))
    refine (b2_4 _ _ _ _ _ _).trans ?_
    rw [hn, if_pos (nI_lt hj (by omega))]
    by_cases c1 : rk e < rk j
    · have z : (if rk e < rk j ∨ (rk j = rk e ∧ j < e) then 1 else 0) = 1 := if_pos (Or.inl c1)
      simp only [b2_12, aj, ae, ij, ie, r1, r3, l1, c1, ↓reduceIte, true_and, b2_47, nI_1, sN, true_or, or_true, or_false, false_or, and_true, true_and, false_and, and_false, ↓reduceIte, Nat.add_zero]
    · by_cases c2 : rk j = rk e
      · by_cases c3 : j < e
        · have z : (if rk e < rk j ∨ (rk j = rk e ∧ j < e) then 1 else 0) = 1 := if_pos (Or.inr ⟨c2, c3⟩)
          have c1' : ¬ rk e < rk e := Nat.lt_irrefl _
          simp only [b2_12, aj, ae, ij, ie, r1, r3, l1, c1, ↓reduceIte, true_and, b2_27, l2, eq_true c2, b2_42, l3, c3, b2_47, nI_1, sN, true_or, or_true, or_false, false_or, and_true, true_and, false_and, and_false, ↓reduceIte, Nat.add_zero]
        · have z : (if rk e < rk j ∨ (rk j = rk e ∧ j < e) then 1 else 0) = 0 := if_neg (fun y => by rcases y with y | y; exact c1 y; exact c3 y.2)
          simp only [b2_12, aj, ae, ij, ie, r1, r3, l1, c1, ↓reduceIte, true_and, b2_27, l2, eq_true c2, b2_42, l3, c3, b2_50, nI_1, sN, true_or, or_true, or_false, false_or, and_true, true_and, false_and, and_false, ↓reduceIte, Nat.add_zero]
      · have z : (if rk e < rk j ∨ (rk j = rk e ∧ j < e) then 1 else 0) = 0 := if_neg (fun y => by rcases y with y | y; exact c1 y; exact c2 y.1)
        simp only [b2_12, aj, ae, ij, ie, r1, r3, l1, c1, ↓reduceIte, true_and, b2_27, l2, eq_false c2, b2_50, nI_1, sN, true_or, or_true, or_false, false_or, and_true, true_and, false_and, and_false, ↓reduceIte, Nat.add_zero]) r
  simp only [show ∀ f : Nat → Nat, sN f 0 = 0 from fun _ => rfl, nI_0] at key
  rw [b2_0]
  refine key.trans ?_
  rw [b2_4, hn, if_neg (nI_nlt (Nat.le_refl n) (by omega)), b2_56]
  rfl
def pU (S U : xS) (pl i : Nat) : Prop := (∀ k, k < 36 → U.1 88 k = if tkB pl i k then 1 else 0) ∧ (∀ c, c ≠ 88 → U.1 c = S.1 c) ∧ U.2 = S.2
def bI (b : Nat) : Int32 := if b = 36 then -1 else nI b
theorem bF_le (pl i : Nat) : ∀ j, j ≤ 36 → ((bF pl i j).1 = 36 ∨ (bF pl i j).1 < j) ∧ ((bF pl i j).2 = 0 ∨ ∃ p, p < 36 ∧ (bF pl i j).2 = dN pl p)
  | 0, _ => ⟨Or.inl rfl, Or.inl rfl⟩
  | j + 1, hj => by
    obtain ⟨h1, h2⟩ := bF_le pl i j (by omega)
    unfold bF
    cases c : (!(tkB pl i j) && (Nat.beq (bF pl i j).1 36 || Nat.blt (dN pl j) (bF pl i j).2)) with
    | true => exact ⟨Or.inr (Nat.lt_succ_self j), Or.inr ⟨j, by omega, rfl⟩⟩
    | false => exact ⟨by rcases h1 with z | z; exact Or.inl z; exact Or.inr (by show (bF pl i j).1 < j + 1; omega), h2⟩
theorem m175b (d : Nat) (S : xS) {U : xS} {pl i : Nat} (hpl : pl < 36) (hp : S.1 54 6 = nI pl) (hi : i < 10) (hU : pU S U pl i) (v1 v2 v3 : Int32) (r : Option Value × xS) : xX (d + 1) 175 86 [(0, .ref 54), (1, .int v1), (2, .int v2), (3, .int v3), (4, .int (-1)), (5, .int 0), (6, .int 0)] [] U r ↔ xX (d + 1) 175 165 [(0, .ref 54), (1, .int v1), (2, .int v2), (3, .int v3), (4, .int (nI (sg pl i)))] [] U r := by
  have hU6 : U.1 54 6 = nI pl := by rw [hU.2.1 54 (by decide)]; exact hp
  have n6 : ¬ (6 : Int32) = 0 := by decide
  have t174' := fun (v0 : Int32) (r : Option Value × xS) => t174 d v0 U r
  have key := xX_loop (d := d + 1) (f := 175) (pc := 86) (st := []) (fun j => ([(0, .ref 54), (1, .int v1), (2, .int v2), (3, .int v3), (4, .int (bI (bF pl i j).1)), (5, .int (nI (bF pl i j).2)), (6, .int (nI j))], U)) 36 (fun j hj r => by
    have aj : (nI j).toNatClampNeg = j := nI_clamp (by omega)
    have ij := vp_in_nI (show j < 36 by omega) (by omega : 36 < 2 ^ 31)
    have hd := dN_m j hj pl hpl
    obtain ⟨l1, l2⟩ := bF_le pl i j (by omega)
    have hdl := dN_le j hj pl hpl
    have h88 := hU.1 j hj
    have s1 : ∀ (v0 : Int32), p174 U v0 = (some (.int (if v0 < 0 then -v0 else v0)), U) := fun v0 => by
      unfold p174
      by_cases z : v0 < 0
      · rw [if_pos z, if_pos z]
      · rw [if_neg z, if_neg z]
    refine (b175_86 _ _ _ _ _ _ _ _ _).trans ?_
    have d36 : nI j < 36 := nI_lt (b := 36) hj (by omega)
    rw [if_pos d36]
    simp only [b175_93, n6, not_false_eq_true, true_and, hU6, t174', s1, exists_eq_left, xtl, b175_109, b175_125, hd, aj, ij, h88]
    have hl2 : (bF pl i j).2 ≤ 10 := by
      rcases l2 with z | ⟨p, z1, z2⟩
      · omega
      · rw [z2]; exact dN_le p z1 pl hpl
    cases ht : tkB pl i j with
    | true =>
      have e : bF pl i (j + 1) = bF pl i j := by rw [bF, ht]; rfl
      simp (decide := true) only [↓reduceIte, b175_159, e, nI_1]
    | false =>
      by_cases c1 : (bF pl i j).1 = 36
      · have e : bF pl i (j + 1) = (j, dN pl j) := by
          rw [bF, ht, c1]
          rfl
        have e2 : bI (bF pl i j).1 = -1 := if_pos c1
        have e3 : bI j = nI j := if_neg (by omega)
        simp (decide := true) only [↓reduceIte, b175_138, e2, b175_151, e, e3, nI_1]
      · have b36 : Nat.beq (bF pl i j).1 36 = false := by
          cases z : Nat.beq (bF pl i j).1 36 with
          | false => rfl
          | true => exact absurd (Nat.eq_of_beq_eq_true z) c1
        have e2 : bI (bF pl i j).1 = nI (bF pl i j).1 := if_neg c1
        have e4 : ¬ nI (bF pl i j).1 = -1 := nI_nem1 (by omega)
        have e5 : (nI (dN pl j) < nI (bF pl i j).2) = (dN pl j < (bF pl i j).2) := propext (nI_ltI (by omega) (by omega))
        have e3 : bI j = nI j := if_neg (by omega)
        by_cases c2 : dN pl j < (bF pl i j).2
        · have b2 : Nat.blt (dN pl j) (bF pl i j).2 = true := Nat.ble_eq_true_of_le c2
          have e : bF pl i (j + 1) = (j, dN pl j) := by rw [bF, ht, b36, b2]; rfl
          simp (decide := true) only [↓reduceIte, b175_138, e2, e4, b175_144, e5, c2, b175_151, e, e3, nI_1]
        · have b2 : Nat.blt (dN pl j) (bF pl i j).2 = false := by
            cases z : Nat.blt (dN pl j) (bF pl i j).2 with
            | false => rfl
            | true => exact absurd (Nat.le_of_ble_eq_true z) c2
          have e : bF pl i (j + 1) = bF pl i j := by rw [bF, ht, b36, b2]; rfl
          simp (decide := true) only [↓reduceIte, b175_138, e2, e4, b175_144, e5, c2, b175_159, e, nI_1]) r
  have e0 : bI (bF pl i 0).1 = -1 := rfl
  have e1 : nI (bF pl i 0).2 = 0 := nI_0
  simp only [e0, e1, nI_0] at key
  refine key.trans ?_
  have n36 : ¬ nI 36 < 36 := by decide
  rw [b175_86, if_neg n36, sg_mod pl hpl i hi]
  have := (sg_cls pl hpl i hi).2
  rw [show bI (sg pl i) = nI (sg pl i) from if_neg (by omega)]
theorem pU_s {S U : xS} {pl i : Nat} (hpl : pl < 36) (hi : i < 10) (hU : pU S U pl i) : pU S (xwI U 88 (sg pl i) 1) pl (i + 1) := by
  refine ⟨fun k hk => ?_, fun c hc => (xrd_ne _ _ _ _ _ hc).trans (hU.2.1 c hc), hU.2.2⟩
  rw [xrd_same, tk_s pl hpl i hi k hk]
  by_cases e : k = sg pl i
  · rw [e, vupd_eq, Nat.beq_refl, Bool.or_true, if_pos rfl]
  · have b : Nat.beq k (sg pl i) = false := by
      cases z : Nat.beq k (sg pl i) with
      | false => rfl
      | true => exact absurd (Nat.eq_of_beq_eq_true z) e
    rw [vupd_ne _ _ _ _ e, b, Bool.or_false]
    exact hU.1 k hk
/-- one embassy of the rank -/
theorem m175f (d : Nat) (S : xS) {U : xS} {pl n e r0 f : Nat} {rk : Nat → Nat} (hpl : pl < 36) (hp : S.1 54 6 = nI pl) (hn10 : n ≤ 10) (hn : S.1 54 3 = nI n) (hrk : ∀ k, k < n → S.1 81 k = nI (rk k) ∧ rk k ≤ 9) (hr0 : r0 ≤ 9) (hf : f < n) (hfe : f ≠ e) (hen : e < n) (hU : pU S U pl (psN rk n r0 f)) : ∃ U', pU S U' pl (psN rk n r0 (f + 1)) ∧ ∀ r, xX (d + 1) 175 56 [(0, .ref 54), (1, .int (nI e)), (2, .int (nI r0)), (3, .int (nI f))] [] U r ↔ xX (d + 1) 175 56 [(0, .ref 54), (1, .int (nI e)), (2, .int (nI r0)), (3, .int (nI (f + 1)))] [] U' r := by
  have af : (nI f).toNatClampNeg = f := nI_clamp (by omega)
  have ij := vp_in_nI (show f < 10 by omega) (by omega : 10 < 2 ^ 31)
  have hUn : U.1 54 3 = nI n := by rw [hU.2.1 54 (by decide)]; exact hn
  have hU81 : U.1 81 f = nI (rk f) := by rw [hU.2.1 81 (by decide)]; exact (hrk f hf).1
  have hrf := (hrk f hf).2
  have base : ∀ r, xX (d + 1) 175 56 [(0, .ref 54), (1, .int (nI e)), (2, .int (nI r0)), (3, .int (nI f))] [] U r ↔ (if nI (rk f) = nI r0 then xX (d + 1) 175 77 [(0, .ref 54), (1, .int (nI e)), (2, .int (nI r0)), (3, .int (nI f))] [] U r else xX (d + 1) 175 74 [(0, .ref 54), (1, .int (nI e)), (2, .int (nI r0)), (3, .int (nI f))] [] U r) := fun r => by
    refine (b175_56 _ _ _ _ _ _).trans ?_
    rw [hUn, if_pos (nI_lt hf (by omega)), b175_64, af, hU81]
    simp only [ij, true_and]
  by_cases c : rk f = r0
  · have i10 : psN rk n r0 f < 10 := Nat.lt_of_lt_of_le (psN_lt hf c) hn10
    have s36 := (sg_cls pl hpl _ i10).2
    refine ⟨xwI U 88 (sg pl (psN rk n r0 f)) 1, by rw [psN_y hf c]; exact pU_s hpl i10 hU, fun r => ?_⟩
    rw [base, if_pos (by rw [c]), b175_77]
    refine (m175b d S hpl hp i10 hU _ _ _ r).trans ?_
    rw [b175_165, nI_clamp (by omega), if_neg (fun z => hfe ((nI_eq (by omega) (by omega)).mp z)), b175_181, nI_1]
    have := vp_in_nI s36 (by omega : 36 < 2 ^ 31)
    simp only [this, true_and]
  · refine ⟨U, by rw [psN_n c]; exact hU, fun r => ?_⟩
    rw [base, if_neg (fun z => c ((nI_eq (by omega) (by omega)).mp z)), b175_74, nI_1]
theorem m175 (d : Nat) (S : xS) {pl n e : Nat} {rk : Nat → Nat} (hpl : pl < 36) (hp : S.1 54 6 = nI pl) (hn10 : n ≤ 10) (hn : S.1 54 3 = nI n) (hrk : ∀ k, k < n → S.1 81 k = nI (rk k) ∧ rk k ≤ 9) (hen : e < n) : ∃ U, (∀ c, c ≠ 88 → U.1 c = S.1 c) ∧ U.2 = S.2 ∧ ∀ r, xX (d + 1) 175 0 [(0, .ref 54), (1, .int (nI e))] [] S r ↔ r = (some (.int (nI (sg pl (psN rk n (rk e) e)))), U) := by
  have k0 := xX_loop (d := d + 1) (f := 175) (pc := 16) (st := []) (fun j => ([(0, .ref 54), (1, .int (nI e)), (2, .int (nI j))], xset S 88 (fun b => if b < j then (if b = pl then 1 else 0) else S.1 88 b))) 36 (fun j hj r => by
    have aj : (nI j).toNatClampNeg = j := nI_clamp (by omega)
    have ij := vp_in_nI (show j < 36 by omega) (by omega : 36 < 2 ^ 31)
    have e1 : (nI j = nI pl) = (j = pl) := propext (nI_eq (by omega) (by omega))
    have ee : (fun b => if b = j then (if j = pl then (1 : Int32) else 0) else if b < j then (if b = pl then 1 else 0) else S.1 88 b) = (fun b => if b < j + 1 then (if b = pl then 1 else 0) else S.1 88 b) := by
      funext b
      by_cases z : b = j
      · subst z; rw [if_pos rfl, if_pos (show b < b + 1 from Nat.lt_succ_self b)]
      · rw [if_neg z]
        by_cases z2 : b < j
        · rw [if_pos z2, if_pos (show b < j + 1 by omega)]
        · rw [if_neg z2, if_neg (show ¬ b < j + 1 by omega)]
    refine (b175_16 _ _ _ _ _).trans ?_
    have d36 : nI j < 36 := nI_lt (b := 36) hj (by omega)
    rw [if_pos d36, b175_22, xset_ne _ _ _ _ (by decide), hp]
    by_cases z : j = pl
    · rw [if_pos z] at ee
      rw [if_pos (show nI j = nI pl by rw [z]), b175_35, aj, xset_wI, ee, nI_1]
      simp only [ij, true_and]
    · rw [if_neg z] at ee
      rw [if_neg (show ¬ nI j = nI pl by rw [e1]; exact z), b175_39, aj, xset_wI, ee, nI_1]
      simp only [ij, true_and])
  have e0 : xset S 88 (fun b => if b < 0 then (if b = pl then 1 else 0) else S.1 88 b) = S := by
    rw [show (fun b => if b < 0 then (if b = pl then (1 : Int32) else 0) else S.1 88 b) = S.1 88 from by funext b; exact if_neg (Nat.not_lt_zero b), xset_id]
  simp only [e0, nI_0] at k0
  obtain ⟨U0, hU0⟩ : ∃ U, U = xset S 88 (fun b => if b < 36 then (if b = pl then 1 else 0) else S.1 88 b) := ⟨_, rfl⟩
  rw [← hU0] at k0
  obtain ⟨hrE, hrE9⟩ := hrk e hen
  have p0 : psN rk n 9 0 = 0 := by
    have : psN rk n 9 0 = sN (fun _ => 0) n := sN_congr (fun k hk => if_neg (by have := (hrk k hk).2; omega))
    rw [this]
    have z : ∀ m, sN (fun _ => 0) m = 0 := fun m => by induction m with
      | zero => rfl
      | succ m ih => show sN (fun _ => 0) m + 0 = 0; rw [ih]
    exact z n
  have hp0 : pU S U0 pl (psN rk n 9 0) := by
    rw [p0, hU0]
    refine ⟨fun k hk => ?_, fun c hc => xset_ne _ _ _ _ hc, rfl⟩
    rw [xset_same, if_pos hk, tk_0 pl hpl k hk]
    by_cases z : k = pl
    · rw [if_pos z, z, Nat.beq_refl, if_pos rfl]
    · have b : Nat.beq k pl = false := by
        cases y : Nat.beq k pl with
        | false => rfl
        | true => exact absurd (Nat.eq_of_beq_eq_true y) z
      rw [if_neg z, b]
      rfl
  -- rank by rank
  obtain ⟨l1, U1, ⟨rfl, q1⟩, k1⟩ := xX_loopP (d := d + 1) (f := 175) (pc := 50) (st := []) (fun t l U => l = [(0, .ref 54), (1, .int (nI e)), (2, .int (nI (9 - t)))] ∧ pU S U pl (psN rk n (9 - t) 0)) (9 - rk e) (by
    rintro t ht l U ⟨rfl, hU⟩
    have hUn : U.1 54 3 = nI n := by rw [hU.2.1 54 (by decide)]; exact hn
    obtain ⟨l2, U2, ⟨rfl, q2⟩, k2⟩ := xX_loopP (d := d + 1) (f := 175) (pc := 56) (st := []) (fun f l V => l = [(0, .ref 54), (1, .int (nI e)), (2, .int (nI (9 - t))), (3, .int (nI f))] ∧ pU S V pl (psN rk n (9 - t) f)) n (by
      rintro f hf l V ⟨rfl, hV⟩
      by_cases fe : f = e
      · subst fe
        refine ⟨_, V, ⟨rfl, by rw [psN_n (by omega)]; exact hV⟩, fun r => ?_⟩
        have af : (nI f).toNatClampNeg = f := nI_clamp (by omega)
        have ij := vp_in_nI (show f < 10 by omega) (by omega : 10 < 2 ^ 31)
        refine (b175_56 _ _ _ _ _ _).trans ?_
        rw [show V.1 54 3 = nI n by rw [hV.2.1 54 (by decide)]; exact hn, if_pos (nI_lt hf (by omega)), b175_64, af, hV.2.1 81 (by decide), hrE, if_neg (fun z => by have := (nI_eq (by omega) (by omega)).mp z; omega), b175_74, nI_1]
        simp only [ij, true_and]
      · obtain ⟨V', v1, v2⟩ := m175f d S hpl hp hn10 hn hrk (show 9 - t ≤ 9 by omega) hf fe hen hV
        exact ⟨_, V', ⟨rfl, v1⟩, v2⟩) _ U ⟨rfl, hU⟩
    refine ⟨_, U2, ⟨rfl, by rw [psN_r (by omega)] at q2; exact q2⟩, fun r => ?_⟩
    have n0 : ¬ nI (9 - t) < 0 := nI_pos (by omega)
    refine (b175_50 _ _ _ _ _).trans ?_
    rw [if_neg n0, b175_54]
    have k2' := k2 r
    rw [nI_0] at k2'
    refine k2'.trans ?_
    rw [b175_56, show U2.1 54 3 = nI n by rw [q2.2.1 54 (by decide)]; exact hn, if_neg (nI_nlt (Nat.le_refl n) (by omega)), b175_187, nI_addm1 (by omega)]
    exact Iff.rfl) _ U0 ⟨rfl, hp0⟩
  have er : 9 - (9 - rk e) = rk e := by omega
  rw [er] at q1 k1
  -- those of the same rank ahead
  obtain ⟨l2, U2, ⟨rfl, q2⟩, k2⟩ := xX_loopP (d := d + 1) (f := 175) (pc := 56) (st := []) (fun f l V => l = [(0, .ref 54), (1, .int (nI e)), (2, .int (nI (rk e))), (3, .int (nI f))] ∧ pU S V pl (psN rk n (rk e) f)) e (by
    rintro f hf l V ⟨rfl, hV⟩
    obtain ⟨V', v1, v2⟩ := m175f d S hpl hp hn10 hn hrk hrE9 (show f < n by omega) (by omega) hen hV
    exact ⟨_, V', ⟨rfl, v1⟩, v2⟩) _ U1 ⟨rfl, q1⟩
  have i10 : psN rk n (rk e) e < 10 := Nat.lt_of_lt_of_le (psN_lt hen rfl) hn10
  have s36 := (sg_cls pl hpl _ i10).2
  refine ⟨xwI U2 88 (sg pl (psN rk n (rk e) e)) 1, fun c hc => (xrd_ne _ _ _ _ _ hc).trans (q2.2.1 c hc), q2.2.2, fun r => ?_⟩
  have ae : (nI e).toNatClampNeg = e := nI_clamp (by omega)
  have ie := vp_in_nI (show e < 10 by omega) (by omega : 10 < 2 ^ 31)
  have n0 : ¬ nI e < 0 := nI_pos (by omega)
  have n36 : ¬ nI 36 < 36 := by decide
  rw [b175_0, if_neg n0, b175_4, hn, if_pos (nI_lt hen (by omega)), b175_14]
  refine (k0 r).trans ?_
  rw [b175_16, if_neg n36, b175_47]
  have k1' := k1 r
  refine Iff.trans ?_ (k1'.trans ?_)
  · exact Iff.rfl
  · have n0r : ¬ nI (rk e) < 0 := nI_pos (by omega)
    rw [b175_50, if_neg n0r, b175_54]
    have k2' := k2 r
    rw [nI_0] at k2'
    refine k2'.trans ?_
    rw [b175_56, show U2.1 54 3 = nI n by rw [q2.2.1 54 (by decide)]; exact hn, if_pos (nI_lt hen (by omega)), b175_64, ae, q2.2.1 81 (by decide), hrE, if_pos rfl, b175_77]
    simp only [ie, true_and]
    refine (m175b d S hpl hp i10 q2 _ _ _ r).trans ?_
    rw [b175_165, nI_clamp (by omega), if_pos rfl, b175_178]
    have := vp_in_nI s36 (by omega : 36 < 2 ^ 31)
    simp only [this, true_and]
theorem op_plot (S : xS) (v1 : Int32) (h : xInv S) : xOpI xInv 107 175 [(1, .int v1)] S := by
  obtain ⟨n, hn10, hn1, hn2⟩ := h.hEmb
  obtain ⟨pl, hpl, hp1, hp2⟩ := h.hPal
  have hhas := xhasE (n := n) (by omega)
  by_cases c1 : v1 < 0
  · exact xOp_mk (z := -1) (S1 := S) (S2 := S) (fun r => by simp (decide := true) only [b107_0, b25_0, b25_5, b25_10, b25_14, c1, ↓reduceIte, xtl, exists_eq_left, and_assoc, exists_and_left, xbit_0, xbit_1, true_and, b107_14, b107_28]) (fun r => by rw [b175_0, if_pos c1, b175_12]) h
  by_cases c2 : v1 < nI n
  case neg => exact xOp_mk (z := -1) (S1 := S) (S2 := S) (fun r => by simp (decide := true) only [b107_0, b25_0, b25_5, b25_10, b25_14, hn1, hhas, c1, c2, ↓reduceIte, xtl, exists_eq_left, and_assoc, exists_and_left, xbit_0, xbit_1, true_and, b107_14, b107_28, not_true_eq_false, not_false_eq_true]) (fun r => by rw [b175_0, if_neg c1, b175_4, hn2, if_neg c2, b175_12]) h
  obtain ⟨e, he, rfl⟩ := xIdx (n := n) (b := nI n) rfl (by omega) c1 c2
  have hrk : ∀ k, k < n → S.1 25 k = nI (xN (S.1 25 k)) ∧ xN (S.1 25 k) ≤ 9 := fun k hk => by
    obtain ⟨g1, g2, g3⟩ := h.hEmR.get (by omega) (show k < 10 by omega)
    exact ⟨g2, g1⟩
  have hrk2 : ∀ k, k < n → S.1 81 k = nI (xN (S.1 25 k)) ∧ xN (S.1 25 k) ≤ 9 := fun k hk => by
    obtain ⟨g1, g2, g3⟩ := h.hEmR.get (by omega) (show k < 10 by omega)
    exact ⟨g3, g1⟩
  have i10 : psN (fun k => xN (S.1 25 k)) n (xN (S.1 25 e)) e < 10 := Nat.lt_of_lt_of_le (psN_lt (rk := fun k => xN (S.1 25 k)) he rfl) hn10
  obtain ⟨s1, s2⟩ := sg_cls pl (by omega) _ i10
  obtain ⟨U, u1, u2, u3⟩ := m175 58 S (show pl < 36 by omega) hp2 hn10 hn2 (rk := fun k => xN (S.1 25 k)) hrk2 he
  have g2 := fun (r : Option Value × xS) => x2c 57 S (rk := fun k => xN (S.1 25 k)) hn10 hn1 he hrk r
  have g4 : ∀ r, xX 58 4 0 [(0, .ref 24), (1, .int (nI e))] [] S r ↔ r = (some (.int (nI (sg pl (psN (fun k => xN (S.1 25 k)) n (xN (S.1 25 e)) e)))), S) := fun r => by
    simp only [b4_0, g2, exists_eq_left, xtl, b4_5]
    have n12 : ¬ (12 : Int32) < 1 := by decide
    rw [b4_8, if_neg n12, b4_14]
    exact x4r 57 S (by omega) hp1 s2 500 1 0 _ s1 (by decide) (by decide) (by omega) r
  refine xOp_mk (S1 := S) (S2 := U) (fun r => ?_) u3 (xInv_fr (fun c hc h2 => u1 c (by omega)) (by rw [u2]) h)
  simp (decide := true) only [b107_0, b25_0, b25_5, b25_10, b25_14, hn1, hhas, c1, c2, ↓reduceIte, xtl, exists_eq_left, and_assoc, exists_and_left, xbit_0, xbit_1, true_and, b107_14, b107_17, g4, b107_25, not_true_eq_false, not_false_eq_true]
