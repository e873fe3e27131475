/-! what holds between the two sides -/
def xN (x : Int32) : Nat := x.toNatClampNeg
def sN (f : Nat → Nat) : Nat → Nat
  | 0 => 0
  | n + 1 => sN f n + f n
def iSc (x y : Int32) (hi : Nat) : Prop := ∃ n : Nat, n ≤ hi ∧ x = nI n ∧ y = nI n
def iEq (n : Nat) (a b : Nat → Int32) : Prop := ∀ k, k < n → a k = b k
def iArr (n hi : Nat) (a b : Nat → Int32) : Prop := ∀ k, k < n → ∃ m : Nat, m ≤ hi ∧ a k = nI m ∧ b k = nI m
def iBit (n : Nat) (a b : Nat → Int32) : Prop := ∀ k, k < n → (a k = 0 ∧ b k = 0) ∨ (a k = 1 ∧ b k = 1)
/-- a plan asks no more in a wave than there is: Nat throughout -/
def LgA (n : Nat) (w D H P dr fr sr : Nat → Nat) (M v : Nat) : Prop :=
  sN (fun k => if w k ≤ v then D k else 0) n ≤ dr v ∧ sN (fun k => if w k = v then D k else 0) n ≤ M ∧ sN (fun k => if w k ≤ v then H k else 0) n ≤ fr v ∧ sN (fun k => if w k ≤ v then P k else 0) n ≤ sr v
def aH (folk : Nat → Int32) (k : Nat) : Nat := xN (folk (3 * k)) + xN (folk (3 * k + 1)) + xN (folk (3 * k + 2))
def aK (tr : Nat → Int32) (j : Nat) (x : Int32) : Nat := if 0 < tr (5 * j + 2) then xN x else 0
def aP (folk tr : Nat → Int32) (k : Nat) : Nat := aK tr 0 (folk (3 * k)) + aK tr 1 (folk (3 * k + 1)) + aK tr 2 (folk (3 * k + 2))
def aDR (nb : Int32) (room ready : Nat → Int32) (v : Nat) : Nat := sN (fun b => if xN (ready b) ≤ v then xN (room b) else 0) (xN nb)
def aFR (bec : Nat → Int32) (v : Nat) : Nat := sN (fun u => xN (bec u)) (v + 1)
def aSR (bec : Nat → Int32) (v : Nat) : Nat := sN (fun u => xN (bec (5 + u))) (v + 1)
/-- the plan w asks no more in wave v than there is -/
def aLg (S : xS) (w : Nat → Nat) (v : Nat) : Prop := LgA (xN (S.1 2 0)) w (fun k => xN (S.1 3 k)) (aH (S.1 14)) (aP (S.1 14) (S.1 15)) (aDR (S.1 9 0) (S.1 10) (S.1 11)) (aFR (S.1 12)) (aSR (S.1 12)) (xN (S.1 9 1)) v
def jWav (a b : Nat → Int32) : Prop := ∀ k, k < 10 → ∃ w : Nat, w ≤ 5 ∧ a k = nI w ∧ b k = (if w = 5 then -1 else nI w)
def jBeg (x y now : Int32) : Prop := y = x ∧ xbit x ∧ (x = 0 → now = 0)
def jTie (a b : Nat → Int32) : Prop := iArr 100 20 a b ∧ ∀ i j, i < 10 → j < 10 → a (10 * i + j) = a (10 * j + i)
def jBec (a f s : Nat → Int32) : Prop := iArr 5 400 a f ∧ iArr 5 400 (fun k => a (5 + k)) s
def jHer (mv folk here : Nat → Int32) : Prop := ∀ k, k < 10 → ∀ j, j < 3 → here (3 * k + j) = if mv k = 0 then folk (3 * k + j) else 0
def jTvl (ont : Int32) (a b : Nat → Int32) : Prop := iEq 30 a b ∧ ont = xsum b 30
def jThr (a b : Nat → Int32) : Prop := ∀ k, k < 10 → a k = b (3 * k) + b (3 * k + 1) + b (3 * k + 2)
def jFre (now tak fre takS freS : Int32) (bec : Nat → Int32) : Prop := (∃ p q : Nat, tak = nI p ∧ fre = nI q ∧ p + q = sN (fun u => xN (bec u)) (xN now)) ∧ (∃ p q : Nat, takS = nI p ∧ freS = nI q ∧ p + q = sN (fun u => xN (bec (5 + u))) (xN now))
def jLaw (n : Int32) (a1 b1 a2 b2 a3 b3 a4 b4 : Nat → Int32) : Prop := iEq 6 a1 b1 ∧ iEq 6 a2 b2 ∧ iEq 6 a3 b3 ∧ iBit 6 a4 b4 ∧ ∀ k, k < 6 → xN n ≤ k → a4 k = 0
def jShf (n : Int32) (hold held sort shown : Nat → Int32) : Prop := ∀ s, s < 8 → (hold s = -1 ∧ held s = 0) ∨ (∃ o : Nat, o < xN n ∧ hold s = nI o ∧ held s = 2 ∧ shown s = nI o) ∨ (∃ q : Nat, q < 4 ∧ hold s = nI (100 + q) ∧ held s = 1 ∧ sort s = nI q)
def jCel (a : Nat → Nat → Int64) : Prop := ∀ s, s < 8 → ∀ k, k < 60 → a (xrb + s) k = a 75 (60 * s + k)
def jPln (n now : Int32) (w sty mv : Nat → Int32) : Prop := ∀ k, k < 10 → (k < xN n → (¬ mv k = 0 ↔ xN (w k) < xN now)) ∧ (¬ sty k = 0 → w k = 5) ∧ (xN n ≤ k → mv k = 0 ∧ sty k = 0)
def jLeg (S : xS) : Prop := ∀ v, v < xN (S.1 0 10) → aLg S (fun k => xN (S.1 5 k)) v
def xInv (S : xS) : Prop := iEq 8 (S.1 1) (S.1 84) ∧ iSc (S.1 2 0) (S.1 54 0) 10 ∧ iSc (S.1 9 0) (S.1 54 1) 6 ∧ iSc (S.1 19 0) (S.1 54 2) 6 ∧ iSc (S.1 24 0) (S.1 54 3) 10 ∧ iSc (S.1 26 0) (S.1 54 4) 12 ∧ iSc (S.1 0 10) (S.1 54 5) 5 ∧ iSc (S.1 24 1) (S.1 54 6) 35 ∧
  S.1 13 6 = S.1 54 7 ∧ iSc (S.1 9 1) (S.1 54 8) 400 ∧ S.1 13 5 = S.1 54 9 ∧ S.1 13 7 = S.1 54 12 ∧ S.1 13 10 = S.1 54 13 ∧ S.1 19 5 = S.1 54 14 ∧ jBeg (S.1 0 9) (S.1 54 15) (S.1 0 10) ∧
  iArr 10 40 (S.1 3) (S.1 55) ∧ iArr 10 9 (S.1 4) (S.1 56) ∧ jWav (S.1 5) (S.1 57) ∧ iBit 10 (S.1 6) (S.1 58) ∧ iBit 10 (S.1 7) (S.1 59) ∧ jTie (S.1 8) (S.1 60) ∧ iArr 6 120 (S.1 10) (S.1 61) ∧ iArr 6 4 (S.1 11) (S.1 62) ∧ jBec (S.1 12) (S.1 63) (S.1 64) ∧
  iArr 30 40 (S.1 14) (S.1 65) ∧ jHer (S.1 7) (S.1 14) (S.1 66) ∧ iArr 15 100 (S.1 15) (S.1 70) ∧ jTvl (S.1 13 7) (S.1 16) (S.1 68) ∧ jThr (S.1 17) (S.1 67) ∧ jThr (S.1 18) (S.1 69) ∧ jFre (S.1 0 10) (S.1 54 10) (S.1 13 8) (S.1 54 11) (S.1 13 9) (S.1 12) ∧
  jLaw (S.1 19 0) (S.1 20) (S.1 77) (S.1 21) (S.1 78) (S.1 22) (S.1 79) (S.1 23) (S.1 80) ∧ iArr 10 9 (S.1 25) (S.1 81) ∧ iEq 12 (S.1 27) (S.1 83) ∧ jShf (S.1 2 0) (S.1 29) (S.1 71) (S.1 72) (S.1 74) ∧ iArr 8 60 (S.1 30) (S.1 73) ∧ jCel S.2.1 ∧ jPln (S.1 2 0) (S.1 0 10) (S.1 5) (S.1 6) (S.1 7) ∧ jLeg S
theorem xN_nI {n : Nat} (h : n < 2 ^ 31) : xN (nI n) = n := nI_clamp h
theorem iArr.get {n hi : Nat} {a b : Nat → Int32} (h : iArr n hi a b) (hh : hi ≤ 1000) {k : Nat} (hk : k < n) : xN (a k) ≤ hi ∧ a k = nI (xN (a k)) ∧ b k = nI (xN (a k)) := by
  obtain ⟨m, h1, h2, h3⟩ := h k hk
  have e : xN (a k) = m := by rw [h2]; exact xN_nI (by omega)
  rw [e]
  exact ⟨h1, h2, h3⟩
theorem iArr.eq {n hi : Nat} {a b : Nat → Int32} (h : iArr n hi a b) {k : Nat} (hk : k < n) : b k = a k := by
  obtain ⟨m, h1, h2, h3⟩ := h k hk
  rw [h2, h3]
theorem iBit.eq {n : Nat} {a b : Nat → Int32} (h : iBit n a b) {k : Nat} (hk : k < n) : b k = a k := by
  rcases h k hk with ⟨h1, h2⟩ | ⟨h1, h2⟩ <;> rw [h1, h2]
theorem iBit.bit {n : Nat} {a b : Nat → Int32} (h : iBit n a b) {k : Nat} (hk : k < n) : xbit (a k) := by
  rcases h k hk with ⟨h1, h2⟩ | ⟨h1, h2⟩ <;> rw [h1]
  · exact xbit_0
  · exact xbit_1
/-! one place of a cell is written -/
def vupd (f : Nat → Int32) (k : Nat) (v : Int32) : Nat → Int32 := fun b => if b = k then v else f b
theorem xrd_same (S : xS) (c k : Nat) (v : Int32) : (xwI S c k v).1 c = vupd (S.1 c) k v := by funext b; simp [xwI, vupd]
theorem vupd_eq (f : Nat → Int32) (k : Nat) (v : Int32) : vupd f k v k = v := if_pos rfl
theorem vupd_ne (f : Nat → Int32) (k : Nat) (v : Int32) (j : Nat) (h : j ≠ k) : vupd f k v j = f j := if_neg h
theorem iEq_upd {n : Nat} {a b : Nat → Int32} (h : iEq n a b) (k : Nat) (v w : Int32) (hv : v = w) : iEq n (vupd a k v) (vupd b k w) := by
  intro j hj
  unfold vupd
  by_cases e : j = k
  · rw [if_pos e, if_pos e, hv]
  · rw [if_neg e, if_neg e, h j hj]
theorem iArr_upd {n hi : Nat} {a b : Nat → Int32} (h : iArr n hi a b) (k m : Nat) (hm : m ≤ hi) : iArr n hi (vupd a k (nI m)) (vupd b k (nI m)) := by
  intro j hj
  unfold vupd
  by_cases e : j = k
  · rw [if_pos e, if_pos e]; exact ⟨m, hm, rfl, rfl⟩
  · rw [if_neg e, if_neg e]; exact h j hj
theorem iBit_upd {n : Nat} {a b : Nat → Int32} (h : iBit n a b) (k : Nat) (v : Int32) (hv : xbit v) : iBit n (vupd a k v) (vupd b k v) := by
  intro j hj
  unfold vupd
  by_cases e : j = k
  · rw [if_pos e, if_pos e]
    rcases hv with hv | hv
    · exact Or.inl ⟨hv, hv⟩
    · exact Or.inr ⟨hv, hv⟩
  · rw [if_neg e, if_neg e]; exact h j hj
/-- cells that the invariant speaks of -/
theorem xInv_fr {S S' : xS} (h : ∀ c, (c < 40 ∨ 53 < c) → c < 85 → S'.1 c = S.1 c) (h2 : S'.2.1 = S.2.1) (hI : xInv S) : xInv S' := by
  unfold xInv jLeg aLg at *
  rw [h 0 (by decide) (by decide), h 1 (by decide) (by decide), h 2 (by decide) (by decide), h 3 (by decide) (by decide), h 4 (by decide) (by decide), h 5 (by decide) (by decide), h 6 (by decide) (by decide), h 7 (by decide) (by decide), h 8 (by decide) (by decide), h 9 (by decide) (by decide), h 10 (by decide) (by decide), h 11 (by decide) (by decide), h 12 (by decide) (by decide), h 13 (by decide) (by decide), h 14 (by decide) (by decide), h 15 (by decide) (by decide), h 16 (by decide) (by decide), h 17 (by decide) (by decide), h 18 (by decide) (by decide), h 19 (by decide) (by decide), h 20 (by decide) (by decide), h 21 (by decide) (by decide), h 22 (by decide) (by decide), h 23 (by decide) (by decide), h 24 (by decide) (by decide), h 25 (by decide) (by decide), h 26 (by decide) (by decide), h 27 (by decide) (by decide), h 29 (by decide) (by decide), h 30 (by decide) (by decide), h 54 (by decide) (by decide), h 55 (by decide) (by decide), h 56 (by decide) (by decide), h 57 (by decide) (by decide), h 58 (by decide) (by decide), h 59 (by decide) (by decide), h 60 (by decide) (by decide), h 61 (by decide) (by decide), h 62 (by decide) (by decide), h 63 (by decide) (by decide), h 64 (by decide) (by decide), h 65 (by decide) (by decide), h 66 (by decide) (by decide), h 67 (by decide) (by decide), h 68 (by decide) (by decide), h 69 (by decide) (by decide), h 70 (by decide) (by decide), h 71 (by decide) (by decide), h 72 (by decide) (by decide), h 73 (by decide) (by decide), h 74 (by decide) (by decide), h 77 (by decide) (by decide), h 78 (by decide) (by decide), h 79 (by decide) (by decide), h 80 (by decide) (by decide), h 81 (by decide) (by decide), h 83 (by decide) (by decide), h 84 (by decide) (by decide), h2]
  exact hI
/-- a refusal on both sides -/
theorem xInv_ref {S : xS} (i : Nat) (hi : i < 8) (h : xInv S) : xInv (xwI (xwI S 1 i (S.1 1 i + 1)) 84 i (S.1 84 i + 1)) := by
  have hR : iEq 8 (S.1 1) (S.1 84) := h.1
  refine ⟨?_, ?_⟩
  · have e1 : (xwI (xwI S 1 i (S.1 1 i + 1)) 84 i (S.1 84 i + 1)).1 1 = vupd (S.1 1) i (S.1 1 i + 1) := by rw [xrd_ne _ _ _ _ _ (by decide), xrd_same]
    have e2 : (xwI (xwI S 1 i (S.1 1 i + 1)) 84 i (S.1 84 i + 1)).1 84 = vupd (S.1 84) i (S.1 84 i + 1) := by rw [xrd_same, xrd_ne _ _ _ _ _ (by decide)]
    rw [e1, e2]
    exact iEq_upd hR i _ _ (by rw [hR i hi])
  · have h2 := h.2
    unfold jLeg aLg at *
    simp (decide := true) only [xrd_ne, xrd_K]
    exact h2
/-- an operation out of what its two sides answer -/
theorem xOp_mk {I : xS → Prop} {fx fm : Nat} {as : xL} {S : xS} {z : Int32} {S1 S2 : xS} (hx : ∀ r, xX 59 fx 0 ((0, .ref 0) :: as) [] S r ↔ r = (some (.int z), S1)) (hm : ∀ r, xX 59 fm 0 ((0, .ref 54) :: as) [] S1 r ↔ r = (some (.int z), S2)) (hI : I S2) : xOpI I fx fm as S := ⟨z, S1, S2, (hx _).mpr rfl, (hm _).mpr rfl, hI⟩
theorem xOp_ref {fx fm : Nat} {as : xL} {S : xS} {z : Int32} (i : Nat) (hi : i < 8) (h : xInv S) (hx : ∀ r, xX 59 fx 0 ((0, .ref 0) :: as) [] S r ↔ r = (some (.int z), xwI S 1 i (S.1 1 i + 1))) (hm : ∀ r, xX 59 fm 0 ((0, .ref 54) :: as) [] (xwI S 1 i (S.1 1 i + 1)) r ↔ r = (some (.int z), xwI (xwI S 1 i (S.1 1 i + 1)) 84 i (S.1 84 i + 1))) : xOpI xInv fx fm as S := xOp_mk hx hm (xInv_ref i hi h)
/-- numbers out of what was asked of them -/
theorem xIdx {v b : Int32} {n : Nat} (hb : b = nI n) (hn : n ≤ 2000) (c1 : ¬ v < 0) (c2 : v < b) : ∃ k, k < n ∧ v = nI k := by
  obtain ⟨j, hj, rfl⟩ := nI_of c1
  rw [hb, nI_ltI hj (by omega)] at c2
  exact ⟨j, c2, rfl⟩
theorem xIdxL {v b : Int32} {n : Nat} (hb : b = nI n) (hn : n ≤ 2000) (c1 : ¬ v < 0) (c2 : ¬ b < v) : ∃ k, k ≤ n ∧ v = nI k := by
  obtain ⟨j, hj, rfl⟩ := nI_of c1
  rw [hb, nI_ltI (by omega) hj] at c2
  exact ⟨j, by omega, rfl⟩
theorem xhasE {n : Nat} (hn : n ≤ 1000) (x : Int32) : (nI n - 1 < x) = ¬ (x < nI n) := propext (xlt1 hn x)
theorem x_lt8 (x : Int32) : (x < 8) = ¬ ((7 : Int32) < x) := by
  have h := xhasE (n := 8) (by decide) x
  rw [show nI 8 - 1 = (7 : Int32) by decide, show nI 8 = (8 : Int32) by decide] at h
  rw [h, Classical.not_not]
theorem x_lt3 (x : Int32) : (x < 3) = ¬ ((2 : Int32) < x) := by
  have h := xhasE (n := 3) (by decide) x
  rw [show nI 3 - 1 = (2 : Int32) by decide, show nI 3 = (3 : Int32) by decide] at h
  rw [h, Classical.not_not]
theorem nI_m (c : Nat) (l : Int32) (hl : l = nI c) (a b : Nat) : nI a * l + nI b = nI (c * a + b) := by
  rw [hl, Nat.mul_comm c a, ← nI_add]
  unfold nI
  rw [Int32.ofNat_mul]
theorem nI_m' (c : Nat) (l : Int32) (hl : l = nI c) (a b : Nat) : l * nI a + nI b = nI (c * a + b) := by
  rw [Int32.mul_comm, nI_m c l hl]
theorem nI_sub {a b : Nat} (h : b ≤ a) : nI a - nI b = nI (a - b) := by
  have e : nI a = nI (a - b) + nI b := by rw [nI_add, Nat.sub_add_cancel h]
  rw [e, Int32.add_sub_cancel]
theorem xsum_0 {f : Nat → Int32} : ∀ {n : Nat}, (∀ k, k < n → f k = 0) → xsum f n = 0
  | 0, _ => rfl
  | n + 1, h => by
    show xsum f n + f n = 0
    rw [xsum_0 (fun k hk => h k (by omega)), h n (by omega)]
    rfl
theorem xsum_congr {f g : Nat → Int32} : ∀ {n : Nat}, (∀ k, k < n → f k = g k) → xsum f n = xsum g n
  | 0, _ => rfl
  | n + 1, h => by
    show xsum f n + f n = xsum g n + g n
    rw [xsum_congr (fun k hk => h k (by omega)), h n (by omega)]
theorem sN_congr {f g : Nat → Nat} : ∀ {n : Nat}, (∀ k, k < n → f k = g k) → sN f n = sN g n
  | 0, _ => rfl
  | n + 1, h => by
    show sN f n + f n = sN g n + g n
    rw [sN_congr (fun k hk => h k (by omega)), h n (by omega)]
theorem sN_le {f g : Nat → Nat} : ∀ {n : Nat}, (∀ k, k < n → f k ≤ g k) → sN f n ≤ sN g n
  | 0, _ => Nat.le_refl _
  | n + 1, h => by
    have := sN_le (n := n) (fun k hk => h k (by omega))
    have := h n (by omega)
    show sN f n + f n ≤ sN g n + g n
    omega
theorem sN_bd {f : Nat → Nat} {c : Nat} : ∀ {n : Nat}, (∀ k, k < n → f k ≤ c) → sN f n ≤ c * n
  | 0, _ => Nat.le_refl _
  | n + 1, h => by
    have := sN_bd (n := n) (fun k hk => h k (by omega))
    have := h n (by omega)
    show sN f n + f n ≤ c * (n + 1)
    rw [Nat.mul_add]
    omega
/-- sums of numbers -/
theorem xsum_nI {f : Nat → Int32} {g : Nat → Nat} : ∀ {n : Nat}, (∀ k, k < n → f k = nI (g k)) → xsum f n = nI (sN g n)
  | 0, _ => nI_0.symm
  | n + 1, h => by
    show xsum f n + f n = nI (sN g n + g n)
    rw [xsum_nI (fun k hk => h k (by omega)), h n (by omega), nI_add]
/-! the start -/
theorem iArr_0 {n hi : Nat} {a b : Nat → Int32} (ha : ∀ k, k < n → a k = 0) (hb : ∀ k, k < n → b k = 0) : iArr n hi a b := fun k hk => ⟨0, Nat.zero_le _, by rw [ha k hk, nI_0], by rw [hb k hk, nI_0]⟩
theorem xInv_0 (L : Nat) (xs : Nat → Int32) : xInv (xS0 L xs) := by
  have z0 : ∀ c k, c ≠ 999 → c ≠ 29 → c ≠ 9 → c ≠ 13 → c ≠ 19 → c ≠ 24 → c ≠ 54 → (xS0 L xs).1 c k = 0 := by
    intro c k h1 h2 h3 h4 h5 h6 h7
    show xI0 xs c k = 0
    unfold xI0
    rw [if_neg h1, if_neg h2, if_neg h3, if_neg h4, if_neg h5, if_neg h6, if_neg h7]
  have z : ∀ c k, (c ≠ 999 ∧ c ≠ 29 ∧ c ≠ 9 ∧ c ≠ 13 ∧ c ≠ 19 ∧ c ≠ 24 ∧ c ≠ 54) → (xS0 L xs).1 c k = 0 := fun c k h => z0 c k h.1 h.2.1 h.2.2.1 h.2.2.2.1 h.2.2.2.2.1 h.2.2.2.2.2.1 h.2.2.2.2.2.2
  have ar : ∀ n hi c c', (c ≠ 999 ∧ c ≠ 29 ∧ c ≠ 9 ∧ c ≠ 13 ∧ c ≠ 19 ∧ c ≠ 24 ∧ c ≠ 54) → (c' ≠ 999 ∧ c' ≠ 29 ∧ c' ≠ 9 ∧ c' ≠ 13 ∧ c' ≠ 19 ∧ c' ≠ 24 ∧ c' ≠ 54) → iArr n hi ((xS0 L xs).1 c) ((xS0 L xs).1 c') := fun n hi c c' h h' => iArr_0 (fun k _ => z c k h) (fun k _ => z c' k h')
  have bt : ∀ n c c', (c ≠ 999 ∧ c ≠ 29 ∧ c ≠ 9 ∧ c ≠ 13 ∧ c ≠ 19 ∧ c ≠ 24 ∧ c ≠ 54) → (c' ≠ 999 ∧ c' ≠ 29 ∧ c' ≠ 9 ∧ c' ≠ 13 ∧ c' ≠ 19 ∧ c' ≠ 24 ∧ c' ≠ 54) → iBit n ((xS0 L xs).1 c) ((xS0 L xs).1 c') := fun n c c' h h' k _ => Or.inl ⟨z c k h, z c' k h'⟩
  have eq : ∀ n c c', (c ≠ 999 ∧ c ≠ 29 ∧ c ≠ 9 ∧ c ≠ 13 ∧ c ≠ 19 ∧ c ≠ 24 ∧ c ≠ 54) → (c' ≠ 999 ∧ c' ≠ 29 ∧ c' ≠ 9 ∧ c' ≠ 13 ∧ c' ≠ 19 ∧ c' ≠ 24 ∧ c' ≠ 54) → iEq n ((xS0 L xs).1 c) ((xS0 L xs).1 c') := fun n c c' h h' k _ => by rw [z c k h, z c' k h']
  have hn : xN ((xS0 L xs).1 0 10) = 0 := by rw [z 0 10 (by decide)]; rfl
  have hc : xN ((xS0 L xs).1 2 0) = 0 := by rw [z 2 0 (by decide)]; rfl
  refine ⟨eq 8 1 84 (by decide) (by decide), ⟨0, by decide, rfl, rfl⟩, ⟨0, by decide, rfl, rfl⟩, ⟨0, by decide, rfl, rfl⟩, ⟨0, by decide, rfl, rfl⟩, ⟨0, by decide, rfl, rfl⟩, ⟨0, by decide, rfl, rfl⟩, ⟨35, by decide, rfl, rfl⟩,
    rfl, ⟨400, by decide, rfl, rfl⟩, rfl, rfl, rfl, rfl, ⟨rfl, Or.inl (z 0 9 (by decide)), fun _ => z 0 10 (by decide)⟩,
    ar _ _ 3 55 (by decide) (by decide), ar _ _ 4 56 (by decide) (by decide), fun k _ => ⟨0, by decide, by rw [z 5 k (by decide), nI_0], by rw [z 57 k (by decide), if_neg (by decide), nI_0]⟩, bt _ 6 58 (by decide) (by decide), bt _ 7 59 (by decide) (by decide), ⟨ar _ _ 8 60 (by decide) (by decide), fun i j _ _ => by rw [z 8 _ (by decide), z 8 _ (by decide)]⟩, ar _ _ 10 61 (by decide) (by decide), ar _ _ 11 62 (by decide) (by decide), ⟨ar _ _ 12 63 (by decide) (by decide), iArr_0 (fun k _ => z 12 _ (by decide)) (fun k _ => z 64 _ (by decide))⟩,
    ar _ _ 14 65 (by decide) (by decide), fun k _ j _ => by rw [z 7 k (by decide), if_pos rfl, z 66 _ (by decide), z 14 _ (by decide)], ar _ _ 15 70 (by decide) (by decide), ⟨eq 30 16 68 (by decide) (by decide), by rw [xsum_0 (fun k _ => z 68 k (by decide))]; rfl⟩, fun k _ => by rw [z 17 _ (by decide), z 67 _ (by decide), z 67 _ (by decide), z 67 _ (by decide)]; rfl, fun k _ => by rw [z 18 _ (by decide), z 69 _ (by decide), z 69 _ (by decide), z 69 _ (by decide)]; rfl, ⟨⟨0, 0, rfl, rfl, by rw [hn]; rfl⟩, ⟨0, 0, rfl, rfl, by rw [hn]; rfl⟩⟩,
    ⟨eq 6 20 77 (by decide) (by decide), eq 6 21 78 (by decide) (by decide), eq 6 22 79 (by decide) (by decide), bt 6 23 80 (by decide) (by decide), fun k _ _ => z 23 k (by decide)⟩, ar _ _ 25 81 (by decide) (by decide), eq 12 27 83 (by decide) (by decide), ?_, ar _ _ 30 73 (by decide) (by decide), fun s _ k _ => rfl, fun k _ => ⟨fun hk => absurd hk (by rw [hc]; omega), fun hk => absurd (z 6 k (by decide)) hk, fun _ => ⟨z 7 k (by decide), z 6 k (by decide)⟩⟩, fun v hv => absurd hv (by rw [hn]; omega)⟩
  intro s hs
  refine Or.inl ⟨?_, z 71 s (by decide)⟩
  show xI0 xs 29 s = -1
  match s, hs with
  | 0, _ => rfl
  | 1, _ => rfl
  | 2, _ => rfl
  | 3, _ => rfl
  | 4, _ => rfl
  | 5, _ => rfl
  | 6, _ => rfl
  | 7, _ => rfl
  | s + 8, h => omega
