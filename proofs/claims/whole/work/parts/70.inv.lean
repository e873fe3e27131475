/-! what holds between the two sides (first components) -/
def vupd (f : Nat → Int32) (k : Nat) (v : Int32) : Nat → Int32 := fun b => if b = k then v else f b
theorem xrd_same (S : xS) (c k : Nat) (v : Int32) : (xwI S c k v).1 c = vupd (S.1 c) k v := by funext b; simp [xwI, vupd]
theorem vupd_eq (f : Nat → Int32) (k : Nat) (v : Int32) : vupd f k v k = v := if_pos rfl
theorem vupd_ne (f : Nat → Int32) (k : Nat) (v : Int32) (j : Nat) (h : j ≠ k) : vupd f k v j = f j := if_neg h
def iSc (x y : Int32) (hi : Nat) : Prop := x = y ∧ ∃ n : Nat, n ≤ hi ∧ x = nI n
def iEq (n : Nat) (a b : Nat → Int32) : Prop := ∀ k, k < n → a k = b k
theorem iEq_upd {n : Nat} {a b : Nat → Int32} (h : iEq n a b) (k : Nat) (v w : Int32) (hv : v = w) : iEq n (vupd a k v) (vupd b k w) := by
  intro j hj
  unfold vupd
  by_cases e : j = k
  · rw [if_pos e, if_pos e, hv]
  · rw [if_neg e, if_neg e, h j hj]
theorem iSc_of {x : Int32} {hi : Nat} (h0 : ¬ x < 0) (h1 : ¬ nI hi < x) (hh : hi < 2 ^ 31) : iSc x x hi := by
  obtain ⟨j, hj, rfl⟩ := nI_of h0
  exact ⟨rfl, j, by rw [nI_ltI hh hj] at h1; omega, rfl⟩
theorem xOp_of {I : xS → Prop} {fx fm : Nat} {as : xL} {S : xS} {rx rm : Option Value × xS} (hx : ∀ r, xX 59 fx 0 ((0, .ref 0) :: as) [] S r ↔ r = rx) (hm : ∀ r, xX 59 fm 0 ((0, .ref 54) :: as) [] rx.2 r ↔ r = rm) (hz : ∃ z, rx.1 = some (.int z) ∧ rm.1 = some (.int z)) (hI : I rm.2) : xOpI I fx fm as S := by
  obtain ⟨z, h1, h2⟩ := hz
  exact ⟨z, rx.2, rm.2, (hx _).mpr (by rw [← h1]), (hm _).mpr (by rw [← h2]), hI⟩
def jRef (S : xS) : Prop := iEq 8 (S.1 1) (S.1 84)
def jPal (S : xS) : Prop := iSc (S.1 24 1) (S.1 54 6) 35
def jEmb (S : xS) : Prop := iSc (S.1 24 0) (S.1 54 3) 10 ∧ iEq 10 (S.1 25) (S.1 81)
def xI3 (S : xS) : Prop := jRef S ∧ jPal S ∧ jEmb S
theorem op_palace (S : xS) (v1 : Int32) (h : xI3 S) : xOpI xI3 106 173 [(1, .int v1)] S := by
  obtain ⟨hR, hP, hE⟩ := id h
  refine xOp_of (rx := p106 S v1) (rm := p173 (p106 S v1).2 v1) (fun r => t106 _ v1 S r) (fun r => t173 _ v1 _ r) ?_ ?_
  · by_cases c1 : v1 < 0
    · simp (decide := true) only [p106, p173, c1, if_true, if_false]
      exact ⟨_, rfl, rfl⟩
    · by_cases c2 : 35 < v1
      · simp (decide := true) only [p106, p173, c1, c2, if_true, if_false]
        exact ⟨_, rfl, rfl⟩
      · simp (decide := true) only [p106, p173, c1, c2, if_true, if_false, xrd_ne]
        exact ⟨_, rfl, by rw [hP.1]⟩
  · by_cases c1 : v1 < 0
    · simp (decide := true) only [p106, p173, c1, if_true, if_false, xI3, jRef, jPal, jEmb, xrd_ne, xrd_same, vupd_eq, vupd_ne]
      exact ⟨iEq_upd hR 1 _ _ (by rw [hR 1 (by decide)]), hP, hE⟩
    · by_cases c2 : 35 < v1
      · simp (decide := true) only [p106, p173, c1, c2, if_true, if_false, xI3, jRef, jPal, jEmb, xrd_ne, xrd_same, vupd_eq, vupd_ne]
        exact ⟨iEq_upd hR 1 _ _ (by rw [hR 1 (by decide)]), hP, hE⟩
      · simp (decide := true) only [p106, p173, c1, c2, if_true, if_false, xI3, jRef, jPal, jEmb, xrd_ne, xrd_same, vupd_eq, vupd_ne]
        exact ⟨hR, iSc_of c1 c2 (by decide), hE⟩
