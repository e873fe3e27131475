/-! plots -/
def dN (pl p : Nat) : Nat := dst (p / 6) (pl / 6) + dst (p % 6) (pl % 6)
def sgT : List (List Nat) := [[1, 6, 2, 7, 12, 3, 8, 13, 18, 4], [0, 2, 7, 3, 6, 8, 13, 4, 9, 12], [1, 3, 8, 0, 4, 7, 9, 14, 5, 6], [2, 4, 9, 1, 5, 8, 10, 15, 0, 7], [3, 5, 10, 2, 9, 11, 16, 1, 8, 15], [4, 11, 3, 10, 17, 2, 9, 16, 23, 1], [0, 7, 12, 1, 8, 13, 18, 2, 9, 14], [1, 6, 8, 13, 0, 2, 9, 12, 14, 19], [2, 7, 9, 14, 1, 3, 6, 10, 13, 15], [3, 8, 10, 15, 2, 4, 7, 11, 14, 16], [4, 9, 11, 16, 3, 5, 8, 15, 17, 22], [5, 10, 17, 4, 9, 16, 23, 3, 8, 15], [6, 13, 18, 0, 7, 14, 19, 24, 1, 8], [7, 12, 14, 19, 1, 6, 8, 15, 18, 20], [8, 13, 15, 20, 2, 7, 9, 12, 16, 19], [9, 14, 16, 21, 3, 8, 10, 13, 17, 20], [10, 15, 17, 22, 4, 9, 11, 14, 21, 23], [11, 16, 23, 5, 10, 15, 22, 29, 4, 9], [12, 19, 24, 6, 13, 20, 25, 30, 0, 7], [13, 18, 20, 25, 7, 12, 14, 21, 24, 26], [14, 19, 21, 26, 8, 13, 15, 18, 22, 25], [15, 20, 22, 27, 9, 14, 16, 19, 23, 26], [16, 21, 23, 28, 10, 15, 17, 20, 27, 29], [17, 22, 29, 11, 16, 21, 28, 35, 5, 10], [18, 25, 30, 12, 19, 26, 31, 6, 13, 20], [19, 24, 26, 31, 13, 18, 20, 27, 30, 32], [20, 25, 27, 32, 14, 19, 21, 24, 28, 31], [21, 26, 28, 33, 15, 20, 22, 25, 29, 32], [22, 27, 29, 34, 16, 21, 23, 26, 33, 35], [23, 28, 35, 17, 22, 27, 34, 11, 16, 21], [24, 31, 18, 25, 32, 12, 19, 26, 33, 6], [25, 30, 32, 19, 24, 26, 33, 13, 18, 20], [26, 31, 33, 20, 25, 27, 30, 34, 14, 19], [27, 32, 34, 21, 26, 28, 31, 35, 15, 20], [28, 33, 35, 22, 27, 29, 32, 16, 21, 23], [29, 34, 23, 28, 33, 17, 22, 27, 32, 11]]
/-- the plot of the i-th embassy by rank -/
def sg (pl i : Nat) : Nat := (sgT.getD pl []).getD i 36
def clsF (pl : Nat) : Nat → Nat → Nat → Nat → Nat
  | 0, _, _, _ => 36
  | k + 1, dd, p, a => bif Nat.blt p 36 then (bif Nat.beq (dN pl p) dd then (bif Nat.beq a 0 then p else clsF pl k dd (p + 1) (a - 1)) else clsF pl k dd (p + 1) a) else (bif Nat.blt dd 12 then clsF pl k (dd + 1) 0 a else 36)
def tkB (pl i p : Nat) : Bool := Nat.beq p pl || ((sgT.getD pl []).take i).any (fun x => Nat.beq x p)
def bF (pl i : Nat) : Nat → Nat × Nat
  | 0 => (36, 0)
  | j + 1 => bif (!(tkB pl i j) && (Nat.beq (bF pl i j).1 36 || Nat.blt (dN pl j) (bF pl i j).2)) then (j, dN pl j) else bF pl i j
theorem sg_cls : ∀ pl, pl < 36 → ∀ i, i < 10 → clsF pl 500 1 0 i = sg pl i ∧ sg pl i < 36 := by decide +kernel
theorem sg_mod : ∀ pl, pl < 36 → ∀ i, i < 10 → (bF pl i 36).1 = sg pl i := by decide +kernel
theorem tk_0 : ∀ pl, pl < 36 → ∀ p, p < 36 → tkB pl 0 p = Nat.beq p pl := by decide +kernel
theorem tk_s : ∀ pl, pl < 36 → ∀ i, i < 10 → ∀ p, p < 36 → tkB pl (i + 1) p = (tkB pl i p || Nat.beq p (sg pl i)) := by decide +kernel
theorem dN_x : ∀ p, p < 36 → ∀ pl, pl < 36 → ((if 0 ≤ nI p / 6 - nI pl / 6 then nI p / 6 - nI pl / 6 else 0 - (nI p / 6 - nI pl / 6)) + (if 0 ≤ nI p - nI p / 6 * 6 - (nI pl - nI pl / 6 * 6) then nI p - nI p / 6 * 6 - (nI pl - nI pl / 6 * 6) else 0 - (nI p - nI p / 6 * 6 - (nI pl - nI pl / 6 * 6)))) = nI (dN pl p) := by decide +kernel
theorem dN_m : ∀ p, p < 36 → ∀ pl, pl < 36 → ((if nI p - nI p / 6 * 6 - (nI pl - nI pl / 6 * 6) < 0 then -(nI p - nI p / 6 * 6 - (nI pl - nI pl / 6 * 6)) else nI p - nI p / 6 * 6 - (nI pl - nI pl / 6 * 6)) + (if nI p / 6 - nI pl / 6 < 0 then -(nI p / 6 - nI pl / 6) else nI p / 6 - nI pl / 6)) = nI (dN pl p) := by decide +kernel
theorem dN_le : ∀ p, p < 36 → ∀ pl, pl < 36 → dN pl p ≤ 10 := by decide +kernel
