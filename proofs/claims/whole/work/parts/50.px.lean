/-! methods without a loop: what they answer, by program -/
theorem xbit_0 : xbit 0 := Or.inl rfl
theorem xbit_1 : xbit 1 := Or.inr rfl
theorem xtl (v : Value) (rest : List Value) : (some v).toList ++ rest = v :: rest := rfl
theorem xtl0 (rest : List Value) : (none : Option Value).toList ++ rest = rest := rfl
theorem x01 : (0 : Int32) + 1 = 1 := by decide
theorem x11 : (1 : Int32) + 1 = 2 := by decide
theorem x21 : (2 : Int32) + 1 = 3 := by decide
theorem x31 : (3 : Int32) + 1 = 4 := by decide
theorem x41 : (4 : Int32) + 1 = 5 := by decide
theorem x51 : (5 : Int32) + 1 = 6 := by decide
theorem xn1 : (1 : Int32).toNatClampNeg = 1 := rfl
theorem xn2 : (2 : Int32).toNatClampNeg = 2 := rfl
theorem xn3 : (3 : Int32).toNatClampNeg = 3 := rfl
theorem xn4 : (4 : Int32).toNatClampNeg = 4 := rfl
theorem xn5 : (5 : Int32).toNatClampNeg = 5 := rfl
theorem xn6 : (6 : Int32).toNatClampNeg = 6 := rfl
theorem xn7 : (7 : Int32).toNatClampNeg = 7 := rfl
theorem xv1 : vp_in 1 8 := vp_in_d (by decide)
theorem xv2 : vp_in 2 8 := vp_in_d (by decide)
theorem xv3 : vp_in 3 8 := vp_in_d (by decide)
theorem xv4 : vp_in 4 8 := vp_in_d (by decide)
theorem xv5 : vp_in 5 8 := vp_in_d (by decide)
theorem xv6 : vp_in 6 8 := vp_in_d (by decide)
theorem xv7 : vp_in 7 8 := vp_in_d (by decide)
theorem xrd_ne (S : xS) (c k : Nat) (v : Int32) (c' : Nat) (h : c' ≠ c) : (xwI S c k v).1 c' = S.1 c' := by funext b; exact if_neg h
theorem xrd_eq (S : xS) (c k : Nat) (v : Int32) : (xwI S c k v).1 c k = v := by simp [xwI]
theorem xrd_n2 (S : xS) (c k : Nat) (v : Int32) (k' : Nat) (h : k' ≠ k) : (xwI S c k v).1 c k' = S.1 c k' := by simp [xwI, h]
theorem xrd_J (S : xS) (c k : Nat) (v : Int64) : (xwJ S c k v).1 = S.1 := rfl
theorem xrd_K (S : xS) (c k : Nat) (v : Int32) : (xwI S c k v).2.1 = S.2.1 := rfl
theorem x6 : ¬ (6 : Int32) = 0 := by decide
theorem xsimp_1 : (0 : Int32) = 0 ↔ True := by decide
theorem xsimp_2 : (1 : Int32) = 0 ↔ False := by decide
/-- X0_add -/
def p1 (S : xS) (v1 : Int32) : Option Value × xS := (some (.int (S.1 24 0)), (xwI (xwI S 25 (S.1 24 0).toNatClampNeg v1) 24 0 ((S.1 24 0) + 1)))
def g1 (S : xS) (v1 : Int32) : Prop := (vp_in (S.1 24 0) 10 ∧ True)
theorem t1 (d : Nat) (v1 : Int32) (S : xS) (r : Option Value × xS) (h : g1 S v1) : xX d 1 0 [(0, .ref 24), (1, .int v1)] [] S r ↔ r = p1 S v1 := by
  simp (decide := true) only [g1, xrd_ne, xrd_eq, xrd_n2, xrd_J, xrd_K, ite_true, ite_false, if_true, if_false, and_true, true_and] at h
  simp (decide := true) only [p1, b1_0, h, xrd_ne, xrd_eq, xrd_n2, xrd_J, xrd_K, xsimp_1, xsimp_2, xtl, xtl0, xbit_0, xbit_1, exists_eq_left, and_assoc, exists_and_left, if_true, if_false, true_and, and_true, not_true, not_false_iff, x6, Int32.neg_neg, x01, x11, x21, x31, x41, x51, xn1, xn2, xn3, xn4, xn5, xn6, xn7, xv1, xv2, xv3, xv4, xv5, xv6, xv7]
/-- X0_distanceOf -/
def p3 (S : xS) (v1 : Int32) : Option Value × xS := (some (.int ((if (0 : Int32) ≤ ((v1 / 6) - ((S.1 24 1) / 6)) then ((v1 / 6) - ((S.1 24 1) / 6)) else 0 - ((v1 / 6) - ((S.1 24 1) / 6))) + (if (0 : Int32) ≤ ((v1 - v1 / 6 * 6) - ((S.1 24 1) - (S.1 24 1) / 6 * 6)) then ((v1 - v1 / 6 * 6) - ((S.1 24 1) - (S.1 24 1) / 6 * 6)) else 0 - ((v1 - v1 / 6 * 6) - ((S.1 24 1) - (S.1 24 1) / 6 * 6))))), S)
theorem t3 (d : Nat) (v1 : Int32) (S : xS) (r : Option Value × xS) : xX d 3 0 [(0, .ref 24), (1, .int v1)] [] S r ↔ r = p3 S v1 := by
  simp (decide := true) only [p3, b3_0, xrd_ne, xrd_eq, xrd_n2, xrd_J, xrd_K, xsimp_1, xsimp_2, xtl, xtl0, xbit_0, xbit_1, exists_eq_left, and_assoc, exists_and_left, if_true, if_false, true_and, and_true, not_true, not_false_iff, x6, Int32.neg_neg, x01, x11, x21, x31, x41, x51, xn1, xn2, xn3, xn4, xn5, xn6, xn7, xv1, xv2, xv3, xv4, xv5, xv6, xv7]
/-- X1_add -/
def p5 (S : xS) (v1 : Int32) : Option Value × xS := (some (.int (S.1 26 0)), (xwI (xwI S 27 (S.1 26 0).toNatClampNeg v1) 26 0 ((S.1 26 0) + 1)))
def g5 (S : xS) (v1 : Int32) : Prop := (vp_in (S.1 26 0) 12 ∧ True)
theorem t5 (d : Nat) (v1 : Int32) (S : xS) (r : Option Value × xS) (h : g5 S v1) : xX d 5 0 [(0, .ref 26), (1, .int v1)] [] S r ↔ r = p5 S v1 := by
  simp (decide := true) only [g5, xrd_ne, xrd_eq, xrd_n2, xrd_J, xrd_K, ite_true, ite_false, if_true, if_false, and_true, true_and] at h
  simp (decide := true) only [p5, b5_0, h, xrd_ne, xrd_eq, xrd_n2, xrd_J, xrd_K, xsimp_1, xsimp_2, xtl, xtl0, xbit_0, xbit_1, exists_eq_left, and_assoc, exists_and_left, if_true, if_false, true_and, and_true, not_true, not_false_iff, x6, Int32.neg_neg, x01, x11, x21, x31, x41, x51, xn1, xn2, xn3, xn4, xn5, xn6, xn7, xv1, xv2, xv3, xv4, xv5, xv6, xv7]
/-- X2_tellFolk -/
def p8 (S : xS) (v1 : Int32) (v2 : Int32) (v3 : Int32) : Option Value × xS := (some (.int (S.1 14 ((v1 * 3) + v2).toNatClampNeg)), (xwI S 14 ((v1 * 3) + v2).toNatClampNeg v3))
def g8 (S : xS) (v1 : Int32) (v2 : Int32) (v3 : Int32) : Prop := (vp_in ((v1 * 3) + v2) 30 ∧ (vp_in ((v1 * 3) + v2) 30 ∧ True))
theorem t8 (d : Nat) (v1 : Int32) (v2 : Int32) (v3 : Int32) (S : xS) (r : Option Value × xS) (h : g8 S v1 v2 v3) : xX d 8 0 [(0, .ref 13), (1, .int v1), (2, .int v2), (3, .int v3)] [] S r ↔ r = p8 S v1 v2 v3 := by
  simp (decide := true) only [g8, xrd_ne, xrd_eq, xrd_n2, xrd_J, xrd_K, ite_true, ite_false, if_true, if_false, and_true, true_and] at h
  simp (decide := true) only [p8, b8_0, h, xrd_ne, xrd_eq, xrd_n2, xrd_J, xrd_K, xsimp_1, xsimp_2, xtl, xtl0, xbit_0, xbit_1, exists_eq_left, and_assoc, exists_and_left, if_true, if_false, true_and, and_true, not_true, not_false_iff, x6, Int32.neg_neg, x01, x11, x21, x31, x41, x51, xn1, xn2, xn3, xn4, xn5, xn6, xn7, xv1, xv2, xv3, xv4, xv5, xv6, xv7]
/-- X2_tellTrait -/
def p9 (S : xS) (v1 : Int32) (v2 : Int32) (v3 : Int32) : Option Value × xS := (some (.int (S.1 15 ((v1 * 5) + v2).toNatClampNeg)), (xwI S 15 ((v1 * 5) + v2).toNatClampNeg v3))
def g9 (S : xS) (v1 : Int32) (v2 : Int32) (v3 : Int32) : Prop := (vp_in ((v1 * 5) + v2) 15 ∧ (vp_in ((v1 * 5) + v2) 15 ∧ True))
theorem t9 (d : Nat) (v1 : Int32) (v2 : Int32) (v3 : Int32) (S : xS) (r : Option Value × xS) (h : g9 S v1 v2 v3) : xX d 9 0 [(0, .ref 13), (1, .int v1), (2, .int v2), (3, .int v3)] [] S r ↔ r = p9 S v1 v2 v3 := by
  simp (decide := true) only [g9, xrd_ne, xrd_eq, xrd_n2, xrd_J, xrd_K, ite_true, ite_false, if_true, if_false, and_true, true_and] at h
  simp (decide := true) only [p9, b9_0, h, xrd_ne, xrd_eq, xrd_n2, xrd_J, xrd_K, xsimp_1, xsimp_2, xtl, xtl0, xbit_0, xbit_1, exists_eq_left, and_assoc, exists_and_left, if_true, if_false, true_and, and_true, not_true, not_false_iff, x6, Int32.neg_neg, x01, x11, x21, x31, x41, x51, xn1, xn2, xn3, xn4, xn5, xn6, xn7, xv1, xv2, xv3, xv4, xv5, xv6, xv7]
/-- X2_trait -/
def p11 (S : xS) (v1 : Int32) (v2 : Int32) : Option Value × xS := (some (.int (S.1 15 ((v1 * 5) + v2).toNatClampNeg)), S)
def g11 (S : xS) (v1 : Int32) (v2 : Int32) : Prop := (vp_in ((v1 * 5) + v2) 15 ∧ True)
theorem t11 (d : Nat) (v1 : Int32) (v2 : Int32) (S : xS) (r : Option Value × xS) (h : g11 S v1 v2) : xX d 11 0 [(0, .ref 13), (1, .int v1), (2, .int v2)] [] S r ↔ r = p11 S v1 v2 := by
  simp (decide := true) only [g11, xrd_ne, xrd_eq, xrd_n2, xrd_J, xrd_K, ite_true, ite_false, if_true, if_false, and_true, true_and] at h
  simp (decide := true) only [p11, b11_0, h, xrd_ne, xrd_eq, xrd_n2, xrd_J, xrd_K, xsimp_1, xsimp_2, xtl, xtl0, xbit_0, xbit_1, exists_eq_left, and_assoc, exists_and_left, if_true, if_false, true_and, and_true, not_true, not_false_iff, x6, Int32.neg_neg, x01, x11, x21, x31, x41, x51, xn1, xn2, xn3, xn4, xn5, xn6, xn7, xv1, xv2, xv3, xv4, xv5, xv6, xv7]
/-- X2_hasChildren -/
def p12 (S : xS) (v1 : Int32) : Option Value × xS := if (0 : Int32) < (S.1 15 ((v1 * 5) + 2).toNatClampNeg) then ((some (.int 1), S)) else ((some (.int 0), S))
def g12 (S : xS) (v1 : Int32) : Prop := (vp_in ((v1 * 5) + 2) 15 ∧ True)
theorem t12 (d : Nat) (v1 : Int32) (S : xS) (r : Option Value × xS) (h : g12 S v1) : xX (d + 1) 12 0 [(0, .ref 13), (1, .int v1)] [] S r ↔ r = p12 S v1 := by
  by_cases c1 : (0 : Int32) < (S.1 15 ((v1 * 5) + 2).toNatClampNeg)
  · skip
    simp (decide := true) only [g12, c1, xrd_ne, xrd_eq, xrd_n2, xrd_J, xrd_K, ite_true, ite_false, if_true, if_false, and_true, true_and] at h
    simp (decide := true) only [p12, b12_0, b12_6, b12_9, b12_13, b11_0, c1, h, xrd_ne, xrd_eq, xrd_n2, xrd_J, xrd_K, xsimp_1, xsimp_2, xtl, xtl0, xbit_0, xbit_1, exists_eq_left, and_assoc, exists_and_left, if_true, if_false, true_and, and_true, not_true, not_false_iff, x6, Int32.neg_neg, x01, x11, x21, x31, x41, x51, xn1, xn2, xn3, xn4, xn5, xn6, xn7, xv1, xv2, xv3, xv4, xv5, xv6, xv7]
  · skip
    simp (decide := true) only [g12, c1, xrd_ne, xrd_eq, xrd_n2, xrd_J, xrd_K, ite_true, ite_false, if_true, if_false, and_true, true_and] at h
    simp (decide := true) only [p12, b12_0, b12_6, b12_9, b12_13, b11_0, c1, h, xrd_ne, xrd_eq, xrd_n2, xrd_J, xrd_K, xsimp_1, xsimp_2, xtl, xtl0, xbit_0, xbit_1, exists_eq_left, and_assoc, exists_and_left, if_true, if_false, true_and, and_true, not_true, not_false_iff, x6, Int32.neg_neg, x01, x11, x21, x31, x41, x51, xn1, xn2, xn3, xn4, xn5, xn6, xn7, xv1, xv2, xv3, xv4, xv5, xv6, xv7]
/-- X8_readyIn -/
def p15 (S : xS) (v1 : Int32) (v2 : Int32) : Option Value × xS := (some (.int (S.1 12 ((v2 * 5) + v1).toNatClampNeg)), S)
def g15 (S : xS) (v1 : Int32) (v2 : Int32) : Prop := (vp_in ((v2 * 5) + v1) 10 ∧ True)
theorem t15 (d : Nat) (v1 : Int32) (v2 : Int32) (S : xS) (r : Option Value × xS) (h : g15 S v1 v2) : xX d 15 0 [(0, .ref 9), (1, .int v1), (2, .int v2)] [] S r ↔ r = p15 S v1 v2 := by
  simp (decide := true) only [g15, xrd_ne, xrd_eq, xrd_n2, xrd_J, xrd_K, ite_true, ite_false, if_true, if_false, and_true, true_and] at h
  simp (decide := true) only [p15, b15_0, h, xrd_ne, xrd_eq, xrd_n2, xrd_J, xrd_K, xsimp_1, xsimp_2, xtl, xtl0, xbit_0, xbit_1, exists_eq_left, and_assoc, exists_and_left, if_true, if_false, true_and, and_true, not_true, not_false_iff, x6, Int32.neg_neg, x01, x11, x21, x31, x41, x51, xn1, xn2, xn3, xn4, xn5, xn6, xn7, xv1, xv2, xv3, xv4, xv5, xv6, xv7]
/-- X2_open -/
def p16 (S : xS) (v2 : Int32) : Option Value × xS := (none, (xwI (xwI S 13 8 ((S.1 13 8) + (S.1 12 ((0 * 5) + v2).toNatClampNeg))) 13 9 ((S.1 13 9) + (S.1 12 ((1 * 5) + v2).toNatClampNeg))))
def g16 (S : xS) (v2 : Int32) : Prop := (vp_in ((0 * 5) + v2) 10 ∧ (vp_in ((1 * 5) + v2) 10 ∧ True))
theorem t16 (d : Nat) (v2 : Int32) (S : xS) (r : Option Value × xS) (h : g16 S v2) : xX (d + 1) 16 0 [(0, .ref 13), (1, .ref 9), (2, .int v2)] [] S r ↔ r = p16 S v2 := by
  simp (decide := true) only [g16, xrd_ne, xrd_eq, xrd_n2, xrd_J, xrd_K, ite_true, ite_false, if_true, if_false, and_true, true_and] at h
  simp (decide := true) only [p16, b16_0, b16_11, b16_26, b15_0, h, xrd_ne, xrd_eq, xrd_n2, xrd_J, xrd_K, xsimp_1, xsimp_2, xtl, xtl0, xbit_0, xbit_1, exists_eq_left, and_assoc, exists_and_left, if_true, if_false, true_and, and_true, not_true, not_false_iff, x6, Int32.neg_neg, x01, x11, x21, x31, x41, x51, xn1, xn2, xn3, xn4, xn5, xn6, xn7, xv1, xv2, xv3, xv4, xv5, xv6, xv7]
/-- X2_mayMove -/
def p18 (S : xS) (v1 : Int32) : Option Value × xS := if (0 : Int32) < (S.1 13 8) then (if (0 : Int32) < (S.1 15 ((v1 * 5) + 2).toNatClampNeg) then (if (0 : Int32) < (S.1 13 9) then ((some (.int 1), S)) else ((some (.int 0), S))) else ((some (.int 1), S))) else ((some (.int 0), S))
def g18 (S : xS) (v1 : Int32) : Prop := (if (0 : Int32) < (S.1 13 8) then (vp_in ((v1 * 5) + 2) 15 ∧ True) else True)
theorem t18 (d : Nat) (v1 : Int32) (S : xS) (r : Option Value × xS) (h : g18 S v1) : xX (d + 2) 18 0 [(0, .ref 13), (1, .int v1)] [] S r ↔ r = p18 S v1 := by
  by_cases c1 : (0 : Int32) < (S.1 13 8)
  · skip
    by_cases c2 : (0 : Int32) < (S.1 15 ((v1 * 5) + 2).toNatClampNeg)
    · skip
      by_cases c3 : (0 : Int32) < (S.1 13 9)
      · skip
        simp (decide := true) only [g18, c1, c2, c3, xrd_ne, xrd_eq, xrd_n2, xrd_J, xrd_K, ite_true, ite_false, if_true, if_false, and_true, true_and] at h
        simp (decide := true) only [p18, b18_0, b18_7, b18_12, b18_15, b18_22, b18_26, b12_0, b12_6, b12_9, b12_13, b11_0, c1, c2, c3, h, xrd_ne, xrd_eq, xrd_n2, xrd_J, xrd_K, xsimp_1, xsimp_2, xtl, xtl0, xbit_0, xbit_1, exists_eq_left, and_assoc, exists_and_left, if_true, if_false, true_and, and_true, not_true, not_false_iff, x6, Int32.neg_neg, x01, x11, x21, x31, x41, x51, xn1, xn2, xn3, xn4, xn5, xn6, xn7, xv1, xv2, xv3, xv4, xv5, xv6, xv7]
      · skip
        simp (decide := true) only [g18, c1, c2, c3, xrd_ne, xrd_eq, xrd_n2, xrd_J, xrd_K, ite_true, ite_false, if_true, if_false, and_true, true_and] at h
        simp (decide := true) only [p18, b18_0, b18_7, b18_12, b18_15, b18_22, b18_26, b12_0, b12_6, b12_9, b12_13, b11_0, c1, c2, c3, h, xrd_ne, xrd_eq, xrd_n2, xrd_J, xrd_K, xsimp_1, xsimp_2, xtl, xtl0, xbit_0, xbit_1, exists_eq_left, and_assoc, exists_and_left, if_true, if_false, true_and, and_true, not_true, not_false_iff, x6, Int32.neg_neg, x01, x11, x21, x31, x41, x51, xn1, xn2, xn3, xn4, xn5, xn6, xn7, xv1, xv2, xv3, xv4, xv5, xv6, xv7]
    · skip
      simp (decide := true) only [g18, c1, c2, xrd_ne, xrd_eq, xrd_n2, xrd_J, xrd_K, ite_true, ite_false, if_true, if_false, and_true, true_and] at h
      simp (decide := true) only [p18, b18_0, b18_7, b18_12, b18_15, b18_22, b18_26, b12_0, b12_6, b12_9, b12_13, b11_0, c1, c2, h, xrd_ne, xrd_eq, xrd_n2, xrd_J, xrd_K, xsimp_1, xsimp_2, xtl, xtl0, xbit_0, xbit_1, exists_eq_left, and_assoc, exists_and_left, if_true, if_false, true_and, and_true, not_true, not_false_iff, x6, Int32.neg_neg, x01, x11, x21, x31, x41, x51, xn1, xn2, xn3, xn4, xn5, xn6, xn7, xv1, xv2, xv3, xv4, xv5, xv6, xv7]
  · skip
    simp (decide := true) only [g18, c1, xrd_ne, xrd_eq, xrd_n2, xrd_J, xrd_K, ite_true, ite_false, if_true, if_false, and_true, true_and] at h
    simp (decide := true) only [p18, b18_0, b18_7, b18_12, b18_15, b18_22, b18_26, b12_0, b12_6, b12_9, b12_13, b11_0, c1, h, xrd_ne, xrd_eq, xrd_n2, xrd_J, xrd_K, xsimp_1, xsimp_2, xtl, xtl0, xbit_0, xbit_1, exists_eq_left, and_assoc, exists_and_left, if_true, if_false, true_and, and_true, not_true, not_false_iff, x6, Int32.neg_neg, x01, x11, x21, x31, x41, x51, xn1, xn2, xn3, xn4, xn5, xn6, xn7, xv1, xv2, xv3, xv4, xv5, xv6, xv7]
/-- X2_settle -/
def p19 (S : xS) (v1 : Int32) (v2 : Int32) (v3 : Int32) : Option Value × xS := if (0 : Int32) < (S.1 15 ((v2 * 5) + 2).toNatClampNeg) then ((none, (xwI (xwI (xwI (xwI S 17 v1.toNatClampNeg ((S.1 17 v1.toNatClampNeg) + 1)) 13 8 ((S.1 13 8) - 1)) 13 9 ((S.1 13 9) - 1)) 13 10 ((S.1 13 10) + v3)))) else ((none, (xwI (xwI (xwI S 17 v1.toNatClampNeg ((S.1 17 v1.toNatClampNeg) + 1)) 13 8 ((S.1 13 8) - 1)) 13 10 ((S.1 13 10) + v3))))
def g19 (S : xS) (v1 : Int32) (v2 : Int32) (v3 : Int32) : Prop := (vp_in v1 10 ∧ (vp_in v1 10 ∧ (vp_in ((v2 * 5) + 2) 15 ∧ True)))
theorem t19 (d : Nat) (v1 : Int32) (v2 : Int32) (v3 : Int32) (S : xS) (r : Option Value × xS) (h : g19 S v1 v2 v3) : xX (d + 2) 19 0 [(0, .ref 13), (1, .int v1), (2, .int v2), (3, .int v3)] [] S r ↔ r = p19 S v1 v2 v3 := by
  by_cases c1 : (0 : Int32) < (S.1 15 ((v2 * 5) + 2).toNatClampNeg)
  · skip
    simp (decide := true) only [g19, c1, xrd_ne, xrd_eq, xrd_n2, xrd_J, xrd_K, ite_true, ite_false, if_true, if_false, and_true, true_and] at h
    simp (decide := true) only [p19, b19_0, b19_25, b19_28, b19_38, b12_0, b12_6, b12_9, b12_13, b11_0, c1, h, xrd_ne, xrd_eq, xrd_n2, xrd_J, xrd_K, xsimp_1, xsimp_2, xtl, xtl0, xbit_0, xbit_1, exists_eq_left, and_assoc, exists_and_left, if_true, if_false, true_and, and_true, not_true, not_false_iff, x6, Int32.neg_neg, x01, x11, x21, x31, x41, x51, xn1, xn2, xn3, xn4, xn5, xn6, xn7, xv1, xv2, xv3, xv4, xv5, xv6, xv7]
  · skip
    simp (decide := true) only [g19, c1, xrd_ne, xrd_eq, xrd_n2, xrd_J, xrd_K, ite_true, ite_false, if_true, if_false, and_true, true_and] at h
    simp (decide := true) only [p19, b19_0, b19_25, b19_28, b19_38, b12_0, b12_6, b12_9, b12_13, b11_0, c1, h, xrd_ne, xrd_eq, xrd_n2, xrd_J, xrd_K, xsimp_1, xsimp_2, xtl, xtl0, xbit_0, xbit_1, exists_eq_left, and_assoc, exists_and_left, if_true, if_false, true_and, and_true, not_true, not_false_iff, x6, Int32.neg_neg, x01, x11, x21, x31, x41, x51, xn1, xn2, xn3, xn4, xn5, xn6, xn7, xv1, xv2, xv3, xv4, xv5, xv6, xv7]
/-- X2_ask -/
def p20 (S : xS) (v1 : Int32) (v2 : Int32) (v3 : Int32) : Option Value × xS := if ((S.1 13 7) : Int32) < (S.1 13 5) then (if (0 : Int32) < (S.1 13 8) then (if (0 : Int32) < (S.1 15 ((v2 * 5) + 2).toNatClampNeg) then (if (0 : Int32) < (S.1 13 9) then (if ((S.1 15 ((v2 * 5) + 4).toNatClampNeg) : Int32) < (if (0 : Int32) < ((((S.1 13 6) + (S.1 15 ((v2 * 5) + 0).toNatClampNeg)) + (S.1 15 ((v2 * 5) + 1).toNatClampNeg)) - v3) then ((((S.1 13 6) + (S.1 15 ((v2 * 5) + 0).toNatClampNeg)) + (S.1 15 ((v2 * 5) + 1).toNatClampNeg)) - v3) else 0) then (if ((S.1 15 ((v2 * 5) + 4).toNatClampNeg) : Int32) < ((S.1 15 ((v2 * 5) + 3).toNatClampNeg) + (S.1 15 ((v2 * 5) + 2).toNatClampNeg)) then ((some (.int 0), (xwI S 18 v1.toNatClampNeg ((S.1 18 v1.toNatClampNeg) + 1)))) else ((some (.int 0), (xwI (xwI S 16 ((v1 * 3) + v2).toNatClampNeg ((S.1 16 ((v1 * 3) + v2).toNatClampNeg) + 1)) 13 7 ((S.1 13 7) + 1))))) else (if (((S.1 15 ((v2 * 5) + 3).toNatClampNeg) + (S.1 15 ((v2 * 5) + 2).toNatClampNeg)) : Int32) < (if (0 : Int32) < ((((S.1 13 6) + (S.1 15 ((v2 * 5) + 0).toNatClampNeg)) + (S.1 15 ((v2 * 5) + 1).toNatClampNeg)) - v3) then ((((S.1 13 6) + (S.1 15 ((v2 * 5) + 0).toNatClampNeg)) + (S.1 15 ((v2 * 5) + 1).toNatClampNeg)) - v3) else 0) then (if ((S.1 15 ((v2 * 5) + 4).toNatClampNeg) : Int32) < ((S.1 15 ((v2 * 5) + 3).toNatClampNeg) + (S.1 15 ((v2 * 5) + 2).toNatClampNeg)) then ((some (.int 0), (xwI S 18 v1.toNatClampNeg ((S.1 18 v1.toNatClampNeg) + 1)))) else ((some (.int 0), (xwI (xwI S 16 ((v1 * 3) + v2).toNatClampNeg ((S.1 16 ((v1 * 3) + v2).toNatClampNeg) + 1)) 13 7 ((S.1 13 7) + 1))))) else ((some (.int 1), (xwI (xwI (xwI (xwI S 17 v1.toNatClampNeg ((S.1 17 v1.toNatClampNeg) + 1)) 13 8 ((S.1 13 8) - 1)) 13 9 ((S.1 13 9) - 1)) 13 10 ((S.1 13 10) + v3)))))) else (if ((S.1 15 ((v2 * 5) + 4).toNatClampNeg) : Int32) < ((S.1 15 ((v2 * 5) + 3).toNatClampNeg) + (S.1 15 ((v2 * 5) + 2).toNatClampNeg)) then ((some (.int 0), (xwI S 18 v1.toNatClampNeg ((S.1 18 v1.toNatClampNeg) + 1)))) else ((some (.int 0), (xwI (xwI S 16 ((v1 * 3) + v2).toNatClampNeg ((S.1 16 ((v1 * 3) + v2).toNatClampNeg) + 1)) 13 7 ((S.1 13 7) + 1)))))) else (if ((S.1 15 ((v2 * 5) + 4).toNatClampNeg) : Int32) < (if (0 : Int32) < ((((S.1 13 6) + (S.1 15 ((v2 * 5) + 0).toNatClampNeg)) + (S.1 15 ((v2 * 5) + 1).toNatClampNeg)) - v3) then ((((S.1 13 6) + (S.1 15 ((v2 * 5) + 0).toNatClampNeg)) + (S.1 15 ((v2 * 5) + 1).toNatClampNeg)) - v3) else 0) then (if ((S.1 15 ((v2 * 5) + 4).toNatClampNeg) : Int32) < ((S.1 15 ((v2 * 5) + 3).toNatClampNeg) + (S.1 15 ((v2 * 5) + 2).toNatClampNeg)) then ((some (.int 0), (xwI S 18 v1.toNatClampNeg ((S.1 18 v1.toNatClampNeg) + 1)))) else ((some (.int 0), (xwI (xwI S 16 ((v1 * 3) + v2).toNatClampNeg ((S.1 16 ((v1 * 3) + v2).toNatClampNeg) + 1)) 13 7 ((S.1 13 7) + 1))))) else (if (((S.1 15 ((v2 * 5) + 3).toNatClampNeg) + (S.1 15 ((v2 * 5) + 2).toNatClampNeg)) : Int32) < (if (0 : Int32) < ((((S.1 13 6) + (S.1 15 ((v2 * 5) + 0).toNatClampNeg)) + (S.1 15 ((v2 * 5) + 1).toNatClampNeg)) - v3) then ((((S.1 13 6) + (S.1 15 ((v2 * 5) + 0).toNatClampNeg)) + (S.1 15 ((v2 * 5) + 1).toNatClampNeg)) - v3) else 0) then (if ((S.1 15 ((v2 * 5) + 4).toNatClampNeg) : Int32) < ((S.1 15 ((v2 * 5) + 3).toNatClampNeg) + (S.1 15 ((v2 * 5) + 2).toNatClampNeg)) then ((some (.int 0), (xwI S 18 v1.toNatClampNeg ((S.1 18 v1.toNatClampNeg) + 1)))) else ((some (.int 0), (xwI (xwI S 16 ((v1 * 3) + v2).toNatClampNeg ((S.1 16 ((v1 * 3) + v2).toNatClampNeg) + 1)) 13 7 ((S.1 13 7) + 1))))) else ((some (.int 1), (xwI (xwI (xwI S 17 v1.toNatClampNeg ((S.1 17 v1.toNatClampNeg) + 1)) 13 8 ((S.1 13 8) - 1)) 13 10 ((S.1 13 10) + v3))))))) else (if ((S.1 15 ((v2 * 5) + 4).toNatClampNeg) : Int32) < ((S.1 15 ((v2 * 5) + 3).toNatClampNeg) + (S.1 15 ((v2 * 5) + 2).toNatClampNeg)) then ((some (.int 0), (xwI S 18 v1.toNatClampNeg ((S.1 18 v1.toNatClampNeg) + 1)))) else ((some (.int 0), (xwI (xwI S 16 ((v1 * 3) + v2).toNatClampNeg ((S.1 16 ((v1 * 3) + v2).toNatClampNeg) + 1)) 13 7 ((S.1 13 7) + 1)))))) else (if (0 : Int32) < (S.1 13 8) then (if (0 : Int32) < (S.1 15 ((v2 * 5) + 2).toNatClampNeg) then (if (0 : Int32) < (S.1 13 9) then (if ((S.1 15 ((v2 * 5) + 4).toNatClampNeg) : Int32) < (if (0 : Int32) < ((((S.1 13 6) + (S.1 15 ((v2 * 5) + 0).toNatClampNeg)) + (S.1 15 ((v2 * 5) + 1).toNatClampNeg)) - v3) then ((((S.1 13 6) + (S.1 15 ((v2 * 5) + 0).toNatClampNeg)) + (S.1 15 ((v2 * 5) + 1).toNatClampNeg)) - v3) else 0) then ((some (.int 0), (xwI S 18 v1.toNatClampNeg ((S.1 18 v1.toNatClampNeg) + 1)))) else ((some (.int 1), (xwI (xwI (xwI (xwI S 17 v1.toNatClampNeg ((S.1 17 v1.toNatClampNeg) + 1)) 13 8 ((S.1 13 8) - 1)) 13 9 ((S.1 13 9) - 1)) 13 10 ((S.1 13 10) + v3))))) else ((some (.int 0), (xwI S 18 v1.toNatClampNeg ((S.1 18 v1.toNatClampNeg) + 1))))) else (if ((S.1 15 ((v2 * 5) + 4).toNatClampNeg) : Int32) < (if (0 : Int32) < ((((S.1 13 6) + (S.1 15 ((v2 * 5) + 0).toNatClampNeg)) + (S.1 15 ((v2 * 5) + 1).toNatClampNeg)) - v3) then ((((S.1 13 6) + (S.1 15 ((v2 * 5) + 0).toNatClampNeg)) + (S.1 15 ((v2 * 5) + 1).toNatClampNeg)) - v3) else 0) then ((some (.int 0), (xwI S 18 v1.toNatClampNeg ((S.1 18 v1.toNatClampNeg) + 1)))) else ((some (.int 1), (xwI (xwI (xwI S 17 v1.toNatClampNeg ((S.1 17 v1.toNatClampNeg) + 1)) 13 8 ((S.1 13 8) - 1)) 13 10 ((S.1 13 10) + v3)))))) else ((some (.int 0), (xwI S 18 v1.toNatClampNeg ((S.1 18 v1.toNatClampNeg) + 1)))))
def g20 (S : xS) (v1 : Int32) (v2 : Int32) (v3 : Int32) : Prop := (vp_in ((v2 * 5) + 0) 15 ∧ (vp_in ((v2 * 5) + 1) 15 ∧ (vp_in ((v2 * 5) + 3) 15 ∧ (vp_in ((v2 * 5) + 2) 15 ∧ (vp_in ((v2 * 5) + 4) 15 ∧ (if ((S.1 13 7) : Int32) < (S.1 13 5) then (if (0 : Int32) < (S.1 13 8) then (vp_in ((v2 * 5) + 2) 15 ∧ (if (0 : Int32) < (S.1 15 ((v2 * 5) + 2).toNatClampNeg) then (if (0 : Int32) < (S.1 13 9) then (if ((S.1 15 ((v2 * 5) + 4).toNatClampNeg) : Int32) < (if (0 : Int32) < ((((S.1 13 6) + (S.1 15 ((v2 * 5) + 0).toNatClampNeg)) + (S.1 15 ((v2 * 5) + 1).toNatClampNeg)) - v3) then ((((S.1 13 6) + (S.1 15 ((v2 * 5) + 0).toNatClampNeg)) + (S.1 15 ((v2 * 5) + 1).toNatClampNeg)) - v3) else 0) then (if ((S.1 15 ((v2 * 5) + 4).toNatClampNeg) : Int32) < ((S.1 15 ((v2 * 5) + 3).toNatClampNeg) + (S.1 15 ((v2 * 5) + 2).toNatClampNeg)) then (vp_in v1 10 ∧ (vp_in v1 10 ∧ True)) else (vp_in ((v1 * 3) + v2) 30 ∧ (vp_in ((v1 * 3) + v2) 30 ∧ True))) else (if (((S.1 15 ((v2 * 5) + 3).toNatClampNeg) + (S.1 15 ((v2 * 5) + 2).toNatClampNeg)) : Int32) < (if (0 : Int32) < ((((S.1 13 6) + (S.1 15 ((v2 * 5) + 0).toNatClampNeg)) + (S.1 15 ((v2 * 5) + 1).toNatClampNeg)) - v3) then ((((S.1 13 6) + (S.1 15 ((v2 * 5) + 0).toNatClampNeg)) + (S.1 15 ((v2 * 5) + 1).toNatClampNeg)) - v3) else 0) then (if ((S.1 15 ((v2 * 5) + 4).toNatClampNeg) : Int32) < ((S.1 15 ((v2 * 5) + 3).toNatClampNeg) + (S.1 15 ((v2 * 5) + 2).toNatClampNeg)) then (vp_in v1 10 ∧ (vp_in v1 10 ∧ True)) else (vp_in ((v1 * 3) + v2) 30 ∧ (vp_in ((v1 * 3) + v2) 30 ∧ True))) else (vp_in v1 10 ∧ (vp_in v1 10 ∧ (vp_in ((v2 * 5) + 2) 15 ∧ True))))) else (if ((S.1 15 ((v2 * 5) + 4).toNatClampNeg) : Int32) < ((S.1 15 ((v2 * 5) + 3).toNatClampNeg) + (S.1 15 ((v2 * 5) + 2).toNatClampNeg)) then (vp_in v1 10 ∧ (vp_in v1 10 ∧ True)) else (vp_in ((v1 * 3) + v2) 30 ∧ (vp_in ((v1 * 3) + v2) 30 ∧ True)))) else (if ((S.1 15 ((v2 * 5) + 4).toNatClampNeg) : Int32) < (if (0 : Int32) < ((((S.1 13 6) + (S.1 15 ((v2 * 5) + 0).toNatClampNeg)) + (S.1 15 ((v2 * 5) + 1).toNatClampNeg)) - v3) then ((((S.1 13 6) + (S.1 15 ((v2 * 5) + 0).toNatClampNeg)) + (S.1 15 ((v2 * 5) + 1).toNatClampNeg)) - v3) else 0) then (if ((S.1 15 ((v2 * 5) + 4).toNatClampNeg) : Int32) < ((S.1 15 ((v2 * 5) + 3).toNatClampNeg) + (S.1 15 ((v2 * 5) + 2).toNatClampNeg)) then (vp_in v1 10 ∧ (vp_in v1 10 ∧ True)) else (vp_in ((v1 * 3) + v2) 30 ∧ (vp_in ((v1 * 3) + v2) 30 ∧ True))) else (if (((S.1 15 ((v2 * 5) + 3).toNatClampNeg) + (S.1 15 ((v2 * 5) + 2).toNatClampNeg)) : Int32) < (if (0 : Int32) < ((((S.1 13 6) + (S.1 15 ((v2 * 5) + 0).toNatClampNeg)) + (S.1 15 ((v2 * 5) + 1).toNatClampNeg)) - v3) then ((((S.1 13 6) + (S.1 15 ((v2 * 5) + 0).toNatClampNeg)) + (S.1 15 ((v2 * 5) + 1).toNatClampNeg)) - v3) else 0) then (if ((S.1 15 ((v2 * 5) + 4).toNatClampNeg) : Int32) < ((S.1 15 ((v2 * 5) + 3).toNatClampNeg) + (S.1 15 ((v2 * 5) + 2).toNatClampNeg)) then (vp_in v1 10 ∧ (vp_in v1 10 ∧ True)) else (vp_in ((v1 * 3) + v2) 30 ∧ (vp_in ((v1 * 3) + v2) 30 ∧ True))) else (vp_in v1 10 ∧ (vp_in v1 10 ∧ (vp_in ((v2 * 5) + 2) 15 ∧ True))))))) else (if ((S.1 15 ((v2 * 5) + 4).toNatClampNeg) : Int32) < ((S.1 15 ((v2 * 5) + 3).toNatClampNeg) + (S.1 15 ((v2 * 5) + 2).toNatClampNeg)) then (vp_in v1 10 ∧ (vp_in v1 10 ∧ True)) else (vp_in ((v1 * 3) + v2) 30 ∧ (vp_in ((v1 * 3) + v2) 30 ∧ True)))) else (if (0 : Int32) < (S.1 13 8) then (vp_in ((v2 * 5) + 2) 15 ∧ (if (0 : Int32) < (S.1 15 ((v2 * 5) + 2).toNatClampNeg) then (if (0 : Int32) < (S.1 13 9) then (if ((S.1 15 ((v2 * 5) + 4).toNatClampNeg) : Int32) < (if (0 : Int32) < ((((S.1 13 6) + (S.1 15 ((v2 * 5) + 0).toNatClampNeg)) + (S.1 15 ((v2 * 5) + 1).toNatClampNeg)) - v3) then ((((S.1 13 6) + (S.1 15 ((v2 * 5) + 0).toNatClampNeg)) + (S.1 15 ((v2 * 5) + 1).toNatClampNeg)) - v3) else 0) then (vp_in v1 10 ∧ (vp_in v1 10 ∧ True)) else (vp_in v1 10 ∧ (vp_in v1 10 ∧ (vp_in ((v2 * 5) + 2) 15 ∧ True)))) else (vp_in v1 10 ∧ (vp_in v1 10 ∧ True))) else (if ((S.1 15 ((v2 * 5) + 4).toNatClampNeg) : Int32) < (if (0 : Int32) < ((((S.1 13 6) + (S.1 15 ((v2 * 5) + 0).toNatClampNeg)) + (S.1 15 ((v2 * 5) + 1).toNatClampNeg)) - v3) then ((((S.1 13 6) + (S.1 15 ((v2 * 5) + 0).toNatClampNeg)) + (S.1 15 ((v2 * 5) + 1).toNatClampNeg)) - v3) else 0) then (vp_in v1 10 ∧ (vp_in v1 10 ∧ True)) else (vp_in v1 10 ∧ (vp_in v1 10 ∧ (vp_in ((v2 * 5) + 2) 15 ∧ True)))))) else (vp_in v1 10 ∧ (vp_in v1 10 ∧ True)))))))))
theorem t20 (d : Nat) (v1 : Int32) (v2 : Int32) (v3 : Int32) (S : xS) (r : Option Value × xS) (h : g20 S v1 v2 v3) : xX (d + 3) 20 0 [(0, .ref 13), (1, .int v1), (2, .int v2), (3, .int v3)] [] S r ↔ r = p20 S v1 v2 v3 := by
  by_cases c1 : ((S.1 13 7) : Int32) < (S.1 13 5)
  · skip
    by_cases c2 : (0 : Int32) < (S.1 13 8)
    · skip
      by_cases c3 : (0 : Int32) < (S.1 15 ((v2 * 5) + 2).toNatClampNeg)
      · skip
        by_cases c4 : (0 : Int32) < (S.1 13 9)
        · skip
          by_cases c5 : ((S.1 15 ((v2 * 5) + 4).toNatClampNeg) : Int32) < (if (0 : Int32) < ((((S.1 13 6) + (S.1 15 ((v2 * 5) + 0).toNatClampNeg)) + (S.1 15 ((v2 * 5) + 1).toNatClampNeg)) - v3) then ((((S.1 13 6) + (S.1 15 ((v2 * 5) + 0).toNatClampNeg)) + (S.1 15 ((v2 * 5) + 1).toNatClampNeg)) - v3) else 0)
          · skip
            by_cases c6 : ((S.1 15 ((v2 * 5) + 4).toNatClampNeg) : Int32) < ((S.1 15 ((v2 * 5) + 3).toNatClampNeg) + (S.1 15 ((v2 * 5) + 2).toNatClampNeg))
            · skip
              simp (decide := true) only [g20, c1, c2, c3, c4, c5, c6, xrd_ne, xrd_eq, xrd_n2, xrd_J, xrd_K, ite_true, ite_false, if_true, if_false, and_true, true_and] at h
              simp (decide := true) only [p20, b20_0, b20_11, b20_18, b20_32, b20_38, b20_47, b20_60, b20_64, b20_72, b20_75, b20_82, b20_87, b20_94, b20_101, b20_103, b20_108, b20_115, b20_142, b12_0, b12_6, b12_9, b12_13, b18_0, b18_7, b18_12, b18_15, b18_22, b18_26, b19_0, b19_25, b19_28, b19_38, b11_0, c1, c2, c3, c4, c5, c6, h, xrd_ne, xrd_eq, xrd_n2, xrd_J, xrd_K, xsimp_1, xsimp_2, xtl, xtl0, xbit_0, xbit_1, exists_eq_left, and_assoc, exists_and_left, if_true, if_false, true_and, and_true, not_true, not_false_iff, x6, Int32.neg_neg, x01, x11, x21, x31, x41, x51, xn1, xn2, xn3, xn4, xn5, xn6, xn7, xv1, xv2, xv3, xv4, xv5, xv6, xv7]
            · skip
              simp (decide := true) only [g20, c1, c2, c3, c4, c5, c6, xrd_ne, xrd_eq, xrd_n2, xrd_J, xrd_K, ite_true, ite_false, if_true, if_false, and_true, true_and] at h
              simp (decide := true) only [p20, b20_0, b20_11, b20_18, b20_32, b20_38, b20_47, b20_60, b20_64, b20_72, b20_75, b20_82, b20_87, b20_94, b20_101, b20_103, b20_108, b20_115, b20_142, b12_0, b12_6, b12_9, b12_13, b18_0, b18_7, b18_12, b18_15, b18_22, b18_26, b19_0, b19_25, b19_28, b19_38, b11_0, c1, c2, c3, c4, c5, c6, h, xrd_ne, xrd_eq, xrd_n2, xrd_J, xrd_K, xsimp_1, xsimp_2, xtl, xtl0, xbit_0, xbit_1, exists_eq_left, and_assoc, exists_and_left, if_true, if_false, true_and, and_true, not_true, not_false_iff, x6, Int32.neg_neg, x01, x11, x21, x31, x41, x51, xn1, xn2, xn3, xn4, xn5, xn6, xn7, xv1, xv2, xv3, xv4, xv5, xv6, xv7]
          · skip
            by_cases c6 : (((S.1 15 ((v2 * 5) + 3).toNatClampNeg) + (S.1 15 ((v2 * 5) + 2).toNatClampNeg)) : Int32) < (if (0 : Int32) < ((((S.1 13 6) + (S.1 15 ((v2 * 5) + 0).toNatClampNeg)) + (S.1 15 ((v2 * 5) + 1).toNatClampNeg)) - v3) then ((((S.1 13 6) + (S.1 15 ((v2 * 5) + 0).toNatClampNeg)) + (S.1 15 ((v2 * 5) + 1).toNatClampNeg)) - v3) else 0)
            · skip
              by_cases c7 : ((S.1 15 ((v2 * 5) + 4).toNatClampNeg) : Int32) < ((S.1 15 ((v2 * 5) + 3).toNatClampNeg) + (S.1 15 ((v2 * 5) + 2).toNatClampNeg))
              · skip
                simp (decide := true) only [g20, c1, c2, c3, c4, c5, c6, c7, xrd_ne, xrd_eq, xrd_n2, xrd_J, xrd_K, ite_true, ite_false, if_true, if_false, and_true, true_and] at h
                simp (decide := true) only [p20, b20_0, b20_11, b20_18, b20_32, b20_38, b20_47, b20_60, b20_64, b20_72, b20_75, b20_82, b20_87, b20_94, b20_101, b20_103, b20_108, b20_115, b20_142, b12_0, b12_6, b12_9, b12_13, b18_0, b18_7, b18_12, b18_15, b18_22, b18_26, b19_0, b19_25, b19_28, b19_38, b11_0, c1, c2, c3, c4, c5, c6, c7, h, xrd_ne, xrd_eq, xrd_n2, xrd_J, xrd_K, xsimp_1, xsimp_2, xtl, xtl0, xbit_0, xbit_1, exists_eq_left, and_assoc, exists_and_left, if_true, if_false, true_and, and_true, not_true, not_false_iff, x6, Int32.neg_neg, x01, x11, x21, x31, x41, x51, xn1, xn2, xn3, xn4, xn5, xn6, xn7, xv1, xv2, xv3, xv4, xv5, xv6, xv7]
              · skip
                simp (decide := true) only [g20, c1, c2, c3, c4, c5, c6, c7, xrd_ne, xrd_eq, xrd_n2, xrd_J, xrd_K, ite_true, ite_false, if_true, if_false, and_true, true_and] at h
                simp (decide := true) only [p20, b20_0, b20_11, b20_18, b20_32, b20_38, b20_47, b20_60, b20_64, b20_72, b20_75, b20_82, b20_87, b20_94, b20_101, b20_103, b20_108, b20_115, b20_142, b12_0, b12_6, b12_9, b12_13, b18_0, b18_7, b18_12, b18_15, b18_22, b18_26, b19_0, b19_25, b19_28, b19_38, b11_0, c1, c2, c3, c4, c5, c6, c7, h, xrd_ne, xrd_eq, xrd_n2, xrd_J, xrd_K, xsimp_1, xsimp_2, xtl, xtl0, xbit_0, xbit_1, exists_eq_left, and_assoc, exists_and_left, if_true, if_false, true_and, and_true, not_true, not_false_iff, x6, Int32.neg_neg, x01, x11, x21, x31, x41, x51, xn1, xn2, xn3, xn4, xn5, xn6, xn7, xv1, xv2, xv3, xv4, xv5, xv6, xv7]
            · skip
              simp (decide := true) only [g20, c1, c2, c3, c4, c5, c6, xrd_ne, xrd_eq, xrd_n2, xrd_J, xrd_K, ite_true, ite_false, if_true, if_false, and_true, true_and] at h
              simp (decide := true) only [p20, b20_0, b20_11, b20_18, b20_32, b20_38, b20_47, b20_60, b20_64, b20_72, b20_75, b20_82, b20_87, b20_94, b20_101, b20_103, b20_108, b20_115, b20_142, b12_0, b12_6, b12_9, b12_13, b18_0, b18_7, b18_12, b18_15, b18_22, b18_26, b19_0, b19_25, b19_28, b19_38, b11_0, c1, c2, c3, c4, c5, c6, h, xrd_ne, xrd_eq, xrd_n2, xrd_J, xrd_K, xsimp_1, xsimp_2, xtl, xtl0, xbit_0, xbit_1, exists_eq_left, and_assoc, exists_and_left, if_true, if_false, true_and, and_true, not_true, not_false_iff, x6, Int32.neg_neg, x01, x11, x21, x31, x41, x51, xn1, xn2, xn3, xn4, xn5, xn6, xn7, xv1, xv2, xv3, xv4, xv5, xv6, xv7]
        · skip
          by_cases c5 : ((S.1 15 ((v2 * 5) + 4).toNatClampNeg) : Int32) < ((S.1 15 ((v2 * 5) + 3).toNatClampNeg) + (S.1 15 ((v2 * 5) + 2).toNatClampNeg))
          · skip
            simp (decide := true) only [g20, c1, c2, c3, c4, c5, xrd_ne, xrd_eq, xrd_n2, xrd_J, xrd_K, ite_true, ite_false, if_true, if_false, and_true, true_and] at h
            simp (decide := true) only [p20, b20_0, b20_11, b20_18, b20_32, b20_38, b20_47, b20_60, b20_64, b20_72, b20_75, b20_82, b20_87, b20_94, b20_101, b20_103, b20_108, b20_115, b20_142, b12_0, b12_6, b12_9, b12_13, b18_0, b18_7, b18_12, b18_15, b18_22, b18_26, b19_0, b19_25, b19_28, b19_38, b11_0, c1, c2, c3, c4, c5, h, xrd_ne, xrd_eq, xrd_n2, xrd_J, xrd_K, xsimp_1, xsimp_2, xtl, xtl0, xbit_0, xbit_1, exists_eq_left, and_assoc, exists_and_left, if_true, if_false, true_and, and_true, not_true, not_false_iff, x6, Int32.neg_neg, x01, x11, x21, x31, x41, x51, xn1, xn2, xn3, xn4, xn5, xn6, xn7, xv1, xv2, xv3, xv4, xv5, xv6, xv7]
          · skip
            simp (decide := true) only [g20, c1, c2, c3, c4, c5, xrd_ne, xrd_eq, xrd_n2, xrd_J, xrd_K, ite_true, ite_false, if_true, if_false, and_true, true_and] at h
            simp (decide := true) only [p20, b20_0, b20_11, b20_18, b20_32, b20_38, b20_47, b20_60, b20_64, b20_72, b20_75, b20_82, b20_87, b20_94, b20_101, b20_103, b20_108, b20_115, b20_142, b12_0, b12_6, b12_9, b12_13, b18_0, b18_7, b18_12, b18_15, b18_22, b18_26, b19_0, b19_25, b19_28, b19_38, b11_0, c1, c2, c3, c4, c5, h, xrd_ne, xrd_eq, xrd_n2, xrd_J, xrd_K, xsimp_1, xsimp_2, xtl, xtl0, xbit_0, xbit_1, exists_eq_left, and_assoc, exists_and_left, if_true, if_false, true_and, and_true, not_true, not_false_iff, x6, Int32.neg_neg, x01, x11, x21, x31, x41, x51, xn1, xn2, xn3, xn4, xn5, xn6, xn7, xv1, xv2, xv3, xv4, xv5, xv6, xv7]
      · skip
        by_cases c4 : ((S.1 15 ((v2 * 5) + 4).toNatClampNeg) : Int32) < (if (0 : Int32) < ((((S.1 13 6) + (S.1 15 ((v2 * 5) + 0).toNatClampNeg)) + (S.1 15 ((v2 * 5) + 1).toNatClampNeg)) - v3) then ((((S.1 13 6) + (S.1 15 ((v2 * 5) + 0).toNatClampNeg)) + (S.1 15 ((v2 * 5) + 1).toNatClampNeg)) - v3) else 0)
        · skip
          by_cases c5 : ((S.1 15 ((v2 * 5) + 4).toNatClampNeg) : Int32) < ((S.1 15 ((v2 * 5) + 3).toNatClampNeg) + (S.1 15 ((v2 * 5) + 2).toNatClampNeg))
          · skip
            simp (decide := true) only [g20, c1, c2, c3, c4, c5, xrd_ne, xrd_eq, xrd_n2, xrd_J, xrd_K, ite_true, ite_false, if_true, if_false, and_true, true_and] at h
            simp (decide := true) only [p20, b20_0, b20_11, b20_18, b20_32, b20_38, b20_47, b20_60, b20_64, b20_72, b20_75, b20_82, b20_87, b20_94, b20_101, b20_103, b20_108, b20_115, b20_142, b12_0, b12_6, b12_9, b12_13, b18_0, b18_7, b18_12, b18_15, b18_22, b18_26, b19_0, b19_25, b19_28, b19_38, b11_0, c1, c2, c3, c4, c5, h, xrd_ne, xrd_eq, xrd_n2, xrd_J, xrd_K, xsimp_1, xsimp_2, xtl, xtl0, xbit_0, xbit_1, exists_eq_left, and_assoc, exists_and_left, if_true, if_false, true_and, and_true, not_true, not_false_iff, x6, Int32.neg_neg, x01, x11, x21, x31, x41, x51, xn1, xn2, xn3, xn4, xn5, xn6, xn7, xv1, xv2, xv3, xv4, xv5, xv6, xv7]
          · skip
            simp (decide := true) only [g20, c1, c2, c3, c4, c5, xrd_ne, xrd_eq, xrd_n2, xrd_J, xrd_K, ite_true, ite_false, if_true, if_false, and_true, true_and] at h
            simp (decide := true) only [p20, b20_0, b20_11, b20_18, b20_32, b20_38, b20_47, b20_60, b20_64, b20_72, b20_75, b20_82, b20_87, b20_94, b20_101, b20_103, b20_108, b20_115, b20_142, b12_0, b12_6, b12_9, b12_13, b18_0, b18_7, b18_12, b18_15, b18_22, b18_26, b19_0, b19_25, b19_28, b19_38, b11_0, c1, c2, c3, c4, c5, h, xrd_ne, xrd_eq, xrd_n2, xrd_J, xrd_K, xsimp_1, xsimp_2, xtl, xtl0, xbit_0, xbit_1, exists_eq_left, and_assoc, exists_and_left, if_true, if_false, true_and, and_true, not_true, not_false_iff, x6, Int32.neg_neg, x01, x11, x21, x31, x41, x51, xn1, xn2, xn3, xn4, xn5, xn6, xn7, xv1, xv2, xv3, xv4, xv5, xv6, xv7]
        · skip
          by_cases c5 : (((S.1 15 ((v2 * 5) + 3).toNatClampNeg) + (S.1 15 ((v2 * 5) + 2).toNatClampNeg)) : Int32) < (if (0 : Int32) < ((((S.1 13 6) + (S.1 15 ((v2 * 5) + 0).toNatClampNeg)) + (S.1 15 ((v2 * 5) + 1).toNatClampNeg)) - v3) then ((((S.1 13 6) + (S.1 15 ((v2 * 5) + 0).toNatClampNeg)) + (S.1 15 ((v2 * 5) + 1).toNatClampNeg)) - v3) else 0)
          · skip
            by_cases c6 : ((S.1 15 ((v2 * 5) + 4).toNatClampNeg) : Int32) < ((S.1 15 ((v2 * 5) + 3).toNatClampNeg) + (S.1 15 ((v2 * 5) + 2).toNatClampNeg))
            · skip
              simp (decide := true) only [g20, c1, c2, c3, c4, c5, c6, xrd_ne, xrd_eq, xrd_n2, xrd_J, xrd_K, ite_true, ite_false, if_true, if_false, and_true, true_and] at h
              simp (decide := true) only [p20, b20_0, b20_11, b20_18, b20_32, b20_38, b20_47, b20_60, b20_64, b20_72, b20_75, b20_82, b20_87, b20_94, b20_101, b20_103, b20_108, b20_115, b20_142, b12_0, b12_6, b12_9, b12_13, b18_0, b18_7, b18_12, b18_15, b18_22, b18_26, b19_0, b19_25, b19_28, b19_38, b11_0, c1, c2, c3, c4, c5, c6, h, xrd_ne, xrd_eq, xrd_n2, xrd_J, xrd_K, xsimp_1, xsimp_2, xtl, xtl0, xbit_0, xbit_1, exists_eq_left, and_assoc, exists_and_left, if_true, if_false, true_and, and_true, not_true, not_false_iff, x6, Int32.neg_neg, x01, x11, x21, x31, x41, x51, xn1, xn2, xn3, xn4, xn5, xn6, xn7, xv1, xv2, xv3, xv4, xv5, xv6, xv7]
            · skip
              simp (decide := true) only [g20, c1, c2, c3, c4, c5, c6, xrd_ne, xrd_eq, xrd_n2, xrd_J, xrd_K, ite_true, ite_false, if_true, if_false, and_true, true_and] at h
              simp (decide := true) only [p20, b20_0, b20_11, b20_18, b20_32, b20_38, b20_47, b20_60, b20_64, b20_72, b20_75, b20_82, b20_87, b20_94, b20_101, b20_103, b20_108, b20_115, b20_142, b12_0, b12_6, b12_9, b12_13, b18_0, b18_7, b18_12, b18_15, b18_22, b18_26, b19_0, b19_25, b19_28, b19_38, b11_0, c1, c2, c3, c4, c5, c6, h, xrd_ne, xrd_eq, xrd_n2, xrd_J, xrd_K, xsimp_1, xsimp_2, xtl, xtl0, xbit_0, xbit_1, exists_eq_left, and_assoc, exists_and_left, if_true, if_false, true_and, and_true, not_true, not_false_iff, x6, Int32.neg_neg, x01, x11, x21, x31, x41, x51, xn1, xn2, xn3, xn4, xn5, xn6, xn7, xv1, xv2, xv3, xv4, xv5, xv6, xv7]
          · skip
            simp (decide := true) only [g20, c1, c2, c3, c4, c5, xrd_ne, xrd_eq, xrd_n2, xrd_J, xrd_K, ite_true, ite_false, if_true, if_false, and_true, true_and] at h
            simp (decide := true) only [p20, b20_0, b20_11, b20_18, b20_32, b20_38, b20_47, b20_60, b20_64, b20_72, b20_75, b20_82, b20_87, b20_94, b20_101, b20_103, b20_108, b20_115, b20_142, b12_0, b12_6, b12_9, b12_13, b18_0, b18_7, b18_12, b18_15, b18_22, b18_26, b19_0, b19_25, b19_28, b19_38, b11_0, c1, c2, c3, c4, c5, h, xrd_ne, xrd_eq, xrd_n2, xrd_J, xrd_K, xsimp_1, xsimp_2, xtl, xtl0, xbit_0, xbit_1, exists_eq_left, and_assoc, exists_and_left, if_true, if_false, true_and, and_true, not_true, not_false_iff, x6, Int32.neg_neg, x01, x11, x21, x31, x41, x51, xn1, xn2, xn3, xn4, xn5, xn6, xn7, xv1, xv2, xv3, xv4, xv5, xv6, xv7]
    · skip
      by_cases c3 : ((S.1 15 ((v2 * 5) + 4).toNatClampNeg) : Int32) < ((S.1 15 ((v2 * 5) + 3).toNatClampNeg) + (S.1 15 ((v2 * 5) + 2).toNatClampNeg))
      · skip
        simp (decide := true) only [g20, c1, c2, c3, xrd_ne, xrd_eq, xrd_n2, xrd_J, xrd_K, ite_true, ite_false, if_true, if_false, and_true, true_and] at h
        simp (decide := true) only [p20, b20_0, b20_11, b20_18, b20_32, b20_38, b20_47, b20_60, b20_64, b20_72, b20_75, b20_82, b20_87, b20_94, b20_101, b20_103, b20_108, b20_115, b20_142, b12_0, b12_6, b12_9, b12_13, b18_0, b18_7, b18_12, b18_15, b18_22, b18_26, b19_0, b19_25, b19_28, b19_38, b11_0, c1, c2, c3, h, xrd_ne, xrd_eq, xrd_n2, xrd_J, xrd_K, xsimp_1, xsimp_2, xtl, xtl0, xbit_0, xbit_1, exists_eq_left, and_assoc, exists_and_left, if_true, if_false, true_and, and_true, not_true, not_false_iff, x6, Int32.neg_neg, x01, x11, x21, x31, x41, x51, xn1, xn2, xn3, xn4, xn5, xn6, xn7, xv1, xv2, xv3, xv4, xv5, xv6, xv7]
      · skip
        simp (decide := true) only [g20, c1, c2, c3, xrd_ne, xrd_eq, xrd_n2, xrd_J, xrd_K, ite_true, ite_false, if_true, if_false, and_true, true_and] at h
        simp (decide := true) only [p20, b20_0, b20_11, b20_18, b20_32, b20_38, b20_47, b20_60, b20_64, b20_72, b20_75, b20_82, b20_87, b20_94, b20_101, b20_103, b20_108, b20_115, b20_142, b12_0, b12_6, b12_9, b12_13, b18_0, b18_7, b18_12, b18_15, b18_22, b18_26, b19_0, b19_25, b19_28, b19_38, b11_0, c1, c2, c3, h, xrd_ne, xrd_eq, xrd_n2, xrd_J, xrd_K, xsimp_1, xsimp_2, xtl, xtl0, xbit_0, xbit_1, exists_eq_left, and_assoc, exists_and_left, if_true, if_false, true_and, and_true, not_true, not_false_iff, x6, Int32.neg_neg, x01, x11, x21, x31, x41, x51, xn1, xn2, xn3, xn4, xn5, xn6, xn7, xv1, xv2, xv3, xv4, xv5, xv6, xv7]
  · skip
    by_cases c2 : (0 : Int32) < (S.1 13 8)
    · skip
      by_cases c3 : (0 : Int32) < (S.1 15 ((v2 * 5) + 2).toNatClampNeg)
      · skip
        by_cases c4 : (0 : Int32) < (S.1 13 9)
        · skip
          by_cases c5 : ((S.1 15 ((v2 * 5) + 4).toNatClampNeg) : Int32) < (if (0 : Int32) < ((((S.1 13 6) + (S.1 15 ((v2 * 5) + 0).toNatClampNeg)) + (S.1 15 ((v2 * 5) + 1).toNatClampNeg)) - v3) then ((((S.1 13 6) + (S.1 15 ((v2 * 5) + 0).toNatClampNeg)) + (S.1 15 ((v2 * 5) + 1).toNatClampNeg)) - v3) else 0)
          · skip
            simp (decide := true) only [g20, c1, c2, c3, c4, c5, xrd_ne, xrd_eq, xrd_n2, xrd_J, xrd_K, ite_true, ite_false, if_true, if_false, and_true, true_and] at h
            simp (decide := true) only [p20, b20_0, b20_11, b20_18, b20_32, b20_38, b20_47, b20_60, b20_64, b20_72, b20_75, b20_82, b20_87, b20_94, b20_101, b20_103, b20_108, b20_115, b20_142, b12_0, b12_6, b12_9, b12_13, b18_0, b18_7, b18_12, b18_15, b18_22, b18_26, b19_0, b19_25, b19_28, b19_38, b11_0, c1, c2, c3, c4, c5, h, xrd_ne, xrd_eq, xrd_n2, xrd_J, xrd_K, xsimp_1, xsimp_2, xtl, xtl0, xbit_0, xbit_1, exists_eq_left, and_assoc, exists_and_left, if_true, if_false, true_and, and_true, not_true, not_false_iff, x6, Int32.neg_neg, x01, x11, x21, x31, x41, x51, xn1, xn2, xn3, xn4, xn5, xn6, xn7, xv1, xv2, xv3, xv4, xv5, xv6, xv7]
          · skip
            simp (decide := true) only [g20, c1, c2, c3, c4, c5, xrd_ne, xrd_eq, xrd_n2, xrd_J, xrd_K, ite_true, ite_false, if_true, if_false, and_true, true_and] at h
            simp (decide := true) only [p20, b20_0, b20_11, b20_18, b20_32, b20_38, b20_47, b20_60, b20_64, b20_72, b20_75, b20_82, b20_87, b20_94, b20_101, b20_103, b20_108, b20_115, b20_142, b12_0, b12_6, b12_9, b12_13, b18_0, b18_7, b18_12, b18_15, b18_22, b18_26, b19_0, b19_25, b19_28, b19_38, b11_0, c1, c2, c3, c4, c5, h, xrd_ne, xrd_eq, xrd_n2, xrd_J, xrd_K, xsimp_1, xsimp_2, xtl, xtl0, xbit_0, xbit_1, exists_eq_left, and_assoc, exists_and_left, if_true, if_false, true_and, and_true, not_true, not_false_iff, x6, Int32.neg_neg, x01, x11, x21, x31, x41, x51, xn1, xn2, xn3, xn4, xn5, xn6, xn7, xv1, xv2, xv3, xv4, xv5, xv6, xv7]
        · skip
          simp (decide := true) only [g20, c1, c2, c3, c4, xrd_ne, xrd_eq, xrd_n2, xrd_J, xrd_K, ite_true, ite_false, if_true, if_false, and_true, true_and] at h
          simp (decide := true) only [p20, b20_0, b20_11, b20_18, b20_32, b20_38, b20_47, b20_60, b20_64, b20_72, b20_75, b20_82, b20_87, b20_94, b20_101, b20_103, b20_108, b20_115, b20_142, b12_0, b12_6, b12_9, b12_13, b18_0, b18_7, b18_12, b18_15, b18_22, b18_26, b19_0, b19_25, b19_28, b19_38, b11_0, c1, c2, c3, c4, h, xrd_ne, xrd_eq, xrd_n2, xrd_J, xrd_K, xsimp_1, xsimp_2, xtl, xtl0, xbit_0, xbit_1, exists_eq_left, and_assoc, exists_and_left, if_true, if_false, true_and, and_true, not_true, not_false_iff, x6, Int32.neg_neg, x01, x11, x21, x31, x41, x51, xn1, xn2, xn3, xn4, xn5, xn6, xn7, xv1, xv2, xv3, xv4, xv5, xv6, xv7]
      · skip
        by_cases c4 : ((S.1 15 ((v2 * 5) + 4).toNatClampNeg) : Int32) < (if (0 : Int32) < ((((S.1 13 6) + (S.1 15 ((v2 * 5) + 0).toNatClampNeg)) + (S.1 15 ((v2 * 5) + 1).toNatClampNeg)) - v3) then ((((S.1 13 6) + (S.1 15 ((v2 * 5) + 0).toNatClampNeg)) + (S.1 15 ((v2 * 5) + 1).toNatClampNeg)) - v3) else 0)
        · skip
          simp (decide := true) only [g20, c1, c2, c3, c4, xrd_ne, xrd_eq, xrd_n2, xrd_J, xrd_K, ite_true, ite_false, if_true, if_false, and_true, true_and] at h
          simp (decide := true) only [p20, b20_0, b20_11, b20_18, b20_32, b20_38, b20_47, b20_60, b20_64, b20_72, b20_75, b20_82, b20_87, b20_94, b20_101, b20_103, b20_108, b20_115, b20_142, b12_0, b12_6, b12_9, b12_13, b18_0, b18_7, b18_12, b18_15, b18_22, b18_26, b19_0, b19_25, b19_28, b19_38, b11_0, c1, c2, c3, c4, h, xrd_ne, xrd_eq, xrd_n2, xrd_J, xrd_K, xsimp_1, xsimp_2, xtl, xtl0, xbit_0, xbit_1, exists_eq_left, and_assoc, exists_and_left, if_true, if_false, true_and, and_true, not_true, not_false_iff, x6, Int32.neg_neg, x01, x11, x21, x31, x41, x51, xn1, xn2, xn3, xn4, xn5, xn6, xn7, xv1, xv2, xv3, xv4, xv5, xv6, xv7]
        · skip
          simp (decide := true) only [g20, c1, c2, c3, c4, xrd_ne, xrd_eq, xrd_n2, xrd_J, xrd_K, ite_true, ite_false, if_true, if_false, and_true, true_and] at h
          simp (decide := true) only [p20, b20_0, b20_11, b20_18, b20_32, b20_38, b20_47, b20_60, b20_64, b20_72, b20_75, b20_82, b20_87, b20_94, b20_101, b20_103, b20_108, b20_115, b20_142, b12_0, b12_6, b12_9, b12_13, b18_0, b18_7, b18_12, b18_15, b18_22, b18_26, b19_0, b19_25, b19_28, b19_38, b11_0, c1, c2, c3, c4, h, xrd_ne, xrd_eq, xrd_n2, xrd_J, xrd_K, xsimp_1, xsimp_2, xtl, xtl0, xbit_0, xbit_1, exists_eq_left, and_assoc, exists_and_left, if_true, if_false, true_and, and_true, not_true, not_false_iff, x6, Int32.neg_neg, x01, x11, x21, x31, x41, x51, xn1, xn2, xn3, xn4, xn5, xn6, xn7, xv1, xv2, xv3, xv4, xv5, xv6, xv7]
    · skip
      simp (decide := true) only [g20, c1, c2, xrd_ne, xrd_eq, xrd_n2, xrd_J, xrd_K, ite_true, ite_false, if_true, if_false, and_true, true_and] at h
      simp (decide := true) only [p20, b20_0, b20_11, b20_18, b20_32, b20_38, b20_47, b20_60, b20_64, b20_72, b20_75, b20_82, b20_87, b20_94, b20_101, b20_103, b20_108, b20_115, b20_142, b12_0, b12_6, b12_9, b12_13, b18_0, b18_7, b18_12, b18_15, b18_22, b18_26, b19_0, b19_25, b19_28, b19_38, b11_0, c1, c2, h, xrd_ne, xrd_eq, xrd_n2, xrd_J, xrd_K, xsimp_1, xsimp_2, xtl, xtl0, xbit_0, xbit_1, exists_eq_left, and_assoc, exists_and_left, if_true, if_false, true_and, and_true, not_true, not_false_iff, x6, Int32.neg_neg, x01, x11, x21, x31, x41, x51, xn1, xn2, xn3, xn4, xn5, xn6, xn7, xv1, xv2, xv3, xv4, xv5, xv6, xv7]
/-- X2_changeRent -/
def p23 (S : xS) (v1 : Int32) : Option Value × xS := if (0 : Int32) < (S.1 13 8) then ((none, (xwI S 13 6 (if (0 : Int32) < (if ((((S.1 13 6) + (v1 / 10)) + (-1)) : Int32) < 1000 then (((S.1 13 6) + (v1 / 10)) + (-1)) else 1000) then (if ((((S.1 13 6) + (v1 / 10)) + (-1)) : Int32) < 1000 then (((S.1 13 6) + (v1 / 10)) + (-1)) else 1000) else 0)))) else ((none, (xwI S 13 6 (if (0 : Int32) < (if (((S.1 13 6) + (v1 / 10)) : Int32) < 1000 then ((S.1 13 6) + (v1 / 10)) else 1000) then (if (((S.1 13 6) + (v1 / 10)) : Int32) < 1000 then ((S.1 13 6) + (v1 / 10)) else 1000) else 0))))
theorem t23 (d : Nat) (v1 : Int32) (S : xS) (r : Option Value × xS) : xX d 23 0 [(0, .ref 13), (1, .int v1)] [] S r ↔ r = p23 S v1 := by
  by_cases c1 : (0 : Int32) < (S.1 13 8)
  · skip
    simp (decide := true) only [p23, b23_0, b23_17, b23_20, c1, xrd_ne, xrd_eq, xrd_n2, xrd_J, xrd_K, xsimp_1, xsimp_2, xtl, xtl0, xbit_0, xbit_1, exists_eq_left, and_assoc, exists_and_left, if_true, if_false, true_and, and_true, not_true, not_false_iff, x6, Int32.neg_neg, x01, x11, x21, x31, x41, x51, xn1, xn2, xn3, xn4, xn5, xn6, xn7, xv1, xv2, xv3, xv4, xv5, xv6, xv7]
  · skip
    simp (decide := true) only [p23, b23_0, b23_17, b23_20, c1, xrd_ne, xrd_eq, xrd_n2, xrd_J, xrd_K, xsimp_1, xsimp_2, xtl, xtl0, xbit_0, xbit_1, exists_eq_left, and_assoc, exists_and_left, if_true, if_false, true_and, and_true, not_true, not_false_iff, x6, Int32.neg_neg, x01, x11, x21, x31, x41, x51, xn1, xn2, xn3, xn4, xn5, xn6, xn7, xv1, xv2, xv3, xv4, xv5, xv6, xv7]
/-- X7_isRow -/
def p24 (S : xS) (v1 : Int32) : Option Value × xS := if ((S.1 29 v1.toNatClampNeg) : Int32) < 100 then ((some (.int 0), S)) else ((some (.int 1), S))
def g24 (S : xS) (v1 : Int32) : Prop := (vp_in v1 8 ∧ True)
theorem t24 (d : Nat) (v1 : Int32) (S : xS) (r : Option Value × xS) (h : g24 S v1) : xX d 24 0 [(0, .ref 28), (1, .int v1)] [] S r ↔ r = p24 S v1 := by
  by_cases c1 : ((S.1 29 v1.toNatClampNeg) : Int32) < 100
  · skip
    simp (decide := true) only [g24, c1, xrd_ne, xrd_eq, xrd_n2, xrd_J, xrd_K, ite_true, ite_false, if_true, if_false, and_true, true_and] at h
    simp (decide := true) only [p24, b24_0, b24_11, b24_15, c1, h, xrd_ne, xrd_eq, xrd_n2, xrd_J, xrd_K, xsimp_1, xsimp_2, xtl, xtl0, xbit_0, xbit_1, exists_eq_left, and_assoc, exists_and_left, if_true, if_false, true_and, and_true, not_true, not_false_iff, x6, Int32.neg_neg, x01, x11, x21, x31, x41, x51, xn1, xn2, xn3, xn4, xn5, xn6, xn7, xv1, xv2, xv3, xv4, xv5, xv6, xv7]
  · skip
    simp (decide := true) only [g24, c1, xrd_ne, xrd_eq, xrd_n2, xrd_J, xrd_K, ite_true, ite_false, if_true, if_false, and_true, true_and] at h
    simp (decide := true) only [p24, b24_0, b24_11, b24_15, c1, h, xrd_ne, xrd_eq, xrd_n2, xrd_J, xrd_K, xsimp_1, xsimp_2, xtl, xtl0, xbit_0, xbit_1, exists_eq_left, and_assoc, exists_and_left, if_true, if_false, true_and, and_true, not_true, not_false_iff, x6, Int32.neg_neg, x01, x11, x21, x31, x41, x51, xn1, xn2, xn3, xn4, xn5, xn6, xn7, xv1, xv2, xv3, xv4, xv5, xv6, xv7]
/-- X9_isWithin -/
def p25 (S : xS) (v0 : Int32) (v1 : Int32) (v2 : Int32) : Option Value × xS := if (v0 : Int32) < v1 then ((some (.int 0), S)) else (if (v2 : Int32) < v0 then ((some (.int 0), S)) else ((some (.int 1), S)))
theorem t25 (d : Nat) (v0 : Int32) (v1 : Int32) (v2 : Int32) (S : xS) (r : Option Value × xS) : xX d 25 0 [(0, .int v0), (1, .int v1), (2, .int v2)] [] S r ↔ r = p25 S v0 v1 v2 := by
  by_cases c1 : (v0 : Int32) < v1
  · skip
    simp (decide := true) only [p25, b25_0, b25_5, b25_10, b25_14, c1, xrd_ne, xrd_eq, xrd_n2, xrd_J, xrd_K, xsimp_1, xsimp_2, xtl, xtl0, xbit_0, xbit_1, exists_eq_left, and_assoc, exists_and_left, if_true, if_false, true_and, and_true, not_true, not_false_iff, x6, Int32.neg_neg, x01, x11, x21, x31, x41, x51, xn1, xn2, xn3, xn4, xn5, xn6, xn7, xv1, xv2, xv3, xv4, xv5, xv6, xv7]
  · skip
    by_cases c2 : (v2 : Int32) < v0
    · skip
      simp (decide := true) only [p25, b25_0, b25_5, b25_10, b25_14, c1, c2, xrd_ne, xrd_eq, xrd_n2, xrd_J, xrd_K, xsimp_1, xsimp_2, xtl, xtl0, xbit_0, xbit_1, exists_eq_left, and_assoc, exists_and_left, if_true, if_false, true_and, and_true, not_true, not_false_iff, x6, Int32.neg_neg, x01, x11, x21, x31, x41, x51, xn1, xn2, xn3, xn4, xn5, xn6, xn7, xv1, xv2, xv3, xv4, xv5, xv6, xv7]
    · skip
      simp (decide := true) only [p25, b25_0, b25_5, b25_10, b25_14, c1, c2, xrd_ne, xrd_eq, xrd_n2, xrd_J, xrd_K, xsimp_1, xsimp_2, xtl, xtl0, xbit_0, xbit_1, exists_eq_left, and_assoc, exists_and_left, if_true, if_false, true_and, and_true, not_true, not_false_iff, x6, Int32.neg_neg, x01, x11, x21, x31, x41, x51, xn1, xn2, xn3, xn4, xn5, xn6, xn7, xv1, xv2, xv3, xv4, xv5, xv6, xv7]
/-- X7_valueAt -/
def p26 (S : xS) (v1 : Int32) (v2 : Int32) : Option Value × xS := if ((S.1 29 v1.toNatClampNeg) : Int32) < 100 then ((some (.long 0), S)) else (if (v2 : Int32) < 0 then ((some (.long 0), S)) else (if (((S.1 30 v1.toNatClampNeg) - 1) : Int32) < v2 then ((some (.long 0), S)) else ((some (.long (S.2.1 (xrb + v1.toNatClampNeg) v2.toNatClampNeg)), S))))
def g26 (S : xS) (v1 : Int32) (v2 : Int32) : Prop := (vp_in v1 8 ∧ (if ((S.1 29 v1.toNatClampNeg) : Int32) < 100 then True else (vp_in v1 8 ∧ (if (v2 : Int32) < 0 then True else (if (((S.1 30 v1.toNatClampNeg) - 1) : Int32) < v2 then True else (vp_in v1 8 ∧ ((v1.toNatClampNeg < 8 ∧ vp_in v2 60) ∧ True)))))))
theorem t26 (d : Nat) (v1 : Int32) (v2 : Int32) (S : xS) (r : Option Value × xS) (h : g26 S v1 v2) : xX (d + 1) 26 0 [(0, .ref 28), (1, .int v1), (2, .int v2)] [] S r ↔ r = p26 S v1 v2 := by
  by_cases c1 : ((S.1 29 v1.toNatClampNeg) : Int32) < 100
  · skip
    simp (decide := true) only [g26, c1, xrd_ne, xrd_eq, xrd_n2, xrd_J, xrd_K, ite_true, ite_false, if_true, if_false, and_true, true_and] at h
    simp (decide := true) only [p26, b26_0, b26_5, b26_8, b26_21, b26_24, b26_35, b24_0, b24_11, b24_15, b25_0, b25_5, b25_10, b25_14, c1, h, xrd_ne, xrd_eq, xrd_n2, xrd_J, xrd_K, xsimp_1, xsimp_2, xtl, xtl0, xbit_0, xbit_1, exists_eq_left, and_assoc, exists_and_left, if_true, if_false, true_and, and_true, not_true, not_false_iff, x6, Int32.neg_neg, x01, x11, x21, x31, x41, x51, xn1, xn2, xn3, xn4, xn5, xn6, xn7, xv1, xv2, xv3, xv4, xv5, xv6, xv7]
  · skip
    by_cases c2 : (v2 : Int32) < 0
    · skip
      simp (decide := true) only [g26, c1, c2, xrd_ne, xrd_eq, xrd_n2, xrd_J, xrd_K, ite_true, ite_false, if_true, if_false, and_true, true_and] at h
      simp (decide := true) only [p26, b26_0, b26_5, b26_8, b26_21, b26_24, b26_35, b24_0, b24_11, b24_15, b25_0, b25_5, b25_10, b25_14, c1, c2, h, xrd_ne, xrd_eq, xrd_n2, xrd_J, xrd_K, xsimp_1, xsimp_2, xtl, xtl0, xbit_0, xbit_1, exists_eq_left, and_assoc, exists_and_left, if_true, if_false, true_and, and_true, not_true, not_false_iff, x6, Int32.neg_neg, x01, x11, x21, x31, x41, x51, xn1, xn2, xn3, xn4, xn5, xn6, xn7, xv1, xv2, xv3, xv4, xv5, xv6, xv7]
    · skip
      by_cases c3 : (((S.1 30 v1.toNatClampNeg) - 1) : Int32) < v2
      · skip
        simp (decide := true) only [g26, c1, c2, c3, xrd_ne, xrd_eq, xrd_n2, xrd_J, xrd_K, ite_true, ite_false, if_true, if_false, and_true, true_and] at h
        simp (decide := true) only [p26, b26_0, b26_5, b26_8, b26_21, b26_24, b26_35, b24_0, b24_11, b24_15, b25_0, b25_5, b25_10, b25_14, c1, c2, c3, h, xrd_ne, xrd_eq, xrd_n2, xrd_J, xrd_K, xsimp_1, xsimp_2, xtl, xtl0, xbit_0, xbit_1, exists_eq_left, and_assoc, exists_and_left, if_true, if_false, true_and, and_true, not_true, not_false_iff, x6, Int32.neg_neg, x01, x11, x21, x31, x41, x51, xn1, xn2, xn3, xn4, xn5, xn6, xn7, xv1, xv2, xv3, xv4, xv5, xv6, xv7]
      · skip
        simp (decide := true) only [g26, c1, c2, c3, xrd_ne, xrd_eq, xrd_n2, xrd_J, xrd_K, ite_true, ite_false, if_true, if_false, and_true, true_and] at h
        simp (decide := true) only [p26, b26_0, b26_5, b26_8, b26_21, b26_24, b26_35, b24_0, b24_11, b24_15, b25_0, b25_5, b25_10, b25_14, c1, c2, c3, h, xrd_ne, xrd_eq, xrd_n2, xrd_J, xrd_K, xsimp_1, xsimp_2, xtl, xtl0, xbit_0, xbit_1, exists_eq_left, and_assoc, exists_and_left, if_true, if_false, true_and, and_true, not_true, not_false_iff, x6, Int32.neg_neg, x01, x11, x21, x31, x41, x51, xn1, xn2, xn3, xn4, xn5, xn6, xn7, xv1, xv2, xv3, xv4, xv5, xv6, xv7]
/-- X9_isWave -/
def p27 (S : xS) (v0 : Int32) : Option Value × xS := if (v0 : Int32) < 0 then ((some (.int 0), S)) else (if (v0 : Int32) < 5 then ((some (.int 1), S)) else ((some (.int 0), S)))
theorem t27 (d : Nat) (v0 : Int32) (S : xS) (r : Option Value × xS) : xX d 27 0 [(0, .int v0)] [] S r ↔ r = p27 S v0 := by
  by_cases c1 : (v0 : Int32) < 0
  · skip
    simp (decide := true) only [p27, b27_0, b27_4, b27_9, b27_13, c1, xrd_ne, xrd_eq, xrd_n2, xrd_J, xrd_K, xsimp_1, xsimp_2, xtl, xtl0, xbit_0, xbit_1, exists_eq_left, and_assoc, exists_and_left, if_true, if_false, true_and, and_true, not_true, not_false_iff, x6, Int32.neg_neg, x01, x11, x21, x31, x41, x51, xn1, xn2, xn3, xn4, xn5, xn6, xn7, xv1, xv2, xv3, xv4, xv5, xv6, xv7]
  · skip
    by_cases c2 : (v0 : Int32) < 5
    · skip
      simp (decide := true) only [p27, b27_0, b27_4, b27_9, b27_13, c1, c2, xrd_ne, xrd_eq, xrd_n2, xrd_J, xrd_K, xsimp_1, xsimp_2, xtl, xtl0, xbit_0, xbit_1, exists_eq_left, and_assoc, exists_and_left, if_true, if_false, true_and, and_true, not_true, not_false_iff, x6, Int32.neg_neg, x01, x11, x21, x31, x41, x51, xn1, xn2, xn3, xn4, xn5, xn6, xn7, xv1, xv2, xv3, xv4, xv5, xv6, xv7]
    · skip
      simp (decide := true) only [p27, b27_0, b27_4, b27_9, b27_13, c1, c2, xrd_ne, xrd_eq, xrd_n2, xrd_J, xrd_K, xsimp_1, xsimp_2, xtl, xtl0, xbit_0, xbit_1, exists_eq_left, and_assoc, exists_and_left, if_true, if_false, true_and, and_true, not_true, not_false_iff, x6, Int32.neg_neg, x01, x11, x21, x31, x41, x51, xn1, xn2, xn3, xn4, xn5, xn6, xn7, xv1, xv2, xv3, xv4, xv5, xv6, xv7]
/-- X3_step -/
def p28 (S : xS) (v1 : Int32) (v2 : Int32) : Option Value × xS := if (v2 : Int32) < 48 then (if (v1 : Int32) = 0 then (if (v2 : Int32) = 97 then ((some (.int 2), S)) else (if (v2 : Int32) = 111 then ((some (.int 1), S)) else ((some (.int (-1)), S)))) else (if (v1 : Int32) = 1 then ((some (.int (-1)), (xwI S 19 6 (-1)))) else (if (v1 : Int32) = 2 then (if (v2 : Int32) = 109 then ((some (.int 3), S)) else ((some (.int (-1)), S))) else (if (v1 : Int32) = 3 then ((some (.int (-1)), (xwI S 19 7 (-1)))) else (if (v1 : Int32) = 4 then (if (v2 : Int32) = 102 then ((some (.int 6), S)) else ((some (.int (-1)), S))) else (if (v1 : Int32) = 5 then (if (v2 : Int32) = 102 then ((some (.int 6), S)) else ((some (.int (-1)), S))) else (if (v1 : Int32) = 6 then ((some (.int (-1)), (xwI S 19 8 (-1)))) else ((some (.int (-1)), S))))))))) else (if (57 : Int32) < v2 then (if (v1 : Int32) = 0 then (if (v2 : Int32) = 97 then ((some (.int 2), S)) else (if (v2 : Int32) = 111 then ((some (.int 1), S)) else ((some (.int (-1)), S)))) else (if (v1 : Int32) = 1 then ((some (.int (-1)), (xwI S 19 6 (-1)))) else (if (v1 : Int32) = 2 then (if (v2 : Int32) = 109 then ((some (.int 3), S)) else ((some (.int (-1)), S))) else (if (v1 : Int32) = 3 then ((some (.int (-1)), (xwI S 19 7 (-1)))) else (if (v1 : Int32) = 4 then (if (v2 : Int32) = 102 then ((some (.int 6), S)) else ((some (.int (-1)), S))) else (if (v1 : Int32) = 5 then (if (v2 : Int32) = 102 then ((some (.int 6), S)) else ((some (.int (-1)), S))) else (if (v1 : Int32) = 6 then ((some (.int (-1)), (xwI S 19 8 (-1)))) else ((some (.int (-1)), S))))))))) else (if (v1 : Int32) = 0 then (if (v2 : Int32) = 97 then ((some (.int 2), S)) else (if (v2 : Int32) = 111 then ((some (.int 1), S)) else ((some (.int (-1)), S)))) else (if (v1 : Int32) = 1 then (if ((v2 - 48) : Int32) = (-1) then ((some (.int (-1)), (xwI S 19 6 (v2 - 48)))) else ((some (.int 2), (xwI S 19 6 (v2 - 48))))) else (if (v1 : Int32) = 2 then (if (v2 : Int32) = 109 then ((some (.int 3), S)) else ((some (.int (-1)), S))) else (if (v1 : Int32) = 3 then (if ((v2 - 48) : Int32) = (-1) then ((some (.int (-1)), (xwI S 19 7 (v2 - 48)))) else (if ((v2 - 48) : Int32) = 0 then ((some (.int 5), (xwI S 19 7 (v2 - 48)))) else ((some (.int 4), (xwI S 19 7 (v2 - 48)))))) else (if (v1 : Int32) = 4 then (if ((v2 - 48) : Int32) = (-1) then (if (v2 : Int32) = 102 then ((some (.int 6), S)) else ((some (.int (-1)), S))) else ((some (.int 5), (xwI S 19 7 ((10 * (S.1 19 7)) + (v2 - 48)))))) else (if (v1 : Int32) = 5 then (if (v2 : Int32) = 102 then ((some (.int 6), S)) else ((some (.int (-1)), S))) else (if (v1 : Int32) = 6 then (if ((v2 - 48) : Int32) < 0 then ((some (.int (-1)), (xwI S 19 8 (v2 - 48)))) else (if ((v2 - 48) : Int32) < 5 then ((some (.int 7), (xwI S 19 8 (v2 - 48)))) else ((some (.int (-1)), (xwI S 19 8 (v2 - 48)))))) else ((some (.int (-1)), S))))))))))
theorem t28 (d : Nat) (v1 : Int32) (v2 : Int32) (S : xS) (r : Option Value × xS) : xX (d + 1) 28 0 [(0, .ref 19), (1, .int v1), (2, .int v2)] [] S r ↔ r = p28 S v1 v2 := by
  by_cases c1 : (v2 : Int32) < 48
  · skip
    by_cases c2 : (v1 : Int32) = 0
    · skip
      by_cases c3 : (v2 : Int32) = 97
      · skip
        simp (decide := true) only [p28, b28_0, b28_8, b28_11, b28_18, b28_64, b28_70, b28_74, b28_80, b28_84, b28_86, b28_96, b28_100, b28_102, b28_108, b28_112, b28_114, b28_124, b28_128, b28_132, b28_136, b28_138, b28_143, b28_158, b28_164, b28_169, b28_171, b28_177, b28_182, b28_184, b28_193, b28_196, b28_201, b28_203, b27_0, b27_4, b27_9, b27_13, b25_0, b25_5, b25_10, b25_14, c1, c2, c3, xrd_ne, xrd_eq, xrd_n2, xrd_J, xrd_K, xsimp_1, xsimp_2, xtl, xtl0, xbit_0, xbit_1, exists_eq_left, and_assoc, exists_and_left, if_true, if_false, true_and, and_true, not_true, not_false_iff, x6, Int32.neg_neg, x01, x11, x21, x31, x41, x51, xn1, xn2, xn3, xn4, xn5, xn6, xn7, xv1, xv2, xv3, xv4, xv5, xv6, xv7]
      · skip
        by_cases c4 : (v2 : Int32) = 111
        · skip
          simp (decide := true) only [p28, b28_0, b28_8, b28_11, b28_18, b28_64, b28_70, b28_74, b28_80, b28_84, b28_86, b28_96, b28_100, b28_102, b28_108, b28_112, b28_114, b28_124, b28_128, b28_132, b28_136, b28_138, b28_143, b28_158, b28_164, b28_169, b28_171, b28_177, b28_182, b28_184, b28_193, b28_196, b28_201, b28_203, b27_0, b27_4, b27_9, b27_13, b25_0, b25_5, b25_10, b25_14, c1, c2, c3, c4, xrd_ne, xrd_eq, xrd_n2, xrd_J, xrd_K, xsimp_1, xsimp_2, xtl, xtl0, xbit_0, xbit_1, exists_eq_left, and_assoc, exists_and_left, if_true, if_false, true_and, and_true, not_true, not_false_iff, x6, Int32.neg_neg, x01, x11, x21, x31, x41, x51, xn1, xn2, xn3, xn4, xn5, xn6, xn7, xv1, xv2, xv3, xv4, xv5, xv6, xv7]
        · skip
          simp (decide := true) only [p28, b28_0, b28_8, b28_11, b28_18, b28_64, b28_70, b28_74, b28_80, b28_84, b28_86, b28_96, b28_100, b28_102, b28_108, b28_112, b28_114, b28_124, b28_128, b28_132, b28_136, b28_138, b28_143, b28_158, b28_164, b28_169, b28_171, b28_177, b28_182, b28_184, b28_193, b28_196, b28_201, b28_203, b27_0, b27_4, b27_9, b27_13, b25_0, b25_5, b25_10, b25_14, c1, c2, c3, c4, xrd_ne, xrd_eq, xrd_n2, xrd_J, xrd_K, xsimp_1, xsimp_2, xtl, xtl0, xbit_0, xbit_1, exists_eq_left, and_assoc, exists_and_left, if_true, if_false, true_and, and_true, not_true, not_false_iff, x6, Int32.neg_neg, x01, x11, x21, x31, x41, x51, xn1, xn2, xn3, xn4, xn5, xn6, xn7, xv1, xv2, xv3, xv4, xv5, xv6, xv7]
    · skip
      by_cases c3 : (v1 : Int32) = 1
      · skip
        simp (decide := true) only [p28, b28_0, b28_8, b28_11, b28_18, b28_64, b28_70, b28_74, b28_80, b28_84, b28_86, b28_96, b28_100, b28_102, b28_108, b28_112, b28_114, b28_124, b28_128, b28_132, b28_136, b28_138, b28_143, b28_158, b28_164, b28_169, b28_171, b28_177, b28_182, b28_184, b28_193, b28_196, b28_201, b28_203, b27_0, b27_4, b27_9, b27_13, b25_0, b25_5, b25_10, b25_14, c1, c2, c3, xrd_ne, xrd_eq, xrd_n2, xrd_J, xrd_K, xsimp_1, xsimp_2, xtl, xtl0, xbit_0, xbit_1, exists_eq_left, and_assoc, exists_and_left, if_true, if_false, true_and, and_true, not_true, not_false_iff, x6, Int32.neg_neg, x01, x11, x21, x31, x41, x51, xn1, xn2, xn3, xn4, xn5, xn6, xn7, xv1, xv2, xv3, xv4, xv5, xv6, xv7]
      · skip
        by_cases c4 : (v1 : Int32) = 2
        · skip
          by_cases c5 : (v2 : Int32) = 109
          · skip
            simp (decide := true) only [p28, b28_0, b28_8, b28_11, b28_18, b28_64, b28_70, b28_74, b28_80, b28_84, b28_86, b28_96, b28_100, b28_102, b28_108, b28_112, b28_114, b28_124, b28_128, b28_132, b28_136, b28_138, b28_143, b28_158, b28_164, b28_169, b28_171, b28_177, b28_182, b28_184, b28_193, b28_196, b28_201, b28_203, b27_0, b27_4, b27_9, b27_13, b25_0, b25_5, b25_10, b25_14, c1, c2, c3, c4, c5, xrd_ne, xrd_eq, xrd_n2, xrd_J, xrd_K, xsimp_1, xsimp_2, xtl, xtl0, xbit_0, xbit_1, exists_eq_left, and_assoc, exists_and_left, if_true, if_false, true_and, and_true, not_true, not_false_iff, x6, Int32.neg_neg, x01, x11, x21, x31, x41, x51, xn1, xn2, xn3, xn4, xn5, xn6, xn7, xv1, xv2, xv3, xv4, xv5, xv6, xv7]
          · skip
            simp (decide := true) only [p28, b28_0, b28_8, b28_11, b28_18, b28_64, b28_70, b28_74, b28_80, b28_84, b28_86, b28_96, b28_100, b28_102, b28_108, b28_112, b28_114, b28_124, b28_128, b28_132, b28_136, b28_138, b28_143, b28_158, b28_164, b28_169, b28_171, b28_177, b28_182, b28_184, b28_193, b28_196, b28_201, b28_203, b27_0, b27_4, b27_9, b27_13, b25_0, b25_5, b25_10, b25_14, c1, c2, c3, c4, c5, xrd_ne, xrd_eq, xrd_n2, xrd_J, xrd_K, xsimp_1, xsimp_2, xtl, xtl0, xbit_0, xbit_1, exists_eq_left, and_assoc, exists_and_left, if_true, if_false, true_and, and_true, not_true, not_false_iff, x6, Int32.neg_neg, x01, x11, x21, x31, x41, x51, xn1, xn2, xn3, xn4, xn5, xn6, xn7, xv1, xv2, xv3, xv4, xv5, xv6, xv7]
        · skip
          by_cases c5 : (v1 : Int32) = 3
          · skip
            simp (decide := true) only [p28, b28_0, b28_8, b28_11, b28_18, b28_64, b28_70, b28_74, b28_80, b28_84, b28_86, b28_96, b28_100, b28_102, b28_108, b28_112, b28_114, b28_124, b28_128, b28_132, b28_136, b28_138, b28_143, b28_158, b28_164, b28_169, b28_171, b28_177, b28_182, b28_184, b28_193, b28_196, b28_201, b28_203, b27_0, b27_4, b27_9, b27_13, b25_0, b25_5, b25_10, b25_14, c1, c2, c3, c4, c5, xrd_ne, xrd_eq, xrd_n2, xrd_J, xrd_K, xsimp_1, xsimp_2, xtl, xtl0, xbit_0, xbit_1, exists_eq_left, and_assoc, exists_and_left, if_true, if_false, true_and, and_true, not_true, not_false_iff, x6, Int32.neg_neg, x01, x11, x21, x31, x41, x51, xn1, xn2, xn3, xn4, xn5, xn6, xn7, xv1, xv2, xv3, xv4, xv5, xv6, xv7]
          · skip
            by_cases c6 : (v1 : Int32) = 4
            · skip
              by_cases c7 : (v2 : Int32) = 102
              · skip
                simp (decide := true) only [p28, b28_0, b28_8, b28_11, b28_18, b28_64, b28_70, b28_74, b28_80, b28_84, b28_86, b28_96, b28_100, b28_102, b28_108, b28_112, b28_114, b28_124, b28_128, b28_132, b28_136, b28_138, b28_143, b28_158, b28_164, b28_169, b28_171, b28_177, b28_182, b28_184, b28_193, b28_196, b28_201, b28_203, b27_0, b27_4, b27_9, b27_13, b25_0, b25_5, b25_10, b25_14, c1, c2, c3, c4, c5, c6, c7, xrd_ne, xrd_eq, xrd_n2, xrd_J, xrd_K, xsimp_1, xsimp_2, xtl, xtl0, xbit_0, xbit_1, exists_eq_left, and_assoc, exists_and_left, if_true, if_false, true_and, and_true, not_true, not_false_iff, x6, Int32.neg_neg, x01, x11, x21, x31, x41, x51, xn1, xn2, xn3, xn4, xn5, xn6, xn7, xv1, xv2, xv3, xv4, xv5, xv6, xv7]
              · skip
                simp (decide := true) only [p28, b28_0, b28_8, b28_11, b28_18, b28_64, b28_70, b28_74, b28_80, b28_84, b28_86, b28_96, b28_100, b28_102, b28_108, b28_112, b28_114, b28_124, b28_128, b28_132, b28_136, b28_138, b28_143, b28_158, b28_164, b28_169, b28_171, b28_177, b28_182, b28_184, b28_193, b28_196, b28_201, b28_203, b27_0, b27_4, b27_9, b27_13, b25_0, b25_5, b25_10, b25_14, c1, c2, c3, c4, c5, c6, c7, xrd_ne, xrd_eq, xrd_n2, xrd_J, xrd_K, xsimp_1, xsimp_2, xtl, xtl0, xbit_0, xbit_1, exists_eq_left, and_assoc, exists_and_left, if_true, if_false, true_and, and_true, not_true, not_false_iff, x6, Int32.neg_neg, x01, x11, x21, x31, x41, x51, xn1, xn2, xn3, xn4, xn5, xn6, xn7, xv1, xv2, xv3, xv4, xv5, xv6, xv7]
            · skip
              by_cases c7 : (v1 : Int32) = 5
              · skip
                by_cases c8 : (v2 : Int32) = 102
                · skip
                  simp (decide := true) only [p28, b28_0, b28_8, b28_11, b28_18, b28_64, b28_70, b28_74, b28_80, b28_84, b28_86, b28_96, b28_100, b28_102, b28_108, b28_112, b28_114, b28_124, b28_128, b28_132, b28_136, b28_138, b28_143, b28_158, b28_164, b28_169, b28_171, b28_177, b28_182, b28_184, b28_193, b28_196, b28_201, b28_203, b27_0, b27_4, b27_9, b27_13, b25_0, b25_5, b25_10, b25_14, c1, c2, c3, c4, c5, c6, c7, c8, xrd_ne, xrd_eq, xrd_n2, xrd_J, xrd_K, xsimp_1, xsimp_2, xtl, xtl0, xbit_0, xbit_1, exists_eq_left, and_assoc, exists_and_left, if_true, if_false, true_and, and_true, not_true, not_false_iff, x6, Int32.neg_neg, x01, x11, x21, x31, x41, x51, xn1, xn2, xn3, xn4, xn5, xn6, xn7, xv1, xv2, xv3, xv4, xv5, xv6, xv7]
                · skip
                  simp (decide := true) only [p28, b28_0, b28_8, b28_11, b28_18, b28_64, b28_70, b28_74, b28_80, b28_84, b28_86, b28_96, b28_100, b28_102, b28_108, b28_112, b28_114, b28_124, b28_128, b28_132, b28_136, b28_138, b28_143, b28_158, b28_164, b28_169, b28_171, b28_177, b28_182, b28_184, b28_193, b28_196, b28_201, b28_203, b27_0, b27_4, b27_9, b27_13, b25_0, b25_5, b25_10, b25_14, c1, c2, c3, c4, c5, c6, c7, c8, xrd_ne, xrd_eq, xrd_n2, xrd_J, xrd_K, xsimp_1, xsimp_2, xtl, xtl0, xbit_0, xbit_1, exists_eq_left, and_assoc, exists_and_left, if_true, if_false, true_and, and_true, not_true, not_false_iff, x6, Int32.neg_neg, x01, x11, x21, x31, x41, x51, xn1, xn2, xn3, xn4, xn5, xn6, xn7, xv1, xv2, xv3, xv4, xv5, xv6, xv7]
              · skip
                by_cases c8 : (v1 : Int32) = 6
                · skip
                  simp (decide := true) only [p28, b28_0, b28_8, b28_11, b28_18, b28_64, b28_70, b28_74, b28_80, b28_84, b28_86, b28_96, b28_100, b28_102, b28_108, b28_112, b28_114, b28_124, b28_128, b28_132, b28_136, b28_138, b28_143, b28_158, b28_164, b28_169, b28_171, b28_177, b28_182, b28_184, b28_193, b28_196, b28_201, b28_203, b27_0, b27_4, b27_9, b27_13, b25_0, b25_5, b25_10, b25_14, c1, c2, c3, c4, c5, c6, c7, c8, xrd_ne, xrd_eq, xrd_n2, xrd_J, xrd_K, xsimp_1, xsimp_2, xtl, xtl0, xbit_0, xbit_1, exists_eq_left, and_assoc, exists_and_left, if_true, if_false, true_and, and_true, not_true, not_false_iff, x6, Int32.neg_neg, x01, x11, x21, x31, x41, x51, xn1, xn2, xn3, xn4, xn5, xn6, xn7, xv1, xv2, xv3, xv4, xv5, xv6, xv7]
                · skip
                  simp (decide := true) only [p28, b28_0, b28_8, b28_11, b28_18, b28_64, b28_70, b28_74, b28_80, b28_84, b28_86, b28_96, b28_100, b28_102, b28_108, b28_112, b28_114, b28_124, b28_128, b28_132, b28_136, b28_138, b28_143, b28_158, b28_164, b28_169, b28_171, b28_177, b28_182, b28_184, b28_193, b28_196, b28_201, b28_203, b27_0, b27_4, b27_9, b27_13, b25_0, b25_5, b25_10, b25_14, c1, c2, c3, c4, c5, c6, c7, c8, xrd_ne, xrd_eq, xrd_n2, xrd_J, xrd_K, xsimp_1, xsimp_2, xtl, xtl0, xbit_0, xbit_1, exists_eq_left, and_assoc, exists_and_left, if_true, if_false, true_and, and_true, not_true, not_false_iff, x6, Int32.neg_neg, x01, x11, x21, x31, x41, x51, xn1, xn2, xn3, xn4, xn5, xn6, xn7, xv1, xv2, xv3, xv4, xv5, xv6, xv7]
  · skip
    by_cases c2 : (57 : Int32) < v2
    · skip
      by_cases c3 : (v1 : Int32) = 0
      · skip
        by_cases c4 : (v2 : Int32) = 97
        · skip
          simp (decide := true) only [p28, b28_0, b28_8, b28_11, b28_18, b28_64, b28_70, b28_74, b28_80, b28_84, b28_86, b28_96, b28_100, b28_102, b28_108, b28_112, b28_114, b28_124, b28_128, b28_132, b28_136, b28_138, b28_143, b28_158, b28_164, b28_169, b28_171, b28_177, b28_182, b28_184, b28_193, b28_196, b28_201, b28_203, b27_0, b27_4, b27_9, b27_13, b25_0, b25_5, b25_10, b25_14, c1, c2, c3, c4, xrd_ne, xrd_eq, xrd_n2, xrd_J, xrd_K, xsimp_1, xsimp_2, xtl, xtl0, xbit_0, xbit_1, exists_eq_left, and_assoc, exists_and_left, if_true, if_false, true_and, and_true, not_true, not_false_iff, x6, Int32.neg_neg, x01, x11, x21, x31, x41, x51, xn1, xn2, xn3, xn4, xn5, xn6, xn7, xv1, xv2, xv3, xv4, xv5, xv6, xv7]
        · skip
          by_cases c5 : (v2 : Int32) = 111
          · skip
            simp (decide := true) only [p28, b28_0, b28_8, b28_11, b28_18, b28_64, b28_70, b28_74, b28_80, b28_84, b28_86, b28_96, b28_100, b28_102, b28_108, b28_112, b28_114, b28_124, b28_128, b28_132, b28_136, b28_138, b28_143, b28_158, b28_164, b28_169, b28_171, b28_177, b28_182, b28_184, b28_193, b28_196, b28_201, b28_203, b27_0, b27_4, b27_9, b27_13, b25_0, b25_5, b25_10, b25_14, c1, c2, c3, c4, c5, xrd_ne, xrd_eq, xrd_n2, xrd_J, xrd_K, xsimp_1, xsimp_2, xtl, xtl0, xbit_0, xbit_1, exists_eq_left, and_assoc, exists_and_left, if_true, if_false, true_and, and_true, not_true, not_false_iff, x6, Int32.neg_neg, x01, x11, x21, x31, x41, x51, xn1, xn2, xn3, xn4, xn5, xn6, xn7, xv1, xv2, xv3, xv4, xv5, xv6, xv7]
          · skip
            simp (decide := true) only [p28, b28_0, b28_8, b28_11, b28_18, b28_64, b28_70, b28_74, b28_80, b28_84, b28_86, b28_96, b28_100, b28_102, b28_108, b28_112, b28_114, b28_124, b28_128, b28_132, b28_136, b28_138, b28_143, b28_158, b28_164, b28_169, b28_171, b28_177, b28_182, b28_184, b28_193, b28_196, b28_201, b28_203, b27_0, b27_4, b27_9, b27_13, b25_0, b25_5, b25_10, b25_14, c1, c2, c3, c4, c5, xrd_ne, xrd_eq, xrd_n2, xrd_J, xrd_K, xsimp_1, xsimp_2, xtl, xtl0, xbit_0, xbit_1, exists_eq_left, and_assoc, exists_and_left, if_true, if_false, true_and, and_true, not_true, not_false_iff, x6, Int32.neg_neg, x01, x11, x21, x31, x41, x51, xn1, xn2, xn3, xn4, xn5, xn6, xn7, xv1, xv2, xv3, xv4, xv5, xv6, xv7]
      · skip
        by_cases c4 : (v1 : Int32) = 1
        · skip
          simp (decide := true) only [p28, b28_0, b28_8, b28_11, b28_18, b28_64, b28_70, b28_74, b28_80, b28_84, b28_86, b28_96, b28_100, b28_102, b28_108, b28_112, b28_114, b28_124, b28_128, b28_132, b28_136, b28_138, b28_143, b28_158, b28_164, b28_169, b28_171, b28_177, b28_182, b28_184, b28_193, b28_196, b28_201, b28_203, b27_0, b27_4, b27_9, b27_13, b25_0, b25_5, b25_10, b25_14, c1, c2, c3, c4, xrd_ne, xrd_eq, xrd_n2, xrd_J, xrd_K, xsimp_1, xsimp_2, xtl, xtl0, xbit_0, xbit_1, exists_eq_left, and_assoc, exists_and_left, if_true, if_false, true_and, and_true, not_true, not_false_iff, x6, Int32.neg_neg, x01, x11, x21, x31, x41, x51, xn1, xn2, xn3, xn4, xn5, xn6, xn7, xv1, xv2, xv3, xv4, xv5, xv6, xv7]
        · skip
          by_cases c5 : (v1 : Int32) = 2
          · skip
            by_cases c6 : (v2 : Int32) = 109
            · skip
              simp (decide := true) only [p28, b28_0, b28_8, b28_11, b28_18, b28_64, b28_70, b28_74, b28_80, b28_84, b28_86, b28_96, b28_100, b28_102, b28_108, b28_112, b28_114, b28_124, b28_128, b28_132, b28_136, b28_138, b28_143, b28_158, b28_164, b28_169, b28_171, b28_177, b28_182, b28_184, b28_193, b28_196, b28_201, b28_203, b27_0, b27_4, b27_9, b27_13, b25_0, b25_5, b25_10, b25_14, c1, c2, c3, c4, c5, c6, xrd_ne, xrd_eq, xrd_n2, xrd_J, xrd_K, xsimp_1, xsimp_2, xtl, xtl0, xbit_0, xbit_1, exists_eq_left, and_assoc, exists_and_left, if_true, if_false, true_and, and_true, not_true, not_false_iff, x6, Int32.neg_neg, x01, x11, x21, x31, x41, x51, xn1, xn2, xn3, xn4, xn5, xn6, xn7, xv1, xv2, xv3, xv4, xv5, xv6, xv7]
            · skip
              simp (decide := true) only [p28, b28_0, b28_8, b28_11, b28_18, b28_64, b28_70, b28_74, b28_80, b28_84, b28_86, b28_96, b28_100, b28_102, b28_108, b28_112, b28_114, b28_124, b28_128, b28_132, b28_136, b28_138, b28_143, b28_158, b28_164, b28_169, b28_171, b28_177, b28_182, b28_184, b28_193, b28_196, b28_201, b28_203, b27_0, b27_4, b27_9, b27_13, b25_0, b25_5, b25_10, b25_14, c1, c2, c3, c4, c5, c6, xrd_ne, xrd_eq, xrd_n2, xrd_J, xrd_K, xsimp_1, xsimp_2, xtl, xtl0, xbit_0, xbit_1, exists_eq_left, and_assoc, exists_and_left, if_true, if_false, true_and, and_true, not_true, not_false_iff, x6, Int32.neg_neg, x01, x11, x21, x31, x41, x51, xn1, xn2, xn3, xn4, xn5, xn6, xn7, xv1, xv2, xv3, xv4, xv5, xv6, xv7]
          · skip
            by_cases c6 : (v1 : Int32) = 3
            · skip
              simp (decide := true) only [p28, b28_0, b28_8, b28_11, b28_18, b28_64, b28_70, b28_74, b28_80, b28_84, b28_86, b28_96, b28_100, b28_102, b28_108, b28_112, b28_114, b28_124, b28_128, b28_132, b28_136, b28_138, b28_143, b28_158, b28_164, b28_169, b28_171, b28_177, b28_182, b28_184, b28_193, b28_196, b28_201, b28_203, b27_0, b27_4, b27_9, b27_13, b25_0, b25_5, b25_10, b25_14, c1, c2, c3, c4, c5, c6, xrd_ne, xrd_eq, xrd_n2, xrd_J, xrd_K, xsimp_1, xsimp_2, xtl, xtl0, xbit_0, xbit_1, exists_eq_left, and_assoc, exists_and_left, if_true, if_false, true_and, and_true, not_true, not_false_iff, x6, Int32.neg_neg, x01, x11, x21, x31, x41, x51, xn1, xn2, xn3, xn4, xn5, xn6, xn7, xv1, xv2, xv3, xv4, xv5, xv6, xv7]
            · skip
              by_cases c7 : (v1 : Int32) = 4
              · skip
                by_cases c8 : (v2 : Int32) = 102
                · skip
                  simp (decide := true) only [p28, b28_0, b28_8, b28_11, b28_18, b28_64, b28_70, b28_74, b28_80, b28_84, b28_86, b28_96, b28_100, b28_102, b28_108, b28_112, b28_114, b28_124, b28_128, b28_132, b28_136, b28_138, b28_143, b28_158, b28_164, b28_169, b28_171, b28_177, b28_182, b28_184, b28_193, b28_196, b28_201, b28_203, b27_0, b27_4, b27_9, b27_13, b25_0, b25_5, b25_10, b25_14, c1, c2, c3, c4, c5, c6, c7, c8, xrd_ne, xrd_eq, xrd_n2, xrd_J, xrd_K, xsimp_1, xsimp_2, xtl, xtl0, xbit_0, xbit_1, exists_eq_left, and_assoc, exists_and_left, if_true, if_false, true_and, and_true, not_true, not_false_iff, x6, Int32.neg_neg, x01, x11, x21, x31, x41, x51, xn1, xn2, xn3, xn4, xn5, xn6, xn7, xv1, xv2, xv3, xv4, xv5, xv6, xv7]
                · skip
                  simp (decide := true) only [p28, b28_0, b28_8, b28_11, b28_18, b28_64, b28_70, b28_74, b28_80, b28_84, b28_86, b28_96, b28_100, b28_102, b28_108, b28_112, b28_114, b28_124, b28_128, b28_132, b28_136, b28_138, b28_143, b28_158, b28_164, b28_169, b28_171, b28_177, b28_182, b28_184, b28_193, b28_196, b28_201, b28_203, b27_0, b27_4, b27_9, b27_13, b25_0, b25_5, b25_10, b25_14, c1, c2, c3, c4, c5, c6, c7, c8, xrd_ne, xrd_eq, xrd_n2, xrd_J, xrd_K, xsimp_1, xsimp_2, xtl, xtl0, xbit_0, xbit_1, exists_eq_left, and_assoc, exists_and_left, if_true, if_false, true_and, and_true, not_true, not_false_iff, x6, Int32.neg_neg, x01, x11, x21, x31, x41, x51, xn1, xn2, xn3, xn4, xn5, xn6, xn7, xv1, xv2, xv3, xv4, xv5, xv6, xv7]
              · skip
                by_cases c8 : (v1 : Int32) = 5
                · skip
                  by_cases c9 : (v2 : Int32) = 102
                  · skip
                    simp (decide := true) only [p28, b28_0, b28_8, b28_11, b28_18, b28_64, b28_70, b28_74, b28_80, b28_84, b28_86, b28_96, b28_100, b28_102, b28_108, b28_112, b28_114, b28_124, b28_128, b28_132, b28_136, b28_138, b28_143, b28_158, b28_164, b28_169, b28_171, b28_177, b28_182, b28_184, b28_193, b28_196, b28_201, b28_203, b27_0, b27_4, b27_9, b27_13, b25_0, b25_5, b25_10, b25_14, c1, c2, c3, c4, c5, c6, c7, c8, c9, xrd_ne, xrd_eq, xrd_n2, xrd_J, xrd_K, xsimp_1, xsimp_2, xtl, xtl0, xbit_0, xbit_1, exists_eq_left, and_assoc, exists_and_left, if_true, if_false, true_and, and_true, not_true, not_false_iff, x6, Int32.neg_neg, x01, x11, x21, x31, x41, x51, xn1, xn2, xn3, xn4, xn5, xn6, xn7, xv1, xv2, xv3, xv4, xv5, xv6, xv7]
                  · skip
                    simp (decide := true) only [p28, b28_0, b28_8, b28_11, b28_18, b28_64, b28_70, b28_74, b28_80, b28_84, b28_86, b28_96, b28_100, b28_102, b28_108, b28_112, b28_114, b28_124, b28_128, b28_132, b28_136, b28_138, b28_143, b28_158, b28_164, b28_169, b28_171, b28_177, b28_182, b28_184, b28_193, b28_196, b28_201, b28_203, b27_0, b27_4, b27_9, b27_13, b25_0, b25_5, b25_10, b25_14, c1, c2, c3, c4, c5, c6, c7, c8, c9, xrd_ne, xrd_eq, xrd_n2, xrd_J, xrd_K, xsimp_1, xsimp_2, xtl, xtl0, xbit_0, xbit_1, exists_eq_left, and_assoc, exists_and_left, if_true, if_false, true_and, and_true, not_true, not_false_iff, x6, Int32.neg_neg, x01, x11, x21, x31, x41, x51, xn1, xn2, xn3, xn4, xn5, xn6, xn7, xv1, xv2, xv3, xv4, xv5, xv6, xv7]
                · skip
                  by_cases c9 : (v1 : Int32) = 6
                  · skip
                    simp (decide := true) only [p28, b28_0, b28_8, b28_11, b28_18, b28_64, b28_70, b28_74, b28_80, b28_84, b28_86, b28_96, b28_100, b28_102, b28_108, b28_112, b28_114, b28_124, b28_128, b28_132, b28_136, b28_138, b28_143, b28_158, b28_164, b28_169, b28_171, b28_177, b28_182, b28_184, b28_193, b28_196, b28_201, b28_203, b27_0, b27_4, b27_9, b27_13, b25_0, b25_5, b25_10, b25_14, c1, c2, c3, c4, c5, c6, c7, c8, c9, xrd_ne, xrd_eq, xrd_n2, xrd_J, xrd_K, xsimp_1, xsimp_2, xtl, xtl0, xbit_0, xbit_1, exists_eq_left, and_assoc, exists_and_left, if_true, if_false, true_and, and_true, not_true, not_false_iff, x6, Int32.neg_neg, x01, x11, x21, x31, x41, x51, xn1, xn2, xn3, xn4, xn5, xn6, xn7, xv1, xv2, xv3, xv4, xv5, xv6, xv7]
                  · skip
                    simp (decide := true) only [p28, b28_0, b28_8, b28_11, b28_18, b28_64, b28_70, b28_74, b28_80, b28_84, b28_86, b28_96, b28_100, b28_102, b28_108, b28_112, b28_114, b28_124, b28_128, b28_132, b28_136, b28_138, b28_143, b28_158, b28_164, b28_169, b28_171, b28_177, b28_182, b28_184, b28_193, b28_196, b28_201, b28_203, b27_0, b27_4, b27_9, b27_13, b25_0, b25_5, b25_10, b25_14, c1, c2, c3, c4, c5, c6, c7, c8, c9, xrd_ne, xrd_eq, xrd_n2, xrd_J, xrd_K, xsimp_1, xsimp_2, xtl, xtl0, xbit_0, xbit_1, exists_eq_left, and_assoc, exists_and_left, if_true, if_false, true_and, and_true, not_true, not_false_iff, x6, Int32.neg_neg, x01, x11, x21, x31, x41, x51, xn1, xn2, xn3, xn4, xn5, xn6, xn7, xv1, xv2, xv3, xv4, xv5, xv6, xv7]
    · skip
      by_cases c3 : (v1 : Int32) = 0
      · skip
        by_cases c4 : (v2 : Int32) = 97
        · skip
          simp (decide := true) only [p28, b28_0, b28_8, b28_11, b28_18, b28_64, b28_70, b28_74, b28_80, b28_84, b28_86, b28_96, b28_100, b28_102, b28_108, b28_112, b28_114, b28_124, b28_128, b28_132, b28_136, b28_138, b28_143, b28_158, b28_164, b28_169, b28_171, b28_177, b28_182, b28_184, b28_193, b28_196, b28_201, b28_203, b27_0, b27_4, b27_9, b27_13, b25_0, b25_5, b25_10, b25_14, c1, c2, c3, c4, xrd_ne, xrd_eq, xrd_n2, xrd_J, xrd_K, xsimp_1, xsimp_2, xtl, xtl0, xbit_0, xbit_1, exists_eq_left, and_assoc, exists_and_left, if_true, if_false, true_and, and_true, not_true, not_false_iff, x6, Int32.neg_neg, x01, x11, x21, x31, x41, x51, xn1, xn2, xn3, xn4, xn5, xn6, xn7, xv1, xv2, xv3, xv4, xv5, xv6, xv7]
        · skip
          by_cases c5 : (v2 : Int32) = 111
          · skip
            simp (decide := true) only [p28, b28_0, b28_8, b28_11, b28_18, b28_64, b28_70, b28_74, b28_80, b28_84, b28_86, b28_96, b28_100, b28_102, b28_108, b28_112, b28_114, b28_124, b28_128, b28_132, b28_136, b28_138, b28_143, b28_158, b28_164, b28_169, b28_171, b28_177, b28_182, b28_184, b28_193, b28_196, b28_201, b28_203, b27_0, b27_4, b27_9, b27_13, b25_0, b25_5, b25_10, b25_14, c1, c2, c3, c4, c5, xrd_ne, xrd_eq, xrd_n2, xrd_J, xrd_K, xsimp_1, xsimp_2, xtl, xtl0, xbit_0, xbit_1, exists_eq_left, and_assoc, exists_and_left, if_true, if_false, true_and, and_true, not_true, not_false_iff, x6, Int32.neg_neg, x01, x11, x21, x31, x41, x51, xn1, xn2, xn3, xn4, xn5, xn6, xn7, xv1, xv2, xv3, xv4, xv5, xv6, xv7]
          · skip
            simp (decide := true) only [p28, b28_0, b28_8, b28_11, b28_18, b28_64, b28_70, b28_74, b28_80, b28_84, b28_86, b28_96, b28_100, b28_102, b28_108, b28_112, b28_114, b28_124, b28_128, b28_132, b28_136, b28_138, b28_143, b28_158, b28_164, b28_169, b28_171, b28_177, b28_182, b28_184, b28_193, b28_196, b28_201, b28_203, b27_0, b27_4, b27_9, b27_13, b25_0, b25_5, b25_10, b25_14, c1, c2, c3, c4, c5, xrd_ne, xrd_eq, xrd_n2, xrd_J, xrd_K, xsimp_1, xsimp_2, xtl, xtl0, xbit_0, xbit_1, exists_eq_left, and_assoc, exists_and_left, if_true, if_false, true_and, and_true, not_true, not_false_iff, x6, Int32.neg_neg, x01, x11, x21, x31, x41, x51, xn1, xn2, xn3, xn4, xn5, xn6, xn7, xv1, xv2, xv3, xv4, xv5, xv6, xv7]
      · skip
        by_cases c4 : (v1 : Int32) = 1
        · skip
          by_cases c5 : ((v2 - 48) : Int32) = (-1)
          · skip
            simp (decide := true) only [p28, b28_0, b28_8, b28_11, b28_18, b28_64, b28_70, b28_74, b28_80, b28_84, b28_86, b28_96, b28_100, b28_102, b28_108, b28_112, b28_114, b28_124, b28_128, b28_132, b28_136, b28_138, b28_143, b28_158, b28_164, b28_169, b28_171, b28_177, b28_182, b28_184, b28_193, b28_196, b28_201, b28_203, b27_0, b27_4, b27_9, b27_13, b25_0, b25_5, b25_10, b25_14, c1, c2, c3, c4, c5, xrd_ne, xrd_eq, xrd_n2, xrd_J, xrd_K, xsimp_1, xsimp_2, xtl, xtl0, xbit_0, xbit_1, exists_eq_left, and_assoc, exists_and_left, if_true, if_false, true_and, and_true, not_true, not_false_iff, x6, Int32.neg_neg, x01, x11, x21, x31, x41, x51, xn1, xn2, xn3, xn4, xn5, xn6, xn7, xv1, xv2, xv3, xv4, xv5, xv6, xv7]
          · skip
            simp (decide := true) only [p28, b28_0, b28_8, b28_11, b28_18, b28_64, b28_70, b28_74, b28_80, b28_84, b28_86, b28_96, b28_100, b28_102, b28_108, b28_112, b28_114, b28_124, b28_128, b28_132, b28_136, b28_138, b28_143, b28_158, b28_164, b28_169, b28_171, b28_177, b28_182, b28_184, b28_193, b28_196, b28_201, b28_203, b27_0, b27_4, b27_9, b27_13, b25_0, b25_5, b25_10, b25_14, c1, c2, c3, c4, c5, xrd_ne, xrd_eq, xrd_n2, xrd_J, xrd_K, xsimp_1, xsimp_2, xtl, xtl0, xbit_0, xbit_1, exists_eq_left, and_assoc, exists_and_left, if_true, if_false, true_and, and_true, not_true, not_false_iff, x6, Int32.neg_neg, x01, x11, x21, x31, x41, x51, xn1, xn2, xn3, xn4, xn5, xn6, xn7, xv1, xv2, xv3, xv4, xv5, xv6, xv7]
        · skip
          by_cases c5 : (v1 : Int32) = 2
          · skip
            by_cases c6 : (v2 : Int32) = 109
            · skip
              simp (decide := true) only [p28, b28_0, b28_8, b28_11, b28_18, b28_64, b28_70, b28_74, b28_80, b28_84, b28_86, b28_96, b28_100, b28_102, b28_108, b28_112, b28_114, b28_124, b28_128, b28_132, b28_136, b28_138, b28_143, b28_158, b28_164, b28_169, b28_171, b28_177, b28_182, b28_184, b28_193, b28_196, b28_201, b28_203, b27_0, b27_4, b27_9, b27_13, b25_0, b25_5, b25_10, b25_14, c1, c2, c3, c4, c5, c6, xrd_ne, xrd_eq, xrd_n2, xrd_J, xrd_K, xsimp_1, xsimp_2, xtl, xtl0, xbit_0, xbit_1, exists_eq_left, and_assoc, exists_and_left, if_true, if_false, true_and, and_true, not_true, not_false_iff, x6, Int32.neg_neg, x01, x11, x21, x31, x41, x51, xn1, xn2, xn3, xn4, xn5, xn6, xn7, xv1, xv2, xv3, xv4, xv5, xv6, xv7]
            · skip
              simp (decide := true) only [p28, b28_0, b28_8, b28_11, b28_18, b28_64, b28_70, b28_74, b28_80, b28_84, b28_86, b28_96, b28_100, b28_102, b28_108, b28_112, b28_114, b28_124, b28_128, b28_132, b28_136, b28_138, b28_143, b28_158, b28_164, b28_169, b28_171, b28_177, b28_182, b28_184, b28_193, b28_196, b28_201, b28_203, b27_0, b27_4, b27_9, b27_13, b25_0, b25_5, b25_10, b25_14, c1, c2, c3, c4, c5, c6, xrd_ne, xrd_eq, xrd_n2, xrd_J, xrd_K, xsimp_1, xsimp_2, xtl, xtl0, xbit_0, xbit_1, exists_eq_left, and_assoc, exists_and_left, if_true, if_false, true_and, and_true, not_true, not_false_iff, x6, Int32.neg_neg, x01, x11, x21, x31, x41, x51, xn1, xn2, xn3, xn4, xn5, xn6, xn7, xv1, xv2, xv3, xv4, xv5, xv6, xv7]
          · skip
            by_cases c6 : (v1 : Int32) = 3
            · skip
              by_cases c7 : ((v2 - 48) : Int32) = (-1)
              · skip
                simp (decide := true) only [p28, b28_0, b28_8, b28_11, b28_18, b28_64, b28_70, b28_74, b28_80, b28_84, b28_86, b28_96, b28_100, b28_102, b28_108, b28_112, b28_114, b28_124, b28_128, b28_132, b28_136, b28_138, b28_143, b28_158, b28_164, b28_169, b28_171, b28_177, b28_182, b28_184, b28_193, b28_196, b28_201, b28_203, b27_0, b27_4, b27_9, b27_13, b25_0, b25_5, b25_10, b25_14, c1, c2, c3, c4, c5, c6, c7, xrd_ne, xrd_eq, xrd_n2, xrd_J, xrd_K, xsimp_1, xsimp_2, xtl, xtl0, xbit_0, xbit_1, exists_eq_left, and_assoc, exists_and_left, if_true, if_false, true_and, and_true, not_true, not_false_iff, x6, Int32.neg_neg, x01, x11, x21, x31, x41, x51, xn1, xn2, xn3, xn4, xn5, xn6, xn7, xv1, xv2, xv3, xv4, xv5, xv6, xv7]
              · skip
                by_cases c8 : ((v2 - 48) : Int32) = 0
                · skip
                  simp (decide := true) only [p28, b28_0, b28_8, b28_11, b28_18, b28_64, b28_70, b28_74, b28_80, b28_84, b28_86, b28_96, b28_100, b28_102, b28_108, b28_112, b28_114, b28_124, b28_128, b28_132, b28_136, b28_138, b28_143, b28_158, b28_164, b28_169, b28_171, b28_177, b28_182, b28_184, b28_193, b28_196, b28_201, b28_203, b27_0, b27_4, b27_9, b27_13, b25_0, b25_5, b25_10, b25_14, c1, c2, c3, c4, c5, c6, c7, c8, xrd_ne, xrd_eq, xrd_n2, xrd_J, xrd_K, xsimp_1, xsimp_2, xtl, xtl0, xbit_0, xbit_1, exists_eq_left, and_assoc, exists_and_left, if_true, if_false, true_and, and_true, not_true, not_false_iff, x6, Int32.neg_neg, x01, x11, x21, x31, x41, x51, xn1, xn2, xn3, xn4, xn5, xn6, xn7, xv1, xv2, xv3, xv4, xv5, xv6, xv7]
                · skip
                  simp (decide := true) only [p28, b28_0, b28_8, b28_11, b28_18, b28_64, b28_70, b28_74, b28_80, b28_84, b28_86, b28_96, b28_100, b28_102, b28_108, b28_112, b28_114, b28_124, b28_128, b28_132, b28_136, b28_138, b28_143, b28_158, b28_164, b28_169, b28_171, b28_177, b28_182, b28_184, b28_193, b28_196, b28_201, b28_203, b27_0, b27_4, b27_9, b27_13, b25_0, b25_5, b25_10, b25_14, c1, c2, c3, c4, c5, c6, c7, c8, xrd_ne, xrd_eq, xrd_n2, xrd_J, xrd_K, xsimp_1, xsimp_2, xtl, xtl0, xbit_0, xbit_1, exists_eq_left, and_assoc, exists_and_left, if_true, if_false, true_and, and_true, not_true, not_false_iff, x6, Int32.neg_neg, x01, x11, x21, x31, x41, x51, xn1, xn2, xn3, xn4, xn5, xn6, xn7, xv1, xv2, xv3, xv4, xv5, xv6, xv7]
            · skip
              by_cases c7 : (v1 : Int32) = 4
              · skip
                by_cases c8 : ((v2 - 48) : Int32) = (-1)
                · skip
                  by_cases c9 : (v2 : Int32) = 102
                  · skip
                    simp (decide := true) only [p28, b28_0, b28_8, b28_11, b28_18, b28_64, b28_70, b28_74, b28_80, b28_84, b28_86, b28_96, b28_100, b28_102, b28_108, b28_112, b28_114, b28_124, b28_128, b28_132, b28_136, b28_138, b28_143, b28_158, b28_164, b28_169, b28_171, b28_177, b28_182, b28_184, b28_193, b28_196, b28_201, b28_203, b27_0, b27_4, b27_9, b27_13, b25_0, b25_5, b25_10, b25_14, c1, c2, c3, c4, c5, c6, c7, c8, c9, xrd_ne, xrd_eq, xrd_n2, xrd_J, xrd_K, xsimp_1, xsimp_2, xtl, xtl0, xbit_0, xbit_1, exists_eq_left, and_assoc, exists_and_left, if_true, if_false, true_and, and_true, not_true, not_false_iff, x6, Int32.neg_neg, x01, x11, x21, x31, x41, x51, xn1, xn2, xn3, xn4, xn5, xn6, xn7, xv1, xv2, xv3, xv4, xv5, xv6, xv7]
                  · skip
                    simp (decide := true) only [p28, b28_0, b28_8, b28_11, b28_18, b28_64, b28_70, b28_74, b28_80, b28_84, b28_86, b28_96, b28_100, b28_102, b28_108, b28_112, b28_114, b28_124, b28_128, b28_132, b28_136, b28_138, b28_143, b28_158, b28_164, b28_169, b28_171, b28_177, b28_182, b28_184, b28_193, b28_196, b28_201, b28_203, b27_0, b27_4, b27_9, b27_13, b25_0, b25_5, b25_10, b25_14, c1, c2, c3, c4, c5, c6, c7, c8, c9, xrd_ne, xrd_eq, xrd_n2, xrd_J, xrd_K, xsimp_1, xsimp_2, xtl, xtl0, xbit_0, xbit_1, exists_eq_left, and_assoc, exists_and_left, if_true, if_false, true_and, and_true, not_true, not_false_iff, x6, Int32.neg_neg, x01, x11, x21, x31, x41, x51, xn1, xn2, xn3, xn4, xn5, xn6, xn7, xv1, xv2, xv3, xv4, xv5, xv6, xv7]
                · skip
                  simp (decide := true) only [p28, b28_0, b28_8, b28_11, b28_18, b28_64, b28_70, b28_74, b28_80, b28_84, b28_86, b28_96, b28_100, b28_102, b28_108, b28_112, b28_114, b28_124, b28_128, b28_132, b28_136, b28_138, b28_143, b28_158, b28_164, b28_169, b28_171, b28_177, b28_182, b28_184, b28_193, b28_196, b28_201, b28_203, b27_0, b27_4, b27_9, b27_13, b25_0, b25_5, b25_10, b25_14, c1, c2, c3, c4, c5, c6, c7, c8, xrd_ne, xrd_eq, xrd_n2, xrd_J, xrd_K, xsimp_1, xsimp_2, xtl, xtl0, xbit_0, xbit_1, exists_eq_left, and_assoc, exists_and_left, if_true, if_false, true_and, and_true, not_true, not_false_iff, x6, Int32.neg_neg, x01, x11, x21, x31, x41, x51, xn1, xn2, xn3, xn4, xn5, xn6, xn7, xv1, xv2, xv3, xv4, xv5, xv6, xv7]
              · skip
                by_cases c8 : (v1 : Int32) = 5
                · skip
                  by_cases c9 : (v2 : Int32) = 102
                  · skip
                    simp (decide := true) only [p28, b28_0, b28_8, b28_11, b28_18, b28_64, b28_70, b28_74, b28_80, b28_84, b28_86, b28_96, b28_100, b28_102, b28_108, b28_112, b28_114, b28_124, b28_128, b28_132, b28_136, b28_138, b28_143, b28_158, b28_164, b28_169, b28_171, b28_177, b28_182, b28_184, b28_193, b28_196, b28_201, b28_203, b27_0, b27_4, b27_9, b27_13, b25_0, b25_5, b25_10, b25_14, c1, c2, c3, c4, c5, c6, c7, c8, c9, xrd_ne, xrd_eq, xrd_n2, xrd_J, xrd_K, xsimp_1, xsimp_2, xtl, xtl0, xbit_0, xbit_1, exists_eq_left, and_assoc, exists_and_left, if_true, if_false, true_and, and_true, not_true, not_false_iff, x6, Int32.neg_neg, x01, x11, x21, x31, x41, x51, xn1, xn2, xn3, xn4, xn5, xn6, xn7, xv1, xv2, xv3, xv4, xv5, xv6, xv7]
                  · skip
                    simp (decide := true) only [p28, b28_0, b28_8, b28_11, b28_18, b28_64, b28_70, b28_74, b28_80, b28_84, b28_86, b28_96, b28_100, b28_102, b28_108, b28_112, b28_114, b28_124, b28_128, b28_132, b28_136, b28_138, b28_143, b28_158, b28_164, b28_169, b28_171, b28_177, b28_182, b28_184, b28_193, b28_196, b28_201, b28_203, b27_0, b27_4, b27_9, b27_13, b25_0, b25_5, b25_10, b25_14, c1, c2, c3, c4, c5, c6, c7, c8, c9, xrd_ne, xrd_eq, xrd_n2, xrd_J, xrd_K, xsimp_1, xsimp_2, xtl, xtl0, xbit_0, xbit_1, exists_eq_left, and_assoc, exists_and_left, if_true, if_false, true_and, and_true, not_true, not_false_iff, x6, Int32.neg_neg, x01, x11, x21, x31, x41, x51, xn1, xn2, xn3, xn4, xn5, xn6, xn7, xv1, xv2, xv3, xv4, xv5, xv6, xv7]
                · skip
                  by_cases c9 : (v1 : Int32) = 6
                  · skip
                    by_cases c10 : ((v2 - 48) : Int32) < 0
                    · skip
                      simp (decide := true) only [p28, b28_0, b28_8, b28_11, b28_18, b28_64, b28_70, b28_74, b28_80, b28_84, b28_86, b28_96, b28_100, b28_102, b28_108, b28_112, b28_114, b28_124, b28_128, b28_132, b28_136, b28_138, b28_143, b28_158, b28_164, b28_169, b28_171, b28_177, b28_182, b28_184, b28_193, b28_196, b28_201, b28_203, b27_0, b27_4, b27_9, b27_13, b25_0, b25_5, b25_10, b25_14, c1, c2, c3, c4, c5, c6, c7, c8, c9, c10, xrd_ne, xrd_eq, xrd_n2, xrd_J, xrd_K, xsimp_1, xsimp_2, xtl, xtl0, xbit_0, xbit_1, exists_eq_left, and_assoc, exists_and_left, if_true, if_false, true_and, and_true, not_true, not_false_iff, x6, Int32.neg_neg, x01, x11, x21, x31, x41, x51, xn1, xn2, xn3, xn4, xn5, xn6, xn7, xv1, xv2, xv3, xv4, xv5, xv6, xv7]
                    · skip
                      by_cases c11 : ((v2 - 48) : Int32) < 5
                      · skip
                        simp (decide := true) only [p28, b28_0, b28_8, b28_11, b28_18, b28_64, b28_70, b28_74, b28_80, b28_84, b28_86, b28_96, b28_100, b28_102, b28_108, b28_112, b28_114, b28_124, b28_128, b28_132, b28_136, b28_138, b28_143, b28_158, b28_164, b28_169, b28_171, b28_177, b28_182, b28_184, b28_193, b28_196, b28_201, b28_203, b27_0, b27_4, b27_9, b27_13, b25_0, b25_5, b25_10, b25_14, c1, c2, c3, c4, c5, c6, c7, c8, c9, c10, c11, xrd_ne, xrd_eq, xrd_n2, xrd_J, xrd_K, xsimp_1, xsimp_2, xtl, xtl0, xbit_0, xbit_1, exists_eq_left, and_assoc, exists_and_left, if_true, if_false, true_and, and_true, not_true, not_false_iff, x6, Int32.neg_neg, x01, x11, x21, x31, x41, x51, xn1, xn2, xn3, xn4, xn5, xn6, xn7, xv1, xv2, xv3, xv4, xv5, xv6, xv7]
                      · skip
                        simp (decide := true) only [p28, b28_0, b28_8, b28_11, b28_18, b28_64, b28_70, b28_74, b28_80, b28_84, b28_86, b28_96, b28_100, b28_102, b28_108, b28_112, b28_114, b28_124, b28_128, b28_132, b28_136, b28_138, b28_143, b28_158, b28_164, b28_169, b28_171, b28_177, b28_182, b28_184, b28_193, b28_196, b28_201, b28_203, b27_0, b27_4, b27_9, b27_13, b25_0, b25_5, b25_10, b25_14, c1, c2, c3, c4, c5, c6, c7, c8, c9, c10, c11, xrd_ne, xrd_eq, xrd_n2, xrd_J, xrd_K, xsimp_1, xsimp_2, xtl, xtl0, xbit_0, xbit_1, exists_eq_left, and_assoc, exists_and_left, if_true, if_false, true_and, and_true, not_true, not_false_iff, x6, Int32.neg_neg, x01, x11, x21, x31, x41, x51, xn1, xn2, xn3, xn4, xn5, xn6, xn7, xv1, xv2, xv3, xv4, xv5, xv6, xv7]
                  · skip
                    simp (decide := true) only [p28, b28_0, b28_8, b28_11, b28_18, b28_64, b28_70, b28_74, b28_80, b28_84, b28_86, b28_96, b28_100, b28_102, b28_108, b28_112, b28_114, b28_124, b28_128, b28_132, b28_136, b28_138, b28_143, b28_158, b28_164, b28_169, b28_171, b28_177, b28_182, b28_184, b28_193, b28_196, b28_201, b28_203, b27_0, b27_4, b27_9, b27_13, b25_0, b25_5, b25_10, b25_14, c1, c2, c3, c4, c5, c6, c7, c8, c9, xrd_ne, xrd_eq, xrd_n2, xrd_J, xrd_K, xsimp_1, xsimp_2, xtl, xtl0, xbit_0, xbit_1, exists_eq_left, and_assoc, exists_and_left, if_true, if_false, true_and, and_true, not_true, not_false_iff, x6, Int32.neg_neg, x01, x11, x21, x31, x41, x51, xn1, xn2, xn3, xn4, xn5, xn6, xn7, xv1, xv2, xv3, xv4, xv5, xv6, xv7]
/-- X3_enact -/
def p30 (S : xS) : Option Value × xS := (some (.int (S.1 19 0)), (xwI (xwI (xwI (xwI S 20 (S.1 19 0).toNatClampNeg (S.1 19 6)) 21 (S.1 19 0).toNatClampNeg (S.1 19 7)) 22 (S.1 19 0).toNatClampNeg (S.1 19 8)) 19 0 ((S.1 19 0) + 1)))
def g30 (S : xS) : Prop := (vp_in (S.1 19 0) 6 ∧ (vp_in (S.1 19 0) 6 ∧ (vp_in (S.1 19 0) 6 ∧ True)))
theorem t30 (d : Nat) (S : xS) (r : Option Value × xS) (h : g30 S) : xX d 30 0 [(0, .ref 19)] [] S r ↔ r = p30 S := by
  simp (decide := true) only [g30, xrd_ne, xrd_eq, xrd_n2, xrd_J, xrd_K, ite_true, ite_false, if_true, if_false, and_true, true_and] at h
  simp (decide := true) only [p30, b30_0, h, xrd_ne, xrd_eq, xrd_n2, xrd_J, xrd_K, xsimp_1, xsimp_2, xtl, xtl0, xbit_0, xbit_1, exists_eq_left, and_assoc, exists_and_left, if_true, if_false, true_and, and_true, not_true, not_false_iff, x6, Int32.neg_neg, x01, x11, x21, x31, x41, x51, xn1, xn2, xn3, xn4, xn5, xn6, xn7, xv1, xv2, xv3, xv4, xv5, xv6, xv7]
/-- X4_isLegal -/
def p34 (S : xS) (v1 : Int32) : Option Value × xS := if ((S.1 46 v1.toNatClampNeg) : Int32) < (S.1 42 v1.toNatClampNeg) then ((some (.int 0), S)) else (if ((S.1 41 10) : Int32) < (S.1 43 v1.toNatClampNeg) then ((some (.int 0), S)) else (if ((S.1 47 v1.toNatClampNeg) : Int32) < (S.1 44 v1.toNatClampNeg) then ((some (.int 0), S)) else (if ((S.1 48 v1.toNatClampNeg) : Int32) < (S.1 45 v1.toNatClampNeg) then ((some (.int 0), S)) else ((some (.int 1), S)))))
def g34 (S : xS) (v1 : Int32) : Prop := (vp_in v1 5 ∧ (vp_in v1 5 ∧ (if ((S.1 46 v1.toNatClampNeg) : Int32) < (S.1 42 v1.toNatClampNeg) then True else (vp_in v1 5 ∧ (if ((S.1 41 10) : Int32) < (S.1 43 v1.toNatClampNeg) then True else (vp_in v1 5 ∧ (vp_in v1 5 ∧ (if ((S.1 47 v1.toNatClampNeg) : Int32) < (S.1 44 v1.toNatClampNeg) then True else (vp_in v1 5 ∧ (vp_in v1 5 ∧ True))))))))))
theorem t34 (d : Nat) (v1 : Int32) (S : xS) (r : Option Value × xS) (h : g34 S v1) : xX d 34 0 [(0, .ref 41), (1, .int v1)] [] S r ↔ r = p34 S v1 := by
  by_cases c1 : ((S.1 46 v1.toNatClampNeg) : Int32) < (S.1 42 v1.toNatClampNeg)
  · skip
    simp (decide := true) only [g34, c1, xrd_ne, xrd_eq, xrd_n2, xrd_J, xrd_K, ite_true, ite_false, if_true, if_false, and_true, true_and] at h
    simp (decide := true) only [p34, b34_0, b34_15, b34_28, b34_43, b34_58, b34_62, c1, h, xrd_ne, xrd_eq, xrd_n2, xrd_J, xrd_K, xsimp_1, xsimp_2, xtl, xtl0, xbit_0, xbit_1, exists_eq_left, and_assoc, exists_and_left, if_true, if_false, true_and, and_true, not_true, not_false_iff, x6, Int32.neg_neg, x01, x11, x21, x31, x41, x51, xn1, xn2, xn3, xn4, xn5, xn6, xn7, xv1, xv2, xv3, xv4, xv5, xv6, xv7]
  · skip
    by_cases c2 : ((S.1 41 10) : Int32) < (S.1 43 v1.toNatClampNeg)
    · skip
      simp (decide := true) only [g34, c1, c2, xrd_ne, xrd_eq, xrd_n2, xrd_J, xrd_K, ite_true, ite_false, if_true, if_false, and_true, true_and] at h
      simp (decide := true) only [p34, b34_0, b34_15, b34_28, b34_43, b34_58, b34_62, c1, c2, h, xrd_ne, xrd_eq, xrd_n2, xrd_J, xrd_K, xsimp_1, xsimp_2, xtl, xtl0, xbit_0, xbit_1, exists_eq_left, and_assoc, exists_and_left, if_true, if_false, true_and, and_true, not_true, not_false_iff, x6, Int32.neg_neg, x01, x11, x21, x31, x41, x51, xn1, xn2, xn3, xn4, xn5, xn6, xn7, xv1, xv2, xv3, xv4, xv5, xv6, xv7]
    · skip
      by_cases c3 : ((S.1 47 v1.toNatClampNeg) : Int32) < (S.1 44 v1.toNatClampNeg)
      · skip
        simp (decide := true) only [g34, c1, c2, c3, xrd_ne, xrd_eq, xrd_n2, xrd_J, xrd_K, ite_true, ite_false, if_true, if_false, and_true, true_and] at h
        simp (decide := true) only [p34, b34_0, b34_15, b34_28, b34_43, b34_58, b34_62, c1, c2, c3, h, xrd_ne, xrd_eq, xrd_n2, xrd_J, xrd_K, xsimp_1, xsimp_2, xtl, xtl0, xbit_0, xbit_1, exists_eq_left, and_assoc, exists_and_left, if_true, if_false, true_and, and_true, not_true, not_false_iff, x6, Int32.neg_neg, x01, x11, x21, x31, x41, x51, xn1, xn2, xn3, xn4, xn5, xn6, xn7, xv1, xv2, xv3, xv4, xv5, xv6, xv7]
      · skip
        by_cases c4 : ((S.1 48 v1.toNatClampNeg) : Int32) < (S.1 45 v1.toNatClampNeg)
        · skip
          simp (decide := true) only [g34, c1, c2, c3, c4, xrd_ne, xrd_eq, xrd_n2, xrd_J, xrd_K, ite_true, ite_false, if_true, if_false, and_true, true_and] at h
          simp (decide := true) only [p34, b34_0, b34_15, b34_28, b34_43, b34_58, b34_62, c1, c2, c3, c4, h, xrd_ne, xrd_eq, xrd_n2, xrd_J, xrd_K, xsimp_1, xsimp_2, xtl, xtl0, xbit_0, xbit_1, exists_eq_left, and_assoc, exists_and_left, if_true, if_false, true_and, and_true, not_true, not_false_iff, x6, Int32.neg_neg, x01, x11, x21, x31, x41, x51, xn1, xn2, xn3, xn4, xn5, xn6, xn7, xv1, xv2, xv3, xv4, xv5, xv6, xv7]
        · skip
          simp (decide := true) only [g34, c1, c2, c3, c4, xrd_ne, xrd_eq, xrd_n2, xrd_J, xrd_K, ite_true, ite_false, if_true, if_false, and_true, true_and] at h
          simp (decide := true) only [p34, b34_0, b34_15, b34_28, b34_43, b34_58, b34_62, c1, c2, c3, c4, h, xrd_ne, xrd_eq, xrd_n2, xrd_J, xrd_K, xsimp_1, xsimp_2, xtl, xtl0, xbit_0, xbit_1, exists_eq_left, and_assoc, exists_and_left, if_true, if_false, true_and, and_true, not_true, not_false_iff, x6, Int32.neg_neg, x01, x11, x21, x31, x41, x51, xn1, xn2, xn3, xn4, xn5, xn6, xn7, xv1, xv2, xv3, xv4, xv5, xv6, xv7]
/-- X5_has -/
def p36 (S : xS) (v1 : Int32) : Option Value × xS := if (v1 : Int32) < 0 then ((some (.int 0), S)) else (if (((S.1 2 0) - 1) : Int32) < v1 then ((some (.int 0), S)) else ((some (.int 1), S)))
theorem t36 (d : Nat) (v1 : Int32) (S : xS) (r : Option Value × xS) : xX (d + 1) 36 0 [(0, .ref 2), (1, .int v1)] [] S r ↔ r = p36 S v1 := by
  by_cases c1 : (v1 : Int32) < 0
  · skip
    simp (decide := true) only [p36, b36_0, b36_11, b25_0, b25_5, b25_10, b25_14, c1, xrd_ne, xrd_eq, xrd_n2, xrd_J, xrd_K, xsimp_1, xsimp_2, xtl, xtl0, xbit_0, xbit_1, exists_eq_left, and_assoc, exists_and_left, if_true, if_false, true_and, and_true, not_true, not_false_iff, x6, Int32.neg_neg, x01, x11, x21, x31, x41, x51, xn1, xn2, xn3, xn4, xn5, xn6, xn7, xv1, xv2, xv3, xv4, xv5, xv6, xv7]
  · skip
    by_cases c2 : (((S.1 2 0) - 1) : Int32) < v1
    · skip
      simp (decide := true) only [p36, b36_0, b36_11, b25_0, b25_5, b25_10, b25_14, c1, c2, xrd_ne, xrd_eq, xrd_n2, xrd_J, xrd_K, xsimp_1, xsimp_2, xtl, xtl0, xbit_0, xbit_1, exists_eq_left, and_assoc, exists_and_left, if_true, if_false, true_and, and_true, not_true, not_false_iff, x6, Int32.neg_neg, x01, x11, x21, x31, x41, x51, xn1, xn2, xn3, xn4, xn5, xn6, xn7, xv1, xv2, xv3, xv4, xv5, xv6, xv7]
    · skip
      simp (decide := true) only [p36, b36_0, b36_11, b25_0, b25_5, b25_10, b25_14, c1, c2, xrd_ne, xrd_eq, xrd_n2, xrd_J, xrd_K, xsimp_1, xsimp_2, xtl, xtl0, xbit_0, xbit_1, exists_eq_left, and_assoc, exists_and_left, if_true, if_false, true_and, and_true, not_true, not_false_iff, x6, Int32.neg_neg, x01, x11, x21, x31, x41, x51, xn1, xn2, xn3, xn4, xn5, xn6, xn7, xv1, xv2, xv3, xv4, xv5, xv6, xv7]
/-- X5_add -/
def p37 (S : xS) (v1 : Int32) (v2 : Int32) : Option Value × xS := (some (.int (S.1 2 0)), (xwI (xwI (xwI (xwI S 3 (S.1 2 0).toNatClampNeg v1) 4 (S.1 2 0).toNatClampNeg v2) 5 (S.1 2 0).toNatClampNeg 5) 2 0 ((S.1 2 0) + 1)))
def g37 (S : xS) (v1 : Int32) (v2 : Int32) : Prop := (vp_in (S.1 2 0) 10 ∧ (vp_in (S.1 2 0) 10 ∧ (vp_in (S.1 2 0) 10 ∧ True)))
theorem t37 (d : Nat) (v1 : Int32) (v2 : Int32) (S : xS) (r : Option Value × xS) (h : g37 S v1 v2) : xX d 37 0 [(0, .ref 2), (1, .int v1), (2, .int v2)] [] S r ↔ r = p37 S v1 v2 := by
  simp (decide := true) only [g37, xrd_ne, xrd_eq, xrd_n2, xrd_J, xrd_K, ite_true, ite_false, if_true, if_false, and_true, true_and] at h
  simp (decide := true) only [p37, b37_0, h, xrd_ne, xrd_eq, xrd_n2, xrd_J, xrd_K, xsimp_1, xsimp_2, xtl, xtl0, xbit_0, xbit_1, exists_eq_left, and_assoc, exists_and_left, if_true, if_false, true_and, and_true, not_true, not_false_iff, x6, Int32.neg_neg, x01, x11, x21, x31, x41, x51, xn1, xn2, xn3, xn4, xn5, xn6, xn7, xv1, xv2, xv3, xv4, xv5, xv6, xv7]
/-- X5_bind -/
def p38 (S : xS) (v1 : Int32) (v2 : Int32) (v3 : Int32) : Option Value × xS := (some (.int (S.1 8 ((v1 * 10) + v2).toNatClampNeg)), (xwI (xwI S 8 ((v1 * 10) + v2).toNatClampNeg v3) 8 ((v2 * 10) + v1).toNatClampNeg v3))
def g38 (S : xS) (v1 : Int32) (v2 : Int32) (v3 : Int32) : Prop := (vp_in ((v1 * 10) + v2) 100 ∧ (vp_in ((v1 * 10) + v2) 100 ∧ (vp_in ((v2 * 10) + v1) 100 ∧ True)))
theorem t38 (d : Nat) (v1 : Int32) (v2 : Int32) (v3 : Int32) (S : xS) (r : Option Value × xS) (h : g38 S v1 v2 v3) : xX d 38 0 [(0, .ref 2), (1, .int v1), (2, .int v2), (3, .int v3)] [] S r ↔ r = p38 S v1 v2 v3 := by
  simp (decide := true) only [g38, xrd_ne, xrd_eq, xrd_n2, xrd_J, xrd_K, ite_true, ite_false, if_true, if_false, and_true, true_and] at h
  simp (decide := true) only [p38, b38_0, h, xrd_ne, xrd_eq, xrd_n2, xrd_J, xrd_K, xsimp_1, xsimp_2, xtl, xtl0, xbit_0, xbit_1, exists_eq_left, and_assoc, exists_and_left, if_true, if_false, true_and, and_true, not_true, not_false_iff, x6, Int32.neg_neg, x01, x11, x21, x31, x41, x51, xn1, xn2, xn3, xn4, xn5, xn6, xn7, xv1, xv2, xv3, xv4, xv5, xv6, xv7]
/-- X5_waveOf -/
def p39 (S : xS) (v1 : Int32) : Option Value × xS := if ((S.1 5 v1.toNatClampNeg) : Int32) = 5 then ((some (.int (-1)), S)) else ((some (.int (S.1 5 v1.toNatClampNeg)), S))
def g39 (S : xS) (v1 : Int32) : Prop := (vp_in v1 10 ∧ (if ((S.1 5 v1.toNatClampNeg) : Int32) = 5 then True else (vp_in v1 10 ∧ True)))
theorem t39 (d : Nat) (v1 : Int32) (S : xS) (r : Option Value × xS) (h : g39 S v1) : xX d 39 0 [(0, .ref 2), (1, .int v1)] [] S r ↔ r = p39 S v1 := by
  by_cases c1 : ((S.1 5 v1.toNatClampNeg) : Int32) = 5
  · skip
    simp (decide := true) only [g39, c1, xrd_ne, xrd_eq, xrd_n2, xrd_J, xrd_K, ite_true, ite_false, if_true, if_false, and_true, true_and] at h
    simp (decide := true) only [p39, b39_0, b39_10, b39_14, c1, h, xrd_ne, xrd_eq, xrd_n2, xrd_J, xrd_K, xsimp_1, xsimp_2, xtl, xtl0, xbit_0, xbit_1, exists_eq_left, and_assoc, exists_and_left, if_true, if_false, true_and, and_true, not_true, not_false_iff, x6, Int32.neg_neg, x01, x11, x21, x31, x41, x51, xn1, xn2, xn3, xn4, xn5, xn6, xn7, xv1, xv2, xv3, xv4, xv5, xv6, xv7]
  · skip
    simp (decide := true) only [g39, c1, xrd_ne, xrd_eq, xrd_n2, xrd_J, xrd_K, ite_true, ite_false, if_true, if_false, and_true, true_and] at h
    simp (decide := true) only [p39, b39_0, b39_10, b39_14, c1, h, xrd_ne, xrd_eq, xrd_n2, xrd_J, xrd_K, xsimp_1, xsimp_2, xtl, xtl0, xbit_0, xbit_1, exists_eq_left, and_assoc, exists_and_left, if_true, if_false, true_and, and_true, not_true, not_false_iff, x6, Int32.neg_neg, x01, x11, x21, x31, x41, x51, xn1, xn2, xn3, xn4, xn5, xn6, xn7, xv1, xv2, xv3, xv4, xv5, xv6, xv7]
/-- X5_assign -/
def p40 (S : xS) (v1 : Int32) (v2 : Int32) : Option Value × xS := if (v2 : Int32) = (-1) then ((none, (xwI S 5 v1.toNatClampNeg 5))) else ((none, (xwI S 5 v1.toNatClampNeg v2)))
def g40 (S : xS) (v1 : Int32) (v2 : Int32) : Prop := (if (v2 : Int32) = (-1) then (vp_in v1 10 ∧ True) else (vp_in v1 10 ∧ True))
theorem t40 (d : Nat) (v1 : Int32) (v2 : Int32) (S : xS) (r : Option Value × xS) (h : g40 S v1 v2) : xX d 40 0 [(0, .ref 2), (1, .int v1), (2, .int v2)] [] S r ↔ r = p40 S v1 v2 := by
  by_cases c1 : (v2 : Int32) = (-1)
  · skip
    simp (decide := true) only [g40, c1, xrd_ne, xrd_eq, xrd_n2, xrd_J, xrd_K, ite_true, ite_false, if_true, if_false, and_true, true_and] at h
    simp (decide := true) only [p40, b40_0, b40_10, b40_14, c1, h, xrd_ne, xrd_eq, xrd_n2, xrd_J, xrd_K, xsimp_1, xsimp_2, xtl, xtl0, xbit_0, xbit_1, exists_eq_left, and_assoc, exists_and_left, if_true, if_false, true_and, and_true, not_true, not_false_iff, x6, Int32.neg_neg, x01, x11, x21, x31, x41, x51, xn1, xn2, xn3, xn4, xn5, xn6, xn7, xv1, xv2, xv3, xv4, xv5, xv6, xv7]
  · skip
    simp (decide := true) only [g40, c1, xrd_ne, xrd_eq, xrd_n2, xrd_J, xrd_K, ite_true, ite_false, if_true, if_false, and_true, true_and] at h
    simp (decide := true) only [p40, b40_0, b40_10, b40_14, c1, h, xrd_ne, xrd_eq, xrd_n2, xrd_J, xrd_K, xsimp_1, xsimp_2, xtl, xtl0, xbit_0, xbit_1, exists_eq_left, and_assoc, exists_and_left, if_true, if_false, true_and, and_true, not_true, not_false_iff, x6, Int32.neg_neg, x01, x11, x21, x31, x41, x51, xn1, xn2, xn3, xn4, xn5, xn6, xn7, xv1, xv2, xv3, xv4, xv5, xv6, xv7]
/-- X5_isFree -/
def p41 (S : xS) (v1 : Int32) : Option Value × xS := if ((S.1 7 v1.toNatClampNeg) : Int32) = 0 then (if ((S.1 6 v1.toNatClampNeg) : Int32) = 0 then ((some (.int 1), S)) else ((some (.int 0), S))) else ((some (.int 0), S))
def g41 (S : xS) (v1 : Int32) : Prop := (vp_in v1 10 ∧ (if ((S.1 7 v1.toNatClampNeg) : Int32) = 0 then (vp_in v1 10 ∧ True) else True))
theorem t41 (d : Nat) (v1 : Int32) (S : xS) (r : Option Value × xS) (h : g41 S v1) : xX d 41 0 [(0, .ref 2), (1, .int v1)] [] S r ↔ r = p41 S v1 := by
  by_cases c1 : ((S.1 7 v1.toNatClampNeg) : Int32) = 0
  · skip
    by_cases c2 : ((S.1 6 v1.toNatClampNeg) : Int32) = 0
    · skip
      simp (decide := true) only [g41, c1, c2, xrd_ne, xrd_eq, xrd_n2, xrd_J, xrd_K, ite_true, ite_false, if_true, if_false, and_true, true_and] at h
      simp (decide := true) only [p41, b41_0, b41_9, b41_18, b41_22, c1, c2, h, xrd_ne, xrd_eq, xrd_n2, xrd_J, xrd_K, xsimp_1, xsimp_2, xtl, xtl0, xbit_0, xbit_1, exists_eq_left, and_assoc, exists_and_left, if_true, if_false, true_and, and_true, not_true, not_false_iff, x6, Int32.neg_neg, x01, x11, x21, x31, x41, x51, xn1, xn2, xn3, xn4, xn5, xn6, xn7, xv1, xv2, xv3, xv4, xv5, xv6, xv7]
    · skip
      simp (decide := true) only [g41, c1, c2, xrd_ne, xrd_eq, xrd_n2, xrd_J, xrd_K, ite_true, ite_false, if_true, if_false, and_true, true_and] at h
      simp (decide := true) only [p41, b41_0, b41_9, b41_18, b41_22, c1, c2, h, xrd_ne, xrd_eq, xrd_n2, xrd_J, xrd_K, xsimp_1, xsimp_2, xtl, xtl0, xbit_0, xbit_1, exists_eq_left, and_assoc, exists_and_left, if_true, if_false, true_and, and_true, not_true, not_false_iff, x6, Int32.neg_neg, x01, x11, x21, x31, x41, x51, xn1, xn2, xn3, xn4, xn5, xn6, xn7, xv1, xv2, xv3, xv4, xv5, xv6, xv7]
  · skip
    simp (decide := true) only [g41, c1, xrd_ne, xrd_eq, xrd_n2, xrd_J, xrd_K, ite_true, ite_false, if_true, if_false, and_true, true_and] at h
    simp (decide := true) only [p41, b41_0, b41_9, b41_18, b41_22, c1, h, xrd_ne, xrd_eq, xrd_n2, xrd_J, xrd_K, xsimp_1, xsimp_2, xtl, xtl0, xbit_0, xbit_1, exists_eq_left, and_assoc, exists_and_left, if_true, if_false, true_and, and_true, not_true, not_false_iff, x6, Int32.neg_neg, x01, x11, x21, x31, x41, x51, xn1, xn2, xn3, xn4, xn5, xn6, xn7, xv1, xv2, xv3, xv4, xv5, xv6, xv7]
/-- X7_isEmpty -/
def p61 (S : xS) (v1 : Int32) : Option Value × xS := if ((S.1 29 v1.toNatClampNeg) : Int32) = (-1) then ((some (.int 1), S)) else ((some (.int 0), S))
def g61 (S : xS) (v1 : Int32) : Prop := (vp_in v1 8 ∧ True)
theorem t61 (d : Nat) (v1 : Int32) (S : xS) (r : Option Value × xS) (h : g61 S v1) : xX d 61 0 [(0, .ref 28), (1, .int v1)] [] S r ↔ r = p61 S v1 := by
  by_cases c1 : ((S.1 29 v1.toNatClampNeg) : Int32) = (-1)
  · skip
    simp (decide := true) only [g61, c1, xrd_ne, xrd_eq, xrd_n2, xrd_J, xrd_K, ite_true, ite_false, if_true, if_false, and_true, true_and] at h
    simp (decide := true) only [p61, b61_0, b61_10, b61_14, c1, h, xrd_ne, xrd_eq, xrd_n2, xrd_J, xrd_K, xsimp_1, xsimp_2, xtl, xtl0, xbit_0, xbit_1, exists_eq_left, and_assoc, exists_and_left, if_true, if_false, true_and, and_true, not_true, not_false_iff, x6, Int32.neg_neg, x01, x11, x21, x31, x41, x51, xn1, xn2, xn3, xn4, xn5, xn6, xn7, xv1, xv2, xv3, xv4, xv5, xv6, xv7]
  · skip
    simp (decide := true) only [g61, c1, xrd_ne, xrd_eq, xrd_n2, xrd_J, xrd_K, ite_true, ite_false, if_true, if_false, and_true, true_and] at h
    simp (decide := true) only [p61, b61_0, b61_10, b61_14, c1, h, xrd_ne, xrd_eq, xrd_n2, xrd_J, xrd_K, xsimp_1, xsimp_2, xtl, xtl0, xbit_0, xbit_1, exists_eq_left, and_assoc, exists_and_left, if_true, if_false, true_and, and_true, not_true, not_false_iff, x6, Int32.neg_neg, x01, x11, x21, x31, x41, x51, xn1, xn2, xn3, xn4, xn5, xn6, xn7, xv1, xv2, xv3, xv4, xv5, xv6, xv7]
/-- X7_clash -/
def p62 (S : xS) (v1 : Int32) (v2 : Int32) : Option Value × xS := if ((S.1 29 v1.toNatClampNeg) : Int32) = (-1) then (if ((S.1 29 v2.toNatClampNeg) : Int32) = (-1) then (if ((S.1 29 v1.toNatClampNeg) : Int32) < 100 then ((some (.int 0), S)) else (if ((S.1 29 v2.toNatClampNeg) : Int32) < 100 then ((some (.int 0), S)) else (if ((S.1 29 v1.toNatClampNeg) : Int32) = (S.1 29 v2.toNatClampNeg) then ((some (.int 0), S)) else ((some (.int 1), S))))) else (if ((S.1 29 v2.toNatClampNeg) : Int32) < 100 then ((some (.int 1), S)) else (if ((S.1 29 v1.toNatClampNeg) : Int32) < 100 then ((some (.int 0), S)) else (if ((S.1 29 v1.toNatClampNeg) : Int32) = (S.1 29 v2.toNatClampNeg) then ((some (.int 0), S)) else ((some (.int 1), S)))))) else (if ((S.1 29 v1.toNatClampNeg) : Int32) < 100 then ((some (.int 1), S)) else (if ((S.1 29 v2.toNatClampNeg) : Int32) = (-1) then (if ((S.1 29 v2.toNatClampNeg) : Int32) < 100 then ((some (.int 0), S)) else (if ((S.1 29 v1.toNatClampNeg) : Int32) = (S.1 29 v2.toNatClampNeg) then ((some (.int 0), S)) else ((some (.int 1), S)))) else (if ((S.1 29 v2.toNatClampNeg) : Int32) < 100 then ((some (.int 1), S)) else (if ((S.1 29 v1.toNatClampNeg) : Int32) = (S.1 29 v2.toNatClampNeg) then ((some (.int 0), S)) else ((some (.int 1), S))))))
def g62 (S : xS) (v1 : Int32) (v2 : Int32) : Prop := (vp_in v1 8 ∧ (if ((S.1 29 v1.toNatClampNeg) : Int32) = (-1) then (vp_in v2 8 ∧ (if ((S.1 29 v2.toNatClampNeg) : Int32) = (-1) then (vp_in v1 8 ∧ (if ((S.1 29 v1.toNatClampNeg) : Int32) < 100 then True else (vp_in v2 8 ∧ (if ((S.1 29 v2.toNatClampNeg) : Int32) < 100 then True else (vp_in v1 8 ∧ (vp_in v2 8 ∧ True)))))) else (vp_in v2 8 ∧ (if ((S.1 29 v2.toNatClampNeg) : Int32) < 100 then True else (vp_in v1 8 ∧ (if ((S.1 29 v1.toNatClampNeg) : Int32) < 100 then True else (vp_in v2 8 ∧ (vp_in v1 8 ∧ (vp_in v2 8 ∧ True))))))))) else (vp_in v1 8 ∧ (if ((S.1 29 v1.toNatClampNeg) : Int32) < 100 then True else (vp_in v2 8 ∧ (if ((S.1 29 v2.toNatClampNeg) : Int32) = (-1) then (vp_in v1 8 ∧ (vp_in v2 8 ∧ (if ((S.1 29 v2.toNatClampNeg) : Int32) < 100 then True else (vp_in v1 8 ∧ (vp_in v2 8 ∧ True))))) else (vp_in v2 8 ∧ (if ((S.1 29 v2.toNatClampNeg) : Int32) < 100 then True else (vp_in v1 8 ∧ (vp_in v2 8 ∧ (vp_in v1 8 ∧ (vp_in v2 8 ∧ True))))))))))))
theorem t62 (d : Nat) (v1 : Int32) (v2 : Int32) (S : xS) (r : Option Value × xS) (h : g62 S v1 v2) : xX (d + 1) 62 0 [(0, .ref 28), (1, .int v1), (2, .int v2)] [] S r ↔ r = p62 S v1 v2 := by
  by_cases c1 : ((S.1 29 v1.toNatClampNeg) : Int32) = (-1)
  · skip
    by_cases c2 : ((S.1 29 v2.toNatClampNeg) : Int32) = (-1)
    · skip
      by_cases c3 : ((S.1 29 v1.toNatClampNeg) : Int32) < 100
      · skip
        simp (decide := true) only [g62, c1, c2, c3, xrd_ne, xrd_eq, xrd_n2, xrd_J, xrd_K, ite_true, ite_false, if_true, if_false, and_true, true_and] at h
        simp (decide := true) only [p62, b62_0, b62_5, b62_8, b62_13, b62_16, b62_21, b62_24, b62_29, b62_32, b62_36, b62_42, b62_47, b62_50, b62_55, b62_58, b62_73, b62_77, b61_0, b61_10, b61_14, b24_0, b24_11, b24_15, c1, c2, c3, h, xrd_ne, xrd_eq, xrd_n2, xrd_J, xrd_K, xsimp_1, xsimp_2, xtl, xtl0, xbit_0, xbit_1, exists_eq_left, and_assoc, exists_and_left, if_true, if_false, true_and, and_true, not_true, not_false_iff, x6, Int32.neg_neg, x01, x11, x21, x31, x41, x51, xn1, xn2, xn3, xn4, xn5, xn6, xn7, xv1, xv2, xv3, xv4, xv5, xv6, xv7]
      · skip
        by_cases c4 : ((S.1 29 v2.toNatClampNeg) : Int32) < 100
        · skip
          simp (decide := true) only [g62, c1, c2, c3, c4, xrd_ne, xrd_eq, xrd_n2, xrd_J, xrd_K, ite_true, ite_false, if_true, if_false, and_true, true_and] at h
          simp (decide := true) only [p62, b62_0, b62_5, b62_8, b62_13, b62_16, b62_21, b62_24, b62_29, b62_32, b62_36, b62_42, b62_47, b62_50, b62_55, b62_58, b62_73, b62_77, b61_0, b61_10, b61_14, b24_0, b24_11, b24_15, c1, c2, c3, c4, h, xrd_ne, xrd_eq, xrd_n2, xrd_J, xrd_K, xsimp_1, xsimp_2, xtl, xtl0, xbit_0, xbit_1, exists_eq_left, and_assoc, exists_and_left, if_true, if_false, true_and, and_true, not_true, not_false_iff, x6, Int32.neg_neg, x01, x11, x21, x31, x41, x51, xn1, xn2, xn3, xn4, xn5, xn6, xn7, xv1, xv2, xv3, xv4, xv5, xv6, xv7]
        · skip
          by_cases c5 : ((S.1 29 v1.toNatClampNeg) : Int32) = (S.1 29 v2.toNatClampNeg)
          · skip
            simp (decide := true) only [g62, c1, c2, c3, c4, c5, xrd_ne, xrd_eq, xrd_n2, xrd_J, xrd_K, ite_true, ite_false, if_true, if_false, and_true, true_and] at h
            simp (decide := true) only [p62, b62_0, b62_5, b62_8, b62_13, b62_16, b62_21, b62_24, b62_29, b62_32, b62_36, b62_42, b62_47, b62_50, b62_55, b62_58, b62_73, b62_77, b61_0, b61_10, b61_14, b24_0, b24_11, b24_15, c1, c2, c3, c4, c5, h, xrd_ne, xrd_eq, xrd_n2, xrd_J, xrd_K, xsimp_1, xsimp_2, xtl, xtl0, xbit_0, xbit_1, exists_eq_left, and_assoc, exists_and_left, if_true, if_false, true_and, and_true, not_true, not_false_iff, x6, Int32.neg_neg, x01, x11, x21, x31, x41, x51, xn1, xn2, xn3, xn4, xn5, xn6, xn7, xv1, xv2, xv3, xv4, xv5, xv6, xv7]
          · skip
            simp (decide := true) only [g62, c1, c2, c3, c4, c5, xrd_ne, xrd_eq, xrd_n2, xrd_J, xrd_K, ite_true, ite_false, if_true, if_false, and_true, true_and] at h
            simp (decide := true) only [p62, b62_0, b62_5, b62_8, b62_13, b62_16, b62_21, b62_24, b62_29, b62_32, b62_36, b62_42, b62_47, b62_50, b62_55, b62_58, b62_73, b62_77, b61_0, b61_10, b61_14, b24_0, b24_11, b24_15, c1, c2, c3, c4, c5, h, xrd_ne, xrd_eq, xrd_n2, xrd_J, xrd_K, xsimp_1, xsimp_2, xtl, xtl0, xbit_0, xbit_1, exists_eq_left, and_assoc, exists_and_left, if_true, if_false, true_and, and_true, not_true, not_false_iff, x6, Int32.neg_neg, x01, x11, x21, x31, x41, x51, xn1, xn2, xn3, xn4, xn5, xn6, xn7, xv1, xv2, xv3, xv4, xv5, xv6, xv7]
    · skip
      by_cases c3 : ((S.1 29 v2.toNatClampNeg) : Int32) < 100
      · skip
        simp (decide := true) only [g62, c1, c2, c3, xrd_ne, xrd_eq, xrd_n2, xrd_J, xrd_K, ite_true, ite_false, if_true, if_false, and_true, true_and] at h
        simp (decide := true) only [p62, b62_0, b62_5, b62_8, b62_13, b62_16, b62_21, b62_24, b62_29, b62_32, b62_36, b62_42, b62_47, b62_50, b62_55, b62_58, b62_73, b62_77, b61_0, b61_10, b61_14, b24_0, b24_11, b24_15, c1, c2, c3, h, xrd_ne, xrd_eq, xrd_n2, xrd_J, xrd_K, xsimp_1, xsimp_2, xtl, xtl0, xbit_0, xbit_1, exists_eq_left, and_assoc, exists_and_left, if_true, if_false, true_and, and_true, not_true, not_false_iff, x6, Int32.neg_neg, x01, x11, x21, x31, x41, x51, xn1, xn2, xn3, xn4, xn5, xn6, xn7, xv1, xv2, xv3, xv4, xv5, xv6, xv7]
      · skip
        by_cases c4 : ((S.1 29 v1.toNatClampNeg) : Int32) < 100
        · skip
          simp (decide := true) only [g62, c1, c2, c3, c4, xrd_ne, xrd_eq, xrd_n2, xrd_J, xrd_K, ite_true, ite_false, if_true, if_false, and_true, true_and] at h
          simp (decide := true) only [p62, b62_0, b62_5, b62_8, b62_13, b62_16, b62_21, b62_24, b62_29, b62_32, b62_36, b62_42, b62_47, b62_50, b62_55, b62_58, b62_73, b62_77, b61_0, b61_10, b61_14, b24_0, b24_11, b24_15, c1, c2, c3, c4, h, xrd_ne, xrd_eq, xrd_n2, xrd_J, xrd_K, xsimp_1, xsimp_2, xtl, xtl0, xbit_0, xbit_1, exists_eq_left, and_assoc, exists_and_left, if_true, if_false, true_and, and_true, not_true, not_false_iff, x6, Int32.neg_neg, x01, x11, x21, x31, x41, x51, xn1, xn2, xn3, xn4, xn5, xn6, xn7, xv1, xv2, xv3, xv4, xv5, xv6, xv7]
        · skip
          by_cases c5 : ((S.1 29 v1.toNatClampNeg) : Int32) = (S.1 29 v2.toNatClampNeg)
          · skip
            simp (decide := true) only [g62, c1, c2, c3, c4, c5, xrd_ne, xrd_eq, xrd_n2, xrd_J, xrd_K, ite_true, ite_false, if_true, if_false, and_true, true_and] at h
            simp (decide := true) only [p62, b62_0, b62_5, b62_8, b62_13, b62_16, b62_21, b62_24, b62_29, b62_32, b62_36, b62_42, b62_47, b62_50, b62_55, b62_58, b62_73, b62_77, b61_0, b61_10, b61_14, b24_0, b24_11, b24_15, c1, c2, c3, c4, c5, h, xrd_ne, xrd_eq, xrd_n2, xrd_J, xrd_K, xsimp_1, xsimp_2, xtl, xtl0, xbit_0, xbit_1, exists_eq_left, and_assoc, exists_and_left, if_true, if_false, true_and, and_true, not_true, not_false_iff, x6, Int32.neg_neg, x01, x11, x21, x31, x41, x51, xn1, xn2, xn3, xn4, xn5, xn6, xn7, xv1, xv2, xv3, xv4, xv5, xv6, xv7]
          · skip
            simp (decide := true) only [g62, c1, c2, c3, c4, c5, xrd_ne, xrd_eq, xrd_n2, xrd_J, xrd_K, ite_true, ite_false, if_true, if_false, and_true, true_and] at h
            simp (decide := true) only [p62, b62_0, b62_5, b62_8, b62_13, b62_16, b62_21, b62_24, b62_29, b62_32, b62_36, b62_42, b62_47, b62_50, b62_55, b62_58, b62_73, b62_77, b61_0, b61_10, b61_14, b24_0, b24_11, b24_15, c1, c2, c3, c4, c5, h, xrd_ne, xrd_eq, xrd_n2, xrd_J, xrd_K, xsimp_1, xsimp_2, xtl, xtl0, xbit_0, xbit_1, exists_eq_left, and_assoc, exists_and_left, if_true, if_false, true_and, and_true, not_true, not_false_iff, x6, Int32.neg_neg, x01, x11, x21, x31, x41, x51, xn1, xn2, xn3, xn4, xn5, xn6, xn7, xv1, xv2, xv3, xv4, xv5, xv6, xv7]
  · skip
    by_cases c2 : ((S.1 29 v1.toNatClampNeg) : Int32) < 100
    · skip
      simp (decide := true) only [g62, c1, c2, xrd_ne, xrd_eq, xrd_n2, xrd_J, xrd_K, ite_true, ite_false, if_true, if_false, and_true, true_and] at h
      simp (decide := true) only [p62, b62_0, b62_5, b62_8, b62_13, b62_16, b62_21, b62_24, b62_29, b62_32, b62_36, b62_42, b62_47, b62_50, b62_55, b62_58, b62_73, b62_77, b61_0, b61_10, b61_14, b24_0, b24_11, b24_15, c1, c2, h, xrd_ne, xrd_eq, xrd_n2, xrd_J, xrd_K, xsimp_1, xsimp_2, xtl, xtl0, xbit_0, xbit_1, exists_eq_left, and_assoc, exists_and_left, if_true, if_false, true_and, and_true, not_true, not_false_iff, x6, Int32.neg_neg, x01, x11, x21, x31, x41, x51, xn1, xn2, xn3, xn4, xn5, xn6, xn7, xv1, xv2, xv3, xv4, xv5, xv6, xv7]
    · skip
      by_cases c3 : ((S.1 29 v2.toNatClampNeg) : Int32) = (-1)
      · skip
        by_cases c4 : ((S.1 29 v2.toNatClampNeg) : Int32) < 100
        · skip
          simp (decide := true) only [g62, c1, c2, c3, c4, xrd_ne, xrd_eq, xrd_n2, xrd_J, xrd_K, ite_true, ite_false, if_true, if_false, and_true, true_and] at h
          simp (decide := true) only [p62, b62_0, b62_5, b62_8, b62_13, b62_16, b62_21, b62_24, b62_29, b62_32, b62_36, b62_42, b62_47, b62_50, b62_55, b62_58, b62_73, b62_77, b61_0, b61_10, b61_14, b24_0, b24_11, b24_15, c1, c2, c3, c4, h, xrd_ne, xrd_eq, xrd_n2, xrd_J, xrd_K, xsimp_1, xsimp_2, xtl, xtl0, xbit_0, xbit_1, exists_eq_left, and_assoc, exists_and_left, if_true, if_false, true_and, and_true, not_true, not_false_iff, x6, Int32.neg_neg, x01, x11, x21, x31, x41, x51, xn1, xn2, xn3, xn4, xn5, xn6, xn7, xv1, xv2, xv3, xv4, xv5, xv6, xv7]
        · skip
          by_cases c5 : ((S.1 29 v1.toNatClampNeg) : Int32) = (S.1 29 v2.toNatClampNeg)
          · skip
            simp (decide := true) only [g62, c1, c2, c3, c4, c5, xrd_ne, xrd_eq, xrd_n2, xrd_J, xrd_K, ite_true, ite_false, if_true, if_false, and_true, true_and] at h
            simp (decide := true) only [p62, b62_0, b62_5, b62_8, b62_13, b62_16, b62_21, b62_24, b62_29, b62_32, b62_36, b62_42, b62_47, b62_50, b62_55, b62_58, b62_73, b62_77, b61_0, b61_10, b61_14, b24_0, b24_11, b24_15, c1, c2, c3, c4, c5, h, xrd_ne, xrd_eq, xrd_n2, xrd_J, xrd_K, xsimp_1, xsimp_2, xtl, xtl0, xbit_0, xbit_1, exists_eq_left, and_assoc, exists_and_left, if_true, if_false, true_and, and_true, not_true, not_false_iff, x6, Int32.neg_neg, x01, x11, x21, x31, x41, x51, xn1, xn2, xn3, xn4, xn5, xn6, xn7, xv1, xv2, xv3, xv4, xv5, xv6, xv7]
          · skip
            simp (decide := true) only [g62, c1, c2, c3, c4, c5, xrd_ne, xrd_eq, xrd_n2, xrd_J, xrd_K, ite_true, ite_false, if_true, if_false, and_true, true_and] at h
            simp (decide := true) only [p62, b62_0, b62_5, b62_8, b62_13, b62_16, b62_21, b62_24, b62_29, b62_32, b62_36, b62_42, b62_47, b62_50, b62_55, b62_58, b62_73, b62_77, b61_0, b61_10, b61_14, b24_0, b24_11, b24_15, c1, c2, c3, c4, c5, h, xrd_ne, xrd_eq, xrd_n2, xrd_J, xrd_K, xsimp_1, xsimp_2, xtl, xtl0, xbit_0, xbit_1, exists_eq_left, and_assoc, exists_and_left, if_true, if_false, true_and, and_true, not_true, not_false_iff, x6, Int32.neg_neg, x01, x11, x21, x31, x41, x51, xn1, xn2, xn3, xn4, xn5, xn6, xn7, xv1, xv2, xv3, xv4, xv5, xv6, xv7]
      · skip
        by_cases c4 : ((S.1 29 v2.toNatClampNeg) : Int32) < 100
        · skip
          simp (decide := true) only [g62, c1, c2, c3, c4, xrd_ne, xrd_eq, xrd_n2, xrd_J, xrd_K, ite_true, ite_false, if_true, if_false, and_true, true_and] at h
          simp (decide := true) only [p62, b62_0, b62_5, b62_8, b62_13, b62_16, b62_21, b62_24, b62_29, b62_32, b62_36, b62_42, b62_47, b62_50, b62_55, b62_58, b62_73, b62_77, b61_0, b61_10, b61_14, b24_0, b24_11, b24_15, c1, c2, c3, c4, h, xrd_ne, xrd_eq, xrd_n2, xrd_J, xrd_K, xsimp_1, xsimp_2, xtl, xtl0, xbit_0, xbit_1, exists_eq_left, and_assoc, exists_and_left, if_true, if_false, true_and, and_true, not_true, not_false_iff, x6, Int32.neg_neg, x01, x11, x21, x31, x41, x51, xn1, xn2, xn3, xn4, xn5, xn6, xn7, xv1, xv2, xv3, xv4, xv5, xv6, xv7]
        · skip
          by_cases c5 : ((S.1 29 v1.toNatClampNeg) : Int32) = (S.1 29 v2.toNatClampNeg)
          · skip
            simp (decide := true) only [g62, c1, c2, c3, c4, c5, xrd_ne, xrd_eq, xrd_n2, xrd_J, xrd_K, ite_true, ite_false, if_true, if_false, and_true, true_and] at h
            simp (decide := true) only [p62, b62_0, b62_5, b62_8, b62_13, b62_16, b62_21, b62_24, b62_29, b62_32, b62_36, b62_42, b62_47, b62_50, b62_55, b62_58, b62_73, b62_77, b61_0, b61_10, b61_14, b24_0, b24_11, b24_15, c1, c2, c3, c4, c5, h, xrd_ne, xrd_eq, xrd_n2, xrd_J, xrd_K, xsimp_1, xsimp_2, xtl, xtl0, xbit_0, xbit_1, exists_eq_left, and_assoc, exists_and_left, if_true, if_false, true_and, and_true, not_true, not_false_iff, x6, Int32.neg_neg, x01, x11, x21, x31, x41, x51, xn1, xn2, xn3, xn4, xn5, xn6, xn7, xv1, xv2, xv3, xv4, xv5, xv6, xv7]
          · skip
            simp (decide := true) only [g62, c1, c2, c3, c4, c5, xrd_ne, xrd_eq, xrd_n2, xrd_J, xrd_K, ite_true, ite_false, if_true, if_false, and_true, true_and] at h
            simp (decide := true) only [p62, b62_0, b62_5, b62_8, b62_13, b62_16, b62_21, b62_24, b62_29, b62_32, b62_36, b62_42, b62_47, b62_50, b62_55, b62_58, b62_73, b62_77, b61_0, b61_10, b61_14, b24_0, b24_11, b24_15, c1, c2, c3, c4, c5, h, xrd_ne, xrd_eq, xrd_n2, xrd_J, xrd_K, xsimp_1, xsimp_2, xtl, xtl0, xbit_0, xbit_1, exists_eq_left, and_assoc, exists_and_left, if_true, if_false, true_and, and_true, not_true, not_false_iff, x6, Int32.neg_neg, x01, x11, x21, x31, x41, x51, xn1, xn2, xn3, xn4, xn5, xn6, xn7, xv1, xv2, xv3, xv4, xv5, xv6, xv7]
/-- X7_reaches -/
def p63 (S : xS) (v1 : Int32) (v2 : Int32) (v3 : Int32) : Option Value × xS := if (v2 : Int32) < 0 then ((some (.int 0), S)) else (if (0 : Int32) < (lg_cmp ((Int32.toInt64 v2) + (Int32.toInt64 v3)) (Int32.toInt64 (S.1 30 v1.toNatClampNeg))) then ((some (.int 0), S)) else ((some (.int 1), S)))
def g63 (S : xS) (v1 : Int32) (v2 : Int32) (v3 : Int32) : Prop := (if (v2 : Int32) < 0 then True else (vp_in v1 8 ∧ True))
theorem t63 (d : Nat) (v1 : Int32) (v2 : Int32) (v3 : Int32) (S : xS) (r : Option Value × xS) (h : g63 S v1 v2 v3) : xX d 63 0 [(0, .ref 28), (1, .int v1), (2, .int v2), (3, .int v3)] [] S r ↔ r = p63 S v1 v2 v3 := by
  by_cases c1 : (v2 : Int32) < 0
  · skip
    simp (decide := true) only [g63, c1, xrd_ne, xrd_eq, xrd_n2, xrd_J, xrd_K, ite_true, ite_false, if_true, if_false, and_true, true_and] at h
    simp (decide := true) only [p63, b63_0, b63_4, b63_20, b63_24, c1, h, xrd_ne, xrd_eq, xrd_n2, xrd_J, xrd_K, xsimp_1, xsimp_2, xtl, xtl0, xbit_0, xbit_1, exists_eq_left, and_assoc, exists_and_left, if_true, if_false, true_and, and_true, not_true, not_false_iff, x6, Int32.neg_neg, x01, x11, x21, x31, x41, x51, xn1, xn2, xn3, xn4, xn5, xn6, xn7, xv1, xv2, xv3, xv4, xv5, xv6, xv7]
  · skip
    by_cases c2 : (0 : Int32) < (lg_cmp ((Int32.toInt64 v2) + (Int32.toInt64 v3)) (Int32.toInt64 (S.1 30 v1.toNatClampNeg)))
    · skip
      simp (decide := true) only [g63, c1, c2, xrd_ne, xrd_eq, xrd_n2, xrd_J, xrd_K, ite_true, ite_false, if_true, if_false, and_true, true_and] at h
      simp (decide := true) only [p63, b63_0, b63_4, b63_20, b63_24, c1, c2, h, xrd_ne, xrd_eq, xrd_n2, xrd_J, xrd_K, xsimp_1, xsimp_2, xtl, xtl0, xbit_0, xbit_1, exists_eq_left, and_assoc, exists_and_left, if_true, if_false, true_and, and_true, not_true, not_false_iff, x6, Int32.neg_neg, x01, x11, x21, x31, x41, x51, xn1, xn2, xn3, xn4, xn5, xn6, xn7, xv1, xv2, xv3, xv4, xv5, xv6, xv7]
    · skip
      simp (decide := true) only [g63, c1, c2, xrd_ne, xrd_eq, xrd_n2, xrd_J, xrd_K, ite_true, ite_false, if_true, if_false, and_true, true_and] at h
      simp (decide := true) only [p63, b63_0, b63_4, b63_20, b63_24, c1, c2, h, xrd_ne, xrd_eq, xrd_n2, xrd_J, xrd_K, xsimp_1, xsimp_2, xtl, xtl0, xbit_0, xbit_1, exists_eq_left, and_assoc, exists_and_left, if_true, if_false, true_and, and_true, not_true, not_false_iff, x6, Int32.neg_neg, x01, x11, x21, x31, x41, x51, xn1, xn2, xn3, xn4, xn5, xn6, xn7, xv1, xv2, xv3, xv4, xv5, xv6, xv7]
/-- X7_put -/
def p65 (S : xS) (v1 : Int32) (v2 : Int32) (v3 : Int64) : Option Value × xS := if (((S.1 29 v1.toNatClampNeg) - 100) : Int32) = 0 then ((none, (xwJ S (xrb + v1.toNatClampNeg) v2.toNatClampNeg (Int32.toInt64 (Int8.toInt32 (Int32.toInt8 (Int64.toInt32 v3))))))) else (if (((S.1 29 v1.toNatClampNeg) - 100) : Int32) = 1 then ((none, (xwJ S (xrb + v1.toNatClampNeg) v2.toNatClampNeg (Int32.toInt64 (Int16.toInt32 (Int32.toInt16 (Int64.toInt32 v3))))))) else (if (((S.1 29 v1.toNatClampNeg) - 100) : Int32) = 2 then ((none, (xwJ S (xrb + v1.toNatClampNeg) v2.toNatClampNeg (Int32.toInt64 (Int64.toInt32 v3))))) else ((none, (xwJ S (xrb + v1.toNatClampNeg) v2.toNatClampNeg v3)))))
def g65 (S : xS) (v1 : Int32) (v2 : Int32) (v3 : Int64) : Prop := (vp_in v1 8 ∧ (if (((S.1 29 v1.toNatClampNeg) - 100) : Int32) = 0 then (vp_in v1 8 ∧ ((v1.toNatClampNeg < 8 ∧ vp_in v2 60) ∧ True)) else (if (((S.1 29 v1.toNatClampNeg) - 100) : Int32) = 1 then (vp_in v1 8 ∧ ((v1.toNatClampNeg < 8 ∧ vp_in v2 60) ∧ True)) else (if (((S.1 29 v1.toNatClampNeg) - 100) : Int32) = 2 then (vp_in v1 8 ∧ ((v1.toNatClampNeg < 8 ∧ vp_in v2 60) ∧ True)) else (vp_in v1 8 ∧ ((v1.toNatClampNeg < 8 ∧ vp_in v2 60) ∧ True))))))
theorem t65 (d : Nat) (v1 : Int32) (v2 : Int32) (v3 : Int64) (S : xS) (r : Option Value × xS) (h : g65 S v1 v2 v3) : xX d 65 0 [(0, .ref 28), (1, .int v1), (2, .int v2), (3, .long v3)] [] S r ↔ r = p65 S v1 v2 v3 := by
  by_cases c1 : (((S.1 29 v1.toNatClampNeg) - 100) : Int32) = 0
  · skip
    simp (decide := true) only [g65, c1, xrd_ne, xrd_eq, xrd_n2, xrd_J, xrd_K, ite_true, ite_false, if_true, if_false, and_true, true_and] at h
    simp (decide := true) only [p65, b65_0, b65_36, b65_51, b65_66, b65_80, c1, h, xrd_ne, xrd_eq, xrd_n2, xrd_J, xrd_K, xsimp_1, xsimp_2, xtl, xtl0, xbit_0, xbit_1, exists_eq_left, and_assoc, exists_and_left, if_true, if_false, true_and, and_true, not_true, not_false_iff, x6, Int32.neg_neg, x01, x11, x21, x31, x41, x51, xn1, xn2, xn3, xn4, xn5, xn6, xn7, xv1, xv2, xv3, xv4, xv5, xv6, xv7]
  · skip
    by_cases c2 : (((S.1 29 v1.toNatClampNeg) - 100) : Int32) = 1
    · skip
      simp (decide := true) only [g65, c1, c2, xrd_ne, xrd_eq, xrd_n2, xrd_J, xrd_K, ite_true, ite_false, if_true, if_false, and_true, true_and] at h
      simp (decide := true) only [p65, b65_0, b65_36, b65_51, b65_66, b65_80, c1, c2, h, xrd_ne, xrd_eq, xrd_n2, xrd_J, xrd_K, xsimp_1, xsimp_2, xtl, xtl0, xbit_0, xbit_1, exists_eq_left, and_assoc, exists_and_left, if_true, if_false, true_and, and_true, not_true, not_false_iff, x6, Int32.neg_neg, x01, x11, x21, x31, x41, x51, xn1, xn2, xn3, xn4, xn5, xn6, xn7, xv1, xv2, xv3, xv4, xv5, xv6, xv7]
    · skip
      by_cases c3 : (((S.1 29 v1.toNatClampNeg) - 100) : Int32) = 2
      · skip
        simp (decide := true) only [g65, c1, c2, c3, xrd_ne, xrd_eq, xrd_n2, xrd_J, xrd_K, ite_true, ite_false, if_true, if_false, and_true, true_and] at h
        simp (decide := true) only [p65, b65_0, b65_36, b65_51, b65_66, b65_80, c1, c2, c3, h, xrd_ne, xrd_eq, xrd_n2, xrd_J, xrd_K, xsimp_1, xsimp_2, xtl, xtl0, xbit_0, xbit_1, exists_eq_left, and_assoc, exists_and_left, if_true, if_false, true_and, and_true, not_true, not_false_iff, x6, Int32.neg_neg, x01, x11, x21, x31, x41, x51, xn1, xn2, xn3, xn4, xn5, xn6, xn7, xv1, xv2, xv3, xv4, xv5, xv6, xv7]
      · skip
        simp (decide := true) only [g65, c1, c2, c3, xrd_ne, xrd_eq, xrd_n2, xrd_J, xrd_K, ite_true, ite_false, if_true, if_false, and_true, true_and] at h
        simp (decide := true) only [p65, b65_0, b65_36, b65_51, b65_66, b65_80, c1, c2, c3, h, xrd_ne, xrd_eq, xrd_n2, xrd_J, xrd_K, xsimp_1, xsimp_2, xtl, xtl0, xbit_0, xbit_1, exists_eq_left, and_assoc, exists_and_left, if_true, if_false, true_and, and_true, not_true, not_false_iff, x6, Int32.neg_neg, x01, x11, x21, x31, x41, x51, xn1, xn2, xn3, xn4, xn5, xn6, xn7, xv1, xv2, xv3, xv4, xv5, xv6, xv7]
/-- X8_add -/
def p66 (S : xS) (v1 : Int32) (v2 : Int32) : Option Value × xS := (some (.int (S.1 9 0)), (xwI (xwI (xwI S 10 (S.1 9 0).toNatClampNeg v1) 11 (S.1 9 0).toNatClampNeg v2) 9 0 ((S.1 9 0) + 1)))
def g66 (S : xS) (v1 : Int32) (v2 : Int32) : Prop := (vp_in (S.1 9 0) 6 ∧ (vp_in (S.1 9 0) 6 ∧ True))
theorem t66 (d : Nat) (v1 : Int32) (v2 : Int32) (S : xS) (r : Option Value × xS) (h : g66 S v1 v2) : xX d 66 0 [(0, .ref 9), (1, .int v1), (2, .int v2)] [] S r ↔ r = p66 S v1 v2 := by
  simp (decide := true) only [g66, xrd_ne, xrd_eq, xrd_n2, xrd_J, xrd_K, ite_true, ite_false, if_true, if_false, and_true, true_and] at h
  simp (decide := true) only [p66, b66_0, h, xrd_ne, xrd_eq, xrd_n2, xrd_J, xrd_K, xsimp_1, xsimp_2, xtl, xtl0, xbit_0, xbit_1, exists_eq_left, and_assoc, exists_and_left, if_true, if_false, true_and, and_true, not_true, not_false_iff, x6, Int32.neg_neg, x01, x11, x21, x31, x41, x51, xn1, xn2, xn3, xn4, xn5, xn6, xn7, xv1, xv2, xv3, xv4, xv5, xv6, xv7]
/-- X8_makeReady -/
def p67 (S : xS) (v1 : Int32) (v2 : Int32) (v3 : Int32) : Option Value × xS := (some (.int (S.1 12 ((v2 * 5) + v1).toNatClampNeg)), (xwI S 12 ((v2 * 5) + v1).toNatClampNeg v3))
def g67 (S : xS) (v1 : Int32) (v2 : Int32) (v3 : Int32) : Prop := (vp_in ((v2 * 5) + v1) 10 ∧ (vp_in ((v2 * 5) + v1) 10 ∧ True))
theorem t67 (d : Nat) (v1 : Int32) (v2 : Int32) (v3 : Int32) (S : xS) (r : Option Value × xS) (h : g67 S v1 v2 v3) : xX d 67 0 [(0, .ref 9), (1, .int v1), (2, .int v2), (3, .int v3)] [] S r ↔ r = p67 S v1 v2 v3 := by
  simp (decide := true) only [g67, xrd_ne, xrd_eq, xrd_n2, xrd_J, xrd_K, ite_true, ite_false, if_true, if_false, and_true, true_and] at h
  simp (decide := true) only [p67, b67_0, h, xrd_ne, xrd_eq, xrd_n2, xrd_J, xrd_K, xsimp_1, xsimp_2, xtl, xtl0, xbit_0, xbit_1, exists_eq_left, and_assoc, exists_and_left, if_true, if_false, true_and, and_true, not_true, not_false_iff, x6, Int32.neg_neg, x01, x11, x21, x31, x41, x51, xn1, xn2, xn3, xn4, xn5, xn6, xn7, xv1, xv2, xv3, xv4, xv5, xv6, xv7]
/-- X9_refuse -/
def p68 (S : xS) (v1 : Int32) : Option Value × xS := if (v1 : Int32) < (-7) then ((some (.int v1), S)) else (if ((-1) : Int32) < v1 then ((some (.int v1), S)) else ((some (.int v1), (xwI S 1 (-v1).toNatClampNeg ((S.1 1 (-v1).toNatClampNeg) + 1)))))
def g68 (S : xS) (v1 : Int32) : Prop := (if (v1 : Int32) < (-7) then True else (if ((-1) : Int32) < v1 then True else (vp_in (-v1) 8 ∧ (vp_in (-v1) 8 ∧ True))))
theorem t68 (d : Nat) (v1 : Int32) (S : xS) (r : Option Value × xS) (h : g68 S v1) : xX (d + 1) 68 0 [(0, .ref 0), (1, .int v1)] [] S r ↔ r = p68 S v1 := by
  by_cases c1 : (v1 : Int32) < (-7)
  · skip
    simp (decide := true) only [g68, c1, xrd_ne, xrd_eq, xrd_n2, xrd_J, xrd_K, ite_true, ite_false, if_true, if_false, and_true, true_and] at h
    simp (decide := true) only [p68, b68_0, b68_7, b68_10, b68_21, b25_0, b25_5, b25_10, b25_14, c1, h, xrd_ne, xrd_eq, xrd_n2, xrd_J, xrd_K, xsimp_1, xsimp_2, xtl, xtl0, xbit_0, xbit_1, exists_eq_left, and_assoc, exists_and_left, if_true, if_false, true_and, and_true, not_true, not_false_iff, x6, Int32.neg_neg, x01, x11, x21, x31, x41, x51, xn1, xn2, xn3, xn4, xn5, xn6, xn7, xv1, xv2, xv3, xv4, xv5, xv6, xv7]
  · skip
    by_cases c2 : ((-1) : Int32) < v1
    · skip
      simp (decide := true) only [g68, c1, c2, xrd_ne, xrd_eq, xrd_n2, xrd_J, xrd_K, ite_true, ite_false, if_true, if_false, and_true, true_and] at h
      simp (decide := true) only [p68, b68_0, b68_7, b68_10, b68_21, b25_0, b25_5, b25_10, b25_14, c1, c2, h, xrd_ne, xrd_eq, xrd_n2, xrd_J, xrd_K, xsimp_1, xsimp_2, xtl, xtl0, xbit_0, xbit_1, exists_eq_left, and_assoc, exists_and_left, if_true, if_false, true_and, and_true, not_true, not_false_iff, x6, Int32.neg_neg, x01, x11, x21, x31, x41, x51, xn1, xn2, xn3, xn4, xn5, xn6, xn7, xv1, xv2, xv3, xv4, xv5, xv6, xv7]
    · skip
      simp (decide := true) only [g68, c1, c2, xrd_ne, xrd_eq, xrd_n2, xrd_J, xrd_K, ite_true, ite_false, if_true, if_false, and_true, true_and] at h
      simp (decide := true) only [p68, b68_0, b68_7, b68_10, b68_21, b25_0, b25_5, b25_10, b25_14, c1, c2, h, xrd_ne, xrd_eq, xrd_n2, xrd_J, xrd_K, xsimp_1, xsimp_2, xtl, xtl0, xbit_0, xbit_1, exists_eq_left, and_assoc, exists_and_left, if_true, if_false, true_and, and_true, not_true, not_false_iff, x6, Int32.neg_neg, x01, x11, x21, x31, x41, x51, xn1, xn2, xn3, xn4, xn5, xn6, xn7, xv1, xv2, xv3, xv4, xv5, xv6, xv7]
/-- X9_office -/
def p69 (S : xS) (v1 : Int32) (v2 : Int32) : Option Value × xS := if (v1 : Int32) < 1 then ((some (.int (-6)), (xwI S 1 6 ((S.1 1 6) + 1)))) else (if (40 : Int32) < v1 then ((some (.int (-6)), (xwI S 1 6 ((S.1 1 6) + 1)))) else (if (v2 : Int32) < 0 then ((some (.int (-6)), (xwI S 1 6 ((S.1 1 6) + 1)))) else (if (9 : Int32) < v2 then ((some (.int (-6)), (xwI S 1 6 ((S.1 1 6) + 1)))) else (if ((S.1 0 9) : Int32) = 0 then (if ((S.1 2 0) : Int32) < 10 then ((some (.int (S.1 2 0)), (xwI (xwI (xwI (xwI S 3 (S.1 2 0).toNatClampNeg v1) 4 (S.1 2 0).toNatClampNeg v2) 5 (S.1 2 0).toNatClampNeg 5) 2 0 ((S.1 2 0) + 1)))) else ((some (.int (-7)), (xwI S 1 7 ((S.1 1 7) + 1))))) else ((some (.int (-6)), (xwI S 1 6 ((S.1 1 6) + 1))))))))
def g69 (S : xS) (v1 : Int32) (v2 : Int32) : Prop := (if (v1 : Int32) < 1 then True else (if (40 : Int32) < v1 then True else (if (v2 : Int32) < 0 then True else (if (9 : Int32) < v2 then True else (if ((S.1 0 9) : Int32) = 0 then (if ((S.1 2 0) : Int32) < 10 then (vp_in (S.1 2 0) 10 ∧ (vp_in (S.1 2 0) 10 ∧ (vp_in (S.1 2 0) 10 ∧ True))) else True) else True)))))
theorem t69 (d : Nat) (v1 : Int32) (v2 : Int32) (S : xS) (r : Option Value × xS) (h : g69 S v1 v2) : xX (d + 2) 69 0 [(0, .ref 0), (1, .int v1), (2, .int v2)] [] S r ↔ r = p69 S v1 v2 := by
  by_cases c1 : (v1 : Int32) < 1
  · skip
    simp (decide := true) only [g69, c1, xrd_ne, xrd_eq, xrd_n2, xrd_J, xrd_K, ite_true, ite_false, if_true, if_false, and_true, true_and] at h
    simp (decide := true) only [p69, b69_0, b69_7, b69_10, b69_17, b69_20, b69_27, b69_33, b69_34, b69_46, b69_52, b69_53, b69_62, b37_0, b25_0, b25_5, b25_10, b25_14, b68_0, b68_7, b68_10, b68_21, c1, h, xrd_ne, xrd_eq, xrd_n2, xrd_J, xrd_K, xsimp_1, xsimp_2, xtl, xtl0, xbit_0, xbit_1, exists_eq_left, and_assoc, exists_and_left, if_true, if_false, true_and, and_true, not_true, not_false_iff, x6, Int32.neg_neg, x01, x11, x21, x31, x41, x51, xn1, xn2, xn3, xn4, xn5, xn6, xn7, xv1, xv2, xv3, xv4, xv5, xv6, xv7]
  · skip
    by_cases c2 : (40 : Int32) < v1
    · skip
      simp (decide := true) only [g69, c1, c2, xrd_ne, xrd_eq, xrd_n2, xrd_J, xrd_K, ite_true, ite_false, if_true, if_false, and_true, true_and] at h
      simp (decide := true) only [p69, b69_0, b69_7, b69_10, b69_17, b69_20, b69_27, b69_33, b69_34, b69_46, b69_52, b69_53, b69_62, b37_0, b25_0, b25_5, b25_10, b25_14, b68_0, b68_7, b68_10, b68_21, c1, c2, h, xrd_ne, xrd_eq, xrd_n2, xrd_J, xrd_K, xsimp_1, xsimp_2, xtl, xtl0, xbit_0, xbit_1, exists_eq_left, and_assoc, exists_and_left, if_true, if_false, true_and, and_true, not_true, not_false_iff, x6, Int32.neg_neg, x01, x11, x21, x31, x41, x51, xn1, xn2, xn3, xn4, xn5, xn6, xn7, xv1, xv2, xv3, xv4, xv5, xv6, xv7]
    · skip
      by_cases c3 : (v2 : Int32) < 0
      · skip
        simp (decide := true) only [g69, c1, c2, c3, xrd_ne, xrd_eq, xrd_n2, xrd_J, xrd_K, ite_true, ite_false, if_true, if_false, and_true, true_and] at h
        simp (decide := true) only [p69, b69_0, b69_7, b69_10, b69_17, b69_20, b69_27, b69_33, b69_34, b69_46, b69_52, b69_53, b69_62, b37_0, b25_0, b25_5, b25_10, b25_14, b68_0, b68_7, b68_10, b68_21, c1, c2, c3, h, xrd_ne, xrd_eq, xrd_n2, xrd_J, xrd_K, xsimp_1, xsimp_2, xtl, xtl0, xbit_0, xbit_1, exists_eq_left, and_assoc, exists_and_left, if_true, if_false, true_and, and_true, not_true, not_false_iff, x6, Int32.neg_neg, x01, x11, x21, x31, x41, x51, xn1, xn2, xn3, xn4, xn5, xn6, xn7, xv1, xv2, xv3, xv4, xv5, xv6, xv7]
      · skip
        by_cases c4 : (9 : Int32) < v2
        · skip
          simp (decide := true) only [g69, c1, c2, c3, c4, xrd_ne, xrd_eq, xrd_n2, xrd_J, xrd_K, ite_true, ite_false, if_true, if_false, and_true, true_and] at h
          simp (decide := true) only [p69, b69_0, b69_7, b69_10, b69_17, b69_20, b69_27, b69_33, b69_34, b69_46, b69_52, b69_53, b69_62, b37_0, b25_0, b25_5, b25_10, b25_14, b68_0, b68_7, b68_10, b68_21, c1, c2, c3, c4, h, xrd_ne, xrd_eq, xrd_n2, xrd_J, xrd_K, xsimp_1, xsimp_2, xtl, xtl0, xbit_0, xbit_1, exists_eq_left, and_assoc, exists_and_left, if_true, if_false, true_and, and_true, not_true, not_false_iff, x6, Int32.neg_neg, x01, x11, x21, x31, x41, x51, xn1, xn2, xn3, xn4, xn5, xn6, xn7, xv1, xv2, xv3, xv4, xv5, xv6, xv7]
        · skip
          by_cases c5 : ((S.1 0 9) : Int32) = 0
          · skip
            by_cases c6 : ((S.1 2 0) : Int32) < 10
            · skip
              simp (decide := true) only [g69, c1, c2, c3, c4, c5, c6, xrd_ne, xrd_eq, xrd_n2, xrd_J, xrd_K, ite_true, ite_false, if_true, if_false, and_true, true_and] at h
              simp (decide := true) only [p69, b69_0, b69_7, b69_10, b69_17, b69_20, b69_27, b69_33, b69_34, b69_46, b69_52, b69_53, b69_62, b37_0, b25_0, b25_5, b25_10, b25_14, b68_0, b68_7, b68_10, b68_21, c1, c2, c3, c4, c5, c6, h, xrd_ne, xrd_eq, xrd_n2, xrd_J, xrd_K, xsimp_1, xsimp_2, xtl, xtl0, xbit_0, xbit_1, exists_eq_left, and_assoc, exists_and_left, if_true, if_false, true_and, and_true, not_true, not_false_iff, x6, Int32.neg_neg, x01, x11, x21, x31, x41, x51, xn1, xn2, xn3, xn4, xn5, xn6, xn7, xv1, xv2, xv3, xv4, xv5, xv6, xv7]
            · skip
              simp (decide := true) only [g69, c1, c2, c3, c4, c5, c6, xrd_ne, xrd_eq, xrd_n2, xrd_J, xrd_K, ite_true, ite_false, if_true, if_false, and_true, true_and] at h
              simp (decide := true) only [p69, b69_0, b69_7, b69_10, b69_17, b69_20, b69_27, b69_33, b69_34, b69_46, b69_52, b69_53, b69_62, b37_0, b25_0, b25_5, b25_10, b25_14, b68_0, b68_7, b68_10, b68_21, c1, c2, c3, c4, c5, c6, h, xrd_ne, xrd_eq, xrd_n2, xrd_J, xrd_K, xsimp_1, xsimp_2, xtl, xtl0, xbit_0, xbit_1, exists_eq_left, and_assoc, exists_and_left, if_true, if_false, true_and, and_true, not_true, not_false_iff, x6, Int32.neg_neg, x01, x11, x21, x31, x41, x51, xn1, xn2, xn3, xn4, xn5, xn6, xn7, xv1, xv2, xv3, xv4, xv5, xv6, xv7]
          · skip
            simp (decide := true) only [g69, c1, c2, c3, c4, c5, xrd_ne, xrd_eq, xrd_n2, xrd_J, xrd_K, ite_true, ite_false, if_true, if_false, and_true, true_and] at h
            simp (decide := true) only [p69, b69_0, b69_7, b69_10, b69_17, b69_20, b69_27, b69_33, b69_34, b69_46, b69_52, b69_53, b69_62, b37_0, b25_0, b25_5, b25_10, b25_14, b68_0, b68_7, b68_10, b68_21, c1, c2, c3, c4, c5, h, xrd_ne, xrd_eq, xrd_n2, xrd_J, xrd_K, xsimp_1, xsimp_2, xtl, xtl0, xbit_0, xbit_1, exists_eq_left, and_assoc, exists_and_left, if_true, if_false, true_and, and_true, not_true, not_false_iff, x6, Int32.neg_neg, x01, x11, x21, x31, x41, x51, xn1, xn2, xn3, xn4, xn5, xn6, xn7, xv1, xv2, xv3, xv4, xv5, xv6, xv7]
/-- X9_tie -/
def p70 (S : xS) (v1 : Int32) (v2 : Int32) (v3 : Int32) : Option Value × xS := if (v1 : Int32) < 0 then ((some (.int (-1)), (xwI S 1 1 ((S.1 1 1) + 1)))) else (if (((S.1 2 0) - 1) : Int32) < v1 then ((some (.int (-1)), (xwI S 1 1 ((S.1 1 1) + 1)))) else (if (v2 : Int32) < 0 then ((some (.int (-1)), (xwI S 1 1 ((S.1 1 1) + 1)))) else (if (((S.1 2 0) - 1) : Int32) < v2 then ((some (.int (-1)), (xwI S 1 1 ((S.1 1 1) + 1)))) else (if (v1 : Int32) = v2 then ((some (.int (-6)), (xwI S 1 6 ((S.1 1 6) + 1)))) else (if (v3 : Int32) < 0 then ((some (.int (-6)), (xwI S 1 6 ((S.1 1 6) + 1)))) else (if (20 : Int32) < v3 then ((some (.int (-6)), (xwI S 1 6 ((S.1 1 6) + 1)))) else ((some (.int (S.1 8 ((v1 * 10) + v2).toNatClampNeg)), (xwI (xwI S 8 ((v1 * 10) + v2).toNatClampNeg v3) 8 ((v2 * 10) + v1).toNatClampNeg v3)))))))))
def g70 (S : xS) (v1 : Int32) (v2 : Int32) (v3 : Int32) : Prop := (if (v1 : Int32) < 0 then True else (if (((S.1 2 0) - 1) : Int32) < v1 then True else (if (v2 : Int32) < 0 then True else (if (((S.1 2 0) - 1) : Int32) < v2 then True else (if (v1 : Int32) = v2 then True else (if (v3 : Int32) < 0 then True else (if (20 : Int32) < v3 then True else (vp_in ((v1 * 10) + v2) 100 ∧ (vp_in ((v1 * 10) + v2) 100 ∧ (vp_in ((v2 * 10) + v1) 100 ∧ True))))))))))
theorem t70 (d : Nat) (v1 : Int32) (v2 : Int32) (v3 : Int32) (S : xS) (r : Option Value × xS) (h : g70 S v1 v2 v3) : xX (d + 2) 70 0 [(0, .ref 0), (1, .int v1), (2, .int v2), (3, .int v3)] [] S r ↔ r = p70 S v1 v2 v3 := by
  by_cases c1 : (v1 : Int32) < 0
  · skip
    simp (decide := true) only [g70, c1, xrd_ne, xrd_eq, xrd_n2, xrd_J, xrd_K, ite_true, ite_false, if_true, if_false, and_true, true_and] at h
    simp (decide := true) only [p70, b70_0, b70_8, b70_11, b70_19, b70_22, b70_27, b70_28, b70_33, b70_40, b70_43, b70_49, b70_50, b70_60, b38_0, b36_0, b36_11, b25_0, b25_5, b25_10, b25_14, b68_0, b68_7, b68_10, b68_21, c1, h, xrd_ne, xrd_eq, xrd_n2, xrd_J, xrd_K, xsimp_1, xsimp_2, xtl, xtl0, xbit_0, xbit_1, exists_eq_left, and_assoc, exists_and_left, if_true, if_false, true_and, and_true, not_true, not_false_iff, x6, Int32.neg_neg, x01, x11, x21, x31, x41, x51, xn1, xn2, xn3, xn4, xn5, xn6, xn7, xv1, xv2, xv3, xv4, xv5, xv6, xv7]
  · skip
    by_cases c2 : (((S.1 2 0) - 1) : Int32) < v1
    · skip
      simp (decide := true) only [g70, c1, c2, xrd_ne, xrd_eq, xrd_n2, xrd_J, xrd_K, ite_true, ite_false, if_true, if_false, and_true, true_and] at h
      simp (decide := true) only [p70, b70_0, b70_8, b70_11, b70_19, b70_22, b70_27, b70_28, b70_33, b70_40, b70_43, b70_49, b70_50, b70_60, b38_0, b36_0, b36_11, b25_0, b25_5, b25_10, b25_14, b68_0, b68_7, b68_10, b68_21, c1, c2, h, xrd_ne, xrd_eq, xrd_n2, xrd_J, xrd_K, xsimp_1, xsimp_2, xtl, xtl0, xbit_0, xbit_1, exists_eq_left, and_assoc, exists_and_left, if_true, if_false, true_and, and_true, not_true, not_false_iff, x6, Int32.neg_neg, x01, x11, x21, x31, x41, x51, xn1, xn2, xn3, xn4, xn5, xn6, xn7, xv1, xv2, xv3, xv4, xv5, xv6, xv7]
    · skip
      by_cases c3 : (v2 : Int32) < 0
      · skip
        simp (decide := true) only [g70, c1, c2, c3, xrd_ne, xrd_eq, xrd_n2, xrd_J, xrd_K, ite_true, ite_false, if_true, if_false, and_true, true_and] at h
        simp (decide := true) only [p70, b70_0, b70_8, b70_11, b70_19, b70_22, b70_27, b70_28, b70_33, b70_40, b70_43, b70_49, b70_50, b70_60, b38_0, b36_0, b36_11, b25_0, b25_5, b25_10, b25_14, b68_0, b68_7, b68_10, b68_21, c1, c2, c3, h, xrd_ne, xrd_eq, xrd_n2, xrd_J, xrd_K, xsimp_1, xsimp_2, xtl, xtl0, xbit_0, xbit_1, exists_eq_left, and_assoc, exists_and_left, if_true, if_false, true_and, and_true, not_true, not_false_iff, x6, Int32.neg_neg, x01, x11, x21, x31, x41, x51, xn1, xn2, xn3, xn4, xn5, xn6, xn7, xv1, xv2, xv3, xv4, xv5, xv6, xv7]
      · skip
        by_cases c4 : (((S.1 2 0) - 1) : Int32) < v2
        · skip
          simp (decide := true) only [g70, c1, c2, c3, c4, xrd_ne, xrd_eq, xrd_n2, xrd_J, xrd_K, ite_true, ite_false, if_true, if_false, and_true, true_and] at h
          simp (decide := true) only [p70, b70_0, b70_8, b70_11, b70_19, b70_22, b70_27, b70_28, b70_33, b70_40, b70_43, b70_49, b70_50, b70_60, b38_0, b36_0, b36_11, b25_0, b25_5, b25_10, b25_14, b68_0, b68_7, b68_10, b68_21, c1, c2, c3, c4, h, xrd_ne, xrd_eq, xrd_n2, xrd_J, xrd_K, xsimp_1, xsimp_2, xtl, xtl0, xbit_0, xbit_1, exists_eq_left, and_assoc, exists_and_left, if_true, if_false, true_and, and_true, not_true, not_false_iff, x6, Int32.neg_neg, x01, x11, x21, x31, x41, x51, xn1, xn2, xn3, xn4, xn5, xn6, xn7, xv1, xv2, xv3, xv4, xv5, xv6, xv7]
        · skip
          by_cases c5 : (v1 : Int32) = v2
          · skip
            simp (decide := true) only [g70, c1, c2, c3, c4, c5, xrd_ne, xrd_eq, xrd_n2, xrd_J, xrd_K, ite_true, ite_false, if_true, if_false, and_true, true_and] at h
            simp (decide := true) only [p70, b70_0, b70_8, b70_11, b70_19, b70_22, b70_27, b70_28, b70_33, b70_40, b70_43, b70_49, b70_50, b70_60, b38_0, b36_0, b36_11, b25_0, b25_5, b25_10, b25_14, b68_0, b68_7, b68_10, b68_21, c1, c2, c3, c4, c5, h, xrd_ne, xrd_eq, xrd_n2, xrd_J, xrd_K, xsimp_1, xsimp_2, xtl, xtl0, xbit_0, xbit_1, exists_eq_left, and_assoc, exists_and_left, if_true, if_false, true_and, and_true, not_true, not_false_iff, x6, Int32.neg_neg, x01, x11, x21, x31, x41, x51, xn1, xn2, xn3, xn4, xn5, xn6, xn7, xv1, xv2, xv3, xv4, xv5, xv6, xv7]
          · skip
            by_cases c6 : (v3 : Int32) < 0
            · skip
              simp (decide := true) only [g70, c1, c2, c3, c4, c5, c6, xrd_ne, xrd_eq, xrd_n2, xrd_J, xrd_K, ite_true, ite_false, if_true, if_false, and_true, true_and] at h
              simp (decide := true) only [p70, b70_0, b70_8, b70_11, b70_19, b70_22, b70_27, b70_28, b70_33, b70_40, b70_43, b70_49, b70_50, b70_60, b38_0, b36_0, b36_11, b25_0, b25_5, b25_10, b25_14, b68_0, b68_7, b68_10, b68_21, c1, c2, c3, c4, c5, c6, h, xrd_ne, xrd_eq, xrd_n2, xrd_J, xrd_K, xsimp_1, xsimp_2, xtl, xtl0, xbit_0, xbit_1, exists_eq_left, and_assoc, exists_and_left, if_true, if_false, true_and, and_true, not_true, not_false_iff, x6, Int32.neg_neg, x01, x11, x21, x31, x41, x51, xn1, xn2, xn3, xn4, xn5, xn6, xn7, xv1, xv2, xv3, xv4, xv5, xv6, xv7]
            · skip
              by_cases c7 : (20 : Int32) < v3
              · skip
                simp (decide := true) only [g70, c1, c2, c3, c4, c5, c6, c7, xrd_ne, xrd_eq, xrd_n2, xrd_J, xrd_K, ite_true, ite_false, if_true, if_false, and_true, true_and] at h
                simp (decide := true) only [p70, b70_0, b70_8, b70_11, b70_19, b70_22, b70_27, b70_28, b70_33, b70_40, b70_43, b70_49, b70_50, b70_60, b38_0, b36_0, b36_11, b25_0, b25_5, b25_10, b25_14, b68_0, b68_7, b68_10, b68_21, c1, c2, c3, c4, c5, c6, c7, h, xrd_ne, xrd_eq, xrd_n2, xrd_J, xrd_K, xsimp_1, xsimp_2, xtl, xtl0, xbit_0, xbit_1, exists_eq_left, and_assoc, exists_and_left, if_true, if_false, true_and, and_true, not_true, not_false_iff, x6, Int32.neg_neg, x01, x11, x21, x31, x41, x51, xn1, xn2, xn3, xn4, xn5, xn6, xn7, xv1, xv2, xv3, xv4, xv5, xv6, xv7]
              · skip
                simp (decide := true) only [g70, c1, c2, c3, c4, c5, c6, c7, xrd_ne, xrd_eq, xrd_n2, xrd_J, xrd_K, ite_true, ite_false, if_true, if_false, and_true, true_and] at h
                simp (decide := true) only [p70, b70_0, b70_8, b70_11, b70_19, b70_22, b70_27, b70_28, b70_33, b70_40, b70_43, b70_49, b70_50, b70_60, b38_0, b36_0, b36_11, b25_0, b25_5, b25_10, b25_14, b68_0, b68_7, b68_10, b68_21, c1, c2, c3, c4, c5, c6, c7, h, xrd_ne, xrd_eq, xrd_n2, xrd_J, xrd_K, xsimp_1, xsimp_2, xtl, xtl0, xbit_0, xbit_1, exists_eq_left, and_assoc, exists_and_left, if_true, if_false, true_and, and_true, not_true, not_false_iff, x6, Int32.neg_neg, x01, x11, x21, x31, x41, x51, xn1, xn2, xn3, xn4, xn5, xn6, xn7, xv1, xv2, xv3, xv4, xv5, xv6, xv7]
/-- X9_building -/
def p71 (S : xS) (v1 : Int32) (v2 : Int32) : Option Value × xS := if (v2 : Int32) < 0 then ((some (.int (-1)), (xwI S 1 1 ((S.1 1 1) + 1)))) else (if (v2 : Int32) < 5 then (if (v1 : Int32) < 1 then ((some (.int (-6)), (xwI S 1 6 ((S.1 1 6) + 1)))) else (if (120 : Int32) < v1 then ((some (.int (-6)), (xwI S 1 6 ((S.1 1 6) + 1)))) else (if ((S.1 0 9) : Int32) = 0 then (if ((S.1 9 0) : Int32) < 6 then ((some (.int (S.1 9 0)), (xwI (xwI (xwI S 10 (S.1 9 0).toNatClampNeg v1) 11 (S.1 9 0).toNatClampNeg v2) 9 0 ((S.1 9 0) + 1)))) else ((some (.int (-7)), (xwI S 1 7 ((S.1 1 7) + 1))))) else ((some (.int (-6)), (xwI S 1 6 ((S.1 1 6) + 1))))))) else ((some (.int (-1)), (xwI S 1 1 ((S.1 1 1) + 1)))))
def g71 (S : xS) (v1 : Int32) (v2 : Int32) : Prop := (if (v2 : Int32) < 0 then True else (if (v2 : Int32) < 5 then (if (v1 : Int32) < 1 then True else (if (120 : Int32) < v1 then True else (if ((S.1 0 9) : Int32) = 0 then (if ((S.1 9 0) : Int32) < 6 then (vp_in (S.1 9 0) 6 ∧ (vp_in (S.1 9 0) 6 ∧ True)) else True) else True))) else True))
theorem t71 (d : Nat) (v1 : Int32) (v2 : Int32) (S : xS) (r : Option Value × xS) (h : g71 S v1 v2) : xX (d + 2) 71 0 [(0, .ref 0), (1, .int v1), (2, .int v2)] [] S r ↔ r = p71 S v1 v2 := by
  by_cases c1 : (v2 : Int32) < 0
  · skip
    simp (decide := true) only [g71, c1, xrd_ne, xrd_eq, xrd_n2, xrd_J, xrd_K, ite_true, ite_false, if_true, if_false, and_true, true_and] at h
    simp (decide := true) only [p71, b71_0, b71_4, b71_7, b71_12, b71_13, b71_20, b71_23, b71_30, b71_36, b71_37, b71_49, b71_55, b71_56, b71_65, b66_0, b27_0, b27_4, b27_9, b27_13, b25_0, b25_5, b25_10, b25_14, b68_0, b68_7, b68_10, b68_21, c1, h, xrd_ne, xrd_eq, xrd_n2, xrd_J, xrd_K, xsimp_1, xsimp_2, xtl, xtl0, xbit_0, xbit_1, exists_eq_left, and_assoc, exists_and_left, if_true, if_false, true_and, and_true, not_true, not_false_iff, x6, Int32.neg_neg, x01, x11, x21, x31, x41, x51, xn1, xn2, xn3, xn4, xn5, xn6, xn7, xv1, xv2, xv3, xv4, xv5, xv6, xv7]
  · skip
    by_cases c2 : (v2 : Int32) < 5
    · skip
      by_cases c3 : (v1 : Int32) < 1
      · skip
        simp (decide := true) only [g71, c1, c2, c3, xrd_ne, xrd_eq, xrd_n2, xrd_J, xrd_K, ite_true, ite_false, if_true, if_false, and_true, true_and] at h
        simp (decide := true) only [p71, b71_0, b71_4, b71_7, b71_12, b71_13, b71_20, b71_23, b71_30, b71_36, b71_37, b71_49, b71_55, b71_56, b71_65, b66_0, b27_0, b27_4, b27_9, b27_13, b25_0, b25_5, b25_10, b25_14, b68_0, b68_7, b68_10, b68_21, c1, c2, c3, h, xrd_ne, xrd_eq, xrd_n2, xrd_J, xrd_K, xsimp_1, xsimp_2, xtl, xtl0, xbit_0, xbit_1, exists_eq_left, and_assoc, exists_and_left, if_true, if_false, true_and, and_true, not_true, not_false_iff, x6, Int32.neg_neg, x01, x11, x21, x31, x41, x51, xn1, xn2, xn3, xn4, xn5, xn6, xn7, xv1, xv2, xv3, xv4, xv5, xv6, xv7]
      · skip
        by_cases c4 : (120 : Int32) < v1
        · skip
          simp (decide := true) only [g71, c1, c2, c3, c4, xrd_ne, xrd_eq, xrd_n2, xrd_J, xrd_K, ite_true, ite_false, if_true, if_false, and_true, true_and] at h
          simp (decide := true) only [p71, b71_0, b71_4, b71_7, b71_12, b71_13, b71_20, b71_23, b71_30, b71_36, b71_37, b71_49, b71_55, b71_56, b71_65, b66_0, b27_0, b27_4, b27_9, b27_13, b25_0, b25_5, b25_10, b25_14, b68_0, b68_7, b68_10, b68_21, c1, c2, c3, c4, h, xrd_ne, xrd_eq, xrd_n2, xrd_J, xrd_K, xsimp_1, xsimp_2, xtl, xtl0, xbit_0, xbit_1, exists_eq_left, and_assoc, exists_and_left, if_true, if_false, true_and, and_true, not_true, not_false_iff, x6, Int32.neg_neg, x01, x11, x21, x31, x41, x51, xn1, xn2, xn3, xn4, xn5, xn6, xn7, xv1, xv2, xv3, xv4, xv5, xv6, xv7]
        · skip
          by_cases c5 : ((S.1 0 9) : Int32) = 0
          · skip
            by_cases c6 : ((S.1 9 0) : Int32) < 6
            · skip
              simp (decide := true) only [g71, c1, c2, c3, c4, c5, c6, xrd_ne, xrd_eq, xrd_n2, xrd_J, xrd_K, ite_true, ite_false, if_true, if_false, and_true, true_and] at h
              simp (decide := true) only [p71, b71_0, b71_4, b71_7, b71_12, b71_13, b71_20, b71_23, b71_30, b71_36, b71_37, b71_49, b71_55, b71_56, b71_65, b66_0, b27_0, b27_4, b27_9, b27_13, b25_0, b25_5, b25_10, b25_14, b68_0, b68_7, b68_10, b68_21, c1, c2, c3, c4, c5, c6, h, xrd_ne, xrd_eq, xrd_n2, xrd_J, xrd_K, xsimp_1, xsimp_2, xtl, xtl0, xbit_0, xbit_1, exists_eq_left, and_assoc, exists_and_left, if_true, if_false, true_and, and_true, not_true, not_false_iff, x6, Int32.neg_neg, x01, x11, x21, x31, x41, x51, xn1, xn2, xn3, xn4, xn5, xn6, xn7, xv1, xv2, xv3, xv4, xv5, xv6, xv7]
            · skip
              simp (decide := true) only [g71, c1, c2, c3, c4, c5, c6, xrd_ne, xrd_eq, xrd_n2, xrd_J, xrd_K, ite_true, ite_false, if_true, if_false, and_true, true_and] at h
              simp (decide := true) only [p71, b71_0, b71_4, b71_7, b71_12, b71_13, b71_20, b71_23, b71_30, b71_36, b71_37, b71_49, b71_55, b71_56, b71_65, b66_0, b27_0, b27_4, b27_9, b27_13, b25_0, b25_5, b25_10, b25_14, b68_0, b68_7, b68_10, b68_21, c1, c2, c3, c4, c5, c6, h, xrd_ne, xrd_eq, xrd_n2, xrd_J, xrd_K, xsimp_1, xsimp_2, xtl, xtl0, xbit_0, xbit_1, exists_eq_left, and_assoc, exists_and_left, if_true, if_false, true_and, and_true, not_true, not_false_iff, x6, Int32.neg_neg, x01, x11, x21, x31, x41, x51, xn1, xn2, xn3, xn4, xn5, xn6, xn7, xv1, xv2, xv3, xv4, xv5, xv6, xv7]
          · skip
            simp (decide := true) only [g71, c1, c2, c3, c4, c5, xrd_ne, xrd_eq, xrd_n2, xrd_J, xrd_K, ite_true, ite_false, if_true, if_false, and_true, true_and] at h
            simp (decide := true) only [p71, b71_0, b71_4, b71_7, b71_12, b71_13, b71_20, b71_23, b71_30, b71_36, b71_37, b71_49, b71_55, b71_56, b71_65, b66_0, b27_0, b27_4, b27_9, b27_13, b25_0, b25_5, b25_10, b25_14, b68_0, b68_7, b68_10, b68_21, c1, c2, c3, c4, c5, h, xrd_ne, xrd_eq, xrd_n2, xrd_J, xrd_K, xsimp_1, xsimp_2, xtl, xtl0, xbit_0, xbit_1, exists_eq_left, and_assoc, exists_and_left, if_true, if_false, true_and, and_true, not_true, not_false_iff, x6, Int32.neg_neg, x01, x11, x21, x31, x41, x51, xn1, xn2, xn3, xn4, xn5, xn6, xn7, xv1, xv2, xv3, xv4, xv5, xv6, xv7]
    · skip
      simp (decide := true) only [g71, c1, c2, xrd_ne, xrd_eq, xrd_n2, xrd_J, xrd_K, ite_true, ite_false, if_true, if_false, and_true, true_and] at h
      simp (decide := true) only [p71, b71_0, b71_4, b71_7, b71_12, b71_13, b71_20, b71_23, b71_30, b71_36, b71_37, b71_49, b71_55, b71_56, b71_65, b66_0, b27_0, b27_4, b27_9, b27_13, b25_0, b25_5, b25_10, b25_14, b68_0, b68_7, b68_10, b68_21, c1, c2, h, xrd_ne, xrd_eq, xrd_n2, xrd_J, xrd_K, xsimp_1, xsimp_2, xtl, xtl0, xbit_0, xbit_1, exists_eq_left, and_assoc, exists_and_left, if_true, if_false, true_and, and_true, not_true, not_false_iff, x6, Int32.neg_neg, x01, x11, x21, x31, x41, x51, xn1, xn2, xn3, xn4, xn5, xn6, xn7, xv1, xv2, xv3, xv4, xv5, xv6, xv7]
/-- X9_late -/
def p72 (S : xS) (v1 : Int32) (v2 : Int32) : Option Value × xS := if (v1 : Int32) < 0 then ((some (.int (-1)), (xwI S 1 1 ((S.1 1 1) + 1)))) else (if (((S.1 9 0) - 1) : Int32) < v1 then ((some (.int (-1)), (xwI S 1 1 ((S.1 1 1) + 1)))) else (if (v2 : Int32) < 0 then ((some (.int (-1)), (xwI S 1 1 ((S.1 1 1) + 1)))) else (if (v2 : Int32) < 5 then (if ((S.1 11 v1.toNatClampNeg) : Int32) < (S.1 0 10) then ((some (.int (-6)), (xwI S 1 6 ((S.1 1 6) + 1)))) else (if (v2 : Int32) < (S.1 0 10) then ((some (.int (-6)), (xwI S 1 6 ((S.1 1 6) + 1)))) else ((some (.int (S.1 11 v1.toNatClampNeg)), (xwI S 11 v1.toNatClampNeg v2))))) else ((some (.int (-1)), (xwI S 1 1 ((S.1 1 1) + 1)))))))
def g72 (S : xS) (v1 : Int32) (v2 : Int32) : Prop := (if (v1 : Int32) < 0 then True else (if (((S.1 9 0) - 1) : Int32) < v1 then True else (if (v2 : Int32) < 0 then True else (if (v2 : Int32) < 5 then (vp_in v1 6 ∧ (if ((S.1 11 v1.toNatClampNeg) : Int32) < (S.1 0 10) then True else (if (v2 : Int32) < (S.1 0 10) then True else (vp_in v1 6 ∧ True)))) else True))))
theorem t72 (d : Nat) (v1 : Int32) (v2 : Int32) (S : xS) (r : Option Value × xS) (h : g72 S v1 v2) : xX (d + 2) 72 0 [(0, .ref 0), (1, .int v1), (2, .int v2)] [] S r ↔ r = p72 S v1 v2 := by
  by_cases c1 : (v1 : Int32) < 0
  · skip
    simp (decide := true) only [g72, c1, xrd_ne, xrd_eq, xrd_n2, xrd_J, xrd_K, ite_true, ite_false, if_true, if_false, and_true, true_and] at h
    simp (decide := true) only [p72, b72_0, b72_14, b72_17, b72_21, b72_24, b72_29, b72_30, b72_48, b72_56, b72_62, b72_63, b27_0, b27_4, b27_9, b27_13, b25_0, b25_5, b25_10, b25_14, b68_0, b68_7, b68_10, b68_21, c1, h, xrd_ne, xrd_eq, xrd_n2, xrd_J, xrd_K, xsimp_1, xsimp_2, xtl, xtl0, xbit_0, xbit_1, exists_eq_left, and_assoc, exists_and_left, if_true, if_false, true_and, and_true, not_true, not_false_iff, x6, Int32.neg_neg, x01, x11, x21, x31, x41, x51, xn1, xn2, xn3, xn4, xn5, xn6, xn7, xv1, xv2, xv3, xv4, xv5, xv6, xv7]
  · skip
    by_cases c2 : (((S.1 9 0) - 1) : Int32) < v1
    · skip
      simp (decide := true) only [g72, c1, c2, xrd_ne, xrd_eq, xrd_n2, xrd_J, xrd_K, ite_true, ite_false, if_true, if_false, and_true, true_and] at h
      simp (decide := true) only [p72, b72_0, b72_14, b72_17, b72_21, b72_24, b72_29, b72_30, b72_48, b72_56, b72_62, b72_63, b27_0, b27_4, b27_9, b27_13, b25_0, b25_5, b25_10, b25_14, b68_0, b68_7, b68_10, b68_21, c1, c2, h, xrd_ne, xrd_eq, xrd_n2, xrd_J, xrd_K, xsimp_1, xsimp_2, xtl, xtl0, xbit_0, xbit_1, exists_eq_left, and_assoc, exists_and_left, if_true, if_false, true_and, and_true, not_true, not_false_iff, x6, Int32.neg_neg, x01, x11, x21, x31, x41, x51, xn1, xn2, xn3, xn4, xn5, xn6, xn7, xv1, xv2, xv3, xv4, xv5, xv6, xv7]
    · skip
      by_cases c3 : (v2 : Int32) < 0
      · skip
        simp (decide := true) only [g72, c1, c2, c3, xrd_ne, xrd_eq, xrd_n2, xrd_J, xrd_K, ite_true, ite_false, if_true, if_false, and_true, true_and] at h
        simp (decide := true) only [p72, b72_0, b72_14, b72_17, b72_21, b72_24, b72_29, b72_30, b72_48, b72_56, b72_62, b72_63, b27_0, b27_4, b27_9, b27_13, b25_0, b25_5, b25_10, b25_14, b68_0, b68_7, b68_10, b68_21, c1, c2, c3, h, xrd_ne, xrd_eq, xrd_n2, xrd_J, xrd_K, xsimp_1, xsimp_2, xtl, xtl0, xbit_0, xbit_1, exists_eq_left, and_assoc, exists_and_left, if_true, if_false, true_and, and_true, not_true, not_false_iff, x6, Int32.neg_neg, x01, x11, x21, x31, x41, x51, xn1, xn2, xn3, xn4, xn5, xn6, xn7, xv1, xv2, xv3, xv4, xv5, xv6, xv7]
      · skip
        by_cases c4 : (v2 : Int32) < 5
        · skip
          by_cases c5 : ((S.1 11 v1.toNatClampNeg) : Int32) < (S.1 0 10)
          · skip
            simp (decide := true) only [g72, c1, c2, c3, c4, c5, xrd_ne, xrd_eq, xrd_n2, xrd_J, xrd_K, ite_true, ite_false, if_true, if_false, and_true, true_and] at h
            simp (decide := true) only [p72, b72_0, b72_14, b72_17, b72_21, b72_24, b72_29, b72_30, b72_48, b72_56, b72_62, b72_63, b27_0, b27_4, b27_9, b27_13, b25_0, b25_5, b25_10, b25_14, b68_0, b68_7, b68_10, b68_21, c1, c2, c3, c4, c5, h, xrd_ne, xrd_eq, xrd_n2, xrd_J, xrd_K, xsimp_1, xsimp_2, xtl, xtl0, xbit_0, xbit_1, exists_eq_left, and_assoc, exists_and_left, if_true, if_false, true_and, and_true, not_true, not_false_iff, x6, Int32.neg_neg, x01, x11, x21, x31, x41, x51, xn1, xn2, xn3, xn4, xn5, xn6, xn7, xv1, xv2, xv3, xv4, xv5, xv6, xv7]
          · skip
            by_cases c6 : (v2 : Int32) < (S.1 0 10)
            · skip
              simp (decide := true) only [g72, c1, c2, c3, c4, c5, c6, xrd_ne, xrd_eq, xrd_n2, xrd_J, xrd_K, ite_true, ite_false, if_true, if_false, and_true, true_and] at h
              simp (decide := true) only [p72, b72_0, b72_14, b72_17, b72_21, b72_24, b72_29, b72_30, b72_48, b72_56, b72_62, b72_63, b27_0, b27_4, b27_9, b27_13, b25_0, b25_5, b25_10, b25_14, b68_0, b68_7, b68_10, b68_21, c1, c2, c3, c4, c5, c6, h, xrd_ne, xrd_eq, xrd_n2, xrd_J, xrd_K, xsimp_1, xsimp_2, xtl, xtl0, xbit_0, xbit_1, exists_eq_left, and_assoc, exists_and_left, if_true, if_false, true_and, and_true, not_true, not_false_iff, x6, Int32.neg_neg, x01, x11, x21, x31, x41, x51, xn1, xn2, xn3, xn4, xn5, xn6, xn7, xv1, xv2, xv3, xv4, xv5, xv6, xv7]
            · skip
              simp (decide := true) only [g72, c1, c2, c3, c4, c5, c6, xrd_ne, xrd_eq, xrd_n2, xrd_J, xrd_K, ite_true, ite_false, if_true, if_false, and_true, true_and] at h
              simp (decide := true) only [p72, b72_0, b72_14, b72_17, b72_21, b72_24, b72_29, b72_30, b72_48, b72_56, b72_62, b72_63, b27_0, b27_4, b27_9, b27_13, b25_0, b25_5, b25_10, b25_14, b68_0, b68_7, b68_10, b68_21, c1, c2, c3, c4, c5, c6, h, xrd_ne, xrd_eq, xrd_n2, xrd_J, xrd_K, xsimp_1, xsimp_2, xtl, xtl0, xbit_0, xbit_1, exists_eq_left, and_assoc, exists_and_left, if_true, if_false, true_and, and_true, not_true, not_false_iff, x6, Int32.neg_neg, x01, x11, x21, x31, x41, x51, xn1, xn2, xn3, xn4, xn5, xn6, xn7, xv1, xv2, xv3, xv4, xv5, xv6, xv7]
        · skip
          simp (decide := true) only [g72, c1, c2, c3, c4, xrd_ne, xrd_eq, xrd_n2, xrd_J, xrd_K, ite_true, ite_false, if_true, if_false, and_true, true_and] at h
          simp (decide := true) only [p72, b72_0, b72_14, b72_17, b72_21, b72_24, b72_29, b72_30, b72_48, b72_56, b72_62, b72_63, b27_0, b27_4, b27_9, b27_13, b25_0, b25_5, b25_10, b25_14, b68_0, b68_7, b68_10, b68_21, c1, c2, c3, c4, h, xrd_ne, xrd_eq, xrd_n2, xrd_J, xrd_K, xsimp_1, xsimp_2, xtl, xtl0, xbit_0, xbit_1, exists_eq_left, and_assoc, exists_and_left, if_true, if_false, true_and, and_true, not_true, not_false_iff, x6, Int32.neg_neg, x01, x11, x21, x31, x41, x51, xn1, xn2, xn3, xn4, xn5, xn6, xn7, xv1, xv2, xv3, xv4, xv5, xv6, xv7]
/-- X9_ready -/
def p73 (S : xS) (v1 : Int32) (v2 : Int32) (v3 : Int32) : Option Value × xS := if (v1 : Int32) < 0 then ((some (.int (-1)), (xwI S 1 1 ((S.1 1 1) + 1)))) else (if (v1 : Int32) < 5 then (if (v2 : Int32) < 0 then ((some (.int (-6)), (xwI S 1 6 ((S.1 1 6) + 1)))) else (if (1 : Int32) < v2 then ((some (.int (-6)), (xwI S 1 6 ((S.1 1 6) + 1)))) else (if (v3 : Int32) < 0 then ((some (.int (-6)), (xwI S 1 6 ((S.1 1 6) + 1)))) else (if (400 : Int32) < v3 then ((some (.int (-6)), (xwI S 1 6 ((S.1 1 6) + 1)))) else (if ((S.1 0 9) : Int32) = 0 then ((some (.int (S.1 12 ((v2 * 5) + v1).toNatClampNeg)), (xwI S 12 ((v2 * 5) + v1).toNatClampNeg v3))) else ((some (.int (-6)), (xwI S 1 6 ((S.1 1 6) + 1))))))))) else ((some (.int (-1)), (xwI S 1 1 ((S.1 1 1) + 1)))))
def g73 (S : xS) (v1 : Int32) (v2 : Int32) (v3 : Int32) : Prop := (if (v1 : Int32) < 0 then True else (if (v1 : Int32) < 5 then (if (v2 : Int32) < 0 then True else (if (1 : Int32) < v2 then True else (if (v3 : Int32) < 0 then True else (if (400 : Int32) < v3 then True else (if ((S.1 0 9) : Int32) = 0 then (vp_in ((v2 * 5) + v1) 10 ∧ (vp_in ((v2 * 5) + v1) 10 ∧ True)) else True))))) else True))
theorem t73 (d : Nat) (v1 : Int32) (v2 : Int32) (v3 : Int32) (S : xS) (r : Option Value × xS) (h : g73 S v1 v2 v3) : xX (d + 2) 73 0 [(0, .ref 0), (1, .int v1), (2, .int v2), (3, .int v3)] [] S r ↔ r = p73 S v1 v2 v3 := by
  by_cases c1 : (v1 : Int32) < 0
  · skip
    simp (decide := true) only [g73, c1, xrd_ne, xrd_eq, xrd_n2, xrd_J, xrd_K, ite_true, ite_false, if_true, if_false, and_true, true_and] at h
    simp (decide := true) only [p73, b73_0, b73_4, b73_7, b73_12, b73_13, b73_19, b73_22, b73_30, b73_33, b73_40, b73_46, b73_47, b73_57, b67_0, b27_0, b27_4, b27_9, b27_13, b25_0, b25_5, b25_10, b25_14, b68_0, b68_7, b68_10, b68_21, c1, h, xrd_ne, xrd_eq, xrd_n2, xrd_J, xrd_K, xsimp_1, xsimp_2, xtl, xtl0, xbit_0, xbit_1, exists_eq_left, and_assoc, exists_and_left, if_true, if_false, true_and, and_true, not_true, not_false_iff, x6, Int32.neg_neg, x01, x11, x21, x31, x41, x51, xn1, xn2, xn3, xn4, xn5, xn6, xn7, xv1, xv2, xv3, xv4, xv5, xv6, xv7]
  · skip
    by_cases c2 : (v1 : Int32) < 5
    · skip
      by_cases c3 : (v2 : Int32) < 0
      · skip
        simp (decide := true) only [g73, c1, c2, c3, xrd_ne, xrd_eq, xrd_n2, xrd_J, xrd_K, ite_true, ite_false, if_true, if_false, and_true, true_and] at h
        simp (decide := true) only [p73, b73_0, b73_4, b73_7, b73_12, b73_13, b73_19, b73_22, b73_30, b73_33, b73_40, b73_46, b73_47, b73_57, b67_0, b27_0, b27_4, b27_9, b27_13, b25_0, b25_5, b25_10, b25_14, b68_0, b68_7, b68_10, b68_21, c1, c2, c3, h, xrd_ne, xrd_eq, xrd_n2, xrd_J, xrd_K, xsimp_1, xsimp_2, xtl, xtl0, xbit_0, xbit_1, exists_eq_left, and_assoc, exists_and_left, if_true, if_false, true_and, and_true, not_true, not_false_iff, x6, Int32.neg_neg, x01, x11, x21, x31, x41, x51, xn1, xn2, xn3, xn4, xn5, xn6, xn7, xv1, xv2, xv3, xv4, xv5, xv6, xv7]
      · skip
        by_cases c4 : (1 : Int32) < v2
        · skip
          simp (decide := true) only [g73, c1, c2, c3, c4, xrd_ne, xrd_eq, xrd_n2, xrd_J, xrd_K, ite_true, ite_false, if_true, if_false, and_true, true_and] at h
          simp (decide := true) only [p73, b73_0, b73_4, b73_7, b73_12, b73_13, b73_19, b73_22, b73_30, b73_33, b73_40, b73_46, b73_47, b73_57, b67_0, b27_0, b27_4, b27_9, b27_13, b25_0, b25_5, b25_10, b25_14, b68_0, b68_7, b68_10, b68_21, c1, c2, c3, c4, h, xrd_ne, xrd_eq, xrd_n2, xrd_J, xrd_K, xsimp_1, xsimp_2, xtl, xtl0, xbit_0, xbit_1, exists_eq_left, and_assoc, exists_and_left, if_true, if_false, true_and, and_true, not_true, not_false_iff, x6, Int32.neg_neg, x01, x11, x21, x31, x41, x51, xn1, xn2, xn3, xn4, xn5, xn6, xn7, xv1, xv2, xv3, xv4, xv5, xv6, xv7]
        · skip
          by_cases c5 : (v3 : Int32) < 0
          · skip
            simp (decide := true) only [g73, c1, c2, c3, c4, c5, xrd_ne, xrd_eq, xrd_n2, xrd_J, xrd_K, ite_true, ite_false, if_true, if_false, and_true, true_and] at h
            simp (decide := true) only [p73, b73_0, b73_4, b73_7, b73_12, b73_13, b73_19, b73_22, b73_30, b73_33, b73_40, b73_46, b73_47, b73_57, b67_0, b27_0, b27_4, b27_9, b27_13, b25_0, b25_5, b25_10, b25_14, b68_0, b68_7, b68_10, b68_21, c1, c2, c3, c4, c5, h, xrd_ne, xrd_eq, xrd_n2, xrd_J, xrd_K, xsimp_1, xsimp_2, xtl, xtl0, xbit_0, xbit_1, exists_eq_left, and_assoc, exists_and_left, if_true, if_false, true_and, and_true, not_true, not_false_iff, x6, Int32.neg_neg, x01, x11, x21, x31, x41, x51, xn1, xn2, xn3, xn4, xn5, xn6, xn7, xv1, xv2, xv3, xv4, xv5, xv6, xv7]
          · skip
            by_cases c6 : (400 : Int32) < v3
            · skip
              simp (decide := true) only [g73, c1, c2, c3, c4, c5, c6, xrd_ne, xrd_eq, xrd_n2, xrd_J, xrd_K, ite_true, ite_false, if_true, if_false, and_true, true_and] at h
              simp (decide := true) only [p73, b73_0, b73_4, b73_7, b73_12, b73_13, b73_19, b73_22, b73_30, b73_33, b73_40, b73_46, b73_47, b73_57, b67_0, b27_0, b27_4, b27_9, b27_13, b25_0, b25_5, b25_10, b25_14, b68_0, b68_7, b68_10, b68_21, c1, c2, c3, c4, c5, c6, h, xrd_ne, xrd_eq, xrd_n2, xrd_J, xrd_K, xsimp_1, xsimp_2, xtl, xtl0, xbit_0, xbit_1, exists_eq_left, and_assoc, exists_and_left, if_true, if_false, true_and, and_true, not_true, not_false_iff, x6, Int32.neg_neg, x01, x11, x21, x31, x41, x51, xn1, xn2, xn3, xn4, xn5, xn6, xn7, xv1, xv2, xv3, xv4, xv5, xv6, xv7]
            · skip
              by_cases c7 : ((S.1 0 9) : Int32) = 0
              · skip
                simp (decide := true) only [g73, c1, c2, c3, c4, c5, c6, c7, xrd_ne, xrd_eq, xrd_n2, xrd_J, xrd_K, ite_true, ite_false, if_true, if_false, and_true, true_and] at h
                simp (decide := true) only [p73, b73_0, b73_4, b73_7, b73_12, b73_13, b73_19, b73_22, b73_30, b73_33, b73_40, b73_46, b73_47, b73_57, b67_0, b27_0, b27_4, b27_9, b27_13, b25_0, b25_5, b25_10, b25_14, b68_0, b68_7, b68_10, b68_21, c1, c2, c3, c4, c5, c6, c7, h, xrd_ne, xrd_eq, xrd_n2, xrd_J, xrd_K, xsimp_1, xsimp_2, xtl, xtl0, xbit_0, xbit_1, exists_eq_left, and_assoc, exists_and_left, if_true, if_false, true_and, and_true, not_true, not_false_iff, x6, Int32.neg_neg, x01, x11, x21, x31, x41, x51, xn1, xn2, xn3, xn4, xn5, xn6, xn7, xv1, xv2, xv3, xv4, xv5, xv6, xv7]
              · skip
                simp (decide := true) only [g73, c1, c2, c3, c4, c5, c6, c7, xrd_ne, xrd_eq, xrd_n2, xrd_J, xrd_K, ite_true, ite_false, if_true, if_false, and_true, true_and] at h
                simp (decide := true) only [p73, b73_0, b73_4, b73_7, b73_12, b73_13, b73_19, b73_22, b73_30, b73_33, b73_40, b73_46, b73_47, b73_57, b67_0, b27_0, b27_4, b27_9, b27_13, b25_0, b25_5, b25_10, b25_14, b68_0, b68_7, b68_10, b68_21, c1, c2, c3, c4, c5, c6, c7, h, xrd_ne, xrd_eq, xrd_n2, xrd_J, xrd_K, xsimp_1, xsimp_2, xtl, xtl0, xbit_0, xbit_1, exists_eq_left, and_assoc, exists_and_left, if_true, if_false, true_and, and_true, not_true, not_false_iff, x6, Int32.neg_neg, x01, x11, x21, x31, x41, x51, xn1, xn2, xn3, xn4, xn5, xn6, xn7, xv1, xv2, xv3, xv4, xv5, xv6, xv7]
    · skip
      simp (decide := true) only [g73, c1, c2, xrd_ne, xrd_eq, xrd_n2, xrd_J, xrd_K, ite_true, ite_false, if_true, if_false, and_true, true_and] at h
      simp (decide := true) only [p73, b73_0, b73_4, b73_7, b73_12, b73_13, b73_19, b73_22, b73_30, b73_33, b73_40, b73_46, b73_47, b73_57, b67_0, b27_0, b27_4, b27_9, b27_13, b25_0, b25_5, b25_10, b25_14, b68_0, b68_7, b68_10, b68_21, c1, c2, h, xrd_ne, xrd_eq, xrd_n2, xrd_J, xrd_K, xsimp_1, xsimp_2, xtl, xtl0, xbit_0, xbit_1, exists_eq_left, and_assoc, exists_and_left, if_true, if_false, true_and, and_true, not_true, not_false_iff, x6, Int32.neg_neg, x01, x11, x21, x31, x41, x51, xn1, xn2, xn3, xn4, xn5, xn6, xn7, xv1, xv2, xv3, xv4, xv5, xv6, xv7]
/-- X9_isLimit -/
def p74 (S : xS) (v0 : Int32) (v1 : Int32) : Option Value × xS := if (v0 : Int32) = 0 then (if (v1 : Int32) < 1 then ((some (.int 0), S)) else (if (400 : Int32) < v1 then ((some (.int 0), S)) else ((some (.int 1), S)))) else (if (v0 : Int32) = 1 then (if (v1 : Int32) < 0 then ((some (.int 0), S)) else (if (400 : Int32) < v1 then ((some (.int 0), S)) else ((some (.int 1), S)))) else (if (v0 : Int32) = 2 then (if (v1 : Int32) < 0 then ((some (.int 0), S)) else (if (1000 : Int32) < v1 then ((some (.int 0), S)) else ((some (.int 1), S)))) else ((some (.int 0), S))))
theorem t74 (d : Nat) (v0 : Int32) (v1 : Int32) (S : xS) (r : Option Value × xS) : xX (d + 1) 74 0 [(0, .int v0), (1, .int v1)] [] S r ↔ r = p74 S v0 v1 := by
  by_cases c1 : (v0 : Int32) = 0
  · skip
    by_cases c2 : (v1 : Int32) < 1
    · skip
      simp (decide := true) only [p74, b74_0, b74_28, b74_36, b74_37, b74_45, b74_46, b74_54, b74_55, b25_0, b25_5, b25_10, b25_14, c1, c2, xrd_ne, xrd_eq, xrd_n2, xrd_J, xrd_K, xsimp_1, xsimp_2, xtl, xtl0, xbit_0, xbit_1, exists_eq_left, and_assoc, exists_and_left, if_true, if_false, true_and, and_true, not_true, not_false_iff, x6, Int32.neg_neg, x01, x11, x21, x31, x41, x51, xn1, xn2, xn3, xn4, xn5, xn6, xn7, xv1, xv2, xv3, xv4, xv5, xv6, xv7]
    · skip
      by_cases c3 : (400 : Int32) < v1
      · skip
        simp (decide := true) only [p74, b74_0, b74_28, b74_36, b74_37, b74_45, b74_46, b74_54, b74_55, b25_0, b25_5, b25_10, b25_14, c1, c2, c3, xrd_ne, xrd_eq, xrd_n2, xrd_J, xrd_K, xsimp_1, xsimp_2, xtl, xtl0, xbit_0, xbit_1, exists_eq_left, and_assoc, exists_and_left, if_true, if_false, true_and, and_true, not_true, not_false_iff, x6, Int32.neg_neg, x01, x11, x21, x31, x41, x51, xn1, xn2, xn3, xn4, xn5, xn6, xn7, xv1, xv2, xv3, xv4, xv5, xv6, xv7]
      · skip
        simp (decide := true) only [p74, b74_0, b74_28, b74_36, b74_37, b74_45, b74_46, b74_54, b74_55, b25_0, b25_5, b25_10, b25_14, c1, c2, c3, xrd_ne, xrd_eq, xrd_n2, xrd_J, xrd_K, xsimp_1, xsimp_2, xtl, xtl0, xbit_0, xbit_1, exists_eq_left, and_assoc, exists_and_left, if_true, if_false, true_and, and_true, not_true, not_false_iff, x6, Int32.neg_neg, x01, x11, x21, x31, x41, x51, xn1, xn2, xn3, xn4, xn5, xn6, xn7, xv1, xv2, xv3, xv4, xv5, xv6, xv7]
  · skip
    by_cases c2 : (v0 : Int32) = 1
    · skip
      by_cases c3 : (v1 : Int32) < 0
      · skip
        simp (decide := true) only [p74, b74_0, b74_28, b74_36, b74_37, b74_45, b74_46, b74_54, b74_55, b25_0, b25_5, b25_10, b25_14, c1, c2, c3, xrd_ne, xrd_eq, xrd_n2, xrd_J, xrd_K, xsimp_1, xsimp_2, xtl, xtl0, xbit_0, xbit_1, exists_eq_left, and_assoc, exists_and_left, if_true, if_false, true_and, and_true, not_true, not_false_iff, x6, Int32.neg_neg, x01, x11, x21, x31, x41, x51, xn1, xn2, xn3, xn4, xn5, xn6, xn7, xv1, xv2, xv3, xv4, xv5, xv6, xv7]
      · skip
        by_cases c4 : (400 : Int32) < v1
        · skip
          simp (decide := true) only [p74, b74_0, b74_28, b74_36, b74_37, b74_45, b74_46, b74_54, b74_55, b25_0, b25_5, b25_10, b25_14, c1, c2, c3, c4, xrd_ne, xrd_eq, xrd_n2, xrd_J, xrd_K, xsimp_1, xsimp_2, xtl, xtl0, xbit_0, xbit_1, exists_eq_left, and_assoc, exists_and_left, if_true, if_false, true_and, and_true, not_true, not_false_iff, x6, Int32.neg_neg, x01, x11, x21, x31, x41, x51, xn1, xn2, xn3, xn4, xn5, xn6, xn7, xv1, xv2, xv3, xv4, xv5, xv6, xv7]
        · skip
          simp (decide := true) only [p74, b74_0, b74_28, b74_36, b74_37, b74_45, b74_46, b74_54, b74_55, b25_0, b25_5, b25_10, b25_14, c1, c2, c3, c4, xrd_ne, xrd_eq, xrd_n2, xrd_J, xrd_K, xsimp_1, xsimp_2, xtl, xtl0, xbit_0, xbit_1, exists_eq_left, and_assoc, exists_and_left, if_true, if_false, true_and, and_true, not_true, not_false_iff, x6, Int32.neg_neg, x01, x11, x21, x31, x41, x51, xn1, xn2, xn3, xn4, xn5, xn6, xn7, xv1, xv2, xv3, xv4, xv5, xv6, xv7]
    · skip
      by_cases c3 : (v0 : Int32) = 2
      · skip
        by_cases c4 : (v1 : Int32) < 0
        · skip
          simp (decide := true) only [p74, b74_0, b74_28, b74_36, b74_37, b74_45, b74_46, b74_54, b74_55, b25_0, b25_5, b25_10, b25_14, c1, c2, c3, c4, xrd_ne, xrd_eq, xrd_n2, xrd_J, xrd_K, xsimp_1, xsimp_2, xtl, xtl0, xbit_0, xbit_1, exists_eq_left, and_assoc, exists_and_left, if_true, if_false, true_and, and_true, not_true, not_false_iff, x6, Int32.neg_neg, x01, x11, x21, x31, x41, x51, xn1, xn2, xn3, xn4, xn5, xn6, xn7, xv1, xv2, xv3, xv4, xv5, xv6, xv7]
        · skip
          by_cases c5 : (1000 : Int32) < v1
          · skip
            simp (decide := true) only [p74, b74_0, b74_28, b74_36, b74_37, b74_45, b74_46, b74_54, b74_55, b25_0, b25_5, b25_10, b25_14, c1, c2, c3, c4, c5, xrd_ne, xrd_eq, xrd_n2, xrd_J, xrd_K, xsimp_1, xsimp_2, xtl, xtl0, xbit_0, xbit_1, exists_eq_left, and_assoc, exists_and_left, if_true, if_false, true_and, and_true, not_true, not_false_iff, x6, Int32.neg_neg, x01, x11, x21, x31, x41, x51, xn1, xn2, xn3, xn4, xn5, xn6, xn7, xv1, xv2, xv3, xv4, xv5, xv6, xv7]
          · skip
            simp (decide := true) only [p74, b74_0, b74_28, b74_36, b74_37, b74_45, b74_46, b74_54, b74_55, b25_0, b25_5, b25_10, b25_14, c1, c2, c3, c4, c5, xrd_ne, xrd_eq, xrd_n2, xrd_J, xrd_K, xsimp_1, xsimp_2, xtl, xtl0, xbit_0, xbit_1, exists_eq_left, and_assoc, exists_and_left, if_true, if_false, true_and, and_true, not_true, not_false_iff, x6, Int32.neg_neg, x01, x11, x21, x31, x41, x51, xn1, xn2, xn3, xn4, xn5, xn6, xn7, xv1, xv2, xv3, xv4, xv5, xv6, xv7]
      · skip
        simp (decide := true) only [p74, b74_0, b74_28, b74_36, b74_37, b74_45, b74_46, b74_54, b74_55, b25_0, b25_5, b25_10, b25_14, c1, c2, c3, xrd_ne, xrd_eq, xrd_n2, xrd_J, xrd_K, xsimp_1, xsimp_2, xtl, xtl0, xbit_0, xbit_1, exists_eq_left, and_assoc, exists_and_left, if_true, if_false, true_and, and_true, not_true, not_false_iff, x6, Int32.neg_neg, x01, x11, x21, x31, x41, x51, xn1, xn2, xn3, xn4, xn5, xn6, xn7, xv1, xv2, xv3, xv4, xv5, xv6, xv7]
/-- X9_limit -/
def p75 (S : xS) (v1 : Int32) (v2 : Int32) : Option Value × xS := if (v1 : Int32) = 0 then (if (v2 : Int32) < 1 then ((some (.int (-6)), (xwI S 1 6 ((S.1 1 6) + 1)))) else (if (400 : Int32) < v2 then ((some (.int (-6)), (xwI S 1 6 ((S.1 1 6) + 1)))) else (if ((S.1 0 9) : Int32) = 0 then ((some (.int (S.1 9 1)), (xwI S 9 1 v2))) else ((some (.int (-6)), (xwI S 1 6 ((S.1 1 6) + 1))))))) else (if (v1 : Int32) = 1 then (if (v2 : Int32) < 0 then ((some (.int (-6)), (xwI S 1 6 ((S.1 1 6) + 1)))) else (if (400 : Int32) < v2 then ((some (.int (-6)), (xwI S 1 6 ((S.1 1 6) + 1)))) else (if ((S.1 0 9) : Int32) = 0 then ((some (.int (S.1 13 5)), (xwI S 13 5 v2))) else ((some (.int (-6)), (xwI S 1 6 ((S.1 1 6) + 1))))))) else (if (v1 : Int32) = 2 then (if (v2 : Int32) < 0 then ((some (.int (-6)), (xwI S 1 6 ((S.1 1 6) + 1)))) else (if (1000 : Int32) < v2 then ((some (.int (-6)), (xwI S 1 6 ((S.1 1 6) + 1)))) else (if ((S.1 0 9) : Int32) = 0 then ((some (.int (S.1 13 6)), (xwI S 13 6 v2))) else ((some (.int (-6)), (xwI S 1 6 ((S.1 1 6) + 1))))))) else ((some (.int (-6)), (xwI S 1 6 ((S.1 1 6) + 1))))))
theorem t75 (d : Nat) (v1 : Int32) (v2 : Int32) (S : xS) (r : Option Value × xS) : xX (d + 2) 75 0 [(0, .ref 0), (1, .int v1), (2, .int v2)] [] S r ↔ r = p75 S v1 v2 := by
  by_cases c1 : (v1 : Int32) = 0
  · skip
    by_cases c2 : (v2 : Int32) < 1
    · skip
      simp (decide := true) only [p75, b75_0, b75_5, b75_8, b75_15, b75_21, b75_22, b75_26, b75_45, b75_50, b75_69, b74_0, b74_28, b74_36, b74_37, b74_45, b74_46, b74_54, b74_55, b25_0, b25_5, b25_10, b25_14, b68_0, b68_7, b68_10, b68_21, c1, c2, xrd_ne, xrd_eq, xrd_n2, xrd_J, xrd_K, xsimp_1, xsimp_2, xtl, xtl0, xbit_0, xbit_1, exists_eq_left, and_assoc, exists_and_left, if_true, if_false, true_and, and_true, not_true, not_false_iff, x6, Int32.neg_neg, x01, x11, x21, x31, x41, x51, xn1, xn2, xn3, xn4, xn5, xn6, xn7, xv1, xv2, xv3, xv4, xv5, xv6, xv7]
    · skip
      by_cases c3 : (400 : Int32) < v2
      · skip
        simp (decide := true) only [p75, b75_0, b75_5, b75_8, b75_15, b75_21, b75_22, b75_26, b75_45, b75_50, b75_69, b74_0, b74_28, b74_36, b74_37, b74_45, b74_46, b74_54, b74_55, b25_0, b25_5, b25_10, b25_14, b68_0, b68_7, b68_10, b68_21, c1, c2, c3, xrd_ne, xrd_eq, xrd_n2, xrd_J, xrd_K, xsimp_1, xsimp_2, xtl, xtl0, xbit_0, xbit_1, exists_eq_left, and_assoc, exists_and_left, if_true, if_false, true_and, and_true, not_true, not_false_iff, x6, Int32.neg_neg, x01, x11, x21, x31, x41, x51, xn1, xn2, xn3, xn4, xn5, xn6, xn7, xv1, xv2, xv3, xv4, xv5, xv6, xv7]
      · skip
        by_cases c4 : ((S.1 0 9) : Int32) = 0
        · skip
          simp (decide := true) only [p75, b75_0, b75_5, b75_8, b75_15, b75_21, b75_22, b75_26, b75_45, b75_50, b75_69, b74_0, b74_28, b74_36, b74_37, b74_45, b74_46, b74_54, b74_55, b25_0, b25_5, b25_10, b25_14, b68_0, b68_7, b68_10, b68_21, c1, c2, c3, c4, xrd_ne, xrd_eq, xrd_n2, xrd_J, xrd_K, xsimp_1, xsimp_2, xtl, xtl0, xbit_0, xbit_1, exists_eq_left, and_assoc, exists_and_left, if_true, if_false, true_and, and_true, not_true, not_false_iff, x6, Int32.neg_neg, x01, x11, x21, x31, x41, x51, xn1, xn2, xn3, xn4, xn5, xn6, xn7, xv1, xv2, xv3, xv4, xv5, xv6, xv7]
        · skip
          simp (decide := true) only [p75, b75_0, b75_5, b75_8, b75_15, b75_21, b75_22, b75_26, b75_45, b75_50, b75_69, b74_0, b74_28, b74_36, b74_37, b74_45, b74_46, b74_54, b74_55, b25_0, b25_5, b25_10, b25_14, b68_0, b68_7, b68_10, b68_21, c1, c2, c3, c4, xrd_ne, xrd_eq, xrd_n2, xrd_J, xrd_K, xsimp_1, xsimp_2, xtl, xtl0, xbit_0, xbit_1, exists_eq_left, and_assoc, exists_and_left, if_true, if_false, true_and, and_true, not_true, not_false_iff, x6, Int32.neg_neg, x01, x11, x21, x31, x41, x51, xn1, xn2, xn3, xn4, xn5, xn6, xn7, xv1, xv2, xv3, xv4, xv5, xv6, xv7]
  · skip
    by_cases c2 : (v1 : Int32) = 1
    · skip
      by_cases c3 : (v2 : Int32) < 0
      · skip
        simp (decide := true) only [p75, b75_0, b75_5, b75_8, b75_15, b75_21, b75_22, b75_26, b75_45, b75_50, b75_69, b74_0, b74_28, b74_36, b74_37, b74_45, b74_46, b74_54, b74_55, b25_0, b25_5, b25_10, b25_14, b68_0, b68_7, b68_10, b68_21, c1, c2, c3, xrd_ne, xrd_eq, xrd_n2, xrd_J, xrd_K, xsimp_1, xsimp_2, xtl, xtl0, xbit_0, xbit_1, exists_eq_left, and_assoc, exists_and_left, if_true, if_false, true_and, and_true, not_true, not_false_iff, x6, Int32.neg_neg, x01, x11, x21, x31, x41, x51, xn1, xn2, xn3, xn4, xn5, xn6, xn7, xv1, xv2, xv3, xv4, xv5, xv6, xv7]
      · skip
        by_cases c4 : (400 : Int32) < v2
        · skip
          simp (decide := true) only [p75, b75_0, b75_5, b75_8, b75_15, b75_21, b75_22, b75_26, b75_45, b75_50, b75_69, b74_0, b74_28, b74_36, b74_37, b74_45, b74_46, b74_54, b74_55, b25_0, b25_5, b25_10, b25_14, b68_0, b68_7, b68_10, b68_21, c1, c2, c3, c4, xrd_ne, xrd_eq, xrd_n2, xrd_J, xrd_K, xsimp_1, xsimp_2, xtl, xtl0, xbit_0, xbit_1, exists_eq_left, and_assoc, exists_and_left, if_true, if_false, true_and, and_true, not_true, not_false_iff, x6, Int32.neg_neg, x01, x11, x21, x31, x41, x51, xn1, xn2, xn3, xn4, xn5, xn6, xn7, xv1, xv2, xv3, xv4, xv5, xv6, xv7]
        · skip
          by_cases c5 : ((S.1 0 9) : Int32) = 0
          · skip
            simp (decide := true) only [p75, b75_0, b75_5, b75_8, b75_15, b75_21, b75_22, b75_26, b75_45, b75_50, b75_69, b74_0, b74_28, b74_36, b74_37, b74_45, b74_46, b74_54, b74_55, b25_0, b25_5, b25_10, b25_14, b68_0, b68_7, b68_10, b68_21, c1, c2, c3, c4, c5, xrd_ne, xrd_eq, xrd_n2, xrd_J, xrd_K, xsimp_1, xsimp_2, xtl, xtl0, xbit_0, xbit_1, exists_eq_left, and_assoc, exists_and_left, if_true, if_false, true_and, and_true, not_true, not_false_iff, x6, Int32.neg_neg, x01, x11, x21, x31, x41, x51, xn1, xn2, xn3, xn4, xn5, xn6, xn7, xv1, xv2, xv3, xv4, xv5, xv6, xv7]
          · skip
            simp (decide := true) only [p75, b75_0, b75_5, b75_8, b75_15, b75_21, b75_22, b75_26, b75_45, b75_50, b75_69, b74_0, b74_28, b74_36, b74_37, b74_45, b74_46, b74_54, b74_55, b25_0, b25_5, b25_10, b25_14, b68_0, b68_7, b68_10, b68_21, c1, c2, c3, c4, c5, xrd_ne, xrd_eq, xrd_n2, xrd_J, xrd_K, xsimp_1, xsimp_2, xtl, xtl0, xbit_0, xbit_1, exists_eq_left, and_assoc, exists_and_left, if_true, if_false, true_and, and_true, not_true, not_false_iff, x6, Int32.neg_neg, x01, x11, x21, x31, x41, x51, xn1, xn2, xn3, xn4, xn5, xn6, xn7, xv1, xv2, xv3, xv4, xv5, xv6, xv7]
    · skip
      by_cases c3 : (v1 : Int32) = 2
      · skip
        by_cases c4 : (v2 : Int32) < 0
        · skip
          simp (decide := true) only [p75, b75_0, b75_5, b75_8, b75_15, b75_21, b75_22, b75_26, b75_45, b75_50, b75_69, b74_0, b74_28, b74_36, b74_37, b74_45, b74_46, b74_54, b74_55, b25_0, b25_5, b25_10, b25_14, b68_0, b68_7, b68_10, b68_21, c1, c2, c3, c4, xrd_ne, xrd_eq, xrd_n2, xrd_J, xrd_K, xsimp_1, xsimp_2, xtl, xtl0, xbit_0, xbit_1, exists_eq_left, and_assoc, exists_and_left, if_true, if_false, true_and, and_true, not_true, not_false_iff, x6, Int32.neg_neg, x01, x11, x21, x31, x41, x51, xn1, xn2, xn3, xn4, xn5, xn6, xn7, xv1, xv2, xv3, xv4, xv5, xv6, xv7]
        · skip
          by_cases c5 : (1000 : Int32) < v2
          · skip
            simp (decide := true) only [p75, b75_0, b75_5, b75_8, b75_15, b75_21, b75_22, b75_26, b75_45, b75_50, b75_69, b74_0, b74_28, b74_36, b74_37, b74_45, b74_46, b74_54, b74_55, b25_0, b25_5, b25_10, b25_14, b68_0, b68_7, b68_10, b68_21, c1, c2, c3, c4, c5, xrd_ne, xrd_eq, xrd_n2, xrd_J, xrd_K, xsimp_1, xsimp_2, xtl, xtl0, xbit_0, xbit_1, exists_eq_left, and_assoc, exists_and_left, if_true, if_false, true_and, and_true, not_true, not_false_iff, x6, Int32.neg_neg, x01, x11, x21, x31, x41, x51, xn1, xn2, xn3, xn4, xn5, xn6, xn7, xv1, xv2, xv3, xv4, xv5, xv6, xv7]
          · skip
            by_cases c6 : ((S.1 0 9) : Int32) = 0
            · skip
              simp (decide := true) only [p75, b75_0, b75_5, b75_8, b75_15, b75_21, b75_22, b75_26, b75_45, b75_50, b75_69, b74_0, b74_28, b74_36, b74_37, b74_45, b74_46, b74_54, b74_55, b25_0, b25_5, b25_10, b25_14, b68_0, b68_7, b68_10, b68_21, c1, c2, c3, c4, c5, c6, xrd_ne, xrd_eq, xrd_n2, xrd_J, xrd_K, xsimp_1, xsimp_2, xtl, xtl0, xbit_0, xbit_1, exists_eq_left, and_assoc, exists_and_left, if_true, if_false, true_and, and_true, not_true, not_false_iff, x6, Int32.neg_neg, x01, x11, x21, x31, x41, x51, xn1, xn2, xn3, xn4, xn5, xn6, xn7, xv1, xv2, xv3, xv4, xv5, xv6, xv7]
            · skip
              simp (decide := true) only [p75, b75_0, b75_5, b75_8, b75_15, b75_21, b75_22, b75_26, b75_45, b75_50, b75_69, b74_0, b74_28, b74_36, b74_37, b74_45, b74_46, b74_54, b74_55, b25_0, b25_5, b25_10, b25_14, b68_0, b68_7, b68_10, b68_21, c1, c2, c3, c4, c5, c6, xrd_ne, xrd_eq, xrd_n2, xrd_J, xrd_K, xsimp_1, xsimp_2, xtl, xtl0, xbit_0, xbit_1, exists_eq_left, and_assoc, exists_and_left, if_true, if_false, true_and, and_true, not_true, not_false_iff, x6, Int32.neg_neg, x01, x11, x21, x31, x41, x51, xn1, xn2, xn3, xn4, xn5, xn6, xn7, xv1, xv2, xv3, xv4, xv5, xv6, xv7]
      · skip
        simp (decide := true) only [p75, b75_0, b75_5, b75_8, b75_15, b75_21, b75_22, b75_26, b75_45, b75_50, b75_69, b74_0, b74_28, b74_36, b74_37, b74_45, b74_46, b74_54, b74_55, b25_0, b25_5, b25_10, b25_14, b68_0, b68_7, b68_10, b68_21, c1, c2, c3, xrd_ne, xrd_eq, xrd_n2, xrd_J, xrd_K, xsimp_1, xsimp_2, xtl, xtl0, xbit_0, xbit_1, exists_eq_left, and_assoc, exists_and_left, if_true, if_false, true_and, and_true, not_true, not_false_iff, x6, Int32.neg_neg, x01, x11, x21, x31, x41, x51, xn1, xn2, xn3, xn4, xn5, xn6, xn7, xv1, xv2, xv3, xv4, xv5, xv6, xv7]
/-- X9_folk -/
def p76 (S : xS) (v1 : Int32) (v2 : Int32) (v3 : Int32) : Option Value × xS := if (v1 : Int32) < 0 then ((some (.int (-1)), (xwI S 1 1 ((S.1 1 1) + 1)))) else (if (((S.1 2 0) - 1) : Int32) < v1 then ((some (.int (-1)), (xwI S 1 1 ((S.1 1 1) + 1)))) else (if (v2 : Int32) < 0 then ((some (.int (-1)), (xwI S 1 1 ((S.1 1 1) + 1)))) else (if (2 : Int32) < v2 then ((some (.int (-1)), (xwI S 1 1 ((S.1 1 1) + 1)))) else (if (v3 : Int32) < 0 then ((some (.int (-6)), (xwI S 1 6 ((S.1 1 6) + 1)))) else (if (40 : Int32) < v3 then ((some (.int (-6)), (xwI S 1 6 ((S.1 1 6) + 1)))) else (if ((S.1 0 9) : Int32) = 0 then ((some (.int (S.1 14 ((v1 * 3) + v2).toNatClampNeg)), (xwI S 14 ((v1 * 3) + v2).toNatClampNeg v3))) else ((some (.int (-6)), (xwI S 1 6 ((S.1 1 6) + 1))))))))))
def g76 (S : xS) (v1 : Int32) (v2 : Int32) (v3 : Int32) : Prop := (if (v1 : Int32) < 0 then True else (if (((S.1 2 0) - 1) : Int32) < v1 then True else (if (v2 : Int32) < 0 then True else (if (2 : Int32) < v2 then True else (if (v3 : Int32) < 0 then True else (if (40 : Int32) < v3 then True else (if ((S.1 0 9) : Int32) = 0 then (vp_in ((v1 * 3) + v2) 30 ∧ (vp_in ((v1 * 3) + v2) 30 ∧ True)) else True)))))))
theorem t76 (d : Nat) (v1 : Int32) (v2 : Int32) (v3 : Int32) (S : xS) (r : Option Value × xS) (h : g76 S v1 v2 v3) : xX (d + 2) 76 0 [(0, .ref 0), (1, .int v1), (2, .int v2), (3, .int v3)] [] S r ↔ r = p76 S v1 v2 v3 := by
  by_cases c1 : (v1 : Int32) < 0
  · skip
    simp (decide := true) only [g76, c1, xrd_ne, xrd_eq, xrd_n2, xrd_J, xrd_K, ite_true, ite_false, if_true, if_false, and_true, true_and] at h
    simp (decide := true) only [p76, b76_0, b76_8, b76_11, b76_17, b76_20, b76_25, b76_26, b76_33, b76_36, b76_43, b76_49, b76_50, b76_60, b8_0, b36_0, b36_11, b25_0, b25_5, b25_10, b25_14, b68_0, b68_7, b68_10, b68_21, c1, h, xrd_ne, xrd_eq, xrd_n2, xrd_J, xrd_K, xsimp_1, xsimp_2, xtl, xtl0, xbit_0, xbit_1, exists_eq_left, and_assoc, exists_and_left, if_true, if_false, true_and, and_true, not_true, not_false_iff, x6, Int32.neg_neg, x01, x11, x21, x31, x41, x51, xn1, xn2, xn3, xn4, xn5, xn6, xn7, xv1, xv2, xv3, xv4, xv5, xv6, xv7]
  · skip
    by_cases c2 : (((S.1 2 0) - 1) : Int32) < v1
    · skip
      simp (decide := true) only [g76, c1, c2, xrd_ne, xrd_eq, xrd_n2, xrd_J, xrd_K, ite_true, ite_false, if_true, if_false, and_true, true_and] at h
      simp (decide := true) only [p76, b76_0, b76_8, b76_11, b76_17, b76_20, b76_25, b76_26, b76_33, b76_36, b76_43, b76_49, b76_50, b76_60, b8_0, b36_0, b36_11, b25_0, b25_5, b25_10, b25_14, b68_0, b68_7, b68_10, b68_21, c1, c2, h, xrd_ne, xrd_eq, xrd_n2, xrd_J, xrd_K, xsimp_1, xsimp_2, xtl, xtl0, xbit_0, xbit_1, exists_eq_left, and_assoc, exists_and_left, if_true, if_false, true_and, and_true, not_true, not_false_iff, x6, Int32.neg_neg, x01, x11, x21, x31, x41, x51, xn1, xn2, xn3, xn4, xn5, xn6, xn7, xv1, xv2, xv3, xv4, xv5, xv6, xv7]
    · skip
      by_cases c3 : (v2 : Int32) < 0
      · skip
        simp (decide := true) only [g76, c1, c2, c3, xrd_ne, xrd_eq, xrd_n2, xrd_J, xrd_K, ite_true, ite_false, if_true, if_false, and_true, true_and] at h
        simp (decide := true) only [p76, b76_0, b76_8, b76_11, b76_17, b76_20, b76_25, b76_26, b76_33, b76_36, b76_43, b76_49, b76_50, b76_60, b8_0, b36_0, b36_11, b25_0, b25_5, b25_10, b25_14, b68_0, b68_7, b68_10, b68_21, c1, c2, c3, h, xrd_ne, xrd_eq, xrd_n2, xrd_J, xrd_K, xsimp_1, xsimp_2, xtl, xtl0, xbit_0, xbit_1, exists_eq_left, and_assoc, exists_and_left, if_true, if_false, true_and, and_true, not_true, not_false_iff, x6, Int32.neg_neg, x01, x11, x21, x31, x41, x51, xn1, xn2, xn3, xn4, xn5, xn6, xn7, xv1, xv2, xv3, xv4, xv5, xv6, xv7]
      · skip
        by_cases c4 : (2 : Int32) < v2
        · skip
          simp (decide := true) only [g76, c1, c2, c3, c4, xrd_ne, xrd_eq, xrd_n2, xrd_J, xrd_K, ite_true, ite_false, if_true, if_false, and_true, true_and] at h
          simp (decide := true) only [p76, b76_0, b76_8, b76_11, b76_17, b76_20, b76_25, b76_26, b76_33, b76_36, b76_43, b76_49, b76_50, b76_60, b8_0, b36_0, b36_11, b25_0, b25_5, b25_10, b25_14, b68_0, b68_7, b68_10, b68_21, c1, c2, c3, c4, h, xrd_ne, xrd_eq, xrd_n2, xrd_J, xrd_K, xsimp_1, xsimp_2, xtl, xtl0, xbit_0, xbit_1, exists_eq_left, and_assoc, exists_and_left, if_true, if_false, true_and, and_true, not_true, not_false_iff, x6, Int32.neg_neg, x01, x11, x21, x31, x41, x51, xn1, xn2, xn3, xn4, xn5, xn6, xn7, xv1, xv2, xv3, xv4, xv5, xv6, xv7]
        · skip
          by_cases c5 : (v3 : Int32) < 0
          · skip
            simp (decide := true) only [g76, c1, c2, c3, c4, c5, xrd_ne, xrd_eq, xrd_n2, xrd_J, xrd_K, ite_true, ite_false, if_true, if_false, and_true, true_and] at h
            simp (decide := true) only [p76, b76_0, b76_8, b76_11, b76_17, b76_20, b76_25, b76_26, b76_33, b76_36, b76_43, b76_49, b76_50, b76_60, b8_0, b36_0, b36_11, b25_0, b25_5, b25_10, b25_14, b68_0, b68_7, b68_10, b68_21, c1, c2, c3, c4, c5, h, xrd_ne, xrd_eq, xrd_n2, xrd_J, xrd_K, xsimp_1, xsimp_2, xtl, xtl0, xbit_0, xbit_1, exists_eq_left, and_assoc, exists_and_left, if_true, if_false, true_and, and_true, not_true, not_false_iff, x6, Int32.neg_neg, x01, x11, x21, x31, x41, x51, xn1, xn2, xn3, xn4, xn5, xn6, xn7, xv1, xv2, xv3, xv4, xv5, xv6, xv7]
          · skip
            by_cases c6 : (40 : Int32) < v3
            · skip
              simp (decide := true) only [g76, c1, c2, c3, c4, c5, c6, xrd_ne, xrd_eq, xrd_n2, xrd_J, xrd_K, ite_true, ite_false, if_true, if_false, and_true, true_and] at h
              simp (decide := true) only [p76, b76_0, b76_8, b76_11, b76_17, b76_20, b76_25, b76_26, b76_33, b76_36, b76_43, b76_49, b76_50, b76_60, b8_0, b36_0, b36_11, b25_0, b25_5, b25_10, b25_14, b68_0, b68_7, b68_10, b68_21, c1, c2, c3, c4, c5, c6, h, xrd_ne, xrd_eq, xrd_n2, xrd_J, xrd_K, xsimp_1, xsimp_2, xtl, xtl0, xbit_0, xbit_1, exists_eq_left, and_assoc, exists_and_left, if_true, if_false, true_and, and_true, not_true, not_false_iff, x6, Int32.neg_neg, x01, x11, x21, x31, x41, x51, xn1, xn2, xn3, xn4, xn5, xn6, xn7, xv1, xv2, xv3, xv4, xv5, xv6, xv7]
            · skip
              by_cases c7 : ((S.1 0 9) : Int32) = 0
              · skip
                simp (decide := true) only [g76, c1, c2, c3, c4, c5, c6, c7, xrd_ne, xrd_eq, xrd_n2, xrd_J, xrd_K, ite_true, ite_false, if_true, if_false, and_true, true_and] at h
                simp (decide := true) only [p76, b76_0, b76_8, b76_11, b76_17, b76_20, b76_25, b76_26, b76_33, b76_36, b76_43, b76_49, b76_50, b76_60, b8_0, b36_0, b36_11, b25_0, b25_5, b25_10, b25_14, b68_0, b68_7, b68_10, b68_21, c1, c2, c3, c4, c5, c6, c7, h, xrd_ne, xrd_eq, xrd_n2, xrd_J, xrd_K, xsimp_1, xsimp_2, xtl, xtl0, xbit_0, xbit_1, exists_eq_left, and_assoc, exists_and_left, if_true, if_false, true_and, and_true, not_true, not_false_iff, x6, Int32.neg_neg, x01, x11, x21, x31, x41, x51, xn1, xn2, xn3, xn4, xn5, xn6, xn7, xv1, xv2, xv3, xv4, xv5, xv6, xv7]
              · skip
                simp (decide := true) only [g76, c1, c2, c3, c4, c5, c6, c7, xrd_ne, xrd_eq, xrd_n2, xrd_J, xrd_K, ite_true, ite_false, if_true, if_false, and_true, true_and] at h
                simp (decide := true) only [p76, b76_0, b76_8, b76_11, b76_17, b76_20, b76_25, b76_26, b76_33, b76_36, b76_43, b76_49, b76_50, b76_60, b8_0, b36_0, b36_11, b25_0, b25_5, b25_10, b25_14, b68_0, b68_7, b68_10, b68_21, c1, c2, c3, c4, c5, c6, c7, h, xrd_ne, xrd_eq, xrd_n2, xrd_J, xrd_K, xsimp_1, xsimp_2, xtl, xtl0, xbit_0, xbit_1, exists_eq_left, and_assoc, exists_and_left, if_true, if_false, true_and, and_true, not_true, not_false_iff, x6, Int32.neg_neg, x01, x11, x21, x31, x41, x51, xn1, xn2, xn3, xn4, xn5, xn6, xn7, xv1, xv2, xv3, xv4, xv5, xv6, xv7]
/-- X9_kind -/
def p77 (S : xS) (v1 : Int32) (v2 : Int32) (v3 : Int32) : Option Value × xS := if (v1 : Int32) < 0 then ((some (.int (-1)), (xwI S 1 1 ((S.1 1 1) + 1)))) else (if (2 : Int32) < v1 then ((some (.int (-1)), (xwI S 1 1 ((S.1 1 1) + 1)))) else (if (v2 : Int32) < 0 then ((some (.int (-6)), (xwI S 1 6 ((S.1 1 6) + 1)))) else (if (4 : Int32) < v2 then ((some (.int (-6)), (xwI S 1 6 ((S.1 1 6) + 1)))) else (if (v3 : Int32) < 0 then ((some (.int (-6)), (xwI S 1 6 ((S.1 1 6) + 1)))) else (if (100 : Int32) < v3 then ((some (.int (-6)), (xwI S 1 6 ((S.1 1 6) + 1)))) else (if ((S.1 0 9) : Int32) = 0 then ((some (.int (S.1 15 ((v1 * 5) + v2).toNatClampNeg)), (xwI S 15 ((v1 * 5) + v2).toNatClampNeg v3))) else ((some (.int (-6)), (xwI S 1 6 ((S.1 1 6) + 1))))))))))
def g77 (S : xS) (v1 : Int32) (v2 : Int32) (v3 : Int32) : Prop := (if (v1 : Int32) < 0 then True else (if (2 : Int32) < v1 then True else (if (v2 : Int32) < 0 then True else (if (4 : Int32) < v2 then True else (if (v3 : Int32) < 0 then True else (if (100 : Int32) < v3 then True else (if ((S.1 0 9) : Int32) = 0 then (vp_in ((v1 * 5) + v2) 15 ∧ (vp_in ((v1 * 5) + v2) 15 ∧ True)) else True)))))))
theorem t77 (d : Nat) (v1 : Int32) (v2 : Int32) (v3 : Int32) (S : xS) (r : Option Value × xS) (h : g77 S v1 v2 v3) : xX (d + 2) 77 0 [(0, .ref 0), (1, .int v1), (2, .int v2), (3, .int v3)] [] S r ↔ r = p77 S v1 v2 v3 := by
  by_cases c1 : (v1 : Int32) < 0
  · skip
    simp (decide := true) only [g77, c1, xrd_ne, xrd_eq, xrd_n2, xrd_J, xrd_K, ite_true, ite_false, if_true, if_false, and_true, true_and] at h
    simp (decide := true) only [p77, b77_0, b77_6, b77_9, b77_14, b77_15, b77_21, b77_24, b77_31, b77_34, b77_41, b77_47, b77_48, b77_58, b9_0, b25_0, b25_5, b25_10, b25_14, b68_0, b68_7, b68_10, b68_21, c1, h, xrd_ne, xrd_eq, xrd_n2, xrd_J, xrd_K, xsimp_1, xsimp_2, xtl, xtl0, xbit_0, xbit_1, exists_eq_left, and_assoc, exists_and_left, if_true, if_false, true_and, and_true, not_true, not_false_iff, x6, Int32.neg_neg, x01, x11, x21, x31, x41, x51, xn1, xn2, xn3, xn4, xn5, xn6, xn7, xv1, xv2, xv3, xv4, xv5, xv6, xv7]
  · skip
    by_cases c2 : (2 : Int32) < v1
    · skip
      simp (decide := true) only [g77, c1, c2, xrd_ne, xrd_eq, xrd_n2, xrd_J, xrd_K, ite_true, ite_false, if_true, if_false, and_true, true_and] at h
      simp (decide := true) only [p77, b77_0, b77_6, b77_9, b77_14, b77_15, b77_21, b77_24, b77_31, b77_34, b77_41, b77_47, b77_48, b77_58, b9_0, b25_0, b25_5, b25_10, b25_14, b68_0, b68_7, b68_10, b68_21, c1, c2, h, xrd_ne, xrd_eq, xrd_n2, xrd_J, xrd_K, xsimp_1, xsimp_2, xtl, xtl0, xbit_0, xbit_1, exists_eq_left, and_assoc, exists_and_left, if_true, if_false, true_and, and_true, not_true, not_false_iff, x6, Int32.neg_neg, x01, x11, x21, x31, x41, x51, xn1, xn2, xn3, xn4, xn5, xn6, xn7, xv1, xv2, xv3, xv4, xv5, xv6, xv7]
    · skip
      by_cases c3 : (v2 : Int32) < 0
      · skip
        simp (decide := true) only [g77, c1, c2, c3, xrd_ne, xrd_eq, xrd_n2, xrd_J, xrd_K, ite_true, ite_false, if_true, if_false, and_true, true_and] at h
        simp (decide := true) only [p77, b77_0, b77_6, b77_9, b77_14, b77_15, b77_21, b77_24, b77_31, b77_34, b77_41, b77_47, b77_48, b77_58, b9_0, b25_0, b25_5, b25_10, b25_14, b68_0, b68_7, b68_10, b68_21, c1, c2, c3, h, xrd_ne, xrd_eq, xrd_n2, xrd_J, xrd_K, xsimp_1, xsimp_2, xtl, xtl0, xbit_0, xbit_1, exists_eq_left, and_assoc, exists_and_left, if_true, if_false, true_and, and_true, not_true, not_false_iff, x6, Int32.neg_neg, x01, x11, x21, x31, x41, x51, xn1, xn2, xn3, xn4, xn5, xn6, xn7, xv1, xv2, xv3, xv4, xv5, xv6, xv7]
      · skip
        by_cases c4 : (4 : Int32) < v2
        · skip
          simp (decide := true) only [g77, c1, c2, c3, c4, xrd_ne, xrd_eq, xrd_n2, xrd_J, xrd_K, ite_true, ite_false, if_true, if_false, and_true, true_and] at h
          simp (decide := true) only [p77, b77_0, b77_6, b77_9, b77_14, b77_15, b77_21, b77_24, b77_31, b77_34, b77_41, b77_47, b77_48, b77_58, b9_0, b25_0, b25_5, b25_10, b25_14, b68_0, b68_7, b68_10, b68_21, c1, c2, c3, c4, h, xrd_ne, xrd_eq, xrd_n2, xrd_J, xrd_K, xsimp_1, xsimp_2, xtl, xtl0, xbit_0, xbit_1, exists_eq_left, and_assoc, exists_and_left, if_true, if_false, true_and, and_true, not_true, not_false_iff, x6, Int32.neg_neg, x01, x11, x21, x31, x41, x51, xn1, xn2, xn3, xn4, xn5, xn6, xn7, xv1, xv2, xv3, xv4, xv5, xv6, xv7]
        · skip
          by_cases c5 : (v3 : Int32) < 0
          · skip
            simp (decide := true) only [g77, c1, c2, c3, c4, c5, xrd_ne, xrd_eq, xrd_n2, xrd_J, xrd_K, ite_true, ite_false, if_true, if_false, and_true, true_and] at h
            simp (decide := true) only [p77, b77_0, b77_6, b77_9, b77_14, b77_15, b77_21, b77_24, b77_31, b77_34, b77_41, b77_47, b77_48, b77_58, b9_0, b25_0, b25_5, b25_10, b25_14, b68_0, b68_7, b68_10, b68_21, c1, c2, c3, c4, c5, h, xrd_ne, xrd_eq, xrd_n2, xrd_J, xrd_K, xsimp_1, xsimp_2, xtl, xtl0, xbit_0, xbit_1, exists_eq_left, and_assoc, exists_and_left, if_true, if_false, true_and, and_true, not_true, not_false_iff, x6, Int32.neg_neg, x01, x11, x21, x31, x41, x51, xn1, xn2, xn3, xn4, xn5, xn6, xn7, xv1, xv2, xv3, xv4, xv5, xv6, xv7]
          · skip
            by_cases c6 : (100 : Int32) < v3
            · skip
              simp (decide := true) only [g77, c1, c2, c3, c4, c5, c6, xrd_ne, xrd_eq, xrd_n2, xrd_J, xrd_K, ite_true, ite_false, if_true, if_false, and_true, true_and] at h
              simp (decide := true) only [p77, b77_0, b77_6, b77_9, b77_14, b77_15, b77_21, b77_24, b77_31, b77_34, b77_41, b77_47, b77_48, b77_58, b9_0, b25_0, b25_5, b25_10, b25_14, b68_0, b68_7, b68_10, b68_21, c1, c2, c3, c4, c5, c6, h, xrd_ne, xrd_eq, xrd_n2, xrd_J, xrd_K, xsimp_1, xsimp_2, xtl, xtl0, xbit_0, xbit_1, exists_eq_left, and_assoc, exists_and_left, if_true, if_false, true_and, and_true, not_true, not_false_iff, x6, Int32.neg_neg, x01, x11, x21, x31, x41, x51, xn1, xn2, xn3, xn4, xn5, xn6, xn7, xv1, xv2, xv3, xv4, xv5, xv6, xv7]
            · skip
              by_cases c7 : ((S.1 0 9) : Int32) = 0
              · skip
                simp (decide := true) only [g77, c1, c2, c3, c4, c5, c6, c7, xrd_ne, xrd_eq, xrd_n2, xrd_J, xrd_K, ite_true, ite_false, if_true, if_false, and_true, true_and] at h
                simp (decide := true) only [p77, b77_0, b77_6, b77_9, b77_14, b77_15, b77_21, b77_24, b77_31, b77_34, b77_41, b77_47, b77_48, b77_58, b9_0, b25_0, b25_5, b25_10, b25_14, b68_0, b68_7, b68_10, b68_21, c1, c2, c3, c4, c5, c6, c7, h, xrd_ne, xrd_eq, xrd_n2, xrd_J, xrd_K, xsimp_1, xsimp_2, xtl, xtl0, xbit_0, xbit_1, exists_eq_left, and_assoc, exists_and_left, if_true, if_false, true_and, and_true, not_true, not_false_iff, x6, Int32.neg_neg, x01, x11, x21, x31, x41, x51, xn1, xn2, xn3, xn4, xn5, xn6, xn7, xv1, xv2, xv3, xv4, xv5, xv6, xv7]
              · skip
                simp (decide := true) only [g77, c1, c2, c3, c4, c5, c6, c7, xrd_ne, xrd_eq, xrd_n2, xrd_J, xrd_K, ite_true, ite_false, if_true, if_false, and_true, true_and] at h
                simp (decide := true) only [p77, b77_0, b77_6, b77_9, b77_14, b77_15, b77_21, b77_24, b77_31, b77_34, b77_41, b77_47, b77_48, b77_58, b9_0, b25_0, b25_5, b25_10, b25_14, b68_0, b68_7, b68_10, b68_21, c1, c2, c3, c4, c5, c6, c7, h, xrd_ne, xrd_eq, xrd_n2, xrd_J, xrd_K, xsimp_1, xsimp_2, xtl, xtl0, xbit_0, xbit_1, exists_eq_left, and_assoc, exists_and_left, if_true, if_false, true_and, and_true, not_true, not_false_iff, x6, Int32.neg_neg, x01, x11, x21, x31, x41, x51, xn1, xn2, xn3, xn4, xn5, xn6, xn7, xv1, xv2, xv3, xv4, xv5, xv6, xv7]
/-- X9_isShelf -/
def p78 (S : xS) (v0 : Int32) : Option Value × xS := if (v0 : Int32) < 0 then ((some (.int 0), S)) else (if (7 : Int32) < v0 then ((some (.int 0), S)) else ((some (.int 1), S)))
theorem t78 (d : Nat) (v0 : Int32) (S : xS) (r : Option Value × xS) : xX (d + 1) 78 0 [(0, .int v0)] [] S r ↔ r = p78 S v0 := by
  by_cases c1 : (v0 : Int32) < 0
  · skip
    simp (decide := true) only [p78, b78_0, b78_7, b25_0, b25_5, b25_10, b25_14, c1, xrd_ne, xrd_eq, xrd_n2, xrd_J, xrd_K, xsimp_1, xsimp_2, xtl, xtl0, xbit_0, xbit_1, exists_eq_left, and_assoc, exists_and_left, if_true, if_false, true_and, and_true, not_true, not_false_iff, x6, Int32.neg_neg, x01, x11, x21, x31, x41, x51, xn1, xn2, xn3, xn4, xn5, xn6, xn7, xv1, xv2, xv3, xv4, xv5, xv6, xv7]
  · skip
    by_cases c2 : (7 : Int32) < v0
    · skip
      simp (decide := true) only [p78, b78_0, b78_7, b25_0, b25_5, b25_10, b25_14, c1, c2, xrd_ne, xrd_eq, xrd_n2, xrd_J, xrd_K, xsimp_1, xsimp_2, xtl, xtl0, xbit_0, xbit_1, exists_eq_left, and_assoc, exists_and_left, if_true, if_false, true_and, and_true, not_true, not_false_iff, x6, Int32.neg_neg, x01, x11, x21, x31, x41, x51, xn1, xn2, xn3, xn4, xn5, xn6, xn7, xv1, xv2, xv3, xv4, xv5, xv6, xv7]
    · skip
      simp (decide := true) only [p78, b78_0, b78_7, b25_0, b25_5, b25_10, b25_14, c1, c2, xrd_ne, xrd_eq, xrd_n2, xrd_J, xrd_K, xsimp_1, xsimp_2, xtl, xtl0, xbit_0, xbit_1, exists_eq_left, and_assoc, exists_and_left, if_true, if_false, true_and, and_true, not_true, not_false_iff, x6, Int32.neg_neg, x01, x11, x21, x31, x41, x51, xn1, xn2, xn3, xn4, xn5, xn6, xn7, xv1, xv2, xv3, xv4, xv5, xv6, xv7]
/-- X9_wantRow -/
def p80 (S : xS) (v1 : Int32) : Option Value × xS := if (v1 : Int32) < 0 then ((some (.int (-1)), S)) else (if (7 : Int32) < v1 then ((some (.int (-1)), S)) else (if ((S.1 29 v1.toNatClampNeg) : Int32) < 100 then (if ((S.1 29 v1.toNatClampNeg) : Int32) = (-1) then ((some (.int (-3)), S)) else ((some (.int (-2)), S))) else ((some (.int 0), S))))
def g80 (S : xS) (v1 : Int32) : Prop := (if (v1 : Int32) < 0 then True else (if (7 : Int32) < v1 then True else (vp_in v1 8 ∧ (if ((S.1 29 v1.toNatClampNeg) : Int32) < 100 then (vp_in v1 8 ∧ True) else True))))
theorem t80 (d : Nat) (v1 : Int32) (S : xS) (r : Option Value × xS) (h : g80 S v1) : xX (d + 2) 80 0 [(0, .ref 0), (1, .int v1)] [] S r ↔ r = p80 S v1 := by
  by_cases c1 : (v1 : Int32) < 0
  · skip
    simp (decide := true) only [g80, c1, xrd_ne, xrd_eq, xrd_n2, xrd_J, xrd_K, ite_true, ite_false, if_true, if_false, and_true, true_and] at h
    simp (decide := true) only [p80, b80_0, b80_4, b80_7, b80_9, b80_17, b80_20, b80_22, b80_30, b80_33, b80_38, b61_0, b61_10, b61_14, b24_0, b24_11, b24_15, b78_0, b78_7, b25_0, b25_5, b25_10, b25_14, c1, h, xrd_ne, xrd_eq, xrd_n2, xrd_J, xrd_K, xsimp_1, xsimp_2, xtl, xtl0, xbit_0, xbit_1, exists_eq_left, and_assoc, exists_and_left, if_true, if_false, true_and, and_true, not_true, not_false_iff, x6, Int32.neg_neg, x01, x11, x21, x31, x41, x51, xn1, xn2, xn3, xn4, xn5, xn6, xn7, xv1, xv2, xv3, xv4, xv5, xv6, xv7]
  · skip
    by_cases c2 : (7 : Int32) < v1
    · skip
      simp (decide := true) only [g80, c1, c2, xrd_ne, xrd_eq, xrd_n2, xrd_J, xrd_K, ite_true, ite_false, if_true, if_false, and_true, true_and] at h
      simp (decide := true) only [p80, b80_0, b80_4, b80_7, b80_9, b80_17, b80_20, b80_22, b80_30, b80_33, b80_38, b61_0, b61_10, b61_14, b24_0, b24_11, b24_15, b78_0, b78_7, b25_0, b25_5, b25_10, b25_14, c1, c2, h, xrd_ne, xrd_eq, xrd_n2, xrd_J, xrd_K, xsimp_1, xsimp_2, xtl, xtl0, xbit_0, xbit_1, exists_eq_left, and_assoc, exists_and_left, if_true, if_false, true_and, and_true, not_true, not_false_iff, x6, Int32.neg_neg, x01, x11, x21, x31, x41, x51, xn1, xn2, xn3, xn4, xn5, xn6, xn7, xv1, xv2, xv3, xv4, xv5, xv6, xv7]
    · skip
      by_cases c3 : ((S.1 29 v1.toNatClampNeg) : Int32) < 100
      · skip
        by_cases c4 : ((S.1 29 v1.toNatClampNeg) : Int32) = (-1)
        · skip
          simp (decide := true) only [g80, c1, c2, c3, c4, xrd_ne, xrd_eq, xrd_n2, xrd_J, xrd_K, ite_true, ite_false, if_true, if_false, and_true, true_and] at h
          simp (decide := true) only [p80, b80_0, b80_4, b80_7, b80_9, b80_17, b80_20, b80_22, b80_30, b80_33, b80_38, b61_0, b61_10, b61_14, b24_0, b24_11, b24_15, b78_0, b78_7, b25_0, b25_5, b25_10, b25_14, c1, c2, c3, c4, h, xrd_ne, xrd_eq, xrd_n2, xrd_J, xrd_K, xsimp_1, xsimp_2, xtl, xtl0, xbit_0, xbit_1, exists_eq_left, and_assoc, exists_and_left, if_true, if_false, true_and, and_true, not_true, not_false_iff, x6, Int32.neg_neg, x01, x11, x21, x31, x41, x51, xn1, xn2, xn3, xn4, xn5, xn6, xn7, xv1, xv2, xv3, xv4, xv5, xv6, xv7]
        · skip
          simp (decide := true) only [g80, c1, c2, c3, c4, xrd_ne, xrd_eq, xrd_n2, xrd_J, xrd_K, ite_true, ite_false, if_true, if_false, and_true, true_and] at h
          simp (decide := true) only [p80, b80_0, b80_4, b80_7, b80_9, b80_17, b80_20, b80_22, b80_30, b80_33, b80_38, b61_0, b61_10, b61_14, b24_0, b24_11, b24_15, b78_0, b78_7, b25_0, b25_5, b25_10, b25_14, c1, c2, c3, c4, h, xrd_ne, xrd_eq, xrd_n2, xrd_J, xrd_K, xsimp_1, xsimp_2, xtl, xtl0, xbit_0, xbit_1, exists_eq_left, and_assoc, exists_and_left, if_true, if_false, true_and, and_true, not_true, not_false_iff, x6, Int32.neg_neg, x01, x11, x21, x31, x41, x51, xn1, xn2, xn3, xn4, xn5, xn6, xn7, xv1, xv2, xv3, xv4, xv5, xv6, xv7]
      · skip
        simp (decide := true) only [g80, c1, c2, c3, xrd_ne, xrd_eq, xrd_n2, xrd_J, xrd_K, ite_true, ite_false, if_true, if_false, and_true, true_and] at h
        simp (decide := true) only [p80, b80_0, b80_4, b80_7, b80_9, b80_17, b80_20, b80_22, b80_30, b80_33, b80_38, b61_0, b61_10, b61_14, b24_0, b24_11, b24_15, b78_0, b78_7, b25_0, b25_5, b25_10, b25_14, c1, c2, c3, h, xrd_ne, xrd_eq, xrd_n2, xrd_J, xrd_K, xsimp_1, xsimp_2, xtl, xtl0, xbit_0, xbit_1, exists_eq_left, and_assoc, exists_and_left, if_true, if_false, true_and, and_true, not_true, not_false_iff, x6, Int32.neg_neg, x01, x11, x21, x31, x41, x51, xn1, xn2, xn3, xn4, xn5, xn6, xn7, xv1, xv2, xv3, xv4, xv5, xv6, xv7]
/-- X9_set -/
def p81 (S : xS) (v1 : Int32) (v2 : Int32) (v3 : Int64) : Option Value × xS := if (v1 : Int32) < 0 then ((some (.int (-1)), (xwI S 1 1 ((S.1 1 1) + 1)))) else (if (7 : Int32) < v1 then ((some (.int (-1)), (xwI S 1 1 ((S.1 1 1) + 1)))) else (if ((S.1 29 v1.toNatClampNeg) : Int32) < 100 then (if ((S.1 29 v1.toNatClampNeg) : Int32) = (-1) then ((some (.int (-3)), (xwI S 1 3 ((S.1 1 3) + 1)))) else ((some (.int (-2)), (xwI S 1 2 ((S.1 1 2) + 1))))) else (if (v2 : Int32) < 0 then ((some (.int (-5)), (xwI S 1 5 ((S.1 1 5) + 1)))) else (if (((S.1 30 v1.toNatClampNeg) - 1) : Int32) < v2 then ((some (.int (-5)), (xwI S 1 5 ((S.1 1 5) + 1)))) else (if (((S.1 29 v1.toNatClampNeg) - 100) : Int32) = 0 then ((some (.int 1), (xwJ S (xrb + v1.toNatClampNeg) v2.toNatClampNeg (Int32.toInt64 (Int8.toInt32 (Int32.toInt8 (Int64.toInt32 v3))))))) else (if (((S.1 29 v1.toNatClampNeg) - 100) : Int32) = 1 then ((some (.int 1), (xwJ S (xrb + v1.toNatClampNeg) v2.toNatClampNeg (Int32.toInt64 (Int16.toInt32 (Int32.toInt16 (Int64.toInt32 v3))))))) else (if (((S.1 29 v1.toNatClampNeg) - 100) : Int32) = 2 then ((some (.int 1), (xwJ S (xrb + v1.toNatClampNeg) v2.toNatClampNeg (Int32.toInt64 (Int64.toInt32 v3))))) else ((some (.int 1), (xwJ S (xrb + v1.toNatClampNeg) v2.toNatClampNeg v3))))))))))
def g81 (S : xS) (v1 : Int32) (v2 : Int32) (v3 : Int64) : Prop := (if (v1 : Int32) < 0 then True else (if (7 : Int32) < v1 then True else (vp_in v1 8 ∧ (if ((S.1 29 v1.toNatClampNeg) : Int32) < 100 then (vp_in v1 8 ∧ True) else (vp_in v1 8 ∧ (if (v2 : Int32) < 0 then True else (if (((S.1 30 v1.toNatClampNeg) - 1) : Int32) < v2 then True else (vp_in v1 8 ∧ (if (((S.1 29 v1.toNatClampNeg) - 100) : Int32) = 0 then (vp_in v1 8 ∧ ((v1.toNatClampNeg < 8 ∧ vp_in v2 60) ∧ True)) else (if (((S.1 29 v1.toNatClampNeg) - 100) : Int32) = 1 then (vp_in v1 8 ∧ ((v1.toNatClampNeg < 8 ∧ vp_in v2 60) ∧ True)) else (if (((S.1 29 v1.toNatClampNeg) - 100) : Int32) = 2 then (vp_in v1 8 ∧ ((v1.toNatClampNeg < 8 ∧ vp_in v2 60) ∧ True)) else (vp_in v1 8 ∧ ((v1.toNatClampNeg < 8 ∧ vp_in v2 60) ∧ True)))))))))))))
theorem t81 (d : Nat) (v1 : Int32) (v2 : Int32) (v3 : Int64) (S : xS) (r : Option Value × xS) (h : g81 S v1 v2 v3) : xX (d + 3) 81 0 [(0, .ref 0), (1, .int v1), (2, .int v2), (3, .long v3)] [] S r ↔ r = p81 S v1 v2 v3 := by
  by_cases c1 : (v1 : Int32) < 0
  · skip
    simp (decide := true) only [g81, c1, xrd_ne, xrd_eq, xrd_n2, xrd_J, xrd_K, ite_true, ite_false, if_true, if_false, and_true, true_and] at h
    simp (decide := true) only [p81, b81_0, b81_5, b81_12, b81_18, b81_19, b81_35, b81_38, b81_44, b81_45, b81_55, b61_0, b61_10, b61_14, b24_0, b24_11, b24_15, b65_0, b65_36, b65_51, b65_66, b65_80, b78_0, b78_7, b25_0, b25_5, b25_10, b25_14, b68_0, b68_7, b68_10, b68_21, b80_0, b80_4, b80_7, b80_9, b80_17, b80_20, b80_22, b80_30, b80_33, b80_38, c1, h, xrd_ne, xrd_eq, xrd_n2, xrd_J, xrd_K, xsimp_1, xsimp_2, xtl, xtl0, xbit_0, xbit_1, exists_eq_left, and_assoc, exists_and_left, if_true, if_false, true_and, and_true, not_true, not_false_iff, x6, Int32.neg_neg, x01, x11, x21, x31, x41, x51, xn1, xn2, xn3, xn4, xn5, xn6, xn7, xv1, xv2, xv3, xv4, xv5, xv6, xv7]
  · skip
    by_cases c2 : (7 : Int32) < v1
    · skip
      simp (decide := true) only [g81, c1, c2, xrd_ne, xrd_eq, xrd_n2, xrd_J, xrd_K, ite_true, ite_false, if_true, if_false, and_true, true_and] at h
      simp (decide := true) only [p81, b81_0, b81_5, b81_12, b81_18, b81_19, b81_35, b81_38, b81_44, b81_45, b81_55, b61_0, b61_10, b61_14, b24_0, b24_11, b24_15, b65_0, b65_36, b65_51, b65_66, b65_80, b78_0, b78_7, b25_0, b25_5, b25_10, b25_14, b68_0, b68_7, b68_10, b68_21, b80_0, b80_4, b80_7, b80_9, b80_17, b80_20, b80_22, b80_30, b80_33, b80_38, c1, c2, h, xrd_ne, xrd_eq, xrd_n2, xrd_J, xrd_K, xsimp_1, xsimp_2, xtl, xtl0, xbit_0, xbit_1, exists_eq_left, and_assoc, exists_and_left, if_true, if_false, true_and, and_true, not_true, not_false_iff, x6, Int32.neg_neg, x01, x11, x21, x31, x41, x51, xn1, xn2, xn3, xn4, xn5, xn6, xn7, xv1, xv2, xv3, xv4, xv5, xv6, xv7]
    · skip
      by_cases c3 : ((S.1 29 v1.toNatClampNeg) : Int32) < 100
      · skip
        by_cases c4 : ((S.1 29 v1.toNatClampNeg) : Int32) = (-1)
        · skip
          simp (decide := true) only [g81, c1, c2, c3, c4, xrd_ne, xrd_eq, xrd_n2, xrd_J, xrd_K, ite_true, ite_false, if_true, if_false, and_true, true_and] at h
          simp (decide := true) only [p81, b81_0, b81_5, b81_12, b81_18, b81_19, b81_35, b81_38, b81_44, b81_45, b81_55, b61_0, b61_10, b61_14, b24_0, b24_11, b24_15, b65_0, b65_36, b65_51, b65_66, b65_80, b78_0, b78_7, b25_0, b25_5, b25_10, b25_14, b68_0, b68_7, b68_10, b68_21, b80_0, b80_4, b80_7, b80_9, b80_17, b80_20, b80_22, b80_30, b80_33, b80_38, c1, c2, c3, c4, h, xrd_ne, xrd_eq, xrd_n2, xrd_J, xrd_K, xsimp_1, xsimp_2, xtl, xtl0, xbit_0, xbit_1, exists_eq_left, and_assoc, exists_and_left, if_true, if_false, true_and, and_true, not_true, not_false_iff, x6, Int32.neg_neg, x01, x11, x21, x31, x41, x51, xn1, xn2, xn3, xn4, xn5, xn6, xn7, xv1, xv2, xv3, xv4, xv5, xv6, xv7]
        · skip
          simp (decide := true) only [g81, c1, c2, c3, c4, xrd_ne, xrd_eq, xrd_n2, xrd_J, xrd_K, ite_true, ite_false, if_true, if_false, and_true, true_and] at h
          simp (decide := true) only [p81, b81_0, b81_5, b81_12, b81_18, b81_19, b81_35, b81_38, b81_44, b81_45, b81_55, b61_0, b61_10, b61_14, b24_0, b24_11, b24_15, b65_0, b65_36, b65_51, b65_66, b65_80, b78_0, b78_7, b25_0, b25_5, b25_10, b25_14, b68_0, b68_7, b68_10, b68_21, b80_0, b80_4, b80_7, b80_9, b80_17, b80_20, b80_22, b80_30, b80_33, b80_38, c1, c2, c3, c4, h, xrd_ne, xrd_eq, xrd_n2, xrd_J, xrd_K, xsimp_1, xsimp_2, xtl, xtl0, xbit_0, xbit_1, exists_eq_left, and_assoc, exists_and_left, if_true, if_false, true_and, and_true, not_true, not_false_iff, x6, Int32.neg_neg, x01, x11, x21, x31, x41, x51, xn1, xn2, xn3, xn4, xn5, xn6, xn7, xv1, xv2, xv3, xv4, xv5, xv6, xv7]
      · skip
        by_cases c4 : (v2 : Int32) < 0
        · skip
          simp (decide := true) only [g81, c1, c2, c3, c4, xrd_ne, xrd_eq, xrd_n2, xrd_J, xrd_K, ite_true, ite_false, if_true, if_false, and_true, true_and] at h
          simp (decide := true) only [p81, b81_0, b81_5, b81_12, b81_18, b81_19, b81_35, b81_38, b81_44, b81_45, b81_55, b61_0, b61_10, b61_14, b24_0, b24_11, b24_15, b65_0, b65_36, b65_51, b65_66, b65_80, b78_0, b78_7, b25_0, b25_5, b25_10, b25_14, b68_0, b68_7, b68_10, b68_21, b80_0, b80_4, b80_7, b80_9, b80_17, b80_20, b80_22, b80_30, b80_33, b80_38, c1, c2, c3, c4, h, xrd_ne, xrd_eq, xrd_n2, xrd_J, xrd_K, xsimp_1, xsimp_2, xtl, xtl0, xbit_0, xbit_1, exists_eq_left, and_assoc, exists_and_left, if_true, if_false, true_and, and_true, not_true, not_false_iff, x6, Int32.neg_neg, x01, x11, x21, x31, x41, x51, xn1, xn2, xn3, xn4, xn5, xn6, xn7, xv1, xv2, xv3, xv4, xv5, xv6, xv7]
        · skip
          by_cases c5 : (((S.1 30 v1.toNatClampNeg) - 1) : Int32) < v2
          · skip
            simp (decide := true) only [g81, c1, c2, c3, c4, c5, xrd_ne, xrd_eq, xrd_n2, xrd_J, xrd_K, ite_true, ite_false, if_true, if_false, and_true, true_and] at h
            simp (decide := true) only [p81, b81_0, b81_5, b81_12, b81_18, b81_19, b81_35, b81_38, b81_44, b81_45, b81_55, b61_0, b61_10, b61_14, b24_0, b24_11, b24_15, b65_0, b65_36, b65_51, b65_66, b65_80, b78_0, b78_7, b25_0, b25_5, b25_10, b25_14, b68_0, b68_7, b68_10, b68_21, b80_0, b80_4, b80_7, b80_9, b80_17, b80_20, b80_22, b80_30, b80_33, b80_38, c1, c2, c3, c4, c5, h, xrd_ne, xrd_eq, xrd_n2, xrd_J, xrd_K, xsimp_1, xsimp_2, xtl, xtl0, xbit_0, xbit_1, exists_eq_left, and_assoc, exists_and_left, if_true, if_false, true_and, and_true, not_true, not_false_iff, x6, Int32.neg_neg, x01, x11, x21, x31, x41, x51, xn1, xn2, xn3, xn4, xn5, xn6, xn7, xv1, xv2, xv3, xv4, xv5, xv6, xv7]
          · skip
            by_cases c6 : (((S.1 29 v1.toNatClampNeg) - 100) : Int32) = 0
            · skip
              simp (decide := true) only [g81, c1, c2, c3, c4, c5, c6, xrd_ne, xrd_eq, xrd_n2, xrd_J, xrd_K, ite_true, ite_false, if_true, if_false, and_true, true_and] at h
              simp (decide := true) only [p81, b81_0, b81_5, b81_12, b81_18, b81_19, b81_35, b81_38, b81_44, b81_45, b81_55, b61_0, b61_10, b61_14, b24_0, b24_11, b24_15, b65_0, b65_36, b65_51, b65_66, b65_80, b78_0, b78_7, b25_0, b25_5, b25_10, b25_14, b68_0, b68_7, b68_10, b68_21, b80_0, b80_4, b80_7, b80_9, b80_17, b80_20, b80_22, b80_30, b80_33, b80_38, c1, c2, c3, c4, c5, c6, h, xrd_ne, xrd_eq, xrd_n2, xrd_J, xrd_K, xsimp_1, xsimp_2, xtl, xtl0, xbit_0, xbit_1, exists_eq_left, and_assoc, exists_and_left, if_true, if_false, true_and, and_true, not_true, not_false_iff, x6, Int32.neg_neg, x01, x11, x21, x31, x41, x51, xn1, xn2, xn3, xn4, xn5, xn6, xn7, xv1, xv2, xv3, xv4, xv5, xv6, xv7]
            · skip
              by_cases c7 : (((S.1 29 v1.toNatClampNeg) - 100) : Int32) = 1
              · skip
                simp (decide := true) only [g81, c1, c2, c3, c4, c5, c6, c7, xrd_ne, xrd_eq, xrd_n2, xrd_J, xrd_K, ite_true, ite_false, if_true, if_false, and_true, true_and] at h
                simp (decide := true) only [p81, b81_0, b81_5, b81_12, b81_18, b81_19, b81_35, b81_38, b81_44, b81_45, b81_55, b61_0, b61_10, b61_14, b24_0, b24_11, b24_15, b65_0, b65_36, b65_51, b65_66, b65_80, b78_0, b78_7, b25_0, b25_5, b25_10, b25_14, b68_0, b68_7, b68_10, b68_21, b80_0, b80_4, b80_7, b80_9, b80_17, b80_20, b80_22, b80_30, b80_33, b80_38, c1, c2, c3, c4, c5, c6, c7, h, xrd_ne, xrd_eq, xrd_n2, xrd_J, xrd_K, xsimp_1, xsimp_2, xtl, xtl0, xbit_0, xbit_1, exists_eq_left, and_assoc, exists_and_left, if_true, if_false, true_and, and_true, not_true, not_false_iff, x6, Int32.neg_neg, x01, x11, x21, x31, x41, x51, xn1, xn2, xn3, xn4, xn5, xn6, xn7, xv1, xv2, xv3, xv4, xv5, xv6, xv7]
              · skip
                by_cases c8 : (((S.1 29 v1.toNatClampNeg) - 100) : Int32) = 2
                · skip
                  simp (decide := true) only [g81, c1, c2, c3, c4, c5, c6, c7, c8, xrd_ne, xrd_eq, xrd_n2, xrd_J, xrd_K, ite_true, ite_false, if_true, if_false, and_true, true_and] at h
                  simp (decide := true) only [p81, b81_0, b81_5, b81_12, b81_18, b81_19, b81_35, b81_38, b81_44, b81_45, b81_55, b61_0, b61_10, b61_14, b24_0, b24_11, b24_15, b65_0, b65_36, b65_51, b65_66, b65_80, b78_0, b78_7, b25_0, b25_5, b25_10, b25_14, b68_0, b68_7, b68_10, b68_21, b80_0, b80_4, b80_7, b80_9, b80_17, b80_20, b80_22, b80_30, b80_33, b80_38, c1, c2, c3, c4, c5, c6, c7, c8, h, xrd_ne, xrd_eq, xrd_n2, xrd_J, xrd_K, xsimp_1, xsimp_2, xtl, xtl0, xbit_0, xbit_1, exists_eq_left, and_assoc, exists_and_left, if_true, if_false, true_and, and_true, not_true, not_false_iff, x6, Int32.neg_neg, x01, x11, x21, x31, x41, x51, xn1, xn2, xn3, xn4, xn5, xn6, xn7, xv1, xv2, xv3, xv4, xv5, xv6, xv7]
                · skip
                  simp (decide := true) only [g81, c1, c2, c3, c4, c5, c6, c7, c8, xrd_ne, xrd_eq, xrd_n2, xrd_J, xrd_K, ite_true, ite_false, if_true, if_false, and_true, true_and] at h
                  simp (decide := true) only [p81, b81_0, b81_5, b81_12, b81_18, b81_19, b81_35, b81_38, b81_44, b81_45, b81_55, b61_0, b61_10, b61_14, b24_0, b24_11, b24_15, b65_0, b65_36, b65_51, b65_66, b65_80, b78_0, b78_7, b25_0, b25_5, b25_10, b25_14, b68_0, b68_7, b68_10, b68_21, b80_0, b80_4, b80_7, b80_9, b80_17, b80_20, b80_22, b80_30, b80_33, b80_38, c1, c2, c3, c4, c5, c6, c7, c8, h, xrd_ne, xrd_eq, xrd_n2, xrd_J, xrd_K, xsimp_1, xsimp_2, xtl, xtl0, xbit_0, xbit_1, exists_eq_left, and_assoc, exists_and_left, if_true, if_false, true_and, and_true, not_true, not_false_iff, x6, Int32.neg_neg, x01, x11, x21, x31, x41, x51, xn1, xn2, xn3, xn4, xn5, xn6, xn7, xv1, xv2, xv3, xv4, xv5, xv6, xv7]
/-- X9_copy -/
def p82 (S : xS) (v1 : Int32) (v2 : Int32) (v3 : Int32) (v4 : Int32) (v5 : Int32) : Option Value × xS := if (v1 : Int32) < 0 then ((some (.int (-1)), (xwI S 1 1 ((S.1 1 1) + 1)))) else (if (7 : Int32) < v1 then ((some (.int (-1)), (xwI S 1 1 ((S.1 1 1) + 1)))) else (if (v2 : Int32) < 0 then ((some (.int (-1)), (xwI S 1 1 ((S.1 1 1) + 1)))) else (if (7 : Int32) < v2 then ((some (.int (-1)), (xwI S 1 1 ((S.1 1 1) + 1)))) else (if ((S.1 29 v1.toNatClampNeg) : Int32) = (-1) then (if ((S.1 29 v2.toNatClampNeg) : Int32) = (-1) then (if ((S.1 29 v1.toNatClampNeg) : Int32) < 100 then ((some (.int (-3)), (xwI S 1 3 ((S.1 1 3) + 1)))) else (if ((S.1 29 v2.toNatClampNeg) : Int32) < 100 then ((some (.int (-3)), (xwI S 1 3 ((S.1 1 3) + 1)))) else (if ((S.1 29 v1.toNatClampNeg) : Int32) = (S.1 29 v2.toNatClampNeg) then ((some (.int (-3)), (xwI S 1 3 ((S.1 1 3) + 1)))) else ((some (.int (-2)), (xwI S 1 2 ((S.1 1 2) + 1))))))) else (if ((S.1 29 v2.toNatClampNeg) : Int32) < 100 then ((some (.int (-2)), (xwI S 1 2 ((S.1 1 2) + 1)))) else (if ((S.1 29 v1.toNatClampNeg) : Int32) < 100 then ((some (.int (-3)), (xwI S 1 3 ((S.1 1 3) + 1)))) else (if ((S.1 29 v1.toNatClampNeg) : Int32) = (S.1 29 v2.toNatClampNeg) then ((some (.int (-3)), (xwI S 1 3 ((S.1 1 3) + 1)))) else ((some (.int (-2)), (xwI S 1 2 ((S.1 1 2) + 1)))))))) else (if ((S.1 29 v1.toNatClampNeg) : Int32) < 100 then ((some (.int (-2)), (xwI S 1 2 ((S.1 1 2) + 1)))) else (if ((S.1 29 v2.toNatClampNeg) : Int32) = (-1) then (if ((S.1 29 v2.toNatClampNeg) : Int32) < 100 then ((some (.int (-3)), (xwI S 1 3 ((S.1 1 3) + 1)))) else (if ((S.1 29 v1.toNatClampNeg) : Int32) = (S.1 29 v2.toNatClampNeg) then ((some (.int (-3)), (xwI S 1 3 ((S.1 1 3) + 1)))) else ((some (.int (-2)), (xwI S 1 2 ((S.1 1 2) + 1)))))) else (if ((S.1 29 v2.toNatClampNeg) : Int32) < 100 then ((some (.int (-2)), (xwI S 1 2 ((S.1 1 2) + 1)))) else (if ((S.1 29 v1.toNatClampNeg) : Int32) = (S.1 29 v2.toNatClampNeg) then (if (v5 : Int32) < 0 then ((some (.int (-4)), (xwI S 1 4 ((S.1 1 4) + 1)))) else (if (v3 : Int32) < 0 then ((some (.int (-5)), (xwI S 1 5 ((S.1 1 5) + 1)))) else (if (0 : Int32) < (lg_cmp ((Int32.toInt64 v3) + (Int32.toInt64 v5)) (Int32.toInt64 (S.1 30 v1.toNatClampNeg))) then ((some (.int (-5)), (xwI S 1 5 ((S.1 1 5) + 1)))) else (if (v4 : Int32) < 0 then ((some (.int (-5)), (xwI S 1 5 ((S.1 1 5) + 1)))) else (if (0 : Int32) < (lg_cmp ((Int32.toInt64 v4) + (Int32.toInt64 v5)) (Int32.toInt64 (S.1 30 v2.toNatClampNeg))) then ((some (.int (-5)), (xwI S 1 5 ((S.1 1 5) + 1)))) else ((some (.int 1), (xcJ S (xrb + v1.toNatClampNeg) v3.toNatClampNeg (xrb + v2.toNatClampNeg) v4.toNatClampNeg v5.toNatClampNeg)))))))) else ((some (.int (-2)), (xwI S 1 2 ((S.1 1 2) + 1))))))))))))
def g82 (S : xS) (v1 : Int32) (v2 : Int32) (v3 : Int32) (v4 : Int32) (v5 : Int32) : Prop := (if (v1 : Int32) < 0 then True else (if (7 : Int32) < v1 then True else (if (v2 : Int32) < 0 then True else (if (7 : Int32) < v2 then True else (vp_in v1 8 ∧ (if ((S.1 29 v1.toNatClampNeg) : Int32) = (-1) then (vp_in v2 8 ∧ (if ((S.1 29 v2.toNatClampNeg) : Int32) = (-1) then (vp_in v1 8 ∧ (if ((S.1 29 v1.toNatClampNeg) : Int32) < 100 then (vp_in v1 8 ∧ True) else (vp_in v2 8 ∧ (if ((S.1 29 v2.toNatClampNeg) : Int32) < 100 then (vp_in v1 8 ∧ True) else (vp_in v1 8 ∧ (vp_in v2 8 ∧ (if ((S.1 29 v1.toNatClampNeg) : Int32) = (S.1 29 v2.toNatClampNeg) then (vp_in v1 8 ∧ True) else True))))))) else (vp_in v2 8 ∧ (if ((S.1 29 v2.toNatClampNeg) : Int32) < 100 then True else (vp_in v1 8 ∧ (if ((S.1 29 v1.toNatClampNeg) : Int32) < 100 then (vp_in v1 8 ∧ True) else (vp_in v2 8 ∧ (vp_in v1 8 ∧ (vp_in v2 8 ∧ (if ((S.1 29 v1.toNatClampNeg) : Int32) = (S.1 29 v2.toNatClampNeg) then (vp_in v1 8 ∧ True) else True)))))))))) else (vp_in v1 8 ∧ (if ((S.1 29 v1.toNatClampNeg) : Int32) < 100 then True else (vp_in v2 8 ∧ (if ((S.1 29 v2.toNatClampNeg) : Int32) = (-1) then (vp_in v1 8 ∧ (vp_in v2 8 ∧ (if ((S.1 29 v2.toNatClampNeg) : Int32) < 100 then (vp_in v1 8 ∧ (vp_in v2 8 ∧ True)) else (vp_in v1 8 ∧ (vp_in v2 8 ∧ (if ((S.1 29 v1.toNatClampNeg) : Int32) = (S.1 29 v2.toNatClampNeg) then (vp_in v1 8 ∧ (vp_in v2 8 ∧ True)) else True)))))) else (vp_in v2 8 ∧ (if ((S.1 29 v2.toNatClampNeg) : Int32) < 100 then True else (vp_in v1 8 ∧ (vp_in v2 8 ∧ (vp_in v1 8 ∧ (vp_in v2 8 ∧ (if ((S.1 29 v1.toNatClampNeg) : Int32) = (S.1 29 v2.toNatClampNeg) then (vp_in v1 8 ∧ (vp_in v2 8 ∧ (if (v5 : Int32) < 0 then True else (if (v3 : Int32) < 0 then True else (vp_in v1 8 ∧ (if (0 : Int32) < (lg_cmp ((Int32.toInt64 v3) + (Int32.toInt64 v5)) (Int32.toInt64 (S.1 30 v1.toNatClampNeg))) then True else (if (v4 : Int32) < 0 then True else (vp_in v2 8 ∧ (if (0 : Int32) < (lg_cmp ((Int32.toInt64 v4) + (Int32.toInt64 v5)) (Int32.toInt64 (S.1 30 v2.toNatClampNeg))) then True else (vp_in v1 8 ∧ (vp_in v2 8 ∧ ((v1.toNatClampNeg < 8 ∧ v2.toNatClampNeg < 8 ∧ ¬ v3 < (0 : Int32) ∧ ¬ v4 < (0 : Int32) ∧ ¬ v5 < (0 : Int32) ∧ v3.toNatClampNeg + v5.toNatClampNeg ≤ 60 ∧ v4.toNatClampNeg + v5.toNatClampNeg ≤ 60) ∧ True)))))))))))) else True)))))))))))))))))
theorem t82 (d : Nat) (v1 : Int32) (v2 : Int32) (v3 : Int32) (v4 : Int32) (v5 : Int32) (S : xS) (r : Option Value × xS) (h : g82 S v1 v2 v3 v4 v5) : xX (d + 2) 82 0 [(0, .ref 0), (1, .int v1), (2, .int v2), (3, .int v3), (4, .int v4), (5, .int v5)] [] S r ↔ r = p82 S v1 v2 v3 v4 v5 := by
  by_cases c1 : (v1 : Int32) < 0
  · skip
    simp (decide := true) only [g82, c1, xrd_ne, xrd_eq, xrd_n2, xrd_J, xrd_K, ite_true, ite_false, if_true, if_false, and_true, true_and] at h
    simp (decide := true) only [p82, b82_0, b82_4, b82_7, b82_11, b82_14, b82_19, b82_20, b82_29, b82_32, b82_38, b82_39, b82_47, b82_50, b82_58, b82_61, b82_67, b82_68, b82_73, b82_79, b82_80, b82_91, b82_94, b82_106, b82_109, b82_115, b82_116, b62_0, b62_5, b62_8, b62_13, b62_16, b62_21, b62_24, b62_29, b62_32, b62_36, b62_42, b62_47, b62_50, b62_55, b62_58, b62_73, b62_77, b61_0, b61_10, b61_14, b24_0, b24_11, b24_15, b63_0, b63_4, b63_20, b63_24, b78_0, b78_7, b25_0, b25_5, b25_10, b25_14, b68_0, b68_7, b68_10, b68_21, c1, h, xrd_ne, xrd_eq, xrd_n2, xrd_J, xrd_K, xsimp_1, xsimp_2, xtl, xtl0, xbit_0, xbit_1, exists_eq_left, and_assoc, exists_and_left, if_true, if_false, true_and, and_true, not_true, not_false_iff, x6, Int32.neg_neg, x01, x11, x21, x31, x41, x51, xn1, xn2, xn3, xn4, xn5, xn6, xn7, xv1, xv2, xv3, xv4, xv5, xv6, xv7]
  · skip
    by_cases c2 : (7 : Int32) < v1
    · skip
      simp (decide := true) only [g82, c1, c2, xrd_ne, xrd_eq, xrd_n2, xrd_J, xrd_K, ite_true, ite_false, if_true, if_false, and_true, true_and] at h
      simp (decide := true) only [p82, b82_0, b82_4, b82_7, b82_11, b82_14, b82_19, b82_20, b82_29, b82_32, b82_38, b82_39, b82_47, b82_50, b82_58, b82_61, b82_67, b82_68, b82_73, b82_79, b82_80, b82_91, b82_94, b82_106, b82_109, b82_115, b82_116, b62_0, b62_5, b62_8, b62_13, b62_16, b62_21, b62_24, b62_29, b62_32, b62_36, b62_42, b62_47, b62_50, b62_55, b62_58, b62_73, b62_77, b61_0, b61_10, b61_14, b24_0, b24_11, b24_15, b63_0, b63_4, b63_20, b63_24, b78_0, b78_7, b25_0, b25_5, b25_10, b25_14, b68_0, b68_7, b68_10, b68_21, c1, c2, h, xrd_ne, xrd_eq, xrd_n2, xrd_J, xrd_K, xsimp_1, xsimp_2, xtl, xtl0, xbit_0, xbit_1, exists_eq_left, and_assoc, exists_and_left, if_true, if_false, true_and, and_true, not_true, not_false_iff, x6, Int32.neg_neg, x01, x11, x21, x31, x41, x51, xn1, xn2, xn3, xn4, xn5, xn6, xn7, xv1, xv2, xv3, xv4, xv5, xv6, xv7]
    · skip
      by_cases c3 : (v2 : Int32) < 0
      · skip
        simp (decide := true) only [g82, c1, c2, c3, xrd_ne, xrd_eq, xrd_n2, xrd_J, xrd_K, ite_true, ite_false, if_true, if_false, and_true, true_and] at h
        simp (decide := true) only [p82, b82_0, b82_4, b82_7, b82_11, b82_14, b82_19, b82_20, b82_29, b82_32, b82_38, b82_39, b82_47, b82_50, b82_58, b82_61, b82_67, b82_68, b82_73, b82_79, b82_80, b82_91, b82_94, b82_106, b82_109, b82_115, b82_116, b62_0, b62_5, b62_8, b62_13, b62_16, b62_21, b62_24, b62_29, b62_32, b62_36, b62_42, b62_47, b62_50, b62_55, b62_58, b62_73, b62_77, b61_0, b61_10, b61_14, b24_0, b24_11, b24_15, b63_0, b63_4, b63_20, b63_24, b78_0, b78_7, b25_0, b25_5, b25_10, b25_14, b68_0, b68_7, b68_10, b68_21, c1, c2, c3, h, xrd_ne, xrd_eq, xrd_n2, xrd_J, xrd_K, xsimp_1, xsimp_2, xtl, xtl0, xbit_0, xbit_1, exists_eq_left, and_assoc, exists_and_left, if_true, if_false, true_and, and_true, not_true, not_false_iff, x6, Int32.neg_neg, x01, x11, x21, x31, x41, x51, xn1, xn2, xn3, xn4, xn5, xn6, xn7, xv1, xv2, xv3, xv4, xv5, xv6, xv7]
      · skip
        by_cases c4 : (7 : Int32) < v2
        · skip
          simp (decide := true) only [g82, c1, c2, c3, c4, xrd_ne, xrd_eq, xrd_n2, xrd_J, xrd_K, ite_true, ite_false, if_true, if_false, and_true, true_and] at h
          simp (decide := true) only [p82, b82_0, b82_4, b82_7, b82_11, b82_14, b82_19, b82_20, b82_29, b82_32, b82_38, b82_39, b82_47, b82_50, b82_58, b82_61, b82_67, b82_68, b82_73, b82_79, b82_80, b82_91, b82_94, b82_106, b82_109, b82_115, b82_116, b62_0, b62_5, b62_8, b62_13, b62_16, b62_21, b62_24, b62_29, b62_32, b62_36, b62_42, b62_47, b62_50, b62_55, b62_58, b62_73, b62_77, b61_0, b61_10, b61_14, b24_0, b24_11, b24_15, b63_0, b63_4, b63_20, b63_24, b78_0, b78_7, b25_0, b25_5, b25_10, b25_14, b68_0, b68_7, b68_10, b68_21, c1, c2, c3, c4, h, xrd_ne, xrd_eq, xrd_n2, xrd_J, xrd_K, xsimp_1, xsimp_2, xtl, xtl0, xbit_0, xbit_1, exists_eq_left, and_assoc, exists_and_left, if_true, if_false, true_and, and_true, not_true, not_false_iff, x6, Int32.neg_neg, x01, x11, x21, x31, x41, x51, xn1, xn2, xn3, xn4, xn5, xn6, xn7, xv1, xv2, xv3, xv4, xv5, xv6, xv7]
        · skip
          by_cases c5 : ((S.1 29 v1.toNatClampNeg) : Int32) = (-1)
          · skip
            by_cases c6 : ((S.1 29 v2.toNatClampNeg) : Int32) = (-1)
            · skip
              by_cases c7 : ((S.1 29 v1.toNatClampNeg) : Int32) < 100
              · skip
                simp (decide := true) only [g82, c1, c2, c3, c4, c5, c6, c7, xrd_ne, xrd_eq, xrd_n2, xrd_J, xrd_K, ite_true, ite_false, if_true, if_false, and_true, true_and] at h
                simp (decide := true) only [p82, b82_0, b82_4, b82_7, b82_11, b82_14, b82_19, b82_20, b82_29, b82_32, b82_38, b82_39, b82_47, b82_50, b82_58, b82_61, b82_67, b82_68, b82_73, b82_79, b82_80, b82_91, b82_94, b82_106, b82_109, b82_115, b82_116, b62_0, b62_5, b62_8, b62_13, b62_16, b62_21, b62_24, b62_29, b62_32, b62_36, b62_42, b62_47, b62_50, b62_55, b62_58, b62_73, b62_77, b61_0, b61_10, b61_14, b24_0, b24_11, b24_15, b63_0, b63_4, b63_20, b63_24, b78_0, b78_7, b25_0, b25_5, b25_10, b25_14, b68_0, b68_7, b68_10, b68_21, c1, c2, c3, c4, c5, c6, c7, h, xrd_ne, xrd_eq, xrd_n2, xrd_J, xrd_K, xsimp_1, xsimp_2, xtl, xtl0, xbit_0, xbit_1, exists_eq_left, and_assoc, exists_and_left, if_true, if_false, true_and, and_true, not_true, not_false_iff, x6, Int32.neg_neg, x01, x11, x21, x31, x41, x51, xn1, xn2, xn3, xn4, xn5, xn6, xn7, xv1, xv2, xv3, xv4, xv5, xv6, xv7]
              · skip
                by_cases c8 : ((S.1 29 v2.toNatClampNeg) : Int32) < 100
                · skip
                  simp (decide := true) only [g82, c1, c2, c3, c4, c5, c6, c7, c8, xrd_ne, xrd_eq, xrd_n2, xrd_J, xrd_K, ite_true, ite_false, if_true, if_false, and_true, true_and] at h
                  simp (decide := true) only [p82, b82_0, b82_4, b82_7, b82_11, b82_14, b82_19, b82_20, b82_29, b82_32, b82_38, b82_39, b82_47, b82_50, b82_58, b82_61, b82_67, b82_68, b82_73, b82_79, b82_80, b82_91, b82_94, b82_106, b82_109, b82_115, b82_116, b62_0, b62_5, b62_8, b62_13, b62_16, b62_21, b62_24, b62_29, b62_32, b62_36, b62_42, b62_47, b62_50, b62_55, b62_58, b62_73, b62_77, b61_0, b61_10, b61_14, b24_0, b24_11, b24_15, b63_0, b63_4, b63_20, b63_24, b78_0, b78_7, b25_0, b25_5, b25_10, b25_14, b68_0, b68_7, b68_10, b68_21, c1, c2, c3, c4, c5, c6, c7, c8, h, xrd_ne, xrd_eq, xrd_n2, xrd_J, xrd_K, xsimp_1, xsimp_2, xtl, xtl0, xbit_0, xbit_1, exists_eq_left, and_assoc, exists_and_left, if_true, if_false, true_and, and_true, not_true, not_false_iff, x6, Int32.neg_neg, x01, x11, x21, x31, x41, x51, xn1, xn2, xn3, xn4, xn5, xn6, xn7, xv1, xv2, xv3, xv4, xv5, xv6, xv7]
                · skip
                  by_cases c9 : ((S.1 29 v1.toNatClampNeg) : Int32) = (S.1 29 v2.toNatClampNeg)
                  · skip
                    simp (decide := true) only [g82, c1, c2, c3, c4, c5, c6, c7, c8, c9, xrd_ne, xrd_eq, xrd_n2, xrd_J, xrd_K, ite_true, ite_false, if_true, if_false, and_true, true_and] at h
                    simp (decide := true) only [p82, b82_0, b82_4, b82_7, b82_11, b82_14, b82_19, b82_20, b82_29, b82_32, b82_38, b82_39, b82_47, b82_50, b82_58, b82_61, b82_67, b82_68, b82_73, b82_79, b82_80, b82_91, b82_94, b82_106, b82_109, b82_115, b82_116, b62_0, b62_5, b62_8, b62_13, b62_16, b62_21, b62_24, b62_29, b62_32, b62_36, b62_42, b62_47, b62_50, b62_55, b62_58, b62_73, b62_77, b61_0, b61_10, b61_14, b24_0, b24_11, b24_15, b63_0, b63_4, b63_20, b63_24, b78_0, b78_7, b25_0, b25_5, b25_10, b25_14, b68_0, b68_7, b68_10, b68_21, c1, c2, c3, c4, c5, c6, c7, c8, c9, h, xrd_ne, xrd_eq, xrd_n2, xrd_J, xrd_K, xsimp_1, xsimp_2, xtl, xtl0, xbit_0, xbit_1, exists_eq_left, and_assoc, exists_and_left, if_true, if_false, true_and, and_true, not_true, not_false_iff, x6, Int32.neg_neg, x01, x11, x21, x31, x41, x51, xn1, xn2, xn3, xn4, xn5, xn6, xn7, xv1, xv2, xv3, xv4, xv5, xv6, xv7]
                  · skip
                    simp (decide := true) only [g82, c1, c2, c3, c4, c5, c6, c7, c8, c9, xrd_ne, xrd_eq, xrd_n2, xrd_J, xrd_K, ite_true, ite_false, if_true, if_false, and_true, true_and] at h
                    simp (decide := true) only [p82, b82_0, b82_4, b82_7, b82_11, b82_14, b82_19, b82_20, b82_29, b82_32, b82_38, b82_39, b82_47, b82_50, b82_58, b82_61, b82_67, b82_68, b82_73, b82_79, b82_80, b82_91, b82_94, b82_106, b82_109, b82_115, b82_116, b62_0, b62_5, b62_8, b62_13, b62_16, b62_21, b62_24, b62_29, b62_32, b62_36, b62_42, b62_47, b62_50, b62_55, b62_58, b62_73, b62_77, b61_0, b61_10, b61_14, b24_0, b24_11, b24_15, b63_0, b63_4, b63_20, b63_24, b78_0, b78_7, b25_0, b25_5, b25_10, b25_14, b68_0, b68_7, b68_10, b68_21, c1, c2, c3, c4, c5, c6, c7, c8, c9, h, xrd_ne, xrd_eq, xrd_n2, xrd_J, xrd_K, xsimp_1, xsimp_2, xtl, xtl0, xbit_0, xbit_1, exists_eq_left, and_assoc, exists_and_left, if_true, if_false, true_and, and_true, not_true, not_false_iff, x6, Int32.neg_neg, x01, x11, x21, x31, x41, x51, xn1, xn2, xn3, xn4, xn5, xn6, xn7, xv1, xv2, xv3, xv4, xv5, xv6, xv7]
            · skip
              by_cases c7 : ((S.1 29 v2.toNatClampNeg) : Int32) < 100
              · skip
                simp (decide := true) only [g82, c1, c2, c3, c4, c5, c6, c7, xrd_ne, xrd_eq, xrd_n2, xrd_J, xrd_K, ite_true, ite_false, if_true, if_false, and_true, true_and] at h
                simp (decide := true) only [p82, b82_0, b82_4, b82_7, b82_11, b82_14, b82_19, b82_20, b82_29, b82_32, b82_38, b82_39, b82_47, b82_50, b82_58, b82_61, b82_67, b82_68, b82_73, b82_79, b82_80, b82_91, b82_94, b82_106, b82_109, b82_115, b82_116, b62_0, b62_5, b62_8, b62_13, b62_16, b62_21, b62_24, b62_29, b62_32, b62_36, b62_42, b62_47, b62_50, b62_55, b62_58, b62_73, b62_77, b61_0, b61_10, b61_14, b24_0, b24_11, b24_15, b63_0, b63_4, b63_20, b63_24, b78_0, b78_7, b25_0, b25_5, b25_10, b25_14, b68_0, b68_7, b68_10, b68_21, c1, c2, c3, c4, c5, c6, c7, h, xrd_ne, xrd_eq, xrd_n2, xrd_J, xrd_K, xsimp_1, xsimp_2, xtl, xtl0, xbit_0, xbit_1, exists_eq_left, and_assoc, exists_and_left, if_true, if_false, true_and, and_true, not_true, not_false_iff, x6, Int32.neg_neg, x01, x11, x21, x31, x41, x51, xn1, xn2, xn3, xn4, xn5, xn6, xn7, xv1, xv2, xv3, xv4, xv5, xv6, xv7]
              · skip
                by_cases c8 : ((S.1 29 v1.toNatClampNeg) : Int32) < 100
                · skip
                  simp (decide := true) only [g82, c1, c2, c3, c4, c5, c6, c7, c8, xrd_ne, xrd_eq, xrd_n2, xrd_J, xrd_K, ite_true, ite_false, if_true, if_false, and_true, true_and] at h
                  simp (decide := true) only [p82, b82_0, b82_4, b82_7, b82_11, b82_14, b82_19, b82_20, b82_29, b82_32, b82_38, b82_39, b82_47, b82_50, b82_58, b82_61, b82_67, b82_68, b82_73, b82_79, b82_80, b82_91, b82_94, b82_106, b82_109, b82_115, b82_116, b62_0, b62_5, b62_8, b62_13, b62_16, b62_21, b62_24, b62_29, b62_32, b62_36, b62_42, b62_47, b62_50, b62_55, b62_58, b62_73, b62_77, b61_0, b61_10, b61_14, b24_0, b24_11, b24_15, b63_0, b63_4, b63_20, b63_24, b78_0, b78_7, b25_0, b25_5, b25_10, b25_14, b68_0, b68_7, b68_10, b68_21, c1, c2, c3, c4, c5, c6, c7, c8, h, xrd_ne, xrd_eq, xrd_n2, xrd_J, xrd_K, xsimp_1, xsimp_2, xtl, xtl0, xbit_0, xbit_1, exists_eq_left, and_assoc, exists_and_left, if_true, if_false, true_and, and_true, not_true, not_false_iff, x6, Int32.neg_neg, x01, x11, x21, x31, x41, x51, xn1, xn2, xn3, xn4, xn5, xn6, xn7, xv1, xv2, xv3, xv4, xv5, xv6, xv7]
                · skip
                  by_cases c9 : ((S.1 29 v1.toNatClampNeg) : Int32) = (S.1 29 v2.toNatClampNeg)
                  · skip
                    simp (decide := true) only [g82, c1, c2, c3, c4, c5, c6, c7, c8, c9, xrd_ne, xrd_eq, xrd_n2, xrd_J, xrd_K, ite_true, ite_false, if_true, if_false, and_true, true_and] at h
                    simp (decide := true) only [p82, b82_0, b82_4, b82_7, b82_11, b82_14, b82_19, b82_20, b82_29, b82_32, b82_38, b82_39, b82_47, b82_50, b82_58, b82_61, b82_67, b82_68, b82_73, b82_79, b82_80, b82_91, b82_94, b82_106, b82_109, b82_115, b82_116, b62_0, b62_5, b62_8, b62_13, b62_16, b62_21, b62_24, b62_29, b62_32, b62_36, b62_42, b62_47, b62_50, b62_55, b62_58, b62_73, b62_77, b61_0, b61_10, b61_14, b24_0, b24_11, b24_15, b63_0, b63_4, b63_20, b63_24, b78_0, b78_7, b25_0, b25_5, b25_10, b25_14, b68_0, b68_7, b68_10, b68_21, c1, c2, c3, c4, c5, c6, c7, c8, c9, h, xrd_ne, xrd_eq, xrd_n2, xrd_J, xrd_K, xsimp_1, xsimp_2, xtl, xtl0, xbit_0, xbit_1, exists_eq_left, and_assoc, exists_and_left, if_true, if_false, true_and, and_true, not_true, not_false_iff, x6, Int32.neg_neg, x01, x11, x21, x31, x41, x51, xn1, xn2, xn3, xn4, xn5, xn6, xn7, xv1, xv2, xv3, xv4, xv5, xv6, xv7]
                  · skip
                    simp (decide := true) only [g82, c1, c2, c3, c4, c5, c6, c7, c8, c9, xrd_ne, xrd_eq, xrd_n2, xrd_J, xrd_K, ite_true, ite_false, if_true, if_false, and_true, true_and] at h
                    simp (decide := true) only [p82, b82_0, b82_4, b82_7, b82_11, b82_14, b82_19, b82_20, b82_29, b82_32, b82_38, b82_39, b82_47, b82_50, b82_58, b82_61, b82_67, b82_68, b82_73, b82_79, b82_80, b82_91, b82_94, b82_106, b82_109, b82_115, b82_116, b62_0, b62_5, b62_8, b62_13, b62_16, b62_21, b62_24, b62_29, b62_32, b62_36, b62_42, b62_47, b62_50, b62_55, b62_58, b62_73, b62_77, b61_0, b61_10, b61_14, b24_0, b24_11, b24_15, b63_0, b63_4, b63_20, b63_24, b78_0, b78_7, b25_0, b25_5, b25_10, b25_14, b68_0, b68_7, b68_10, b68_21, c1, c2, c3, c4, c5, c6, c7, c8, c9, h, xrd_ne, xrd_eq, xrd_n2, xrd_J, xrd_K, xsimp_1, xsimp_2, xtl, xtl0, xbit_0, xbit_1, exists_eq_left, and_assoc, exists_and_left, if_true, if_false, true_and, and_true, not_true, not_false_iff, x6, Int32.neg_neg, x01, x11, x21, x31, x41, x51, xn1, xn2, xn3, xn4, xn5, xn6, xn7, xv1, xv2, xv3, xv4, xv5, xv6, xv7]
          · skip
            by_cases c6 : ((S.1 29 v1.toNatClampNeg) : Int32) < 100
            · skip
              simp (decide := true) only [g82, c1, c2, c3, c4, c5, c6, xrd_ne, xrd_eq, xrd_n2, xrd_J, xrd_K, ite_true, ite_false, if_true, if_false, and_true, true_and] at h
              simp (decide := true) only [p82, b82_0, b82_4, b82_7, b82_11, b82_14, b82_19, b82_20, b82_29, b82_32, b82_38, b82_39, b82_47, b82_50, b82_58, b82_61, b82_67, b82_68, b82_73, b82_79, b82_80, b82_91, b82_94, b82_106, b82_109, b82_115, b82_116, b62_0, b62_5, b62_8, b62_13, b62_16, b62_21, b62_24, b62_29, b62_32, b62_36, b62_42, b62_47, b62_50, b62_55, b62_58, b62_73, b62_77, b61_0, b61_10, b61_14, b24_0, b24_11, b24_15, b63_0, b63_4, b63_20, b63_24, b78_0, b78_7, b25_0, b25_5, b25_10, b25_14, b68_0, b68_7, b68_10, b68_21, c1, c2, c3, c4, c5, c6, h, xrd_ne, xrd_eq, xrd_n2, xrd_J, xrd_K, xsimp_1, xsimp_2, xtl, xtl0, xbit_0, xbit_1, exists_eq_left, and_assoc, exists_and_left, if_true, if_false, true_and, and_true, not_true, not_false_iff, x6, Int32.neg_neg, x01, x11, x21, x31, x41, x51, xn1, xn2, xn3, xn4, xn5, xn6, xn7, xv1, xv2, xv3, xv4, xv5, xv6, xv7]
            · skip
              by_cases c7 : ((S.1 29 v2.toNatClampNeg) : Int32) = (-1)
              · skip
                by_cases c8 : ((S.1 29 v2.toNatClampNeg) : Int32) < 100
                · skip
                  simp (decide := true) only [g82, c1, c2, c3, c4, c5, c6, c7, c8, xrd_ne, xrd_eq, xrd_n2, xrd_J, xrd_K, ite_true, ite_false, if_true, if_false, and_true, true_and] at h
                  simp (decide := true) only [p82, b82_0, b82_4, b82_7, b82_11, b82_14, b82_19, b82_20, b82_29, b82_32, b82_38, b82_39, b82_47, b82_50, b82_58, b82_61, b82_67, b82_68, b82_73, b82_79, b82_80, b82_91, b82_94, b82_106, b82_109, b82_115, b82_116, b62_0, b62_5, b62_8, b62_13, b62_16, b62_21, b62_24, b62_29, b62_32, b62_36, b62_42, b62_47, b62_50, b62_55, b62_58, b62_73, b62_77, b61_0, b61_10, b61_14, b24_0, b24_11, b24_15, b63_0, b63_4, b63_20, b63_24, b78_0, b78_7, b25_0, b25_5, b25_10, b25_14, b68_0, b68_7, b68_10, b68_21, c1, c2, c3, c4, c5, c6, c7, c8, h, xrd_ne, xrd_eq, xrd_n2, xrd_J, xrd_K, xsimp_1, xsimp_2, xtl, xtl0, xbit_0, xbit_1, exists_eq_left, and_assoc, exists_and_left, if_true, if_false, true_and, and_true, not_true, not_false_iff, x6, Int32.neg_neg, x01, x11, x21, x31, x41, x51, xn1, xn2, xn3, xn4, xn5, xn6, xn7, xv1, xv2, xv3, xv4, xv5, xv6, xv7]
                · skip
                  by_cases c9 : ((S.1 29 v1.toNatClampNeg) : Int32) = (S.1 29 v2.toNatClampNeg)
                  · skip
                    simp (decide := true) only [g82, c1, c2, c3, c4, c5, c6, c7, c8, c9, xrd_ne, xrd_eq, xrd_n2, xrd_J, xrd_K, ite_true, ite_false, if_true, if_false, and_true, true_and] at h
                    simp (decide := true) only [p82, b82_0, b82_4, b82_7, b82_11, b82_14, b82_19, b82_20, b82_29, b82_32, b82_38, b82_39, b82_47, b82_50, b82_58, b82_61, b82_67, b82_68, b82_73, b82_79, b82_80, b82_91, b82_94, b82_106, b82_109, b82_115, b82_116, b62_0, b62_5, b62_8, b62_13, b62_16, b62_21, b62_24, b62_29, b62_32, b62_36, b62_42, b62_47, b62_50, b62_55, b62_58, b62_73, b62_77, b61_0, b61_10, b61_14, b24_0, b24_11, b24_15, b63_0, b63_4, b63_20, b63_24, b78_0, b78_7, b25_0, b25_5, b25_10, b25_14, b68_0, b68_7, b68_10, b68_21, c1, c2, c3, c4, c5, c6, c7, c8, c9, h, xrd_ne, xrd_eq, xrd_n2, xrd_J, xrd_K, xsimp_1, xsimp_2, xtl, xtl0, xbit_0, xbit_1, exists_eq_left, and_assoc, exists_and_left, if_true, if_false, true_and, and_true, not_true, not_false_iff, x6, Int32.neg_neg, x01, x11, x21, x31, x41, x51, xn1, xn2, xn3, xn4, xn5, xn6, xn7, xv1, xv2, xv3, xv4, xv5, xv6, xv7]
                  · skip
                    simp (decide := true) only [g82, c1, c2, c3, c4, c5, c6, c7, c8, c9, xrd_ne, xrd_eq, xrd_n2, xrd_J, xrd_K, ite_true, ite_false, if_true, if_false, and_true, true_and] at h
                    simp (decide := true) only [p82, b82_0, b82_4, b82_7, b82_11, b82_14, b82_19, b82_20, b82_29, b82_32, b82_38, b82_39, b82_47, b82_50, b82_58, b82_61, b82_67, b82_68, b82_73, b82_79, b82_80, b82_91, b82_94, b82_106, b82_109, b82_115, b82_116, b62_0, b62_5, b62_8, b62_13, b62_16, b62_21, b62_24, b62_29, b62_32, b62_36, b62_42, b62_47, b62_50, b62_55, b62_58, b62_73, b62_77, b61_0, b61_10, b61_14, b24_0, b24_11, b24_15, b63_0, b63_4, b63_20, b63_24, b78_0, b78_7, b25_0, b25_5, b25_10, b25_14, b68_0, b68_7, b68_10, b68_21, c1, c2, c3, c4, c5, c6, c7, c8, c9, h, xrd_ne, xrd_eq, xrd_n2, xrd_J, xrd_K, xsimp_1, xsimp_2, xtl, xtl0, xbit_0, xbit_1, exists_eq_left, and_assoc, exists_and_left, if_true, if_false, true_and, and_true, not_true, not_false_iff, x6, Int32.neg_neg, x01, x11, x21, x31, x41, x51, xn1, xn2, xn3, xn4, xn5, xn6, xn7, xv1, xv2, xv3, xv4, xv5, xv6, xv7]
              · skip
                by_cases c8 : ((S.1 29 v2.toNatClampNeg) : Int32) < 100
                · skip
                  simp (decide := true) only [g82, c1, c2, c3, c4, c5, c6, c7, c8, xrd_ne, xrd_eq, xrd_n2, xrd_J, xrd_K, ite_true, ite_false, if_true, if_false, and_true, true_and] at h
                  simp (decide := true) only [p82, b82_0, b82_4, b82_7, b82_11, b82_14, b82_19, b82_20, b82_29, b82_32, b82_38, b82_39, b82_47, b82_50, b82_58, b82_61, b82_67, b82_68, b82_73, b82_79, b82_80, b82_91, b82_94, b82_106, b82_109, b82_115, b82_116, b62_0, b62_5, b62_8, b62_13, b62_16, b62_21, b62_24, b62_29, b62_32, b62_36, b62_42, b62_47, b62_50, b62_55, b62_58, b62_73, b62_77, b61_0, b61_10, b61_14, b24_0, b24_11, b24_15, b63_0, b63_4, b63_20, b63_24, b78_0, b78_7, b25_0, b25_5, b25_10, b25_14, b68_0, b68_7, b68_10, b68_21, c1, c2, c3, c4, c5, c6, c7, c8, h, xrd_ne, xrd_eq, xrd_n2, xrd_J, xrd_K, xsimp_1, xsimp_2, xtl, xtl0, xbit_0, xbit_1, exists_eq_left, and_assoc, exists_and_left, if_true, if_false, true_and, and_true, not_true, not_false_iff, x6, Int32.neg_neg, x01, x11, x21, x31, x41, x51, xn1, xn2, xn3, xn4, xn5, xn6, xn7, xv1, xv2, xv3, xv4, xv5, xv6, xv7]
                · skip
                  by_cases c9 : ((S.1 29 v1.toNatClampNeg) : Int32) = (S.1 29 v2.toNatClampNeg)
                  · skip
                    by_cases c10 : (v5 : Int32) < 0
                    · skip
                      simp (decide := true) only [g82, c1, c2, c3, c4, c5, c6, c7, c8, c9, c10, xrd_ne, xrd_eq, xrd_n2, xrd_J, xrd_K, ite_true, ite_false, if_true, if_false, and_true, true_and] at h
                      simp (decide := true) only [p82, b82_0, b82_4, b82_7, b82_11, b82_14, b82_19, b82_20, b82_29, b82_32, b82_38, b82_39, b82_47, b82_50, b82_58, b82_61, b82_67, b82_68, b82_73, b82_79, b82_80, b82_91, b82_94, b82_106, b82_109, b82_115, b82_116, b62_0, b62_5, b62_8, b62_13, b62_16, b62_21, b62_24, b62_29, b62_32, b62_36, b62_42, b62_47, b62_50, b62_55, b62_58, b62_73, b62_77, b61_0, b61_10, b61_14, b24_0, b24_11, b24_15, b63_0, b63_4, b63_20, b63_24, b78_0, b78_7, b25_0, b25_5, b25_10, b25_14, b68_0, b68_7, b68_10, b68_21, c1, c2, c3, c4, c5, c6, c7, c8, c9, c10, h, xrd_ne, xrd_eq, xrd_n2, xrd_J, xrd_K, xsimp_1, xsimp_2, xtl, xtl0, xbit_0, xbit_1, exists_eq_left, and_assoc, exists_and_left, if_true, if_false, true_and, and_true, not_true, not_false_iff, x6, Int32.neg_neg, x01, x11, x21, x31, x41, x51, xn1, xn2, xn3, xn4, xn5, xn6, xn7, xv1, xv2, xv3, xv4, xv5, xv6, xv7]
                    · skip
                      by_cases c11 : (v3 : Int32) < 0
                      · skip
                        simp (decide := true) only [g82, c1, c2, c3, c4, c5, c6, c7, c8, c9, c10, c11, xrd_ne, xrd_eq, xrd_n2, xrd_J, xrd_K, ite_true, ite_false, if_true, if_false, and_true, true_and] at h
                        simp (decide := true) only [p82, b82_0, b82_4, b82_7, b82_11, b82_14, b82_19, b82_20, b82_29, b82_32, b82_38, b82_39, b82_47, b82_50, b82_58, b82_61, b82_67, b82_68, b82_73, b82_79, b82_80, b82_91, b82_94, b82_106, b82_109, b82_115, b82_116, b62_0, b62_5, b62_8, b62_13, b62_16, b62_21, b62_24, b62_29, b62_32, b62_36, b62_42, b62_47, b62_50, b62_55, b62_58, b62_73, b62_77, b61_0, b61_10, b61_14, b24_0, b24_11, b24_15, b63_0, b63_4, b63_20, b63_24, b78_0, b78_7, b25_0, b25_5, b25_10, b25_14, b68_0, b68_7, b68_10, b68_21, c1, c2, c3, c4, c5, c6, c7, c8, c9, c10, c11, h, xrd_ne, xrd_eq, xrd_n2, xrd_J, xrd_K, xsimp_1, xsimp_2, xtl, xtl0, xbit_0, xbit_1, exists_eq_left, and_assoc, exists_and_left, if_true, if_false, true_and, and_true, not_true, not_false_iff, x6, Int32.neg_neg, x01, x11, x21, x31, x41, x51, xn1, xn2, xn3, xn4, xn5, xn6, xn7, xv1, xv2, xv3, xv4, xv5, xv6, xv7]
                      · skip
                        by_cases c12 : (0 : Int32) < (lg_cmp ((Int32.toInt64 v3) + (Int32.toInt64 v5)) (Int32.toInt64 (S.1 30 v1.toNatClampNeg)))
                        · skip
                          simp (decide := true) only [g82, c1, c2, c3, c4, c5, c6, c7, c8, c9, c10, c11, c12, xrd_ne, xrd_eq, xrd_n2, xrd_J, xrd_K, ite_true, ite_false, if_true, if_false, and_true, true_and] at h
                          simp (decide := true) only [p82, b82_0, b82_4, b82_7, b82_11, b82_14, b82_19, b82_20, b82_29, b82_32, b82_38, b82_39, b82_47, b82_50, b82_58, b82_61, b82_67, b82_68, b82_73, b82_79, b82_80, b82_91, b82_94, b82_106, b82_109, b82_115, b82_116, b62_0, b62_5, b62_8, b62_13, b62_16, b62_21, b62_24, b62_29, b62_32, b62_36, b62_42, b62_47, b62_50, b62_55, b62_58, b62_73, b62_77, b61_0, b61_10, b61_14, b24_0, b24_11, b24_15, b63_0, b63_4, b63_20, b63_24, b78_0, b78_7, b25_0, b25_5, b25_10, b25_14, b68_0, b68_7, b68_10, b68_21, c1, c2, c3, c4, c5, c6, c7, c8, c9, c10, c11, c12, h, xrd_ne, xrd_eq, xrd_n2, xrd_J, xrd_K, xsimp_1, xsimp_2, xtl, xtl0, xbit_0, xbit_1, exists_eq_left, and_assoc, exists_and_left, if_true, if_false, true_and, and_true, not_true, not_false_iff, x6, Int32.neg_neg, x01, x11, x21, x31, x41, x51, xn1, xn2, xn3, xn4, xn5, xn6, xn7, xv1, xv2, xv3, xv4, xv5, xv6, xv7]
                        · skip
                          by_cases c13 : (v4 : Int32) < 0
                          · skip
                            simp (decide := true) only [g82, c1, c2, c3, c4, c5, c6, c7, c8, c9, c10, c11, c12, c13, xrd_ne, xrd_eq, xrd_n2, xrd_J, xrd_K, ite_true, ite_false, if_true, if_false, and_true, true_and] at h
                            simp (decide := true) only [p82, b82_0, b82_4, b82_7, b82_11, b82_14, b82_19, b82_20, b82_29, b82_32, b82_38, b82_39, b82_47, b82_50, b82_58, b82_61, b82_67, b82_68, b82_73, b82_79, b82_80, b82_91, b82_94, b82_106, b82_109, b82_115, b82_116, b62_0, b62_5, b62_8, b62_13, b62_16, b62_21, b62_24, b62_29, b62_32, b62_36, b62_42, b62_47, b62_50, b62_55, b62_58, b62_73, b62_77, b61_0, b61_10, b61_14, b24_0, b24_11, b24_15, b63_0, b63_4, b63_20, b63_24, b78_0, b78_7, b25_0, b25_5, b25_10, b25_14, b68_0, b68_7, b68_10, b68_21, c1, c2, c3, c4, c5, c6, c7, c8, c9, c10, c11, c12, c13, h, xrd_ne, xrd_eq, xrd_n2, xrd_J, xrd_K, xsimp_1, xsimp_2, xtl, xtl0, xbit_0, xbit_1, exists_eq_left, and_assoc, exists_and_left, if_true, if_false, true_and, and_true, not_true, not_false_iff, x6, Int32.neg_neg, x01, x11, x21, x31, x41, x51, xn1, xn2, xn3, xn4, xn5, xn6, xn7, xv1, xv2, xv3, xv4, xv5, xv6, xv7]
                          · skip
                            by_cases c14 : (0 : Int32) < (lg_cmp ((Int32.toInt64 v4) + (Int32.toInt64 v5)) (Int32.toInt64 (S.1 30 v2.toNatClampNeg)))
                            · skip
                              simp (decide := true) only [g82, c1, c2, c3, c4, c5, c6, c7, c8, c9, c10, c11, c12, c13, c14, xrd_ne, xrd_eq, xrd_n2, xrd_J, xrd_K, ite_true, ite_false, if_true, if_false, and_true, true_and] at h
                              simp (decide := true) only [p82, b82_0, b82_4, b82_7, b82_11, b82_14, b82_19, b82_20, b82_29, b82_32, b82_38, b82_39, b82_47, b82_50, b82_58, b82_61, b82_67, b82_68, b82_73, b82_79, b82_80, b82_91, b82_94, b82_106, b82_109, b82_115, b82_116, b62_0, b62_5, b62_8, b62_13, b62_16, b62_21, b62_24, b62_29, b62_32, b62_36, b62_42, b62_47, b62_50, b62_55, b62_58, b62_73, b62_77, b61_0, b61_10, b61_14, b24_0, b24_11, b24_15, b63_0, b63_4, b63_20, b63_24, b78_0, b78_7, b25_0, b25_5, b25_10, b25_14, b68_0, b68_7, b68_10, b68_21, c1, c2, c3, c4, c5, c6, c7, c8, c9, c10, c11, c12, c13, c14, h, xrd_ne, xrd_eq, xrd_n2, xrd_J, xrd_K, xsimp_1, xsimp_2, xtl, xtl0, xbit_0, xbit_1, exists_eq_left, and_assoc, exists_and_left, if_true, if_false, true_and, and_true, not_true, not_false_iff, x6, Int32.neg_neg, x01, x11, x21, x31, x41, x51, xn1, xn2, xn3, xn4, xn5, xn6, xn7, xv1, xv2, xv3, xv4, xv5, xv6, xv7]
                            · skip
                              simp (decide := true) only [g82, c1, c2, c3, c4, c5, c6, c7, c8, c9, c10, c11, c12, c13, c14, xrd_ne, xrd_eq, xrd_n2, xrd_J, xrd_K, ite_true, ite_false, if_true, if_false, and_true, true_and] at h
                              simp (decide := true) only [p82, b82_0, b82_4, b82_7, b82_11, b82_14, b82_19, b82_20, b82_29, b82_32, b82_38, b82_39, b82_47, b82_50, b82_58, b82_61, b82_67, b82_68, b82_73, b82_79, b82_80, b82_91, b82_94, b82_106, b82_109, b82_115, b82_116, b62_0, b62_5, b62_8, b62_13, b62_16, b62_21, b62_24, b62_29, b62_32, b62_36, b62_42, b62_47, b62_50, b62_55, b62_58, b62_73, b62_77, b61_0, b61_10, b61_14, b24_0, b24_11, b24_15, b63_0, b63_4, b63_20, b63_24, b78_0, b78_7, b25_0, b25_5, b25_10, b25_14, b68_0, b68_7, b68_10, b68_21, c1, c2, c3, c4, c5, c6, c7, c8, c9, c10, c11, c12, c13, c14, h, xrd_ne, xrd_eq, xrd_n2, xrd_J, xrd_K, xsimp_1, xsimp_2, xtl, xtl0, xbit_0, xbit_1, exists_eq_left, and_assoc, exists_and_left, if_true, if_false, true_and, and_true, not_true, not_false_iff, x6, Int32.neg_neg, x01, x11, x21, x31, x41, x51, xn1, xn2, xn3, xn4, xn5, xn6, xn7, xv1, xv2, xv3, xv4, xv5, xv6, xv7]
                  · skip
                    simp (decide := true) only [g82, c1, c2, c3, c4, c5, c6, c7, c8, c9, xrd_ne, xrd_eq, xrd_n2, xrd_J, xrd_K, ite_true, ite_false, if_true, if_false, and_true, true_and] at h
                    simp (decide := true) only [p82, b82_0, b82_4, b82_7, b82_11, b82_14, b82_19, b82_20, b82_29, b82_32, b82_38, b82_39, b82_47, b82_50, b82_58, b82_61, b82_67, b82_68, b82_73, b82_79, b82_80, b82_91, b82_94, b82_106, b82_109, b82_115, b82_116, b62_0, b62_5, b62_8, b62_13, b62_16, b62_21, b62_24, b62_29, b62_32, b62_36, b62_42, b62_47, b62_50, b62_55, b62_58, b62_73, b62_77, b61_0, b61_10, b61_14, b24_0, b24_11, b24_15, b63_0, b63_4, b63_20, b63_24, b78_0, b78_7, b25_0, b25_5, b25_10, b25_14, b68_0, b68_7, b68_10, b68_21, c1, c2, c3, c4, c5, c6, c7, c8, c9, h, xrd_ne, xrd_eq, xrd_n2, xrd_J, xrd_K, xsimp_1, xsimp_2, xtl, xtl0, xbit_0, xbit_1, exists_eq_left, and_assoc, exists_and_left, if_true, if_false, true_and, and_true, not_true, not_false_iff, x6, Int32.neg_neg, x01, x11, x21, x31, x41, x51, xn1, xn2, xn3, xn4, xn5, xn6, xn7, xv1, xv2, xv3, xv4, xv5, xv6, xv7]
/-- X9_element -/
def p83 (S : xS) (v1 : Int32) (v2 : Int32) : Option Value × xS := if (v1 : Int32) < 0 then ((some (.long 0), S)) else (if (7 : Int32) < v1 then ((some (.long 0), S)) else (if ((S.1 29 v1.toNatClampNeg) : Int32) < 100 then ((some (.long 0), S)) else (if (v2 : Int32) < 0 then ((some (.long 0), S)) else (if (((S.1 30 v1.toNatClampNeg) - 1) : Int32) < v2 then ((some (.long 0), S)) else ((some (.long (S.2.1 (xrb + v1.toNatClampNeg) v2.toNatClampNeg)), S))))))
def g83 (S : xS) (v1 : Int32) (v2 : Int32) : Prop := (if (v1 : Int32) < 0 then True else (if (7 : Int32) < v1 then True else (vp_in v1 8 ∧ (if ((S.1 29 v1.toNatClampNeg) : Int32) < 100 then True else (vp_in v1 8 ∧ (if (v2 : Int32) < 0 then True else (if (((S.1 30 v1.toNatClampNeg) - 1) : Int32) < v2 then True else (vp_in v1 8 ∧ ((v1.toNatClampNeg < 8 ∧ vp_in v2 60) ∧ True)))))))))
theorem t83 (d : Nat) (v1 : Int32) (v2 : Int32) (S : xS) (r : Option Value × xS) (h : g83 S v1 v2) : xX (d + 2) 83 0 [(0, .ref 0), (1, .int v1), (2, .int v2)] [] S r ↔ r = p83 S v1 v2 := by
  by_cases c1 : (v1 : Int32) < 0
  · skip
    simp (decide := true) only [g83, c1, xrd_ne, xrd_eq, xrd_n2, xrd_J, xrd_K, ite_true, ite_false, if_true, if_false, and_true, true_and] at h
    simp (decide := true) only [p83, b83_0, b83_4, b83_7, b83_16, b83_19, b24_0, b24_11, b24_15, b26_0, b26_5, b26_8, b26_21, b26_24, b26_35, b78_0, b78_7, b25_0, b25_5, b25_10, b25_14, c1, h, xrd_ne, xrd_eq, xrd_n2, xrd_J, xrd_K, xsimp_1, xsimp_2, xtl, xtl0, xbit_0, xbit_1, exists_eq_left, and_assoc, exists_and_left, if_true, if_false, true_and, and_true, not_true, not_false_iff, x6, Int32.neg_neg, x01, x11, x21, x31, x41, x51, xn1, xn2, xn3, xn4, xn5, xn6, xn7, xv1, xv2, xv3, xv4, xv5, xv6, xv7]
  · skip
    by_cases c2 : (7 : Int32) < v1
    · skip
      simp (decide := true) only [g83, c1, c2, xrd_ne, xrd_eq, xrd_n2, xrd_J, xrd_K, ite_true, ite_false, if_true, if_false, and_true, true_and] at h
      simp (decide := true) only [p83, b83_0, b83_4, b83_7, b83_16, b83_19, b24_0, b24_11, b24_15, b26_0, b26_5, b26_8, b26_21, b26_24, b26_35, b78_0, b78_7, b25_0, b25_5, b25_10, b25_14, c1, c2, h, xrd_ne, xrd_eq, xrd_n2, xrd_J, xrd_K, xsimp_1, xsimp_2, xtl, xtl0, xbit_0, xbit_1, exists_eq_left, and_assoc, exists_and_left, if_true, if_false, true_and, and_true, not_true, not_false_iff, x6, Int32.neg_neg, x01, x11, x21, x31, x41, x51, xn1, xn2, xn3, xn4, xn5, xn6, xn7, xv1, xv2, xv3, xv4, xv5, xv6, xv7]
    · skip
      by_cases c3 : ((S.1 29 v1.toNatClampNeg) : Int32) < 100
      · skip
        simp (decide := true) only [g83, c1, c2, c3, xrd_ne, xrd_eq, xrd_n2, xrd_J, xrd_K, ite_true, ite_false, if_true, if_false, and_true, true_and] at h
        simp (decide := true) only [p83, b83_0, b83_4, b83_7, b83_16, b83_19, b24_0, b24_11, b24_15, b26_0, b26_5, b26_8, b26_21, b26_24, b26_35, b78_0, b78_7, b25_0, b25_5, b25_10, b25_14, c1, c2, c3, h, xrd_ne, xrd_eq, xrd_n2, xrd_J, xrd_K, xsimp_1, xsimp_2, xtl, xtl0, xbit_0, xbit_1, exists_eq_left, and_assoc, exists_and_left, if_true, if_false, true_and, and_true, not_true, not_false_iff, x6, Int32.neg_neg, x01, x11, x21, x31, x41, x51, xn1, xn2, xn3, xn4, xn5, xn6, xn7, xv1, xv2, xv3, xv4, xv5, xv6, xv7]
      · skip
        by_cases c4 : (v2 : Int32) < 0
        · skip
          simp (decide := true) only [g83, c1, c2, c3, c4, xrd_ne, xrd_eq, xrd_n2, xrd_J, xrd_K, ite_true, ite_false, if_true, if_false, and_true, true_and] at h
          simp (decide := true) only [p83, b83_0, b83_4, b83_7, b83_16, b83_19, b24_0, b24_11, b24_15, b26_0, b26_5, b26_8, b26_21, b26_24, b26_35, b78_0, b78_7, b25_0, b25_5, b25_10, b25_14, c1, c2, c3, c4, h, xrd_ne, xrd_eq, xrd_n2, xrd_J, xrd_K, xsimp_1, xsimp_2, xtl, xtl0, xbit_0, xbit_1, exists_eq_left, and_assoc, exists_and_left, if_true, if_false, true_and, and_true, not_true, not_false_iff, x6, Int32.neg_neg, x01, x11, x21, x31, x41, x51, xn1, xn2, xn3, xn4, xn5, xn6, xn7, xv1, xv2, xv3, xv4, xv5, xv6, xv7]
        · skip
          by_cases c5 : (((S.1 30 v1.toNatClampNeg) - 1) : Int32) < v2
          · skip
            simp (decide := true) only [g83, c1, c2, c3, c4, c5, xrd_ne, xrd_eq, xrd_n2, xrd_J, xrd_K, ite_true, ite_false, if_true, if_false, and_true, true_and] at h
            simp (decide := true) only [p83, b83_0, b83_4, b83_7, b83_16, b83_19, b24_0, b24_11, b24_15, b26_0, b26_5, b26_8, b26_21, b26_24, b26_35, b78_0, b78_7, b25_0, b25_5, b25_10, b25_14, c1, c2, c3, c4, c5, h, xrd_ne, xrd_eq, xrd_n2, xrd_J, xrd_K, xsimp_1, xsimp_2, xtl, xtl0, xbit_0, xbit_1, exists_eq_left, and_assoc, exists_and_left, if_true, if_false, true_and, and_true, not_true, not_false_iff, x6, Int32.neg_neg, x01, x11, x21, x31, x41, x51, xn1, xn2, xn3, xn4, xn5, xn6, xn7, xv1, xv2, xv3, xv4, xv5, xv6, xv7]
          · skip
            simp (decide := true) only [g83, c1, c2, c3, c4, c5, xrd_ne, xrd_eq, xrd_n2, xrd_J, xrd_K, ite_true, ite_false, if_true, if_false, and_true, true_and] at h
            simp (decide := true) only [p83, b83_0, b83_4, b83_7, b83_16, b83_19, b24_0, b24_11, b24_15, b26_0, b26_5, b26_8, b26_21, b26_24, b26_35, b78_0, b78_7, b25_0, b25_5, b25_10, b25_14, c1, c2, c3, c4, c5, h, xrd_ne, xrd_eq, xrd_n2, xrd_J, xrd_K, xsimp_1, xsimp_2, xtl, xtl0, xbit_0, xbit_1, exists_eq_left, and_assoc, exists_and_left, if_true, if_false, true_and, and_true, not_true, not_false_iff, x6, Int32.neg_neg, x01, x11, x21, x31, x41, x51, xn1, xn2, xn3, xn4, xn5, xn6, xn7, xv1, xv2, xv3, xv4, xv5, xv6, xv7]
/-- X9_show -/
def p84 (S : xS) (v1 : Int32) (v2 : Int32) : Option Value × xS := if (v1 : Int32) < 0 then ((some (.int (-1)), (xwI S 1 1 ((S.1 1 1) + 1)))) else (if (7 : Int32) < v1 then ((some (.int (-1)), (xwI S 1 1 ((S.1 1 1) + 1)))) else (if (v2 : Int32) = (-1) then ((some (.int 0), (xwI S 29 v1.toNatClampNeg v2))) else (if (v2 : Int32) < 0 then ((some (.int (-1)), (xwI S 1 1 ((S.1 1 1) + 1)))) else (if (((S.1 2 0) - 1) : Int32) < v2 then ((some (.int (-1)), (xwI S 1 1 ((S.1 1 1) + 1)))) else ((some (.int 1), (xwI S 29 v1.toNatClampNeg v2)))))))
def g84 (S : xS) (v1 : Int32) (v2 : Int32) : Prop := (if (v1 : Int32) < 0 then True else (if (7 : Int32) < v1 then True else (if (v2 : Int32) = (-1) then (vp_in v1 8 ∧ True) else (if (v2 : Int32) < 0 then True else (if (((S.1 2 0) - 1) : Int32) < v2 then True else (vp_in v1 8 ∧ True))))))
theorem t84 (d : Nat) (v1 : Int32) (v2 : Int32) (S : xS) (r : Option Value × xS) (h : g84 S v1 v2) : xX (d + 2) 84 0 [(0, .ref 0), (1, .int v1), (2, .int v2)] [] S r ↔ r = p84 S v1 v2 := by
  by_cases c1 : (v1 : Int32) < 0
  · skip
    simp (decide := true) only [g84, c1, xrd_ne, xrd_eq, xrd_n2, xrd_J, xrd_K, ite_true, ite_false, if_true, if_false, and_true, true_and] at h
    simp (decide := true) only [p84, b84_0, b84_4, b84_7, b84_12, b84_20, b84_23, b84_28, b84_29, b84_44, b84_48, b36_0, b36_11, b78_0, b78_7, b25_0, b25_5, b25_10, b25_14, b68_0, b68_7, b68_10, b68_21, c1, h, xrd_ne, xrd_eq, xrd_n2, xrd_J, xrd_K, xsimp_1, xsimp_2, xtl, xtl0, xbit_0, xbit_1, exists_eq_left, and_assoc, exists_and_left, if_true, if_false, true_and, and_true, not_true, not_false_iff, x6, Int32.neg_neg, x01, x11, x21, x31, x41, x51, xn1, xn2, xn3, xn4, xn5, xn6, xn7, xv1, xv2, xv3, xv4, xv5, xv6, xv7]
  · skip
    by_cases c2 : (7 : Int32) < v1
    · skip
      simp (decide := true) only [g84, c1, c2, xrd_ne, xrd_eq, xrd_n2, xrd_J, xrd_K, ite_true, ite_false, if_true, if_false, and_true, true_and] at h
      simp (decide := true) only [p84, b84_0, b84_4, b84_7, b84_12, b84_20, b84_23, b84_28, b84_29, b84_44, b84_48, b36_0, b36_11, b78_0, b78_7, b25_0, b25_5, b25_10, b25_14, b68_0, b68_7, b68_10, b68_21, c1, c2, h, xrd_ne, xrd_eq, xrd_n2, xrd_J, xrd_K, xsimp_1, xsimp_2, xtl, xtl0, xbit_0, xbit_1, exists_eq_left, and_assoc, exists_and_left, if_true, if_false, true_and, and_true, not_true, not_false_iff, x6, Int32.neg_neg, x01, x11, x21, x31, x41, x51, xn1, xn2, xn3, xn4, xn5, xn6, xn7, xv1, xv2, xv3, xv4, xv5, xv6, xv7]
    · skip
      by_cases c3 : (v2 : Int32) = (-1)
      · skip
        simp (decide := true) only [g84, c1, c2, c3, xrd_ne, xrd_eq, xrd_n2, xrd_J, xrd_K, ite_true, ite_false, if_true, if_false, and_true, true_and] at h
        simp (decide := true) only [p84, b84_0, b84_4, b84_7, b84_12, b84_20, b84_23, b84_28, b84_29, b84_44, b84_48, b36_0, b36_11, b78_0, b78_7, b25_0, b25_5, b25_10, b25_14, b68_0, b68_7, b68_10, b68_21, c1, c2, c3, h, xrd_ne, xrd_eq, xrd_n2, xrd_J, xrd_K, xsimp_1, xsimp_2, xtl, xtl0, xbit_0, xbit_1, exists_eq_left, and_assoc, exists_and_left, if_true, if_false, true_and, and_true, not_true, not_false_iff, x6, Int32.neg_neg, x01, x11, x21, x31, x41, x51, xn1, xn2, xn3, xn4, xn5, xn6, xn7, xv1, xv2, xv3, xv4, xv5, xv6, xv7]
      · skip
        by_cases c4 : (v2 : Int32) < 0
        · skip
          simp (decide := true) only [g84, c1, c2, c3, c4, xrd_ne, xrd_eq, xrd_n2, xrd_J, xrd_K, ite_true, ite_false, if_true, if_false, and_true, true_and] at h
          simp (decide := true) only [p84, b84_0, b84_4, b84_7, b84_12, b84_20, b84_23, b84_28, b84_29, b84_44, b84_48, b36_0, b36_11, b78_0, b78_7, b25_0, b25_5, b25_10, b25_14, b68_0, b68_7, b68_10, b68_21, c1, c2, c3, c4, h, xrd_ne, xrd_eq, xrd_n2, xrd_J, xrd_K, xsimp_1, xsimp_2, xtl, xtl0, xbit_0, xbit_1, exists_eq_left, and_assoc, exists_and_left, if_true, if_false, true_and, and_true, not_true, not_false_iff, x6, Int32.neg_neg, x01, x11, x21, x31, x41, x51, xn1, xn2, xn3, xn4, xn5, xn6, xn7, xv1, xv2, xv3, xv4, xv5, xv6, xv7]
        · skip
          by_cases c5 : (((S.1 2 0) - 1) : Int32) < v2
          · skip
            simp (decide := true) only [g84, c1, c2, c3, c4, c5, xrd_ne, xrd_eq, xrd_n2, xrd_J, xrd_K, ite_true, ite_false, if_true, if_false, and_true, true_and] at h
            simp (decide := true) only [p84, b84_0, b84_4, b84_7, b84_12, b84_20, b84_23, b84_28, b84_29, b84_44, b84_48, b36_0, b36_11, b78_0, b78_7, b25_0, b25_5, b25_10, b25_14, b68_0, b68_7, b68_10, b68_21, c1, c2, c3, c4, c5, h, xrd_ne, xrd_eq, xrd_n2, xrd_J, xrd_K, xsimp_1, xsimp_2, xtl, xtl0, xbit_0, xbit_1, exists_eq_left, and_assoc, exists_and_left, if_true, if_false, true_and, and_true, not_true, not_false_iff, x6, Int32.neg_neg, x01, x11, x21, x31, x41, x51, xn1, xn2, xn3, xn4, xn5, xn6, xn7, xv1, xv2, xv3, xv4, xv5, xv6, xv7]
          · skip
            simp (decide := true) only [g84, c1, c2, c3, c4, c5, xrd_ne, xrd_eq, xrd_n2, xrd_J, xrd_K, ite_true, ite_false, if_true, if_false, and_true, true_and] at h
            simp (decide := true) only [p84, b84_0, b84_4, b84_7, b84_12, b84_20, b84_23, b84_28, b84_29, b84_44, b84_48, b36_0, b36_11, b78_0, b78_7, b25_0, b25_5, b25_10, b25_14, b68_0, b68_7, b68_10, b68_21, c1, c2, c3, c4, c5, h, xrd_ne, xrd_eq, xrd_n2, xrd_J, xrd_K, xsimp_1, xsimp_2, xtl, xtl0, xbit_0, xbit_1, exists_eq_left, and_assoc, exists_and_left, if_true, if_false, true_and, and_true, not_true, not_false_iff, x6, Int32.neg_neg, x01, x11, x21, x31, x41, x51, xn1, xn2, xn3, xn4, xn5, xn6, xn7, xv1, xv2, xv3, xv4, xv5, xv6, xv7]
/-- X9_holds -/
def p85 (S : xS) (v1 : Int32) : Option Value × xS := if (v1 : Int32) < 0 then ((some (.int (-1)), S)) else (if (7 : Int32) < v1 then ((some (.int (-1)), S)) else ((some (.int (S.1 29 v1.toNatClampNeg)), S)))
def g85 (S : xS) (v1 : Int32) : Prop := (if (v1 : Int32) < 0 then True else (if (7 : Int32) < v1 then True else (vp_in v1 8 ∧ True)))
theorem t85 (d : Nat) (v1 : Int32) (S : xS) (r : Option Value × xS) (h : g85 S v1) : xX (d + 2) 85 0 [(0, .ref 0), (1, .int v1)] [] S r ↔ r = p85 S v1 := by
  by_cases c1 : (v1 : Int32) < 0
  · skip
    simp (decide := true) only [g85, c1, xrd_ne, xrd_eq, xrd_n2, xrd_J, xrd_K, ite_true, ite_false, if_true, if_false, and_true, true_and] at h
    simp (decide := true) only [p85, b85_0, b85_4, b85_7, b85_19, b78_0, b78_7, b25_0, b25_5, b25_10, b25_14, c1, h, xrd_ne, xrd_eq, xrd_n2, xrd_J, xrd_K, xsimp_1, xsimp_2, xtl, xtl0, xbit_0, xbit_1, exists_eq_left, and_assoc, exists_and_left, if_true, if_false, true_and, and_true, not_true, not_false_iff, x6, Int32.neg_neg, x01, x11, x21, x31, x41, x51, xn1, xn2, xn3, xn4, xn5, xn6, xn7, xv1, xv2, xv3, xv4, xv5, xv6, xv7]
  · skip
    by_cases c2 : (7 : Int32) < v1
    · skip
      simp (decide := true) only [g85, c1, c2, xrd_ne, xrd_eq, xrd_n2, xrd_J, xrd_K, ite_true, ite_false, if_true, if_false, and_true, true_and] at h
      simp (decide := true) only [p85, b85_0, b85_4, b85_7, b85_19, b78_0, b78_7, b25_0, b25_5, b25_10, b25_14, c1, c2, h, xrd_ne, xrd_eq, xrd_n2, xrd_J, xrd_K, xsimp_1, xsimp_2, xtl, xtl0, xbit_0, xbit_1, exists_eq_left, and_assoc, exists_and_left, if_true, if_false, true_and, and_true, not_true, not_false_iff, x6, Int32.neg_neg, x01, x11, x21, x31, x41, x51, xn1, xn2, xn3, xn4, xn5, xn6, xn7, xv1, xv2, xv3, xv4, xv5, xv6, xv7]
    · skip
      simp (decide := true) only [g85, c1, c2, xrd_ne, xrd_eq, xrd_n2, xrd_J, xrd_K, ite_true, ite_false, if_true, if_false, and_true, true_and] at h
      simp (decide := true) only [p85, b85_0, b85_4, b85_7, b85_19, b78_0, b78_7, b25_0, b25_5, b25_10, b25_14, c1, c2, h, xrd_ne, xrd_eq, xrd_n2, xrd_J, xrd_K, xsimp_1, xsimp_2, xtl, xtl0, xbit_0, xbit_1, exists_eq_left, and_assoc, exists_and_left, if_true, if_false, true_and, and_true, not_true, not_false_iff, x6, Int32.neg_neg, x01, x11, x21, x31, x41, x51, xn1, xn2, xn3, xn4, xn5, xn6, xn7, xv1, xv2, xv3, xv4, xv5, xv6, xv7]
/-- X9_desksIn -/
def p86 (S : xS) (v1 : Int32) : Option Value × xS := if (v1 : Int32) < 0 then ((some (.int (-1)), (xwI S 1 1 ((S.1 1 1) + 1)))) else (if (7 : Int32) < v1 then ((some (.int (-1)), (xwI S 1 1 ((S.1 1 1) + 1)))) else (if ((S.1 29 v1.toNatClampNeg) : Int32) < 100 then (if ((S.1 29 v1.toNatClampNeg) : Int32) < 0 then ((some (.int (-3)), (xwI S 1 3 ((S.1 1 3) + 1)))) else (if (((S.1 2 0) - 1) : Int32) < (S.1 29 v1.toNatClampNeg) then ((some (.int (-3)), (xwI S 1 3 ((S.1 1 3) + 1)))) else ((some (.int (S.1 3 (S.1 29 v1.toNatClampNeg).toNatClampNeg)), S)))) else ((some (.int (-2)), (xwI S 1 2 ((S.1 1 2) + 1))))))
def g86 (S : xS) (v1 : Int32) : Prop := (if (v1 : Int32) < 0 then True else (if (7 : Int32) < v1 then True else (vp_in v1 8 ∧ (if ((S.1 29 v1.toNatClampNeg) : Int32) < 100 then (vp_in v1 8 ∧ (if ((S.1 29 v1.toNatClampNeg) : Int32) < 0 then True else (if (((S.1 2 0) - 1) : Int32) < (S.1 29 v1.toNatClampNeg) then True else (vp_in (S.1 29 v1.toNatClampNeg) 10 ∧ True)))) else True))))
theorem t86 (d : Nat) (v1 : Int32) (S : xS) (r : Option Value × xS) (h : g86 S v1) : xX (d + 2) 86 0 [(0, .ref 0), (1, .int v1)] [] S r ↔ r = p86 S v1 := by
  by_cases c1 : (v1 : Int32) < 0
  · skip
    simp (decide := true) only [g86, c1, xrd_ne, xrd_eq, xrd_n2, xrd_J, xrd_K, ite_true, ite_false, if_true, if_false, and_true, true_and] at h
    simp (decide := true) only [p86, b86_0, b86_4, b86_7, b86_12, b86_13, b86_21, b86_24, b86_30, b86_31, b86_49, b86_52, b86_64, b86_70, b36_0, b36_11, b24_0, b24_11, b24_15, b78_0, b78_7, b25_0, b25_5, b25_10, b25_14, b68_0, b68_7, b68_10, b68_21, c1, h, xrd_ne, xrd_eq, xrd_n2, xrd_J, xrd_K, xsimp_1, xsimp_2, xtl, xtl0, xbit_0, xbit_1, exists_eq_left, and_assoc, exists_and_left, if_true, if_false, true_and, and_true, not_true, not_false_iff, x6, Int32.neg_neg, x01, x11, x21, x31, x41, x51, xn1, xn2, xn3, xn4, xn5, xn6, xn7, xv1, xv2, xv3, xv4, xv5, xv6, xv7]
  · skip
    by_cases c2 : (7 : Int32) < v1
    · skip
      simp (decide := true) only [g86, c1, c2, xrd_ne, xrd_eq, xrd_n2, xrd_J, xrd_K, ite_true, ite_false, if_true, if_false, and_true, true_and] at h
      simp (decide := true) only [p86, b86_0, b86_4, b86_7, b86_12, b86_13, b86_21, b86_24, b86_30, b86_31, b86_49, b86_52, b86_64, b86_70, b36_0, b36_11, b24_0, b24_11, b24_15, b78_0, b78_7, b25_0, b25_5, b25_10, b25_14, b68_0, b68_7, b68_10, b68_21, c1, c2, h, xrd_ne, xrd_eq, xrd_n2, xrd_J, xrd_K, xsimp_1, xsimp_2, xtl, xtl0, xbit_0, xbit_1, exists_eq_left, and_assoc, exists_and_left, if_true, if_false, true_and, and_true, not_true, not_false_iff, x6, Int32.neg_neg, x01, x11, x21, x31, x41, x51, xn1, xn2, xn3, xn4, xn5, xn6, xn7, xv1, xv2, xv3, xv4, xv5, xv6, xv7]
    · skip
      by_cases c3 : ((S.1 29 v1.toNatClampNeg) : Int32) < 100
      · skip
        by_cases c4 : ((S.1 29 v1.toNatClampNeg) : Int32) < 0
        · skip
          simp (decide := true) only [g86, c1, c2, c3, c4, xrd_ne, xrd_eq, xrd_n2, xrd_J, xrd_K, ite_true, ite_false, if_true, if_false, and_true, true_and] at h
          simp (decide := true) only [p86, b86_0, b86_4, b86_7, b86_12, b86_13, b86_21, b86_24, b86_30, b86_31, b86_49, b86_52, b86_64, b86_70, b36_0, b36_11, b24_0, b24_11, b24_15, b78_0, b78_7, b25_0, b25_5, b25_10, b25_14, b68_0, b68_7, b68_10, b68_21, c1, c2, c3, c4, h, xrd_ne, xrd_eq, xrd_n2, xrd_J, xrd_K, xsimp_1, xsimp_2, xtl, xtl0, xbit_0, xbit_1, exists_eq_left, and_assoc, exists_and_left, if_true, if_false, true_and, and_true, not_true, not_false_iff, x6, Int32.neg_neg, x01, x11, x21, x31, x41, x51, xn1, xn2, xn3, xn4, xn5, xn6, xn7, xv1, xv2, xv3, xv4, xv5, xv6, xv7]
        · skip
          by_cases c5 : (((S.1 2 0) - 1) : Int32) < (S.1 29 v1.toNatClampNeg)
          · skip
            simp (decide := true) only [g86, c1, c2, c3, c4, c5, xrd_ne, xrd_eq, xrd_n2, xrd_J, xrd_K, ite_true, ite_false, if_true, if_false, and_true, true_and] at h
            simp (decide := true) only [p86, b86_0, b86_4, b86_7, b86_12, b86_13, b86_21, b86_24, b86_30, b86_31, b86_49, b86_52, b86_64, b86_70, b36_0, b36_11, b24_0, b24_11, b24_15, b78_0, b78_7, b25_0, b25_5, b25_10, b25_14, b68_0, b68_7, b68_10, b68_21, c1, c2, c3, c4, c5, h, xrd_ne, xrd_eq, xrd_n2, xrd_J, xrd_K, xsimp_1, xsimp_2, xtl, xtl0, xbit_0, xbit_1, exists_eq_left, and_assoc, exists_and_left, if_true, if_false, true_and, and_true, not_true, not_false_iff, x6, Int32.neg_neg, x01, x11, x21, x31, x41, x51, xn1, xn2, xn3, xn4, xn5, xn6, xn7, xv1, xv2, xv3, xv4, xv5, xv6, xv7]
          · skip
            simp (decide := true) only [g86, c1, c2, c3, c4, c5, xrd_ne, xrd_eq, xrd_n2, xrd_J, xrd_K, ite_true, ite_false, if_true, if_false, and_true, true_and] at h
            simp (decide := true) only [p86, b86_0, b86_4, b86_7, b86_12, b86_13, b86_21, b86_24, b86_30, b86_31, b86_49, b86_52, b86_64, b86_70, b36_0, b36_11, b24_0, b24_11, b24_15, b78_0, b78_7, b25_0, b25_5, b25_10, b25_14, b68_0, b68_7, b68_10, b68_21, c1, c2, c3, c4, c5, h, xrd_ne, xrd_eq, xrd_n2, xrd_J, xrd_K, xsimp_1, xsimp_2, xtl, xtl0, xbit_0, xbit_1, exists_eq_left, and_assoc, exists_and_left, if_true, if_false, true_and, and_true, not_true, not_false_iff, x6, Int32.neg_neg, x01, x11, x21, x31, x41, x51, xn1, xn2, xn3, xn4, xn5, xn6, xn7, xv1, xv2, xv3, xv4, xv5, xv6, xv7]
      · skip
        simp (decide := true) only [g86, c1, c2, c3, xrd_ne, xrd_eq, xrd_n2, xrd_J, xrd_K, ite_true, ite_false, if_true, if_false, and_true, true_and] at h
        simp (decide := true) only [p86, b86_0, b86_4, b86_7, b86_12, b86_13, b86_21, b86_24, b86_30, b86_31, b86_49, b86_52, b86_64, b86_70, b36_0, b36_11, b24_0, b24_11, b24_15, b78_0, b78_7, b25_0, b25_5, b25_10, b25_14, b68_0, b68_7, b68_10, b68_21, c1, c2, c3, h, xrd_ne, xrd_eq, xrd_n2, xrd_J, xrd_K, xsimp_1, xsimp_2, xtl, xtl0, xbit_0, xbit_1, exists_eq_left, and_assoc, exists_and_left, if_true, if_false, true_and, and_true, not_true, not_false_iff, x6, Int32.neg_neg, x01, x11, x21, x31, x41, x51, xn1, xn2, xn3, xn4, xn5, xn6, xn7, xv1, xv2, xv3, xv4, xv5, xv6, xv7]
/-- X9_stay -/
def p87 (S : xS) (v1 : Int32) (v2 : Int32) : Option Value × xS := if (v1 : Int32) < 0 then ((some (.int (-1)), (xwI S 1 1 ((S.1 1 1) + 1)))) else (if (((S.1 2 0) - 1) : Int32) < v1 then ((some (.int (-1)), (xwI S 1 1 ((S.1 1 1) + 1)))) else (if ((S.1 7 v1.toNatClampNeg) : Int32) = 0 then (if ((S.1 6 v1.toNatClampNeg) : Int32) = v2 then ((some (.int 0), S)) else ((some (.int 1), (xwI (xwI S 6 v1.toNatClampNeg v2) 5 v1.toNatClampNeg 5)))) else ((some (.int (-6)), (xwI S 1 6 ((S.1 1 6) + 1))))))
def g87 (S : xS) (v1 : Int32) (v2 : Int32) : Prop := (if (v1 : Int32) < 0 then True else (if (((S.1 2 0) - 1) : Int32) < v1 then True else (vp_in v1 10 ∧ (if ((S.1 7 v1.toNatClampNeg) : Int32) = 0 then (vp_in v1 10 ∧ (if ((S.1 6 v1.toNatClampNeg) : Int32) = v2 then True else ((xbit v2 ∧ vp_in v1 10) ∧ (vp_in v1 10 ∧ True)))) else True))))
theorem t87 (d : Nat) (v1 : Int32) (v2 : Int32) (S : xS) (r : Option Value × xS) (h : g87 S v1 v2) : xX (d + 2) 87 0 [(0, .ref 0), (1, .int v1), (2, .int v2)] [] S r ↔ r = p87 S v1 v2 := by
  by_cases c1 : (v1 : Int32) < 0
  · skip
    simp (decide := true) only [g87, c1, xrd_ne, xrd_eq, xrd_n2, xrd_J, xrd_K, ite_true, ite_false, if_true, if_false, and_true, true_and] at h
    simp (decide := true) only [p87, b87_0, b87_8, b87_11, b87_16, b87_17, b87_29, b87_35, b87_36, b87_49, b87_51, b36_0, b36_11, b25_0, b25_5, b25_10, b25_14, b68_0, b68_7, b68_10, b68_21, c1, h, xrd_ne, xrd_eq, xrd_n2, xrd_J, xrd_K, xsimp_1, xsimp_2, xtl, xtl0, xbit_0, xbit_1, exists_eq_left, and_assoc, exists_and_left, if_true, if_false, true_and, and_true, not_true, not_false_iff, x6, Int32.neg_neg, x01, x11, x21, x31, x41, x51, xn1, xn2, xn3, xn4, xn5, xn6, xn7, xv1, xv2, xv3, xv4, xv5, xv6, xv7]
  · skip
    by_cases c2 : (((S.1 2 0) - 1) : Int32) < v1
    · skip
      simp (decide := true) only [g87, c1, c2, xrd_ne, xrd_eq, xrd_n2, xrd_J, xrd_K, ite_true, ite_false, if_true, if_false, and_true, true_and] at h
      simp (decide := true) only [p87, b87_0, b87_8, b87_11, b87_16, b87_17, b87_29, b87_35, b87_36, b87_49, b87_51, b36_0, b36_11, b25_0, b25_5, b25_10, b25_14, b68_0, b68_7, b68_10, b68_21, c1, c2, h, xrd_ne, xrd_eq, xrd_n2, xrd_J, xrd_K, xsimp_1, xsimp_2, xtl, xtl0, xbit_0, xbit_1, exists_eq_left, and_assoc, exists_and_left, if_true, if_false, true_and, and_true, not_true, not_false_iff, x6, Int32.neg_neg, x01, x11, x21, x31, x41, x51, xn1, xn2, xn3, xn4, xn5, xn6, xn7, xv1, xv2, xv3, xv4, xv5, xv6, xv7]
    · skip
      by_cases c3 : ((S.1 7 v1.toNatClampNeg) : Int32) = 0
      · skip
        by_cases c4 : ((S.1 6 v1.toNatClampNeg) : Int32) = v2
        · skip
          simp (decide := true) only [g87, c1, c2, c3, c4, xrd_ne, xrd_eq, xrd_n2, xrd_J, xrd_K, ite_true, ite_false, if_true, if_false, and_true, true_and] at h
          simp (decide := true) only [p87, b87_0, b87_8, b87_11, b87_16, b87_17, b87_29, b87_35, b87_36, b87_49, b87_51, b36_0, b36_11, b25_0, b25_5, b25_10, b25_14, b68_0, b68_7, b68_10, b68_21, c1, c2, c3, c4, h, xrd_ne, xrd_eq, xrd_n2, xrd_J, xrd_K, xsimp_1, xsimp_2, xtl, xtl0, xbit_0, xbit_1, exists_eq_left, and_assoc, exists_and_left, if_true, if_false, true_and, and_true, not_true, not_false_iff, x6, Int32.neg_neg, x01, x11, x21, x31, x41, x51, xn1, xn2, xn3, xn4, xn5, xn6, xn7, xv1, xv2, xv3, xv4, xv5, xv6, xv7]
        · skip
          simp (decide := true) only [g87, c1, c2, c3, c4, xrd_ne, xrd_eq, xrd_n2, xrd_J, xrd_K, ite_true, ite_false, if_true, if_false, and_true, true_and] at h
          simp (decide := true) only [p87, b87_0, b87_8, b87_11, b87_16, b87_17, b87_29, b87_35, b87_36, b87_49, b87_51, b36_0, b36_11, b25_0, b25_5, b25_10, b25_14, b68_0, b68_7, b68_10, b68_21, c1, c2, c3, c4, h, xrd_ne, xrd_eq, xrd_n2, xrd_J, xrd_K, xsimp_1, xsimp_2, xtl, xtl0, xbit_0, xbit_1, exists_eq_left, and_assoc, exists_and_left, if_true, if_false, true_and, and_true, not_true, not_false_iff, x6, Int32.neg_neg, x01, x11, x21, x31, x41, x51, xn1, xn2, xn3, xn4, xn5, xn6, xn7, xv1, xv2, xv3, xv4, xv5, xv6, xv7]
      · skip
        simp (decide := true) only [g87, c1, c2, c3, xrd_ne, xrd_eq, xrd_n2, xrd_J, xrd_K, ite_true, ite_false, if_true, if_false, and_true, true_and] at h
        simp (decide := true) only [p87, b87_0, b87_8, b87_11, b87_16, b87_17, b87_29, b87_35, b87_36, b87_49, b87_51, b36_0, b36_11, b25_0, b25_5, b25_10, b25_14, b68_0, b68_7, b68_10, b68_21, c1, c2, c3, h, xrd_ne, xrd_eq, xrd_n2, xrd_J, xrd_K, xsimp_1, xsimp_2, xtl, xtl0, xbit_0, xbit_1, exists_eq_left, and_assoc, exists_and_left, if_true, if_false, true_and, and_true, not_true, not_false_iff, x6, Int32.neg_neg, x01, x11, x21, x31, x41, x51, xn1, xn2, xn3, xn4, xn5, xn6, xn7, xv1, xv2, xv3, xv4, xv5, xv6, xv7]
/-- X9_mayGet -/
def p88 (S : xS) (v1 : Int32) (v2 : Int32) : Option Value × xS := if ((S.1 7 v1.toNatClampNeg) : Int32) = 0 then (if ((S.1 6 v1.toNatClampNeg) : Int32) = 0 then (if (v2 : Int32) = (-1) then ((some (.int 1), S)) else (if (v2 : Int32) < 0 then ((some (.int 0), S)) else (if (v2 : Int32) < 5 then (if (v2 : Int32) < (S.1 0 10) then ((some (.int 0), S)) else ((some (.int 1), S))) else ((some (.int 0), S))))) else ((some (.int 0), S))) else ((some (.int 0), S))
def g88 (S : xS) (v1 : Int32) (v2 : Int32) : Prop := (vp_in v1 10 ∧ (if ((S.1 7 v1.toNatClampNeg) : Int32) = 0 then (vp_in v1 10 ∧ True) else True))
theorem t88 (d : Nat) (v1 : Int32) (v2 : Int32) (S : xS) (r : Option Value × xS) (h : g88 S v1 v2) : xX (d + 1) 88 0 [(0, .ref 0), (1, .int v1), (2, .int v2)] [] S r ↔ r = p88 S v1 v2 := by
  by_cases c1 : ((S.1 7 v1.toNatClampNeg) : Int32) = 0
  · skip
    by_cases c2 : ((S.1 6 v1.toNatClampNeg) : Int32) = 0
    · skip
      by_cases c3 : (v2 : Int32) = (-1)
      · skip
        simp (decide := true) only [g88, c1, c2, c3, xrd_ne, xrd_eq, xrd_n2, xrd_J, xrd_K, ite_true, ite_false, if_true, if_false, and_true, true_and] at h
        simp (decide := true) only [p88, b88_0, b88_8, b88_11, b88_16, b88_20, b88_23, b88_31, b88_35, b41_0, b41_9, b41_18, b41_22, b27_0, b27_4, b27_9, b27_13, c1, c2, c3, h, xrd_ne, xrd_eq, xrd_n2, xrd_J, xrd_K, xsimp_1, xsimp_2, xtl, xtl0, xbit_0, xbit_1, exists_eq_left, and_assoc, exists_and_left, if_true, if_false, true_and, and_true, not_true, not_false_iff, x6, Int32.neg_neg, x01, x11, x21, x31, x41, x51, xn1, xn2, xn3, xn4, xn5, xn6, xn7, xv1, xv2, xv3, xv4, xv5, xv6, xv7]
      · skip
        by_cases c4 : (v2 : Int32) < 0
        · skip
          simp (decide := true) only [g88, c1, c2, c3, c4, xrd_ne, xrd_eq, xrd_n2, xrd_J, xrd_K, ite_true, ite_false, if_true, if_false, and_true, true_and] at h
          simp (decide := true) only [p88, b88_0, b88_8, b88_11, b88_16, b88_20, b88_23, b88_31, b88_35, b41_0, b41_9, b41_18, b41_22, b27_0, b27_4, b27_9, b27_13, c1, c2, c3, c4, h, xrd_ne, xrd_eq, xrd_n2, xrd_J, xrd_K, xsimp_1, xsimp_2, xtl, xtl0, xbit_0, xbit_1, exists_eq_left, and_assoc, exists_and_left, if_true, if_false, true_and, and_true, not_true, not_false_iff, x6, Int32.neg_neg, x01, x11, x21, x31, x41, x51, xn1, xn2, xn3, xn4, xn5, xn6, xn7, xv1, xv2, xv3, xv4, xv5, xv6, xv7]
        · skip
          by_cases c5 : (v2 : Int32) < 5
          · skip
            by_cases c6 : (v2 : Int32) < (S.1 0 10)
            · skip
              simp (decide := true) only [g88, c1, c2, c3, c4, c5, c6, xrd_ne, xrd_eq, xrd_n2, xrd_J, xrd_K, ite_true, ite_false, if_true, if_false, and_true, true_and] at h
              simp (decide := true) only [p88, b88_0, b88_8, b88_11, b88_16, b88_20, b88_23, b88_31, b88_35, b41_0, b41_9, b41_18, b41_22, b27_0, b27_4, b27_9, b27_13, c1, c2, c3, c4, c5, c6, h, xrd_ne, xrd_eq, xrd_n2, xrd_J, xrd_K, xsimp_1, xsimp_2, xtl, xtl0, xbit_0, xbit_1, exists_eq_left, and_assoc, exists_and_left, if_true, if_false, true_and, and_true, not_true, not_false_iff, x6, Int32.neg_neg, x01, x11, x21, x31, x41, x51, xn1, xn2, xn3, xn4, xn5, xn6, xn7, xv1, xv2, xv3, xv4, xv5, xv6, xv7]
            · skip
              simp (decide := true) only [g88, c1, c2, c3, c4, c5, c6, xrd_ne, xrd_eq, xrd_n2, xrd_J, xrd_K, ite_true, ite_false, if_true, if_false, and_true, true_and] at h
              simp (decide := true) only [p88, b88_0, b88_8, b88_11, b88_16, b88_20, b88_23, b88_31, b88_35, b41_0, b41_9, b41_18, b41_22, b27_0, b27_4, b27_9, b27_13, c1, c2, c3, c4, c5, c6, h, xrd_ne, xrd_eq, xrd_n2, xrd_J, xrd_K, xsimp_1, xsimp_2, xtl, xtl0, xbit_0, xbit_1, exists_eq_left, and_assoc, exists_and_left, if_true, if_false, true_and, and_true, not_true, not_false_iff, x6, Int32.neg_neg, x01, x11, x21, x31, x41, x51, xn1, xn2, xn3, xn4, xn5, xn6, xn7, xv1, xv2, xv3, xv4, xv5, xv6, xv7]
          · skip
            simp (decide := true) only [g88, c1, c2, c3, c4, c5, xrd_ne, xrd_eq, xrd_n2, xrd_J, xrd_K, ite_true, ite_false, if_true, if_false, and_true, true_and] at h
            simp (decide := true) only [p88, b88_0, b88_8, b88_11, b88_16, b88_20, b88_23, b88_31, b88_35, b41_0, b41_9, b41_18, b41_22, b27_0, b27_4, b27_9, b27_13, c1, c2, c3, c4, c5, h, xrd_ne, xrd_eq, xrd_n2, xrd_J, xrd_K, xsimp_1, xsimp_2, xtl, xtl0, xbit_0, xbit_1, exists_eq_left, and_assoc, exists_and_left, if_true, if_false, true_and, and_true, not_true, not_false_iff, x6, Int32.neg_neg, x01, x11, x21, x31, x41, x51, xn1, xn2, xn3, xn4, xn5, xn6, xn7, xv1, xv2, xv3, xv4, xv5, xv6, xv7]
    · skip
      simp (decide := true) only [g88, c1, c2, xrd_ne, xrd_eq, xrd_n2, xrd_J, xrd_K, ite_true, ite_false, if_true, if_false, and_true, true_and] at h
      simp (decide := true) only [p88, b88_0, b88_8, b88_11, b88_16, b88_20, b88_23, b88_31, b88_35, b41_0, b41_9, b41_18, b41_22, b27_0, b27_4, b27_9, b27_13, c1, c2, h, xrd_ne, xrd_eq, xrd_n2, xrd_J, xrd_K, xsimp_1, xsimp_2, xtl, xtl0, xbit_0, xbit_1, exists_eq_left, and_assoc, exists_and_left, if_true, if_false, true_and, and_true, not_true, not_false_iff, x6, Int32.neg_neg, x01, x11, x21, x31, x41, x51, xn1, xn2, xn3, xn4, xn5, xn6, xn7, xv1, xv2, xv3, xv4, xv5, xv6, xv7]
  · skip
    simp (decide := true) only [g88, c1, xrd_ne, xrd_eq, xrd_n2, xrd_J, xrd_K, ite_true, ite_false, if_true, if_false, and_true, true_and] at h
    simp (decide := true) only [p88, b88_0, b88_8, b88_11, b88_16, b88_20, b88_23, b88_31, b88_35, b41_0, b41_9, b41_18, b41_22, b27_0, b27_4, b27_9, b27_13, c1, h, xrd_ne, xrd_eq, xrd_n2, xrd_J, xrd_K, xsimp_1, xsimp_2, xtl, xtl0, xbit_0, xbit_1, exists_eq_left, and_assoc, exists_and_left, if_true, if_false, true_and, and_true, not_true, not_false_iff, x6, Int32.neg_neg, x01, x11, x21, x31, x41, x51, xn1, xn2, xn3, xn4, xn5, xn6, xn7, xv1, xv2, xv3, xv4, xv5, xv6, xv7]
/-- X9_give -/
def p89 (S : xS) (v1 : Int32) (v2 : Int32) : Option Value × xS := if (v1 : Int32) < 0 then ((some (.int (-1)), (xwI S 1 1 ((S.1 1 1) + 1)))) else (if (((S.1 2 0) - 1) : Int32) < v1 then ((some (.int (-1)), (xwI S 1 1 ((S.1 1 1) + 1)))) else (if (v2 : Int32) = (-1) then (if ((S.1 7 v1.toNatClampNeg) : Int32) = 0 then (if ((S.1 6 v1.toNatClampNeg) : Int32) = 0 then (if ((S.1 5 v1.toNatClampNeg) : Int32) = 5 then ((some (.int (-1)), (xwI S 5 v1.toNatClampNeg 5))) else ((some (.int (S.1 5 v1.toNatClampNeg)), (xwI S 5 v1.toNatClampNeg 5)))) else ((some (.int (-6)), (xwI S 1 6 ((S.1 1 6) + 1))))) else ((some (.int (-6)), (xwI S 1 6 ((S.1 1 6) + 1))))) else (if (v2 : Int32) < 0 then ((some (.int (-1)), (xwI S 1 1 ((S.1 1 1) + 1)))) else (if (v2 : Int32) < 5 then (if ((S.1 7 v1.toNatClampNeg) : Int32) = 0 then (if ((S.1 6 v1.toNatClampNeg) : Int32) = 0 then (if (v2 : Int32) < (S.1 0 10) then ((some (.int (-6)), (xwI S 1 6 ((S.1 1 6) + 1)))) else (if ((S.1 5 v1.toNatClampNeg) : Int32) = 5 then ((some (.int (-1)), (xwI S 5 v1.toNatClampNeg v2))) else ((some (.int (S.1 5 v1.toNatClampNeg)), (xwI S 5 v1.toNatClampNeg v2))))) else ((some (.int (-6)), (xwI S 1 6 ((S.1 1 6) + 1))))) else ((some (.int (-6)), (xwI S 1 6 ((S.1 1 6) + 1))))) else ((some (.int (-1)), (xwI S 1 1 ((S.1 1 1) + 1))))))))
def g89 (S : xS) (v1 : Int32) (v2 : Int32) : Prop := (if (v1 : Int32) < 0 then True else (if (((S.1 2 0) - 1) : Int32) < v1 then True else (if (v2 : Int32) = (-1) then (vp_in v1 10 ∧ (if ((S.1 7 v1.toNatClampNeg) : Int32) = 0 then (vp_in v1 10 ∧ (if ((S.1 6 v1.toNatClampNeg) : Int32) = 0 then (vp_in v1 10 ∧ (if ((S.1 5 v1.toNatClampNeg) : Int32) = 5 then (vp_in v1 10 ∧ True) else (vp_in v1 10 ∧ (vp_in v1 10 ∧ True)))) else True)) else True)) else (if (v2 : Int32) < 0 then True else (if (v2 : Int32) < 5 then (vp_in v1 10 ∧ (if ((S.1 7 v1.toNatClampNeg) : Int32) = 0 then (vp_in v1 10 ∧ (if ((S.1 6 v1.toNatClampNeg) : Int32) = 0 then (if (v2 : Int32) < (S.1 0 10) then True else (vp_in v1 10 ∧ (if ((S.1 5 v1.toNatClampNeg) : Int32) = 5 then (vp_in v1 10 ∧ True) else (vp_in v1 10 ∧ (vp_in v1 10 ∧ True))))) else True)) else True)) else True)))))
theorem t89 (d : Nat) (v1 : Int32) (v2 : Int32) (S : xS) (r : Option Value × xS) (h : g89 S v1 v2) : xX (d + 2) 89 0 [(0, .ref 0), (1, .int v1), (2, .int v2)] [] S r ↔ r = p89 S v1 v2 := by
  by_cases c1 : (v1 : Int32) < 0
  · skip
    simp (decide := true) only [g89, c1, xrd_ne, xrd_eq, xrd_n2, xrd_J, xrd_K, ite_true, ite_false, if_true, if_false, and_true, true_and] at h
    simp (decide := true) only [p89, b89_0, b89_8, b89_11, b89_16, b89_20, b89_23, b89_28, b89_29, b89_35, b89_38, b89_44, b89_45, b89_53, b89_63, b40_0, b40_10, b40_14, b36_0, b36_11, b41_0, b41_9, b41_18, b41_22, b39_0, b39_10, b39_14, b27_0, b27_4, b27_9, b27_13, b25_0, b25_5, b25_10, b25_14, b88_0, b88_8, b88_11, b88_16, b88_20, b88_23, b88_31, b88_35, b68_0, b68_7, b68_10, b68_21, c1, h, xrd_ne, xrd_eq, xrd_n2, xrd_J, xrd_K, xsimp_1, xsimp_2, xtl, xtl0, xbit_0, xbit_1, exists_eq_left, and_assoc, exists_and_left, if_true, if_false, true_and, and_true, not_true, not_false_iff, x6, Int32.neg_neg, x01, x11, x21, x31, x41, x51, xn1, xn2, xn3, xn4, xn5, xn6, xn7, xv1, xv2, xv3, xv4, xv5, xv6, xv7]
  · skip
    by_cases c2 : (((S.1 2 0) - 1) : Int32) < v1
    · skip
      simp (decide := true) only [g89, c1, c2, xrd_ne, xrd_eq, xrd_n2, xrd_J, xrd_K, ite_true, ite_false, if_true, if_false, and_true, true_and] at h
      simp (decide := true) only [p89, b89_0, b89_8, b89_11, b89_16, b89_20, b89_23, b89_28, b89_29, b89_35, b89_38, b89_44, b89_45, b89_53, b89_63, b40_0, b40_10, b40_14, b36_0, b36_11, b41_0, b41_9, b41_18, b41_22, b39_0, b39_10, b39_14, b27_0, b27_4, b27_9, b27_13, b25_0, b25_5, b25_10, b25_14, b88_0, b88_8, b88_11, b88_16, b88_20, b88_23, b88_31, b88_35, b68_0, b68_7, b68_10, b68_21, c1, c2, h, xrd_ne, xrd_eq, xrd_n2, xrd_J, xrd_K, xsimp_1, xsimp_2, xtl, xtl0, xbit_0, xbit_1, exists_eq_left, and_assoc, exists_and_left, if_true, if_false, true_and, and_true, not_true, not_false_iff, x6, Int32.neg_neg, x01, x11, x21, x31, x41, x51, xn1, xn2, xn3, xn4, xn5, xn6, xn7, xv1, xv2, xv3, xv4, xv5, xv6, xv7]
    · skip
      by_cases c3 : (v2 : Int32) = (-1)
      · skip
        by_cases c4 : ((S.1 7 v1.toNatClampNeg) : Int32) = 0
        · skip
          by_cases c5 : ((S.1 6 v1.toNatClampNeg) : Int32) = 0
          · skip
            by_cases c6 : ((S.1 5 v1.toNatClampNeg) : Int32) = 5
            · skip
              simp (decide := true) only [g89, c1, c2, c3, c4, c5, c6, xrd_ne, xrd_eq, xrd_n2, xrd_J, xrd_K, ite_true, ite_false, if_true, if_false, and_true, true_and] at h
              simp (decide := true) only [p89, b89_0, b89_8, b89_11, b89_16, b89_20, b89_23, b89_28, b89_29, b89_35, b89_38, b89_44, b89_45, b89_53, b89_63, b40_0, b40_10, b40_14, b36_0, b36_11, b41_0, b41_9, b41_18, b41_22, b39_0, b39_10, b39_14, b27_0, b27_4, b27_9, b27_13, b25_0, b25_5, b25_10, b25_14, b88_0, b88_8, b88_11, b88_16, b88_20, b88_23, b88_31, b88_35, b68_0, b68_7, b68_10, b68_21, c1, c2, c3, c4, c5, c6, h, xrd_ne, xrd_eq, xrd_n2, xrd_J, xrd_K, xsimp_1, xsimp_2, xtl, xtl0, xbit_0, xbit_1, exists_eq_left, and_assoc, exists_and_left, if_true, if_false, true_and, and_true, not_true, not_false_iff, x6, Int32.neg_neg, x01, x11, x21, x31, x41, x51, xn1, xn2, xn3, xn4, xn5, xn6, xn7, xv1, xv2, xv3, xv4, xv5, xv6, xv7]
            · skip
              simp (decide := true) only [g89, c1, c2, c3, c4, c5, c6, xrd_ne, xrd_eq, xrd_n2, xrd_J, xrd_K, ite_true, ite_false, if_true, if_false, and_true, true_and] at h
              simp (decide := true) only [p89, b89_0, b89_8, b89_11, b89_16, b89_20, b89_23, b89_28, b89_29, b89_35, b89_38, b89_44, b89_45, b89_53, b89_63, b40_0, b40_10, b40_14, b36_0, b36_11, b41_0, b41_9, b41_18, b41_22, b39_0, b39_10, b39_14, b27_0, b27_4, b27_9, b27_13, b25_0, b25_5, b25_10, b25_14, b88_0, b88_8, b88_11, b88_16, b88_20, b88_23, b88_31, b88_35, b68_0, b68_7, b68_10, b68_21, c1, c2, c3, c4, c5, c6, h, xrd_ne, xrd_eq, xrd_n2, xrd_J, xrd_K, xsimp_1, xsimp_2, xtl, xtl0, xbit_0, xbit_1, exists_eq_left, and_assoc, exists_and_left, if_true, if_false, true_and, and_true, not_true, not_false_iff, x6, Int32.neg_neg, x01, x11, x21, x31, x41, x51, xn1, xn2, xn3, xn4, xn5, xn6, xn7, xv1, xv2, xv3, xv4, xv5, xv6, xv7]
          · skip
            simp (decide := true) only [g89, c1, c2, c3, c4, c5, xrd_ne, xrd_eq, xrd_n2, xrd_J, xrd_K, ite_true, ite_false, if_true, if_false, and_true, true_and] at h
            simp (decide := true) only [p89, b89_0, b89_8, b89_11, b89_16, b89_20, b89_23, b89_28, b89_29, b89_35, b89_38, b89_44, b89_45, b89_53, b89_63, b40_0, b40_10, b40_14, b36_0, b36_11, b41_0, b41_9, b41_18, b41_22, b39_0, b39_10, b39_14, b27_0, b27_4, b27_9, b27_13, b25_0, b25_5, b25_10, b25_14, b88_0, b88_8, b88_11, b88_16, b88_20, b88_23, b88_31, b88_35, b68_0, b68_7, b68_10, b68_21, c1, c2, c3, c4, c5, h, xrd_ne, xrd_eq, xrd_n2, xrd_J, xrd_K, xsimp_1, xsimp_2, xtl, xtl0, xbit_0, xbit_1, exists_eq_left, and_assoc, exists_and_left, if_true, if_false, true_and, and_true, not_true, not_false_iff, x6, Int32.neg_neg, x01, x11, x21, x31, x41, x51, xn1, xn2, xn3, xn4, xn5, xn6, xn7, xv1, xv2, xv3, xv4, xv5, xv6, xv7]
        · skip
          simp (decide := true) only [g89, c1, c2, c3, c4, xrd_ne, xrd_eq, xrd_n2, xrd_J, xrd_K, ite_true, ite_false, if_true, if_false, and_true, true_and] at h
          simp (decide := true) only [p89, b89_0, b89_8, b89_11, b89_16, b89_20, b89_23, b89_28, b89_29, b89_35, b89_38, b89_44, b89_45, b89_53, b89_63, b40_0, b40_10, b40_14, b36_0, b36_11, b41_0, b41_9, b41_18, b41_22, b39_0, b39_10, b39_14, b27_0, b27_4, b27_9, b27_13, b25_0, b25_5, b25_10, b25_14, b88_0, b88_8, b88_11, b88_16, b88_20, b88_23, b88_31, b88_35, b68_0, b68_7, b68_10, b68_21, c1, c2, c3, c4, h, xrd_ne, xrd_eq, xrd_n2, xrd_J, xrd_K, xsimp_1, xsimp_2, xtl, xtl0, xbit_0, xbit_1, exists_eq_left, and_assoc, exists_and_left, if_true, if_false, true_and, and_true, not_true, not_false_iff, x6, Int32.neg_neg, x01, x11, x21, x31, x41, x51, xn1, xn2, xn3, xn4, xn5, xn6, xn7, xv1, xv2, xv3, xv4, xv5, xv6, xv7]
      · skip
        by_cases c4 : (v2 : Int32) < 0
        · skip
          simp (decide := true) only [g89, c1, c2, c3, c4, xrd_ne, xrd_eq, xrd_n2, xrd_J, xrd_K, ite_true, ite_false, if_true, if_false, and_true, true_and] at h
          simp (decide := true) only [p89, b89_0, b89_8, b89_11, b89_16, b89_20, b89_23, b89_28, b89_29, b89_35, b89_38, b89_44, b89_45, b89_53, b89_63, b40_0, b40_10, b40_14, b36_0, b36_11, b41_0, b41_9, b41_18, b41_22, b39_0, b39_10, b39_14, b27_0, b27_4, b27_9, b27_13, b25_0, b25_5, b25_10, b25_14, b88_0, b88_8, b88_11, b88_16, b88_20, b88_23, b88_31, b88_35, b68_0, b68_7, b68_10, b68_21, c1, c2, c3, c4, h, xrd_ne, xrd_eq, xrd_n2, xrd_J, xrd_K, xsimp_1, xsimp_2, xtl, xtl0, xbit_0, xbit_1, exists_eq_left, and_assoc, exists_and_left, if_true, if_false, true_and, and_true, not_true, not_false_iff, x6, Int32.neg_neg, x01, x11, x21, x31, x41, x51, xn1, xn2, xn3, xn4, xn5, xn6, xn7, xv1, xv2, xv3, xv4, xv5, xv6, xv7]
        · skip
          by_cases c5 : (v2 : Int32) < 5
          · skip
            by_cases c6 : ((S.1 7 v1.toNatClampNeg) : Int32) = 0
            · skip
              by_cases c7 : ((S.1 6 v1.toNatClampNeg) : Int32) = 0
              · skip
                by_cases c8 : (v2 : Int32) < (S.1 0 10)
                · skip
                  simp (decide := true) only [g89, c1, c2, c3, c4, c5, c6, c7, c8, xrd_ne, xrd_eq, xrd_n2, xrd_J, xrd_K, ite_true, ite_false, if_true, if_false, and_true, true_and] at h
                  simp (decide := true) only [p89, b89_0, b89_8, b89_11, b89_16, b89_20, b89_23, b89_28, b89_29, b89_35, b89_38, b89_44, b89_45, b89_53, b89_63, b40_0, b40_10, b40_14, b36_0, b36_11, b41_0, b41_9, b41_18, b41_22, b39_0, b39_10, b39_14, b27_0, b27_4, b27_9, b27_13, b25_0, b25_5, b25_10, b25_14, b88_0, b88_8, b88_11, b88_16, b88_20, b88_23, b88_31, b88_35, b68_0, b68_7, b68_10, b68_21, c1, c2, c3, c4, c5, c6, c7, c8, h, xrd_ne, xrd_eq, xrd_n2, xrd_J, xrd_K, xsimp_1, xsimp_2, xtl, xtl0, xbit_0, xbit_1, exists_eq_left, and_assoc, exists_and_left, if_true, if_false, true_and, and_true, not_true, not_false_iff, x6, Int32.neg_neg, x01, x11, x21, x31, x41, x51, xn1, xn2, xn3, xn4, xn5, xn6, xn7, xv1, xv2, xv3, xv4, xv5, xv6, xv7]
                · skip
                  by_cases c9 : ((S.1 5 v1.toNatClampNeg) : Int32) = 5
                  · skip
                    simp (decide := true) only [g89, c1, c2, c3, c4, c5, c6, c7, c8, c9, xrd_ne, xrd_eq, xrd_n2, xrd_J, xrd_K, ite_true, ite_false, if_true, if_false, and_true, true_and] at h
                    simp (decide := true) only [p89, b89_0, b89_8, b89_11, b89_16, b89_20, b89_23, b89_28, b89_29, b89_35, b89_38, b89_44, b89_45, b89_53, b89_63, b40_0, b40_10, b40_14, b36_0, b36_11, b41_0, b41_9, b41_18, b41_22, b39_0, b39_10, b39_14, b27_0, b27_4, b27_9, b27_13, b25_0, b25_5, b25_10, b25_14, b88_0, b88_8, b88_11, b88_16, b88_20, b88_23, b88_31, b88_35, b68_0, b68_7, b68_10, b68_21, c1, c2, c3, c4, c5, c6, c7, c8, c9, h, xrd_ne, xrd_eq, xrd_n2, xrd_J, xrd_K, xsimp_1, xsimp_2, xtl, xtl0, xbit_0, xbit_1, exists_eq_left, and_assoc, exists_and_left, if_true, if_false, true_and, and_true, not_true, not_false_iff, x6, Int32.neg_neg, x01, x11, x21, x31, x41, x51, xn1, xn2, xn3, xn4, xn5, xn6, xn7, xv1, xv2, xv3, xv4, xv5, xv6, xv7]
                  · skip
                    simp (decide := true) only [g89, c1, c2, c3, c4, c5, c6, c7, c8, c9, xrd_ne, xrd_eq, xrd_n2, xrd_J, xrd_K, ite_true, ite_false, if_true, if_false, and_true, true_and] at h
                    simp (decide := true) only [p89, b89_0, b89_8, b89_11, b89_16, b89_20, b89_23, b89_28, b89_29, b89_35, b89_38, b89_44, b89_45, b89_53, b89_63, b40_0, b40_10, b40_14, b36_0, b36_11, b41_0, b41_9, b41_18, b41_22, b39_0, b39_10, b39_14, b27_0, b27_4, b27_9, b27_13, b25_0, b25_5, b25_10, b25_14, b88_0, b88_8, b88_11, b88_16, b88_20, b88_23, b88_31, b88_35, b68_0, b68_7, b68_10, b68_21, c1, c2, c3, c4, c5, c6, c7, c8, c9, h, xrd_ne, xrd_eq, xrd_n2, xrd_J, xrd_K, xsimp_1, xsimp_2, xtl, xtl0, xbit_0, xbit_1, exists_eq_left, and_assoc, exists_and_left, if_true, if_false, true_and, and_true, not_true, not_false_iff, x6, Int32.neg_neg, x01, x11, x21, x31, x41, x51, xn1, xn2, xn3, xn4, xn5, xn6, xn7, xv1, xv2, xv3, xv4, xv5, xv6, xv7]
              · skip
                simp (decide := true) only [g89, c1, c2, c3, c4, c5, c6, c7, xrd_ne, xrd_eq, xrd_n2, xrd_J, xrd_K, ite_true, ite_false, if_true, if_false, and_true, true_and] at h
                simp (decide := true) only [p89, b89_0, b89_8, b89_11, b89_16, b89_20, b89_23, b89_28, b89_29, b89_35, b89_38, b89_44, b89_45, b89_53, b89_63, b40_0, b40_10, b40_14, b36_0, b36_11, b41_0, b41_9, b41_18, b41_22, b39_0, b39_10, b39_14, b27_0, b27_4, b27_9, b27_13, b25_0, b25_5, b25_10, b25_14, b88_0, b88_8, b88_11, b88_16, b88_20, b88_23, b88_31, b88_35, b68_0, b68_7, b68_10, b68_21, c1, c2, c3, c4, c5, c6, c7, h, xrd_ne, xrd_eq, xrd_n2, xrd_J, xrd_K, xsimp_1, xsimp_2, xtl, xtl0, xbit_0, xbit_1, exists_eq_left, and_assoc, exists_and_left, if_true, if_false, true_and, and_true, not_true, not_false_iff, x6, Int32.neg_neg, x01, x11, x21, x31, x41, x51, xn1, xn2, xn3, xn4, xn5, xn6, xn7, xv1, xv2, xv3, xv4, xv5, xv6, xv7]
            · skip
              simp (decide := true) only [g89, c1, c2, c3, c4, c5, c6, xrd_ne, xrd_eq, xrd_n2, xrd_J, xrd_K, ite_true, ite_false, if_true, if_false, and_true, true_and] at h
              simp (decide := true) only [p89, b89_0, b89_8, b89_11, b89_16, b89_20, b89_23, b89_28, b89_29, b89_35, b89_38, b89_44, b89_45, b89_53, b89_63, b40_0, b40_10, b40_14, b36_0, b36_11, b41_0, b41_9, b41_18, b41_22, b39_0, b39_10, b39_14, b27_0, b27_4, b27_9, b27_13, b25_0, b25_5, b25_10, b25_14, b88_0, b88_8, b88_11, b88_16, b88_20, b88_23, b88_31, b88_35, b68_0, b68_7, b68_10, b68_21, c1, c2, c3, c4, c5, c6, h, xrd_ne, xrd_eq, xrd_n2, xrd_J, xrd_K, xsimp_1, xsimp_2, xtl, xtl0, xbit_0, xbit_1, exists_eq_left, and_assoc, exists_and_left, if_true, if_false, true_and, and_true, not_true, not_false_iff, x6, Int32.neg_neg, x01, x11, x21, x31, x41, x51, xn1, xn2, xn3, xn4, xn5, xn6, xn7, xv1, xv2, xv3, xv4, xv5, xv6, xv7]
          · skip
            simp (decide := true) only [g89, c1, c2, c3, c4, c5, xrd_ne, xrd_eq, xrd_n2, xrd_J, xrd_K, ite_true, ite_false, if_true, if_false, and_true, true_and] at h
            simp (decide := true) only [p89, b89_0, b89_8, b89_11, b89_16, b89_20, b89_23, b89_28, b89_29, b89_35, b89_38, b89_44, b89_45, b89_53, b89_63, b40_0, b40_10, b40_14, b36_0, b36_11, b41_0, b41_9, b41_18, b41_22, b39_0, b39_10, b39_14, b27_0, b27_4, b27_9, b27_13, b25_0, b25_5, b25_10, b25_14, b88_0, b88_8, b88_11, b88_16, b88_20, b88_23, b88_31, b88_35, b68_0, b68_7, b68_10, b68_21, c1, c2, c3, c4, c5, h, xrd_ne, xrd_eq, xrd_n2, xrd_J, xrd_K, xsimp_1, xsimp_2, xtl, xtl0, xbit_0, xbit_1, exists_eq_left, and_assoc, exists_and_left, if_true, if_false, true_and, and_true, not_true, not_false_iff, x6, Int32.neg_neg, x01, x11, x21, x31, x41, x51, xn1, xn2, xn3, xn4, xn5, xn6, xn7, xv1, xv2, xv3, xv4, xv5, xv6, xv7]
/-- X9_wave -/
def p92 (S : xS) (v1 : Int32) : Option Value × xS := if (v1 : Int32) < 0 then ((some (.int (-1)), S)) else (if (((S.1 2 0) - 1) : Int32) < v1 then ((some (.int (-1)), S)) else (if ((S.1 5 v1.toNatClampNeg) : Int32) = 5 then ((some (.int (-1)), S)) else ((some (.int (S.1 5 v1.toNatClampNeg)), S))))
def g92 (S : xS) (v1 : Int32) : Prop := (if (v1 : Int32) < 0 then True else (if (((S.1 2 0) - 1) : Int32) < v1 then True else (vp_in v1 10 ∧ (if ((S.1 5 v1.toNatClampNeg) : Int32) = 5 then True else (vp_in v1 10 ∧ True)))))
theorem t92 (d : Nat) (v1 : Int32) (S : xS) (r : Option Value × xS) (h : g92 S v1) : xX (d + 2) 92 0 [(0, .ref 0), (1, .int v1)] [] S r ↔ r = p92 S v1 := by
  by_cases c1 : (v1 : Int32) < 0
  · skip
    simp (decide := true) only [g92, c1, xrd_ne, xrd_eq, xrd_n2, xrd_J, xrd_K, ite_true, ite_false, if_true, if_false, and_true, true_and] at h
    simp (decide := true) only [p92, b92_0, b92_8, b92_11, b92_19, b92_22, b36_0, b36_11, b39_0, b39_10, b39_14, b25_0, b25_5, b25_10, b25_14, c1, h, xrd_ne, xrd_eq, xrd_n2, xrd_J, xrd_K, xsimp_1, xsimp_2, xtl, xtl0, xbit_0, xbit_1, exists_eq_left, and_assoc, exists_and_left, if_true, if_false, true_and, and_true, not_true, not_false_iff, x6, Int32.neg_neg, x01, x11, x21, x31, x41, x51, xn1, xn2, xn3, xn4, xn5, xn6, xn7, xv1, xv2, xv3, xv4, xv5, xv6, xv7]
  · skip
    by_cases c2 : (((S.1 2 0) - 1) : Int32) < v1
    · skip
      simp (decide := true) only [g92, c1, c2, xrd_ne, xrd_eq, xrd_n2, xrd_J, xrd_K, ite_true, ite_false, if_true, if_false, and_true, true_and] at h
      simp (decide := true) only [p92, b92_0, b92_8, b92_11, b92_19, b92_22, b36_0, b36_11, b39_0, b39_10, b39_14, b25_0, b25_5, b25_10, b25_14, c1, c2, h, xrd_ne, xrd_eq, xrd_n2, xrd_J, xrd_K, xsimp_1, xsimp_2, xtl, xtl0, xbit_0, xbit_1, exists_eq_left, and_assoc, exists_and_left, if_true, if_false, true_and, and_true, not_true, not_false_iff, x6, Int32.neg_neg, x01, x11, x21, x31, x41, x51, xn1, xn2, xn3, xn4, xn5, xn6, xn7, xv1, xv2, xv3, xv4, xv5, xv6, xv7]
    · skip
      by_cases c3 : ((S.1 5 v1.toNatClampNeg) : Int32) = 5
      · skip
        simp (decide := true) only [g92, c1, c2, c3, xrd_ne, xrd_eq, xrd_n2, xrd_J, xrd_K, ite_true, ite_false, if_true, if_false, and_true, true_and] at h
        simp (decide := true) only [p92, b92_0, b92_8, b92_11, b92_19, b92_22, b36_0, b36_11, b39_0, b39_10, b39_14, b25_0, b25_5, b25_10, b25_14, c1, c2, c3, h, xrd_ne, xrd_eq, xrd_n2, xrd_J, xrd_K, xsimp_1, xsimp_2, xtl, xtl0, xbit_0, xbit_1, exists_eq_left, and_assoc, exists_and_left, if_true, if_false, true_and, and_true, not_true, not_false_iff, x6, Int32.neg_neg, x01, x11, x21, x31, x41, x51, xn1, xn2, xn3, xn4, xn5, xn6, xn7, xv1, xv2, xv3, xv4, xv5, xv6, xv7]
      · skip
        simp (decide := true) only [g92, c1, c2, c3, xrd_ne, xrd_eq, xrd_n2, xrd_J, xrd_K, ite_true, ite_false, if_true, if_false, and_true, true_and] at h
        simp (decide := true) only [p92, b92_0, b92_8, b92_11, b92_19, b92_22, b36_0, b36_11, b39_0, b39_10, b39_14, b25_0, b25_5, b25_10, b25_14, c1, c2, c3, h, xrd_ne, xrd_eq, xrd_n2, xrd_J, xrd_K, xsimp_1, xsimp_2, xtl, xtl0, xbit_0, xbit_1, exists_eq_left, and_assoc, exists_and_left, if_true, if_false, true_and, and_true, not_true, not_false_iff, x6, Int32.neg_neg, x01, x11, x21, x31, x41, x51, xn1, xn2, xn3, xn4, xn5, xn6, xn7, xv1, xv2, xv3, xv4, xv5, xv6, xv7]
/-- X9_town -/
def p99 (S : xS) (v1 : Int32) : Option Value × xS := if (v1 : Int32) = 0 then ((some (.int (S.1 13 6)), S)) else (if (v1 : Int32) = 1 then ((some (.int (S.1 13 8)), S)) else (if (v1 : Int32) = 2 then ((some (.int (S.1 13 9)), S)) else (if (v1 : Int32) = 3 then ((some (.int ((S.1 13 5) - (S.1 13 7))), S)) else (if (v1 : Int32) = 4 then ((some (.int (S.1 13 10)), S)) else ((some (.int (-1)), S))))))
theorem t99 (d : Nat) (v1 : Int32) (S : xS) (r : Option Value × xS) : xX d 99 0 [(0, .ref 0), (1, .int v1)] [] S r ↔ r = p99 S v1 := by
  by_cases c1 : (v1 : Int32) = 0
  · skip
    simp (decide := true) only [p99, b99_0, b99_36, b99_44, b99_52, b99_60, b99_76, b99_84, c1, xrd_ne, xrd_eq, xrd_n2, xrd_J, xrd_K, xsimp_1, xsimp_2, xtl, xtl0, xbit_0, xbit_1, exists_eq_left, and_assoc, exists_and_left, if_true, if_false, true_and, and_true, not_true, not_false_iff, x6, Int32.neg_neg, x01, x11, x21, x31, x41, x51, xn1, xn2, xn3, xn4, xn5, xn6, xn7, xv1, xv2, xv3, xv4, xv5, xv6, xv7]
  · skip
    by_cases c2 : (v1 : Int32) = 1
    · skip
      simp (decide := true) only [p99, b99_0, b99_36, b99_44, b99_52, b99_60, b99_76, b99_84, c1, c2, xrd_ne, xrd_eq, xrd_n2, xrd_J, xrd_K, xsimp_1, xsimp_2, xtl, xtl0, xbit_0, xbit_1, exists_eq_left, and_assoc, exists_and_left, if_true, if_false, true_and, and_true, not_true, not_false_iff, x6, Int32.neg_neg, x01, x11, x21, x31, x41, x51, xn1, xn2, xn3, xn4, xn5, xn6, xn7, xv1, xv2, xv3, xv4, xv5, xv6, xv7]
    · skip
      by_cases c3 : (v1 : Int32) = 2
      · skip
        simp (decide := true) only [p99, b99_0, b99_36, b99_44, b99_52, b99_60, b99_76, b99_84, c1, c2, c3, xrd_ne, xrd_eq, xrd_n2, xrd_J, xrd_K, xsimp_1, xsimp_2, xtl, xtl0, xbit_0, xbit_1, exists_eq_left, and_assoc, exists_and_left, if_true, if_false, true_and, and_true, not_true, not_false_iff, x6, Int32.neg_neg, x01, x11, x21, x31, x41, x51, xn1, xn2, xn3, xn4, xn5, xn6, xn7, xv1, xv2, xv3, xv4, xv5, xv6, xv7]
      · skip
        by_cases c4 : (v1 : Int32) = 3
        · skip
          simp (decide := true) only [p99, b99_0, b99_36, b99_44, b99_52, b99_60, b99_76, b99_84, c1, c2, c3, c4, xrd_ne, xrd_eq, xrd_n2, xrd_J, xrd_K, xsimp_1, xsimp_2, xtl, xtl0, xbit_0, xbit_1, exists_eq_left, and_assoc, exists_and_left, if_true, if_false, true_and, and_true, not_true, not_false_iff, x6, Int32.neg_neg, x01, x11, x21, x31, x41, x51, xn1, xn2, xn3, xn4, xn5, xn6, xn7, xv1, xv2, xv3, xv4, xv5, xv6, xv7]
        · skip
          by_cases c5 : (v1 : Int32) = 4
          · skip
            simp (decide := true) only [p99, b99_0, b99_36, b99_44, b99_52, b99_60, b99_76, b99_84, c1, c2, c3, c4, c5, xrd_ne, xrd_eq, xrd_n2, xrd_J, xrd_K, xsimp_1, xsimp_2, xtl, xtl0, xbit_0, xbit_1, exists_eq_left, and_assoc, exists_and_left, if_true, if_false, true_and, and_true, not_true, not_false_iff, x6, Int32.neg_neg, x01, x11, x21, x31, x41, x51, xn1, xn2, xn3, xn4, xn5, xn6, xn7, xv1, xv2, xv3, xv4, xv5, xv6, xv7]
          · skip
            simp (decide := true) only [p99, b99_0, b99_36, b99_44, b99_52, b99_60, b99_76, b99_84, c1, c2, c3, c4, c5, xrd_ne, xrd_eq, xrd_n2, xrd_J, xrd_K, xsimp_1, xsimp_2, xtl, xtl0, xbit_0, xbit_1, exists_eq_left, and_assoc, exists_and_left, if_true, if_false, true_and, and_true, not_true, not_false_iff, x6, Int32.neg_neg, x01, x11, x21, x31, x41, x51, xn1, xn2, xn3, xn4, xn5, xn6, xn7, xv1, xv2, xv3, xv4, xv5, xv6, xv7]
/-- X9_fault -/
def p101 (S : xS) : Option Value × xS := (some (.int (S.1 19 5)), S)
theorem t101 (d : Nat) (S : xS) (r : Option Value × xS) : xX d 101 0 [(0, .ref 0)] [] S r ↔ r = p101 S := by
  simp (decide := true) only [p101, b101_0, xrd_ne, xrd_eq, xrd_n2, xrd_J, xrd_K, xsimp_1, xsimp_2, xtl, xtl0, xbit_0, xbit_1, exists_eq_left, and_assoc, exists_and_left, if_true, if_false, true_and, and_true, not_true, not_false_iff, x6, Int32.neg_neg, x01, x11, x21, x31, x41, x51, xn1, xn2, xn3, xn4, xn5, xn6, xn7, xv1, xv2, xv3, xv4, xv5, xv6, xv7]
/-- X9_isVotes -/
def p102 (S : xS) (v0 : Int32) : Option Value × xS := if (v0 : Int32) < 0 then ((some (.int 0), S)) else (if (1000 : Int32) < v0 then ((some (.int 0), S)) else ((some (.int 1), S)))
theorem t102 (d : Nat) (v0 : Int32) (S : xS) (r : Option Value × xS) : xX (d + 1) 102 0 [(0, .int v0)] [] S r ↔ r = p102 S v0 := by
  by_cases c1 : (v0 : Int32) < 0
  · skip
    simp (decide := true) only [p102, b102_0, b102_8, b25_0, b25_5, b25_10, b25_14, c1, xrd_ne, xrd_eq, xrd_n2, xrd_J, xrd_K, xsimp_1, xsimp_2, xtl, xtl0, xbit_0, xbit_1, exists_eq_left, and_assoc, exists_and_left, if_true, if_false, true_and, and_true, not_true, not_false_iff, x6, Int32.neg_neg, x01, x11, x21, x31, x41, x51, xn1, xn2, xn3, xn4, xn5, xn6, xn7, xv1, xv2, xv3, xv4, xv5, xv6, xv7]
  · skip
    by_cases c2 : (1000 : Int32) < v0
    · skip
      simp (decide := true) only [p102, b102_0, b102_8, b25_0, b25_5, b25_10, b25_14, c1, c2, xrd_ne, xrd_eq, xrd_n2, xrd_J, xrd_K, xsimp_1, xsimp_2, xtl, xtl0, xbit_0, xbit_1, exists_eq_left, and_assoc, exists_and_left, if_true, if_false, true_and, and_true, not_true, not_false_iff, x6, Int32.neg_neg, x01, x11, x21, x31, x41, x51, xn1, xn2, xn3, xn4, xn5, xn6, xn7, xv1, xv2, xv3, xv4, xv5, xv6, xv7]
    · skip
      simp (decide := true) only [p102, b102_0, b102_8, b25_0, b25_5, b25_10, b25_14, c1, c2, xrd_ne, xrd_eq, xrd_n2, xrd_J, xrd_K, xsimp_1, xsimp_2, xtl, xtl0, xbit_0, xbit_1, exists_eq_left, and_assoc, exists_and_left, if_true, if_false, true_and, and_true, not_true, not_false_iff, x6, Int32.neg_neg, x01, x11, x21, x31, x41, x51, xn1, xn2, xn3, xn4, xn5, xn6, xn7, xv1, xv2, xv3, xv4, xv5, xv6, xv7]
/-- X9_vote -/
def p103 (S : xS) (v1 : Int32) (v2 : Int32) (v3 : Int32) (v4 : Int32) (v5 : Int32) : Option Value × xS := if (v1 : Int32) < 0 then ((some (.int (-1)), (xwI S 1 1 ((S.1 1 1) + 1)))) else (if (((S.1 19 0) - 1) : Int32) < v1 then ((some (.int (-1)), (xwI S 1 1 ((S.1 1 1) + 1)))) else (if (v2 : Int32) < 0 then ((some (.int (-6)), (xwI S 1 6 ((S.1 1 6) + 1)))) else (if (1000 : Int32) < v2 then ((some (.int (-6)), (xwI S 1 6 ((S.1 1 6) + 1)))) else (if (v3 : Int32) < 0 then ((some (.int (-6)), (xwI S 1 6 ((S.1 1 6) + 1)))) else (if (1000 : Int32) < v3 then ((some (.int (-6)), (xwI S 1 6 ((S.1 1 6) + 1)))) else (if (v4 : Int32) < 0 then ((some (.int (-6)), (xwI S 1 6 ((S.1 1 6) + 1)))) else (if (1000 : Int32) < v4 then ((some (.int (-6)), (xwI S 1 6 ((S.1 1 6) + 1)))) else (if (v5 : Int32) < 0 then ((some (.int (-6)), (xwI S 1 6 ((S.1 1 6) + 1)))) else (if (1000 : Int32) < v5 then ((some (.int (-6)), (xwI S 1 6 ((S.1 1 6) + 1)))) else (if (v3 : Int32) < v2 then (if (v5 : Int32) < v4 then ((some (.int 1), (xwI S 23 v1.toNatClampNeg 1))) else (if (v2 : Int32) < (2 * v3) then ((some (.int 0), (xwI S 23 v1.toNatClampNeg 0))) else ((some (.int 1), (xwI S 23 v1.toNatClampNeg 1))))) else ((some (.int 0), (xwI S 23 v1.toNatClampNeg 0)))))))))))))
def g103 (S : xS) (v1 : Int32) (v2 : Int32) (v3 : Int32) (v4 : Int32) (v5 : Int32) : Prop := (if (v1 : Int32) < 0 then True else (if (((S.1 19 0) - 1) : Int32) < v1 then True else (if (v2 : Int32) < 0 then True else (if (1000 : Int32) < v2 then True else (if (v3 : Int32) < 0 then True else (if (1000 : Int32) < v3 then True else (if (v4 : Int32) < 0 then True else (if (1000 : Int32) < v4 then True else (if (v5 : Int32) < 0 then True else (if (1000 : Int32) < v5 then True else (if (v3 : Int32) < v2 then (if (v5 : Int32) < v4 then ((xbit 1 ∧ vp_in v1 6) ∧ True) else (if (v2 : Int32) < (2 * v3) then ((xbit 0 ∧ vp_in v1 6) ∧ True) else ((xbit 1 ∧ vp_in v1 6) ∧ True))) else ((xbit 0 ∧ vp_in v1 6) ∧ True))))))))))))
theorem t103 (d : Nat) (v1 : Int32) (v2 : Int32) (v3 : Int32) (v4 : Int32) (v5 : Int32) (S : xS) (r : Option Value × xS) (h : g103 S v1 v2 v3 v4 v5) : xX (d + 2) 103 0 [(0, .ref 0), (1, .int v1), (2, .int v2), (3, .int v3), (4, .int v4), (5, .int v5)] [] S r ↔ r = p103 S v1 v2 v3 v4 v5 := by
  by_cases c1 : (v1 : Int32) < 0
  · skip
    simp (decide := true) only [g103, c1, xrd_ne, xrd_eq, xrd_n2, xrd_J, xrd_K, ite_true, ite_false, if_true, if_false, and_true, true_and] at h
    simp (decide := true) only [p103, b103_0, b103_14, b103_17, b103_22, b103_23, b103_27, b103_30, b103_34, b103_37, b103_42, b103_45, b103_50, b103_53, b103_59, b103_60, b103_65, b103_72, b103_79, b103_83, b103_102, b103_106, b102_0, b102_8, b25_0, b25_5, b25_10, b25_14, b68_0, b68_7, b68_10, b68_21, c1, h, xrd_ne, xrd_eq, xrd_n2, xrd_J, xrd_K, xsimp_1, xsimp_2, xtl, xtl0, xbit_0, xbit_1, exists_eq_left, and_assoc, exists_and_left, if_true, if_false, true_and, and_true, not_true, not_false_iff, x6, Int32.neg_neg, x01, x11, x21, x31, x41, x51, xn1, xn2, xn3, xn4, xn5, xn6, xn7, xv1, xv2, xv3, xv4, xv5, xv6, xv7]
  · skip
    by_cases c2 : (((S.1 19 0) - 1) : Int32) < v1
    · skip
      simp (decide := true) only [g103, c1, c2, xrd_ne, xrd_eq, xrd_n2, xrd_J, xrd_K, ite_true, ite_false, if_true, if_false, and_true, true_and] at h
      simp (decide := true) only [p103, b103_0, b103_14, b103_17, b103_22, b103_23, b103_27, b103_30, b103_34, b103_37, b103_42, b103_45, b103_50, b103_53, b103_59, b103_60, b103_65, b103_72, b103_79, b103_83, b103_102, b103_106, b102_0, b102_8, b25_0, b25_5, b25_10, b25_14, b68_0, b68_7, b68_10, b68_21, c1, c2, h, xrd_ne, xrd_eq, xrd_n2, xrd_J, xrd_K, xsimp_1, xsimp_2, xtl, xtl0, xbit_0, xbit_1, exists_eq_left, and_assoc, exists_and_left, if_true, if_false, true_and, and_true, not_true, not_false_iff, x6, Int32.neg_neg, x01, x11, x21, x31, x41, x51, xn1, xn2, xn3, xn4, xn5, xn6, xn7, xv1, xv2, xv3, xv4, xv5, xv6, xv7]
    · skip
      by_cases c3 : (v2 : Int32) < 0
      · skip
        simp (decide := true) only [g103, c1, c2, c3, xrd_ne, xrd_eq, xrd_n2, xrd_J, xrd_K, ite_true, ite_false, if_true, if_false, and_true, true_and] at h
        simp (decide := true) only [p103, b103_0, b103_14, b103_17, b103_22, b103_23, b103_27, b103_30, b103_34, b103_37, b103_42, b103_45, b103_50, b103_53, b103_59, b103_60, b103_65, b103_72, b103_79, b103_83, b103_102, b103_106, b102_0, b102_8, b25_0, b25_5, b25_10, b25_14, b68_0, b68_7, b68_10, b68_21, c1, c2, c3, h, xrd_ne, xrd_eq, xrd_n2, xrd_J, xrd_K, xsimp_1, xsimp_2, xtl, xtl0, xbit_0, xbit_1, exists_eq_left, and_assoc, exists_and_left, if_true, if_false, true_and, and_true, not_true, not_false_iff, x6, Int32.neg_neg, x01, x11, x21, x31, x41, x51, xn1, xn2, xn3, xn4, xn5, xn6, xn7, xv1, xv2, xv3, xv4, xv5, xv6, xv7]
      · skip
        by_cases c4 : (1000 : Int32) < v2
        · skip
          simp (decide := true) only [g103, c1, c2, c3, c4, xrd_ne, xrd_eq, xrd_n2, xrd_J, xrd_K, ite_true, ite_false, if_true, if_false, and_true, true_and] at h
          simp (decide := true) only [p103, b103_0, b103_14, b103_17, b103_22, b103_23, b103_27, b103_30, b103_34, b103_37, b103_42, b103_45, b103_50, b103_53, b103_59, b103_60, b103_65, b103_72, b103_79, b103_83, b103_102, b103_106, b102_0, b102_8, b25_0, b25_5, b25_10, b25_14, b68_0, b68_7, b68_10, b68_21, c1, c2, c3, c4, h, xrd_ne, xrd_eq, xrd_n2, xrd_J, xrd_K, xsimp_1, xsimp_2, xtl, xtl0, xbit_0, xbit_1, exists_eq_left, and_assoc, exists_and_left, if_true, if_false, true_and, and_true, not_true, not_false_iff, x6, Int32.neg_neg, x01, x11, x21, x31, x41, x51, xn1, xn2, xn3, xn4, xn5, xn6, xn7, xv1, xv2, xv3, xv4, xv5, xv6, xv7]
        · skip
          by_cases c5 : (v3 : Int32) < 0
          · skip
            simp (decide := true) only [g103, c1, c2, c3, c4, c5, xrd_ne, xrd_eq, xrd_n2, xrd_J, xrd_K, ite_true, ite_false, if_true, if_false, and_true, true_and] at h
            simp (decide := true) only [p103, b103_0, b103_14, b103_17, b103_22, b103_23, b103_27, b103_30, b103_34, b103_37, b103_42, b103_45, b103_50, b103_53, b103_59, b103_60, b103_65, b103_72, b103_79, b103_83, b103_102, b103_106, b102_0, b102_8, b25_0, b25_5, b25_10, b25_14, b68_0, b68_7, b68_10, b68_21, c1, c2, c3, c4, c5, h, xrd_ne, xrd_eq, xrd_n2, xrd_J, xrd_K, xsimp_1, xsimp_2, xtl, xtl0, xbit_0, xbit_1, exists_eq_left, and_assoc, exists_and_left, if_true, if_false, true_and, and_true, not_true, not_false_iff, x6, Int32.neg_neg, x01, x11, x21, x31, x41, x51, xn1, xn2, xn3, xn4, xn5, xn6, xn7, xv1, xv2, xv3, xv4, xv5, xv6, xv7]
          · skip
            by_cases c6 : (1000 : Int32) < v3
            · skip
              simp (decide := true) only [g103, c1, c2, c3, c4, c5, c6, xrd_ne, xrd_eq, xrd_n2, xrd_J, xrd_K, ite_true, ite_false, if_true, if_false, and_true, true_and] at h
              simp (decide := true) only [p103, b103_0, b103_14, b103_17, b103_22, b103_23, b103_27, b103_30, b103_34, b103_37, b103_42, b103_45, b103_50, b103_53, b103_59, b103_60, b103_65, b103_72, b103_79, b103_83, b103_102, b103_106, b102_0, b102_8, b25_0, b25_5, b25_10, b25_14, b68_0, b68_7, b68_10, b68_21, c1, c2, c3, c4, c5, c6, h, xrd_ne, xrd_eq, xrd_n2, xrd_J, xrd_K, xsimp_1, xsimp_2, xtl, xtl0, xbit_0, xbit_1, exists_eq_left, and_assoc, exists_and_left, if_true, if_false, true_and, and_true, not_true, not_false_iff, x6, Int32.neg_neg, x01, x11, x21, x31, x41, x51, xn1, xn2, xn3, xn4, xn5, xn6, xn7, xv1, xv2, xv3, xv4, xv5, xv6, xv7]
            · skip
              by_cases c7 : (v4 : Int32) < 0
              · skip
                simp (decide := true) only [g103, c1, c2, c3, c4, c5, c6, c7, xrd_ne, xrd_eq, xrd_n2, xrd_J, xrd_K, ite_true, ite_false, if_true, if_false, and_true, true_and] at h
                simp (decide := true) only [p103, b103_0, b103_14, b103_17, b103_22, b103_23, b103_27, b103_30, b103_34, b103_37, b103_42, b103_45, b103_50, b103_53, b103_59, b103_60, b103_65, b103_72, b103_79, b103_83, b103_102, b103_106, b102_0, b102_8, b25_0, b25_5, b25_10, b25_14, b68_0, b68_7, b68_10, b68_21, c1, c2, c3, c4, c5, c6, c7, h, xrd_ne, xrd_eq, xrd_n2, xrd_J, xrd_K, xsimp_1, xsimp_2, xtl, xtl0, xbit_0, xbit_1, exists_eq_left, and_assoc, exists_and_left, if_true, if_false, true_and, and_true, not_true, not_false_iff, x6, Int32.neg_neg, x01, x11, x21, x31, x41, x51, xn1, xn2, xn3, xn4, xn5, xn6, xn7, xv1, xv2, xv3, xv4, xv5, xv6, xv7]
              · skip
                by_cases c8 : (1000 : Int32) < v4
                · skip
                  simp (decide := true) only [g103, c1, c2, c3, c4, c5, c6, c7, c8, xrd_ne, xrd_eq, xrd_n2, xrd_J, xrd_K, ite_true, ite_false, if_true, if_false, and_true, true_and] at h
                  simp (decide := true) only [p103, b103_0, b103_14, b103_17, b103_22, b103_23, b103_27, b103_30, b103_34, b103_37, b103_42, b103_45, b103_50, b103_53, b103_59, b103_60, b103_65, b103_72, b103_79, b103_83, b103_102, b103_106, b102_0, b102_8, b25_0, b25_5, b25_10, b25_14, b68_0, b68_7, b68_10, b68_21, c1, c2, c3, c4, c5, c6, c7, c8, h, xrd_ne, xrd_eq, xrd_n2, xrd_J, xrd_K, xsimp_1, xsimp_2, xtl, xtl0, xbit_0, xbit_1, exists_eq_left, and_assoc, exists_and_left, if_true, if_false, true_and, and_true, not_true, not_false_iff, x6, Int32.neg_neg, x01, x11, x21, x31, x41, x51, xn1, xn2, xn3, xn4, xn5, xn6, xn7, xv1, xv2, xv3, xv4, xv5, xv6, xv7]
                · skip
                  by_cases c9 : (v5 : Int32) < 0
                  · skip
                    simp (decide := true) only [g103, c1, c2, c3, c4, c5, c6, c7, c8, c9, xrd_ne, xrd_eq, xrd_n2, xrd_J, xrd_K, ite_true, ite_false, if_true, if_false, and_true, true_and] at h
                    simp (decide := true) only [p103, b103_0, b103_14, b103_17, b103_22, b103_23, b103_27, b103_30, b103_34, b103_37, b103_42, b103_45, b103_50, b103_53, b103_59, b103_60, b103_65, b103_72, b103_79, b103_83, b103_102, b103_106, b102_0, b102_8, b25_0, b25_5, b25_10, b25_14, b68_0, b68_7, b68_10, b68_21, c1, c2, c3, c4, c5, c6, c7, c8, c9, h, xrd_ne, xrd_eq, xrd_n2, xrd_J, xrd_K, xsimp_1, xsimp_2, xtl, xtl0, xbit_0, xbit_1, exists_eq_left, and_assoc, exists_and_left, if_true, if_false, true_and, and_true, not_true, not_false_iff, x6, Int32.neg_neg, x01, x11, x21, x31, x41, x51, xn1, xn2, xn3, xn4, xn5, xn6, xn7, xv1, xv2, xv3, xv4, xv5, xv6, xv7]
                  · skip
                    by_cases c10 : (1000 : Int32) < v5
                    · skip
                      simp (decide := true) only [g103, c1, c2, c3, c4, c5, c6, c7, c8, c9, c10, xrd_ne, xrd_eq, xrd_n2, xrd_J, xrd_K, ite_true, ite_false, if_true, if_false, and_true, true_and] at h
                      simp (decide := true) only [p103, b103_0, b103_14, b103_17, b103_22, b103_23, b103_27, b103_30, b103_34, b103_37, b103_42, b103_45, b103_50, b103_53, b103_59, b103_60, b103_65, b103_72, b103_79, b103_83, b103_102, b103_106, b102_0, b102_8, b25_0, b25_5, b25_10, b25_14, b68_0, b68_7, b68_10, b68_21, c1, c2, c3, c4, c5, c6, c7, c8, c9, c10, h, xrd_ne, xrd_eq, xrd_n2, xrd_J, xrd_K, xsimp_1, xsimp_2, xtl, xtl0, xbit_0, xbit_1, exists_eq_left, and_assoc, exists_and_left, if_true, if_false, true_and, and_true, not_true, not_false_iff, x6, Int32.neg_neg, x01, x11, x21, x31, x41, x51, xn1, xn2, xn3, xn4, xn5, xn6, xn7, xv1, xv2, xv3, xv4, xv5, xv6, xv7]
                    · skip
                      by_cases c11 : (v3 : Int32) < v2
                      · skip
                        by_cases c12 : (v5 : Int32) < v4
                        · skip
                          simp (decide := true) only [g103, c1, c2, c3, c4, c5, c6, c7, c8, c9, c10, c11, c12, xrd_ne, xrd_eq, xrd_n2, xrd_J, xrd_K, ite_true, ite_false, if_true, if_false, and_true, true_and] at h
                          simp (decide := true) only [p103, b103_0, b103_14, b103_17, b103_22, b103_23, b103_27, b103_30, b103_34, b103_37, b103_42, b103_45, b103_50, b103_53, b103_59, b103_60, b103_65, b103_72, b103_79, b103_83, b103_102, b103_106, b102_0, b102_8, b25_0, b25_5, b25_10, b25_14, b68_0, b68_7, b68_10, b68_21, c1, c2, c3, c4, c5, c6, c7, c8, c9, c10, c11, c12, h, xrd_ne, xrd_eq, xrd_n2, xrd_J, xrd_K, xsimp_1, xsimp_2, xtl, xtl0, xbit_0, xbit_1, exists_eq_left, and_assoc, exists_and_left, if_true, if_false, true_and, and_true, not_true, not_false_iff, x6, Int32.neg_neg, x01, x11, x21, x31, x41, x51, xn1, xn2, xn3, xn4, xn5, xn6, xn7, xv1, xv2, xv3, xv4, xv5, xv6, xv7]
                        · skip
                          by_cases c13 : (v2 : Int32) < (2 * v3)
                          · skip
                            simp (decide := true) only [g103, c1, c2, c3, c4, c5, c6, c7, c8, c9, c10, c11, c12, c13, xrd_ne, xrd_eq, xrd_n2, xrd_J, xrd_K, ite_true, ite_false, if_true, if_false, and_true, true_and] at h
                            simp (decide := true) only [p103, b103_0, b103_14, b103_17, b103_22, b103_23, b103_27, b103_30, b103_34, b103_37, b103_42, b103_45, b103_50, b103_53, b103_59, b103_60, b103_65, b103_72, b103_79, b103_83, b103_102, b103_106, b102_0, b102_8, b25_0, b25_5, b25_10, b25_14, b68_0, b68_7, b68_10, b68_21, c1, c2, c3, c4, c5, c6, c7, c8, c9, c10, c11, c12, c13, h, xrd_ne, xrd_eq, xrd_n2, xrd_J, xrd_K, xsimp_1, xsimp_2, xtl, xtl0, xbit_0, xbit_1, exists_eq_left, and_assoc, exists_and_left, if_true, if_false, true_and, and_true, not_true, not_false_iff, x6, Int32.neg_neg, x01, x11, x21, x31, x41, x51, xn1, xn2, xn3, xn4, xn5, xn6, xn7, xv1, xv2, xv3, xv4, xv5, xv6, xv7]
                          · skip
                            simp (decide := true) only [g103, c1, c2, c3, c4, c5, c6, c7, c8, c9, c10, c11, c12, c13, xrd_ne, xrd_eq, xrd_n2, xrd_J, xrd_K, ite_true, ite_false, if_true, if_false, and_true, true_and] at h
                            simp (decide := true) only [p103, b103_0, b103_14, b103_17, b103_22, b103_23, b103_27, b103_30, b103_34, b103_37, b103_42, b103_45, b103_50, b103_53, b103_59, b103_60, b103_65, b103_72, b103_79, b103_83, b103_102, b103_106, b102_0, b102_8, b25_0, b25_5, b25_10, b25_14, b68_0, b68_7, b68_10, b68_21, c1, c2, c3, c4, c5, c6, c7, c8, c9, c10, c11, c12, c13, h, xrd_ne, xrd_eq, xrd_n2, xrd_J, xrd_K, xsimp_1, xsimp_2, xtl, xtl0, xbit_0, xbit_1, exists_eq_left, and_assoc, exists_and_left, if_true, if_false, true_and, and_true, not_true, not_false_iff, x6, Int32.neg_neg, x01, x11, x21, x31, x41, x51, xn1, xn2, xn3, xn4, xn5, xn6, xn7, xv1, xv2, xv3, xv4, xv5, xv6, xv7]
                      · skip
                        simp (decide := true) only [g103, c1, c2, c3, c4, c5, c6, c7, c8, c9, c10, c11, xrd_ne, xrd_eq, xrd_n2, xrd_J, xrd_K, ite_true, ite_false, if_true, if_false, and_true, true_and] at h
                        simp (decide := true) only [p103, b103_0, b103_14, b103_17, b103_22, b103_23, b103_27, b103_30, b103_34, b103_37, b103_42, b103_45, b103_50, b103_53, b103_59, b103_60, b103_65, b103_72, b103_79, b103_83, b103_102, b103_106, b102_0, b102_8, b25_0, b25_5, b25_10, b25_14, b68_0, b68_7, b68_10, b68_21, c1, c2, c3, c4, c5, c6, c7, c8, c9, c10, c11, h, xrd_ne, xrd_eq, xrd_n2, xrd_J, xrd_K, xsimp_1, xsimp_2, xtl, xtl0, xbit_0, xbit_1, exists_eq_left, and_assoc, exists_and_left, if_true, if_false, true_and, and_true, not_true, not_false_iff, x6, Int32.neg_neg, x01, x11, x21, x31, x41, x51, xn1, xn2, xn3, xn4, xn5, xn6, xn7, xv1, xv2, xv3, xv4, xv5, xv6, xv7]
/-- X9_embassy -/
def p105 (S : xS) (v1 : Int32) : Option Value × xS := if (v1 : Int32) < 0 then ((some (.int (-6)), (xwI S 1 6 ((S.1 1 6) + 1)))) else (if (9 : Int32) < v1 then ((some (.int (-6)), (xwI S 1 6 ((S.1 1 6) + 1)))) else (if ((S.1 24 0) : Int32) < 10 then ((some (.int (S.1 24 0)), (xwI (xwI S 25 (S.1 24 0).toNatClampNeg v1) 24 0 ((S.1 24 0) + 1)))) else ((some (.int (-7)), (xwI S 1 7 ((S.1 1 7) + 1))))))
def g105 (S : xS) (v1 : Int32) : Prop := (if (v1 : Int32) < 0 then True else (if (9 : Int32) < v1 then True else (if ((S.1 24 0) : Int32) < 10 then (vp_in (S.1 24 0) 10 ∧ True) else True)))
theorem t105 (d : Nat) (v1 : Int32) (S : xS) (r : Option Value × xS) (h : g105 S v1) : xX (d + 2) 105 0 [(0, .ref 0), (1, .int v1)] [] S r ↔ r = p105 S v1 := by
  by_cases c1 : (v1 : Int32) < 0
  · skip
    simp (decide := true) only [g105, c1, xrd_ne, xrd_eq, xrd_n2, xrd_J, xrd_K, ite_true, ite_false, if_true, if_false, and_true, true_and] at h
    simp (decide := true) only [p105, b105_0, b105_7, b105_10, b105_16, b105_17, b105_29, b105_35, b105_36, b105_44, b1_0, b25_0, b25_5, b25_10, b25_14, b68_0, b68_7, b68_10, b68_21, c1, h, xrd_ne, xrd_eq, xrd_n2, xrd_J, xrd_K, xsimp_1, xsimp_2, xtl, xtl0, xbit_0, xbit_1, exists_eq_left, and_assoc, exists_and_left, if_true, if_false, true_and, and_true, not_true, not_false_iff, x6, Int32.neg_neg, x01, x11, x21, x31, x41, x51, xn1, xn2, xn3, xn4, xn5, xn6, xn7, xv1, xv2, xv3, xv4, xv5, xv6, xv7]
  · skip
    by_cases c2 : (9 : Int32) < v1
    · skip
      simp (decide := true) only [g105, c1, c2, xrd_ne, xrd_eq, xrd_n2, xrd_J, xrd_K, ite_true, ite_false, if_true, if_false, and_true, true_and] at h
      simp (decide := true) only [p105, b105_0, b105_7, b105_10, b105_16, b105_17, b105_29, b105_35, b105_36, b105_44, b1_0, b25_0, b25_5, b25_10, b25_14, b68_0, b68_7, b68_10, b68_21, c1, c2, h, xrd_ne, xrd_eq, xrd_n2, xrd_J, xrd_K, xsimp_1, xsimp_2, xtl, xtl0, xbit_0, xbit_1, exists_eq_left, and_assoc, exists_and_left, if_true, if_false, true_and, and_true, not_true, not_false_iff, x6, Int32.neg_neg, x01, x11, x21, x31, x41, x51, xn1, xn2, xn3, xn4, xn5, xn6, xn7, xv1, xv2, xv3, xv4, xv5, xv6, xv7]
    · skip
      by_cases c3 : ((S.1 24 0) : Int32) < 10
      · skip
        simp (decide := true) only [g105, c1, c2, c3, xrd_ne, xrd_eq, xrd_n2, xrd_J, xrd_K, ite_true, ite_false, if_true, if_false, and_true, true_and] at h
        simp (decide := true) only [p105, b105_0, b105_7, b105_10, b105_16, b105_17, b105_29, b105_35, b105_36, b105_44, b1_0, b25_0, b25_5, b25_10, b25_14, b68_0, b68_7, b68_10, b68_21, c1, c2, c3, h, xrd_ne, xrd_eq, xrd_n2, xrd_J, xrd_K, xsimp_1, xsimp_2, xtl, xtl0, xbit_0, xbit_1, exists_eq_left, and_assoc, exists_and_left, if_true, if_false, true_and, and_true, not_true, not_false_iff, x6, Int32.neg_neg, x01, x11, x21, x31, x41, x51, xn1, xn2, xn3, xn4, xn5, xn6, xn7, xv1, xv2, xv3, xv4, xv5, xv6, xv7]
      · skip
        simp (decide := true) only [g105, c1, c2, c3, xrd_ne, xrd_eq, xrd_n2, xrd_J, xrd_K, ite_true, ite_false, if_true, if_false, and_true, true_and] at h
        simp (decide := true) only [p105, b105_0, b105_7, b105_10, b105_16, b105_17, b105_29, b105_35, b105_36, b105_44, b1_0, b25_0, b25_5, b25_10, b25_14, b68_0, b68_7, b68_10, b68_21, c1, c2, c3, h, xrd_ne, xrd_eq, xrd_n2, xrd_J, xrd_K, xsimp_1, xsimp_2, xtl, xtl0, xbit_0, xbit_1, exists_eq_left, and_assoc, exists_and_left, if_true, if_false, true_and, and_true, not_true, not_false_iff, x6, Int32.neg_neg, x01, x11, x21, x31, x41, x51, xn1, xn2, xn3, xn4, xn5, xn6, xn7, xv1, xv2, xv3, xv4, xv5, xv6, xv7]
/-- X9_palace -/
def p106 (S : xS) (v1 : Int32) : Option Value × xS := if (v1 : Int32) < 0 then ((some (.int (-1)), (xwI S 1 1 ((S.1 1 1) + 1)))) else (if (35 : Int32) < v1 then ((some (.int (-1)), (xwI S 1 1 ((S.1 1 1) + 1)))) else ((some (.int (S.1 24 1)), (xwI S 24 1 v1))))
theorem t106 (d : Nat) (v1 : Int32) (S : xS) (r : Option Value × xS) : xX (d + 2) 106 0 [(0, .ref 0), (1, .int v1)] [] S r ↔ r = p106 S v1 := by
  by_cases c1 : (v1 : Int32) < 0
  · skip
    simp (decide := true) only [p106, b106_0, b106_7, b106_10, b106_15, b106_16, b25_0, b25_5, b25_10, b25_14, b68_0, b68_7, b68_10, b68_21, c1, xrd_ne, xrd_eq, xrd_n2, xrd_J, xrd_K, xsimp_1, xsimp_2, xtl, xtl0, xbit_0, xbit_1, exists_eq_left, and_assoc, exists_and_left, if_true, if_false, true_and, and_true, not_true, not_false_iff, x6, Int32.neg_neg, x01, x11, x21, x31, x41, x51, xn1, xn2, xn3, xn4, xn5, xn6, xn7, xv1, xv2, xv3, xv4, xv5, xv6, xv7]
  · skip
    by_cases c2 : (35 : Int32) < v1
    · skip
      simp (decide := true) only [p106, b106_0, b106_7, b106_10, b106_15, b106_16, b25_0, b25_5, b25_10, b25_14, b68_0, b68_7, b68_10, b68_21, c1, c2, xrd_ne, xrd_eq, xrd_n2, xrd_J, xrd_K, xsimp_1, xsimp_2, xtl, xtl0, xbit_0, xbit_1, exists_eq_left, and_assoc, exists_and_left, if_true, if_false, true_and, and_true, not_true, not_false_iff, x6, Int32.neg_neg, x01, x11, x21, x31, x41, x51, xn1, xn2, xn3, xn4, xn5, xn6, xn7, xv1, xv2, xv3, xv4, xv5, xv6, xv7]
    · skip
      simp (decide := true) only [p106, b106_0, b106_7, b106_10, b106_15, b106_16, b25_0, b25_5, b25_10, b25_14, b68_0, b68_7, b68_10, b68_21, c1, c2, xrd_ne, xrd_eq, xrd_n2, xrd_J, xrd_K, xsimp_1, xsimp_2, xtl, xtl0, xbit_0, xbit_1, exists_eq_left, and_assoc, exists_and_left, if_true, if_false, true_and, and_true, not_true, not_false_iff, x6, Int32.neg_neg, x01, x11, x21, x31, x41, x51, xn1, xn2, xn3, xn4, xn5, xn6, xn7, xv1, xv2, xv3, xv4, xv5, xv6, xv7]
/-- X9_file -/
def p108 (S : xS) (v1 : Int32) : Option Value × xS := if (v1 : Int32) < 0 then ((some (.int (-1)), (xwI S 1 1 ((S.1 1 1) + 1)))) else (if (((S.1 2 0) - 1) : Int32) < v1 then ((some (.int (-1)), (xwI S 1 1 ((S.1 1 1) + 1)))) else (if ((S.1 26 0) : Int32) < 12 then (if ((S.1 7 v1.toNatClampNeg) : Int32) = 0 then ((some (.int (S.1 26 0)), (xwI (xwI S 27 (S.1 26 0).toNatClampNeg 0) 26 0 ((S.1 26 0) + 1)))) else ((some (.int (S.1 26 0)), (xwI (xwI S 27 (S.1 26 0).toNatClampNeg 2) 26 0 ((S.1 26 0) + 1))))) else ((some (.int (-7)), (xwI S 1 7 ((S.1 1 7) + 1))))))
def g108 (S : xS) (v1 : Int32) : Prop := (if (v1 : Int32) < 0 then True else (if (((S.1 2 0) - 1) : Int32) < v1 then True else (if ((S.1 26 0) : Int32) < 12 then (vp_in v1 10 ∧ (if ((S.1 7 v1.toNatClampNeg) : Int32) = 0 then (vp_in (S.1 26 0) 12 ∧ True) else (vp_in (S.1 26 0) 12 ∧ True))) else True)))
theorem t108 (d : Nat) (v1 : Int32) (S : xS) (r : Option Value × xS) (h : g108 S v1) : xX (d + 2) 108 0 [(0, .ref 0), (1, .int v1)] [] S r ↔ r = p108 S v1 := by
  by_cases c1 : (v1 : Int32) < 0
  · skip
    simp (decide := true) only [g108, c1, xrd_ne, xrd_eq, xrd_n2, xrd_J, xrd_K, ite_true, ite_false, if_true, if_false, and_true, true_and] at h
    simp (decide := true) only [p108, b108_0, b108_8, b108_11, b108_16, b108_17, b108_29, b108_35, b108_36, b108_52, b108_56, b108_60, b5_0, b36_0, b36_11, b25_0, b25_5, b25_10, b25_14, b68_0, b68_7, b68_10, b68_21, c1, h, xrd_ne, xrd_eq, xrd_n2, xrd_J, xrd_K, xsimp_1, xsimp_2, xtl, xtl0, xbit_0, xbit_1, exists_eq_left, and_assoc, exists_and_left, if_true, if_false, true_and, and_true, not_true, not_false_iff, x6, Int32.neg_neg, x01, x11, x21, x31, x41, x51, xn1, xn2, xn3, xn4, xn5, xn6, xn7, xv1, xv2, xv3, xv4, xv5, xv6, xv7]
  · skip
    by_cases c2 : (((S.1 2 0) - 1) : Int32) < v1
    · skip
      simp (decide := true) only [g108, c1, c2, xrd_ne, xrd_eq, xrd_n2, xrd_J, xrd_K, ite_true, ite_false, if_true, if_false, and_true, true_and] at h
      simp (decide := true) only [p108, b108_0, b108_8, b108_11, b108_16, b108_17, b108_29, b108_35, b108_36, b108_52, b108_56, b108_60, b5_0, b36_0, b36_11, b25_0, b25_5, b25_10, b25_14, b68_0, b68_7, b68_10, b68_21, c1, c2, h, xrd_ne, xrd_eq, xrd_n2, xrd_J, xrd_K, xsimp_1, xsimp_2, xtl, xtl0, xbit_0, xbit_1, exists_eq_left, and_assoc, exists_and_left, if_true, if_false, true_and, and_true, not_true, not_false_iff, x6, Int32.neg_neg, x01, x11, x21, x31, x41, x51, xn1, xn2, xn3, xn4, xn5, xn6, xn7, xv1, xv2, xv3, xv4, xv5, xv6, xv7]
    · skip
      by_cases c3 : ((S.1 26 0) : Int32) < 12
      · skip
        by_cases c4 : ((S.1 7 v1.toNatClampNeg) : Int32) = 0
        · skip
          simp (decide := true) only [g108, c1, c2, c3, c4, xrd_ne, xrd_eq, xrd_n2, xrd_J, xrd_K, ite_true, ite_false, if_true, if_false, and_true, true_and] at h
          simp (decide := true) only [p108, b108_0, b108_8, b108_11, b108_16, b108_17, b108_29, b108_35, b108_36, b108_52, b108_56, b108_60, b5_0, b36_0, b36_11, b25_0, b25_5, b25_10, b25_14, b68_0, b68_7, b68_10, b68_21, c1, c2, c3, c4, h, xrd_ne, xrd_eq, xrd_n2, xrd_J, xrd_K, xsimp_1, xsimp_2, xtl, xtl0, xbit_0, xbit_1, exists_eq_left, and_assoc, exists_and_left, if_true, if_false, true_and, and_true, not_true, not_false_iff, x6, Int32.neg_neg, x01, x11, x21, x31, x41, x51, xn1, xn2, xn3, xn4, xn5, xn6, xn7, xv1, xv2, xv3, xv4, xv5, xv6, xv7]
        · skip
          simp (decide := true) only [g108, c1, c2, c3, c4, xrd_ne, xrd_eq, xrd_n2, xrd_J, xrd_K, ite_true, ite_false, if_true, if_false, and_true, true_and] at h
          simp (decide := true) only [p108, b108_0, b108_8, b108_11, b108_16, b108_17, b108_29, b108_35, b108_36, b108_52, b108_56, b108_60, b5_0, b36_0, b36_11, b25_0, b25_5, b25_10, b25_14, b68_0, b68_7, b68_10, b68_21, c1, c2, c3, c4, h, xrd_ne, xrd_eq, xrd_n2, xrd_J, xrd_K, xsimp_1, xsimp_2, xtl, xtl0, xbit_0, xbit_1, exists_eq_left, and_assoc, exists_and_left, if_true, if_false, true_and, and_true, not_true, not_false_iff, x6, Int32.neg_neg, x01, x11, x21, x31, x41, x51, xn1, xn2, xn3, xn4, xn5, xn6, xn7, xv1, xv2, xv3, xv4, xv5, xv6, xv7]
      · skip
        simp (decide := true) only [g108, c1, c2, c3, xrd_ne, xrd_eq, xrd_n2, xrd_J, xrd_K, ite_true, ite_false, if_true, if_false, and_true, true_and] at h
        simp (decide := true) only [p108, b108_0, b108_8, b108_11, b108_16, b108_17, b108_29, b108_35, b108_36, b108_52, b108_56, b108_60, b5_0, b36_0, b36_11, b25_0, b25_5, b25_10, b25_14, b68_0, b68_7, b68_10, b68_21, c1, c2, c3, h, xrd_ne, xrd_eq, xrd_n2, xrd_J, xrd_K, xsimp_1, xsimp_2, xtl, xtl0, xbit_0, xbit_1, exists_eq_left, and_assoc, exists_and_left, if_true, if_false, true_and, and_true, not_true, not_false_iff, x6, Int32.neg_neg, x01, x11, x21, x31, x41, x51, xn1, xn2, xn3, xn4, xn5, xn6, xn7, xv1, xv2, xv3, xv4, xv5, xv6, xv7]
/-- X9_road -/
def p109 (S : xS) (v1 : Int32) : Option Value × xS := if (v1 : Int32) < 0 then ((some (.int (-1)), (xwI S 1 1 ((S.1 1 1) + 1)))) else (if (((S.1 26 0) - 1) : Int32) < v1 then ((some (.int (-1)), (xwI S 1 1 ((S.1 1 1) + 1)))) else (if ((S.1 27 v1.toNatClampNeg) : Int32) = 0 then (if ((S.1 0 10) : Int32) < 5 then ((some (.int 1), (xwI S 27 v1.toNatClampNeg 1))) else ((some (.int (-6)), (xwI S 1 6 ((S.1 1 6) + 1))))) else ((some (.int (-6)), (xwI S 1 6 ((S.1 1 6) + 1))))))
def g109 (S : xS) (v1 : Int32) : Prop := (if (v1 : Int32) < 0 then True else (if (((S.1 26 0) - 1) : Int32) < v1 then True else (vp_in v1 12 ∧ (if ((S.1 27 v1.toNatClampNeg) : Int32) = 0 then (if ((S.1 0 10) : Int32) < 5 then (vp_in v1 12 ∧ True) else True) else True))))
theorem t109 (d : Nat) (v1 : Int32) (S : xS) (r : Option Value × xS) (h : g109 S v1) : xX (d + 2) 109 0 [(0, .ref 0), (1, .int v1)] [] S r ↔ r = p109 S v1 := by
  by_cases c1 : (v1 : Int32) < 0
  · skip
    simp (decide := true) only [g109, c1, xrd_ne, xrd_eq, xrd_n2, xrd_J, xrd_K, ite_true, ite_false, if_true, if_false, and_true, true_and] at h
    simp (decide := true) only [p109, b109_0, b109_14, b109_17, b109_22, b109_23, b109_35, b109_43, b109_49, b109_50, b25_0, b25_5, b25_10, b25_14, b68_0, b68_7, b68_10, b68_21, c1, h, xrd_ne, xrd_eq, xrd_n2, xrd_J, xrd_K, xsimp_1, xsimp_2, xtl, xtl0, xbit_0, xbit_1, exists_eq_left, and_assoc, exists_and_left, if_true, if_false, true_and, and_true, not_true, not_false_iff, x6, Int32.neg_neg, x01, x11, x21, x31, x41, x51, xn1, xn2, xn3, xn4, xn5, xn6, xn7, xv1, xv2, xv3, xv4, xv5, xv6, xv7]
  · skip
    by_cases c2 : (((S.1 26 0) - 1) : Int32) < v1
    · skip
      simp (decide := true) only [g109, c1, c2, xrd_ne, xrd_eq, xrd_n2, xrd_J, xrd_K, ite_true, ite_false, if_true, if_false, and_true, true_and] at h
      simp (decide := true) only [p109, b109_0, b109_14, b109_17, b109_22, b109_23, b109_35, b109_43, b109_49, b109_50, b25_0, b25_5, b25_10, b25_14, b68_0, b68_7, b68_10, b68_21, c1, c2, h, xrd_ne, xrd_eq, xrd_n2, xrd_J, xrd_K, xsimp_1, xsimp_2, xtl, xtl0, xbit_0, xbit_1, exists_eq_left, and_assoc, exists_and_left, if_true, if_false, true_and, and_true, not_true, not_false_iff, x6, Int32.neg_neg, x01, x11, x21, x31, x41, x51, xn1, xn2, xn3, xn4, xn5, xn6, xn7, xv1, xv2, xv3, xv4, xv5, xv6, xv7]
    · skip
      by_cases c3 : ((S.1 27 v1.toNatClampNeg) : Int32) = 0
      · skip
        by_cases c4 : ((S.1 0 10) : Int32) < 5
        · skip
          simp (decide := true) only [g109, c1, c2, c3, c4, xrd_ne, xrd_eq, xrd_n2, xrd_J, xrd_K, ite_true, ite_false, if_true, if_false, and_true, true_and] at h
          simp (decide := true) only [p109, b109_0, b109_14, b109_17, b109_22, b109_23, b109_35, b109_43, b109_49, b109_50, b25_0, b25_5, b25_10, b25_14, b68_0, b68_7, b68_10, b68_21, c1, c2, c3, c4, h, xrd_ne, xrd_eq, xrd_n2, xrd_J, xrd_K, xsimp_1, xsimp_2, xtl, xtl0, xbit_0, xbit_1, exists_eq_left, and_assoc, exists_and_left, if_true, if_false, true_and, and_true, not_true, not_false_iff, x6, Int32.neg_neg, x01, x11, x21, x31, x41, x51, xn1, xn2, xn3, xn4, xn5, xn6, xn7, xv1, xv2, xv3, xv4, xv5, xv6, xv7]
        · skip
          simp (decide := true) only [g109, c1, c2, c3, c4, xrd_ne, xrd_eq, xrd_n2, xrd_J, xrd_K, ite_true, ite_false, if_true, if_false, and_true, true_and] at h
          simp (decide := true) only [p109, b109_0, b109_14, b109_17, b109_22, b109_23, b109_35, b109_43, b109_49, b109_50, b25_0, b25_5, b25_10, b25_14, b68_0, b68_7, b68_10, b68_21, c1, c2, c3, c4, h, xrd_ne, xrd_eq, xrd_n2, xrd_J, xrd_K, xsimp_1, xsimp_2, xtl, xtl0, xbit_0, xbit_1, exists_eq_left, and_assoc, exists_and_left, if_true, if_false, true_and, and_true, not_true, not_false_iff, x6, Int32.neg_neg, x01, x11, x21, x31, x41, x51, xn1, xn2, xn3, xn4, xn5, xn6, xn7, xv1, xv2, xv3, xv4, xv5, xv6, xv7]
      · skip
        simp (decide := true) only [g109, c1, c2, c3, xrd_ne, xrd_eq, xrd_n2, xrd_J, xrd_K, ite_true, ite_false, if_true, if_false, and_true, true_and] at h
        simp (decide := true) only [p109, b109_0, b109_14, b109_17, b109_22, b109_23, b109_35, b109_43, b109_49, b109_50, b25_0, b25_5, b25_10, b25_14, b68_0, b68_7, b68_10, b68_21, c1, c2, c3, h, xrd_ne, xrd_eq, xrd_n2, xrd_J, xrd_K, xsimp_1, xsimp_2, xtl, xtl0, xbit_0, xbit_1, exists_eq_left, and_assoc, exists_and_left, if_true, if_false, true_and, and_true, not_true, not_false_iff, x6, Int32.neg_neg, x01, x11, x21, x31, x41, x51, xn1, xn2, xn3, xn4, xn5, xn6, xn7, xv1, xv2, xv3, xv4, xv5, xv6, xv7]
/-- X9_days -/
def p110 (S : xS) (v1 : Int32) (v2 : Int32) : Option Value × xS := if (v1 : Int32) < 0 then ((some (.int (-1)), S)) else (if (((S.1 26 0) - 1) : Int32) < v1 then ((some (.int (-1)), S)) else (if (v2 : Int32) < 0 then ((some (.int (-1)), S)) else (if (((S.1 2 0) - 1) : Int32) < v2 then ((some (.int (-1)), S)) else (if ((S.1 27 v1.toNatClampNeg) : Int32) = 1 then ((some (.int 4), S)) else (if ((S.1 27 v1.toNatClampNeg) : Int32) = 2 then (if (1 : Int32) = (S.1 7 v2.toNatClampNeg) then ((some (.int 0), S)) else ((some (.int 2), S))) else (if (0 : Int32) = (S.1 7 v2.toNatClampNeg) then ((some (.int 0), S)) else ((some (.int 2), S))))))))
def g110 (S : xS) (v1 : Int32) (v2 : Int32) : Prop := (if (v1 : Int32) < 0 then True else (if (((S.1 26 0) - 1) : Int32) < v1 then True else (if (v2 : Int32) < 0 then True else (if (((S.1 2 0) - 1) : Int32) < v2 then True else (vp_in v1 12 ∧ (if ((S.1 27 v1.toNatClampNeg) : Int32) = 1 then True else (if ((S.1 27 v1.toNatClampNeg) : Int32) = 2 then (vp_in v2 10 ∧ True) else (vp_in v2 10 ∧ True))))))))
theorem t110 (d : Nat) (v1 : Int32) (v2 : Int32) (S : xS) (r : Option Value × xS) (h : g110 S v1 v2) : xX (d + 2) 110 0 [(0, .ref 0), (1, .int v1), (2, .int v2)] [] S r ↔ r = p110 S v1 v2 := by
  by_cases c1 : (v1 : Int32) < 0
  · skip
    simp (decide := true) only [g110, c1, xrd_ne, xrd_eq, xrd_n2, xrd_J, xrd_K, ite_true, ite_false, if_true, if_false, and_true, true_and] at h
    simp (decide := true) only [p110, b110_0, b110_14, b110_17, b110_25, b110_28, b110_30, b110_45, b110_47, b110_52, b110_56, b110_69, b110_73, b36_0, b36_11, b25_0, b25_5, b25_10, b25_14, c1, h, xrd_ne, xrd_eq, xrd_n2, xrd_J, xrd_K, xsimp_1, xsimp_2, xtl, xtl0, xbit_0, xbit_1, exists_eq_left, and_assoc, exists_and_left, if_true, if_false, true_and, and_true, not_true, not_false_iff, x6, Int32.neg_neg, x01, x11, x21, x31, x41, x51, xn1, xn2, xn3, xn4, xn5, xn6, xn7, xv1, xv2, xv3, xv4, xv5, xv6, xv7]
  · skip
    by_cases c2 : (((S.1 26 0) - 1) : Int32) < v1
    · skip
      simp (decide := true) only [g110, c1, c2, xrd_ne, xrd_eq, xrd_n2, xrd_J, xrd_K, ite_true, ite_false, if_true, if_false, and_true, true_and] at h
      simp (decide := true) only [p110, b110_0, b110_14, b110_17, b110_25, b110_28, b110_30, b110_45, b110_47, b110_52, b110_56, b110_69, b110_73, b36_0, b36_11, b25_0, b25_5, b25_10, b25_14, c1, c2, h, xrd_ne, xrd_eq, xrd_n2, xrd_J, xrd_K, xsimp_1, xsimp_2, xtl, xtl0, xbit_0, xbit_1, exists_eq_left, and_assoc, exists_and_left, if_true, if_false, true_and, and_true, not_true, not_false_iff, x6, Int32.neg_neg, x01, x11, x21, x31, x41, x51, xn1, xn2, xn3, xn4, xn5, xn6, xn7, xv1, xv2, xv3, xv4, xv5, xv6, xv7]
    · skip
      by_cases c3 : (v2 : Int32) < 0
      · skip
        simp (decide := true) only [g110, c1, c2, c3, xrd_ne, xrd_eq, xrd_n2, xrd_J, xrd_K, ite_true, ite_false, if_true, if_false, and_true, true_and] at h
        simp (decide := true) only [p110, b110_0, b110_14, b110_17, b110_25, b110_28, b110_30, b110_45, b110_47, b110_52, b110_56, b110_69, b110_73, b36_0, b36_11, b25_0, b25_5, b25_10, b25_14, c1, c2, c3, h, xrd_ne, xrd_eq, xrd_n2, xrd_J, xrd_K, xsimp_1, xsimp_2, xtl, xtl0, xbit_0, xbit_1, exists_eq_left, and_assoc, exists_and_left, if_true, if_false, true_and, and_true, not_true, not_false_iff, x6, Int32.neg_neg, x01, x11, x21, x31, x41, x51, xn1, xn2, xn3, xn4, xn5, xn6, xn7, xv1, xv2, xv3, xv4, xv5, xv6, xv7]
      · skip
        by_cases c4 : (((S.1 2 0) - 1) : Int32) < v2
        · skip
          simp (decide := true) only [g110, c1, c2, c3, c4, xrd_ne, xrd_eq, xrd_n2, xrd_J, xrd_K, ite_true, ite_false, if_true, if_false, and_true, true_and] at h
          simp (decide := true) only [p110, b110_0, b110_14, b110_17, b110_25, b110_28, b110_30, b110_45, b110_47, b110_52, b110_56, b110_69, b110_73, b36_0, b36_11, b25_0, b25_5, b25_10, b25_14, c1, c2, c3, c4, h, xrd_ne, xrd_eq, xrd_n2, xrd_J, xrd_K, xsimp_1, xsimp_2, xtl, xtl0, xbit_0, xbit_1, exists_eq_left, and_assoc, exists_and_left, if_true, if_false, true_and, and_true, not_true, not_false_iff, x6, Int32.neg_neg, x01, x11, x21, x31, x41, x51, xn1, xn2, xn3, xn4, xn5, xn6, xn7, xv1, xv2, xv3, xv4, xv5, xv6, xv7]
        · skip
          by_cases c5 : ((S.1 27 v1.toNatClampNeg) : Int32) = 1
          · skip
            simp (decide := true) only [g110, c1, c2, c3, c4, c5, xrd_ne, xrd_eq, xrd_n2, xrd_J, xrd_K, ite_true, ite_false, if_true, if_false, and_true, true_and] at h
            simp (decide := true) only [p110, b110_0, b110_14, b110_17, b110_25, b110_28, b110_30, b110_45, b110_47, b110_52, b110_56, b110_69, b110_73, b36_0, b36_11, b25_0, b25_5, b25_10, b25_14, c1, c2, c3, c4, c5, h, xrd_ne, xrd_eq, xrd_n2, xrd_J, xrd_K, xsimp_1, xsimp_2, xtl, xtl0, xbit_0, xbit_1, exists_eq_left, and_assoc, exists_and_left, if_true, if_false, true_and, and_true, not_true, not_false_iff, x6, Int32.neg_neg, x01, x11, x21, x31, x41, x51, xn1, xn2, xn3, xn4, xn5, xn6, xn7, xv1, xv2, xv3, xv4, xv5, xv6, xv7]
          · skip
            by_cases c6 : ((S.1 27 v1.toNatClampNeg) : Int32) = 2
            · skip
              by_cases c7 : (1 : Int32) = (S.1 7 v2.toNatClampNeg)
              · skip
                simp (decide := true) only [g110, c1, c2, c3, c4, c5, c6, c7.symm, xrd_ne, xrd_eq, xrd_n2, xrd_J, xrd_K, ite_true, ite_false, if_true, if_false, and_true, true_and] at h
                simp (decide := true) only [p110, b110_0, b110_14, b110_17, b110_25, b110_28, b110_30, b110_45, b110_47, b110_52, b110_56, b110_69, b110_73, b36_0, b36_11, b25_0, b25_5, b25_10, b25_14, c1, c2, c3, c4, c5, c6, c7.symm, h, xrd_ne, xrd_eq, xrd_n2, xrd_J, xrd_K, xsimp_1, xsimp_2, xtl, xtl0, xbit_0, xbit_1, exists_eq_left, and_assoc, exists_and_left, if_true, if_false, true_and, and_true, not_true, not_false_iff, x6, Int32.neg_neg, x01, x11, x21, x31, x41, x51, xn1, xn2, xn3, xn4, xn5, xn6, xn7, xv1, xv2, xv3, xv4, xv5, xv6, xv7]
              · skip
                simp (decide := true) only [g110, c1, c2, c3, c4, c5, c6, c7, xrd_ne, xrd_eq, xrd_n2, xrd_J, xrd_K, ite_true, ite_false, if_true, if_false, and_true, true_and] at h
                simp (decide := true) only [p110, b110_0, b110_14, b110_17, b110_25, b110_28, b110_30, b110_45, b110_47, b110_52, b110_56, b110_69, b110_73, b36_0, b36_11, b25_0, b25_5, b25_10, b25_14, c1, c2, c3, c4, c5, c6, c7, h, xrd_ne, xrd_eq, xrd_n2, xrd_J, xrd_K, xsimp_1, xsimp_2, xtl, xtl0, xbit_0, xbit_1, exists_eq_left, and_assoc, exists_and_left, if_true, if_false, true_and, and_true, not_true, not_false_iff, x6, Int32.neg_neg, x01, x11, x21, x31, x41, x51, xn1, xn2, xn3, xn4, xn5, xn6, xn7, xv1, xv2, xv3, xv4, xv5, xv6, xv7]
            · skip
              by_cases c7 : (0 : Int32) = (S.1 7 v2.toNatClampNeg)
              · skip
                simp (decide := true) only [g110, c1, c2, c3, c4, c5, c6, c7.symm, xrd_ne, xrd_eq, xrd_n2, xrd_J, xrd_K, ite_true, ite_false, if_true, if_false, and_true, true_and] at h
                simp (decide := true) only [p110, b110_0, b110_14, b110_17, b110_25, b110_28, b110_30, b110_45, b110_47, b110_52, b110_56, b110_69, b110_73, b36_0, b36_11, b25_0, b25_5, b25_10, b25_14, c1, c2, c3, c4, c5, c6, c7.symm, h, xrd_ne, xrd_eq, xrd_n2, xrd_J, xrd_K, xsimp_1, xsimp_2, xtl, xtl0, xbit_0, xbit_1, exists_eq_left, and_assoc, exists_and_left, if_true, if_false, true_and, and_true, not_true, not_false_iff, x6, Int32.neg_neg, x01, x11, x21, x31, x41, x51, xn1, xn2, xn3, xn4, xn5, xn6, xn7, xv1, xv2, xv3, xv4, xv5, xv6, xv7]
              · skip
                simp (decide := true) only [g110, c1, c2, c3, c4, c5, c6, c7, xrd_ne, xrd_eq, xrd_n2, xrd_J, xrd_K, ite_true, ite_false, if_true, if_false, and_true, true_and] at h
                simp (decide := true) only [p110, b110_0, b110_14, b110_17, b110_25, b110_28, b110_30, b110_45, b110_47, b110_52, b110_56, b110_69, b110_73, b36_0, b36_11, b25_0, b25_5, b25_10, b25_14, c1, c2, c3, c4, c5, c6, c7, h, xrd_ne, xrd_eq, xrd_n2, xrd_J, xrd_K, xsimp_1, xsimp_2, xtl, xtl0, xbit_0, xbit_1, exists_eq_left, and_assoc, exists_and_left, if_true, if_false, true_and, and_true, not_true, not_false_iff, x6, Int32.neg_neg, x01, x11, x21, x31, x41, x51, xn1, xn2, xn3, xn4, xn5, xn6, xn7, xv1, xv2, xv3, xv4, xv5, xv6, xv7]
