/-- X10_no -/
def p114 (S : xS) (v1 : Int32) : Option Value × xS := (some (.int v1), (xwI S 84 (-v1).toNatClampNeg ((S.1 84 (-v1).toNatClampNeg) + 1)))
def g114 (S : xS) (v1 : Int32) : Prop := (vp_in (-v1) 8 ∧ (vp_in (-v1) 8 ∧ True))
theorem t114 (d : Nat) (v1 : Int32) (S : xS) (r : Option Value × xS) (h : g114 S v1) : xX d 114 0 [(0, .ref 54), (1, .int v1)] [] S r ↔ r = p114 S v1 := by
  simp (decide := true) only [g114, xrd_ne, xrd_eq, xrd_n2, xrd_J, xrd_K, ite_true, ite_false, if_true, if_false, and_true, true_and] at h
  simp (decide := true) only [p114, b114_0, h, xrd_ne, xrd_eq, xrd_n2, xrd_J, xrd_K, xsimp_1, xsimp_2, xtl, xtl0, xbit_0, xbit_1, exists_eq_left, and_assoc, exists_and_left, if_true, if_false, true_and, and_true, not_true, not_false_iff, x6, Int32.neg_neg, x01, x11, x21, x31, x41, x51, xn1, xn2, xn3, xn4, xn5, xn6, xn7, xv1, xv2, xv3, xv4, xv5, xv6, xv7]
/-- X10_isOffice -/
def p115 (S : xS) (v1 : Int32) : Option Value × xS := if (v1 : Int32) < 0 then ((some (.int 0), S)) else (if (v1 : Int32) < (S.1 54 0) then ((some (.int 1), S)) else ((some (.int 0), S)))
theorem t115 (d : Nat) (v1 : Int32) (S : xS) (r : Option Value × xS) : xX d 115 0 [(0, .ref 54), (1, .int v1)] [] S r ↔ r = p115 S v1 := by
  by_cases c1 : (v1 : Int32) < 0
  · skip
    simp (decide := true) only [p115, b115_0, b115_4, b115_12, b115_16, c1, xrd_ne, xrd_eq, xrd_n2, xrd_J, xrd_K, xsimp_1, xsimp_2, xtl, xtl0, xbit_0, xbit_1, exists_eq_left, and_assoc, exists_and_left, if_true, if_false, true_and, and_true, not_true, not_false_iff, x6, Int32.neg_neg, x01, x11, x21, x31, x41, x51, xn1, xn2, xn3, xn4, xn5, xn6, xn7, xv1, xv2, xv3, xv4, xv5, xv6, xv7]
  · skip
    by_cases c2 : (v1 : Int32) < (S.1 54 0)
    · skip
      simp (decide := true) only [p115, b115_0, b115_4, b115_12, b115_16, c1, c2, xrd_ne, xrd_eq, xrd_n2, xrd_J, xrd_K, xsimp_1, xsimp_2, xtl, xtl0, xbit_0, xbit_1, exists_eq_left, and_assoc, exists_and_left, if_true, if_false, true_and, and_true, not_true, not_false_iff, x6, Int32.neg_neg, x01, x11, x21, x31, x41, x51, xn1, xn2, xn3, xn4, xn5, xn6, xn7, xv1, xv2, xv3, xv4, xv5, xv6, xv7]
    · skip
      simp (decide := true) only [p115, b115_0, b115_4, b115_12, b115_16, c1, c2, xrd_ne, xrd_eq, xrd_n2, xrd_J, xrd_K, xsimp_1, xsimp_2, xtl, xtl0, xbit_0, xbit_1, exists_eq_left, and_assoc, exists_and_left, if_true, if_false, true_and, and_true, not_true, not_false_iff, x6, Int32.neg_neg, x01, x11, x21, x31, x41, x51, xn1, xn2, xn3, xn4, xn5, xn6, xn7, xv1, xv2, xv3, xv4, xv5, xv6, xv7]
/-- X10_isWave -/
def p116 (S : xS) (v0 : Int32) : Option Value × xS := if (v0 : Int32) < 0 then ((some (.int 0), S)) else (if (v0 : Int32) < 5 then ((some (.int 1), S)) else ((some (.int 0), S)))
theorem t116 (d : Nat) (v0 : Int32) (S : xS) (r : Option Value × xS) : xX d 116 0 [(0, .int v0)] [] S r ↔ r = p116 S v0 := by
  by_cases c1 : (v0 : Int32) < 0
  · skip
    simp (decide := true) only [p116, b116_0, b116_4, b116_9, b116_13, c1, xrd_ne, xrd_eq, xrd_n2, xrd_J, xrd_K, xsimp_1, xsimp_2, xtl, xtl0, xbit_0, xbit_1, exists_eq_left, and_assoc, exists_and_left, if_true, if_false, true_and, and_true, not_true, not_false_iff, x6, Int32.neg_neg, x01, x11, x21, x31, x41, x51, xn1, xn2, xn3, xn4, xn5, xn6, xn7, xv1, xv2, xv3, xv4, xv5, xv6, xv7]
  · skip
    by_cases c2 : (v0 : Int32) < 5
    · skip
      simp (decide := true) only [p116, b116_0, b116_4, b116_9, b116_13, c1, c2, xrd_ne, xrd_eq, xrd_n2, xrd_J, xrd_K, xsimp_1, xsimp_2, xtl, xtl0, xbit_0, xbit_1, exists_eq_left, and_assoc, exists_and_left, if_true, if_false, true_and, and_true, not_true, not_false_iff, x6, Int32.neg_neg, x01, x11, x21, x31, x41, x51, xn1, xn2, xn3, xn4, xn5, xn6, xn7, xv1, xv2, xv3, xv4, xv5, xv6, xv7]
    · skip
      simp (decide := true) only [p116, b116_0, b116_4, b116_9, b116_13, c1, c2, xrd_ne, xrd_eq, xrd_n2, xrd_J, xrd_K, xsimp_1, xsimp_2, xtl, xtl0, xbit_0, xbit_1, exists_eq_left, and_assoc, exists_and_left, if_true, if_false, true_and, and_true, not_true, not_false_iff, x6, Int32.neg_neg, x01, x11, x21, x31, x41, x51, xn1, xn2, xn3, xn4, xn5, xn6, xn7, xv1, xv2, xv3, xv4, xv5, xv6, xv7]
/-- X10_isKind -/
def p117 (S : xS) (v0 : Int32) : Option Value × xS := if (v0 : Int32) < 0 then ((some (.int 0), S)) else (if (v0 : Int32) < 3 then ((some (.int 1), S)) else ((some (.int 0), S)))
theorem t117 (d : Nat) (v0 : Int32) (S : xS) (r : Option Value × xS) : xX d 117 0 [(0, .int v0)] [] S r ↔ r = p117 S v0 := by
  by_cases c1 : (v0 : Int32) < 0
  · skip
    simp (decide := true) only [p117, b117_0, b117_4, b117_9, b117_13, c1, xrd_ne, xrd_eq, xrd_n2, xrd_J, xrd_K, xsimp_1, xsimp_2, xtl, xtl0, xbit_0, xbit_1, exists_eq_left, and_assoc, exists_and_left, if_true, if_false, true_and, and_true, not_true, not_false_iff, x6, Int32.neg_neg, x01, x11, x21, x31, x41, x51, xn1, xn2, xn3, xn4, xn5, xn6, xn7, xv1, xv2, xv3, xv4, xv5, xv6, xv7]
  · skip
    by_cases c2 : (v0 : Int32) < 3
    · skip
      simp (decide := true) only [p117, b117_0, b117_4, b117_9, b117_13, c1, c2, xrd_ne, xrd_eq, xrd_n2, xrd_J, xrd_K, xsimp_1, xsimp_2, xtl, xtl0, xbit_0, xbit_1, exists_eq_left, and_assoc, exists_and_left, if_true, if_false, true_and, and_true, not_true, not_false_iff, x6, Int32.neg_neg, x01, x11, x21, x31, x41, x51, xn1, xn2, xn3, xn4, xn5, xn6, xn7, xv1, xv2, xv3, xv4, xv5, xv6, xv7]
    · skip
      simp (decide := true) only [p117, b117_0, b117_4, b117_9, b117_13, c1, c2, xrd_ne, xrd_eq, xrd_n2, xrd_J, xrd_K, xsimp_1, xsimp_2, xtl, xtl0, xbit_0, xbit_1, exists_eq_left, and_assoc, exists_and_left, if_true, if_false, true_and, and_true, not_true, not_false_iff, x6, Int32.neg_neg, x01, x11, x21, x31, x41, x51, xn1, xn2, xn3, xn4, xn5, xn6, xn7, xv1, xv2, xv3, xv4, xv5, xv6, xv7]
/-- X10_isShelf -/
def p118 (S : xS) (v0 : Int32) : Option Value × xS := if (v0 : Int32) < 0 then ((some (.int 0), S)) else (if (v0 : Int32) < 8 then ((some (.int 1), S)) else ((some (.int 0), S)))
theorem t118 (d : Nat) (v0 : Int32) (S : xS) (r : Option Value × xS) : xX d 118 0 [(0, .int v0)] [] S r ↔ r = p118 S v0 := by
  by_cases c1 : (v0 : Int32) < 0
  · skip
    simp (decide := true) only [p118, b118_0, b118_4, b118_10, b118_14, c1, xrd_ne, xrd_eq, xrd_n2, xrd_J, xrd_K, xsimp_1, xsimp_2, xtl, xtl0, xbit_0, xbit_1, exists_eq_left, and_assoc, exists_and_left, if_true, if_false, true_and, and_true, not_true, not_false_iff, x6, Int32.neg_neg, x01, x11, x21, x31, x41, x51, xn1, xn2, xn3, xn4, xn5, xn6, xn7, xv1, xv2, xv3, xv4, xv5, xv6, xv7]
  · skip
    by_cases c2 : (v0 : Int32) < 8
    · skip
      simp (decide := true) only [p118, b118_0, b118_4, b118_10, b118_14, c1, c2, xrd_ne, xrd_eq, xrd_n2, xrd_J, xrd_K, xsimp_1, xsimp_2, xtl, xtl0, xbit_0, xbit_1, exists_eq_left, and_assoc, exists_and_left, if_true, if_false, true_and, and_true, not_true, not_false_iff, x6, Int32.neg_neg, x01, x11, x21, x31, x41, x51, xn1, xn2, xn3, xn4, xn5, xn6, xn7, xv1, xv2, xv3, xv4, xv5, xv6, xv7]
    · skip
      simp (decide := true) only [p118, b118_0, b118_4, b118_10, b118_14, c1, c2, xrd_ne, xrd_eq, xrd_n2, xrd_J, xrd_K, xsimp_1, xsimp_2, xtl, xtl0, xbit_0, xbit_1, exists_eq_left, and_assoc, exists_and_left, if_true, if_false, true_and, and_true, not_true, not_false_iff, x6, Int32.neg_neg, x01, x11, x21, x31, x41, x51, xn1, xn2, xn3, xn4, xn5, xn6, xn7, xv1, xv2, xv3, xv4, xv5, xv6, xv7]
/-- X10_office -/
def p119 (S : xS) (v1 : Int32) (v2 : Int32) : Option Value × xS := if (v1 : Int32) < 1 then ((some (.int (-6)), (xwI S 84 6 ((S.1 84 6) + 1)))) else (if (40 : Int32) < v1 then ((some (.int (-6)), (xwI S 84 6 ((S.1 84 6) + 1)))) else (if (v2 : Int32) < 0 then ((some (.int (-6)), (xwI S 84 6 ((S.1 84 6) + 1)))) else (if (9 : Int32) < v2 then ((some (.int (-6)), (xwI S 84 6 ((S.1 84 6) + 1)))) else (if ((S.1 54 15) : Int32) = 0 then (if ((S.1 54 0) : Int32) = 10 then ((some (.int (-7)), (xwI S 84 7 ((S.1 84 7) + 1)))) else ((some (.int (S.1 54 0)), (xwI (xwI (xwI (xwI S 55 (S.1 54 0).toNatClampNeg v1) 56 (S.1 54 0).toNatClampNeg v2) 57 (S.1 54 0).toNatClampNeg (-1)) 54 0 ((S.1 54 0) + 1))))) else ((some (.int (-6)), (xwI S 84 6 ((S.1 84 6) + 1))))))))
def g119 (S : xS) (v1 : Int32) (v2 : Int32) : Prop := (if (v1 : Int32) < 1 then True else (if (40 : Int32) < v1 then True else (if (v2 : Int32) < 0 then True else (if (9 : Int32) < v2 then True else (if ((S.1 54 15) : Int32) = 0 then (if ((S.1 54 0) : Int32) = 10 then True else (vp_in (S.1 54 0) 10 ∧ (vp_in (S.1 54 0) 10 ∧ (vp_in (S.1 54 0) 10 ∧ True)))) else True)))))
theorem t119 (d : Nat) (v1 : Int32) (v2 : Int32) (S : xS) (r : Option Value × xS) (h : g119 S v1 v2) : xX (d + 1) 119 0 [(0, .ref 54), (1, .int v1), (2, .int v2)] [] S r ↔ r = p119 S v1 v2 := by
  by_cases c1 : (v1 : Int32) < 1
  · skip
    simp (decide := true) only [g119, c1, xrd_ne, xrd_eq, xrd_n2, xrd_J, xrd_K, ite_true, ite_false, if_true, if_false, and_true, true_and] at h
    simp (decide := true) only [p119, b119_0, b119_5, b119_11, b119_15, b119_21, b119_28, b119_34, b119_35, b119_44, b119_50, b119_51, b114_0, c1, h, xrd_ne, xrd_eq, xrd_n2, xrd_J, xrd_K, xsimp_1, xsimp_2, xtl, xtl0, xbit_0, xbit_1, exists_eq_left, and_assoc, exists_and_left, if_true, if_false, true_and, and_true, not_true, not_false_iff, x6, Int32.neg_neg, x01, x11, x21, x31, x41, x51, xn1, xn2, xn3, xn4, xn5, xn6, xn7, xv1, xv2, xv3, xv4, xv5, xv6, xv7]
  · skip
    by_cases c2 : (40 : Int32) < v1
    · skip
      simp (decide := true) only [g119, c1, c2, xrd_ne, xrd_eq, xrd_n2, xrd_J, xrd_K, ite_true, ite_false, if_true, if_false, and_true, true_and] at h
      simp (decide := true) only [p119, b119_0, b119_5, b119_11, b119_15, b119_21, b119_28, b119_34, b119_35, b119_44, b119_50, b119_51, b114_0, c1, c2, h, xrd_ne, xrd_eq, xrd_n2, xrd_J, xrd_K, xsimp_1, xsimp_2, xtl, xtl0, xbit_0, xbit_1, exists_eq_left, and_assoc, exists_and_left, if_true, if_false, true_and, and_true, not_true, not_false_iff, x6, Int32.neg_neg, x01, x11, x21, x31, x41, x51, xn1, xn2, xn3, xn4, xn5, xn6, xn7, xv1, xv2, xv3, xv4, xv5, xv6, xv7]
    · skip
      by_cases c3 : (v2 : Int32) < 0
      · skip
        simp (decide := true) only [g119, c1, c2, c3, xrd_ne, xrd_eq, xrd_n2, xrd_J, xrd_K, ite_true, ite_false, if_true, if_false, and_true, true_and] at h
        simp (decide := true) only [p119, b119_0, b119_5, b119_11, b119_15, b119_21, b119_28, b119_34, b119_35, b119_44, b119_50, b119_51, b114_0, c1, c2, c3, h, xrd_ne, xrd_eq, xrd_n2, xrd_J, xrd_K, xsimp_1, xsimp_2, xtl, xtl0, xbit_0, xbit_1, exists_eq_left, and_assoc, exists_and_left, if_true, if_false, true_and, and_true, not_true, not_false_iff, x6, Int32.neg_neg, x01, x11, x21, x31, x41, x51, xn1, xn2, xn3, xn4, xn5, xn6, xn7, xv1, xv2, xv3, xv4, xv5, xv6, xv7]
      · skip
        by_cases c4 : (9 : Int32) < v2
        · skip
          simp (decide := true) only [g119, c1, c2, c3, c4, xrd_ne, xrd_eq, xrd_n2, xrd_J, xrd_K, ite_true, ite_false, if_true, if_false, and_true, true_and] at h
          simp (decide := true) only [p119, b119_0, b119_5, b119_11, b119_15, b119_21, b119_28, b119_34, b119_35, b119_44, b119_50, b119_51, b114_0, c1, c2, c3, c4, h, xrd_ne, xrd_eq, xrd_n2, xrd_J, xrd_K, xsimp_1, xsimp_2, xtl, xtl0, xbit_0, xbit_1, exists_eq_left, and_assoc, exists_and_left, if_true, if_false, true_and, and_true, not_true, not_false_iff, x6, Int32.neg_neg, x01, x11, x21, x31, x41, x51, xn1, xn2, xn3, xn4, xn5, xn6, xn7, xv1, xv2, xv3, xv4, xv5, xv6, xv7]
        · skip
          by_cases c5 : ((S.1 54 15) : Int32) = 0
          · skip
            by_cases c6 : ((S.1 54 0) : Int32) = 10
            · skip
              simp (decide := true) only [g119, c1, c2, c3, c4, c5, c6, xrd_ne, xrd_eq, xrd_n2, xrd_J, xrd_K, ite_true, ite_false, if_true, if_false, and_true, true_and] at h
              simp (decide := true) only [p119, b119_0, b119_5, b119_11, b119_15, b119_21, b119_28, b119_34, b119_35, b119_44, b119_50, b119_51, b114_0, c1, c2, c3, c4, c5, c6, h, xrd_ne, xrd_eq, xrd_n2, xrd_J, xrd_K, xsimp_1, xsimp_2, xtl, xtl0, xbit_0, xbit_1, exists_eq_left, and_assoc, exists_and_left, if_true, if_false, true_and, and_true, not_true, not_false_iff, x6, Int32.neg_neg, x01, x11, x21, x31, x41, x51, xn1, xn2, xn3, xn4, xn5, xn6, xn7, xv1, xv2, xv3, xv4, xv5, xv6, xv7]
            · skip
              simp (decide := true) only [g119, c1, c2, c3, c4, c5, c6, xrd_ne, xrd_eq, xrd_n2, xrd_J, xrd_K, ite_true, ite_false, if_true, if_false, and_true, true_and] at h
              simp (decide := true) only [p119, b119_0, b119_5, b119_11, b119_15, b119_21, b119_28, b119_34, b119_35, b119_44, b119_50, b119_51, b114_0, c1, c2, c3, c4, c5, c6, h, xrd_ne, xrd_eq, xrd_n2, xrd_J, xrd_K, xsimp_1, xsimp_2, xtl, xtl0, xbit_0, xbit_1, exists_eq_left, and_assoc, exists_and_left, if_true, if_false, true_and, and_true, not_true, not_false_iff, x6, Int32.neg_neg, x01, x11, x21, x31, x41, x51, xn1, xn2, xn3, xn4, xn5, xn6, xn7, xv1, xv2, xv3, xv4, xv5, xv6, xv7]
          · skip
            simp (decide := true) only [g119, c1, c2, c3, c4, c5, xrd_ne, xrd_eq, xrd_n2, xrd_J, xrd_K, ite_true, ite_false, if_true, if_false, and_true, true_and] at h
            simp (decide := true) only [p119, b119_0, b119_5, b119_11, b119_15, b119_21, b119_28, b119_34, b119_35, b119_44, b119_50, b119_51, b114_0, c1, c2, c3, c4, c5, h, xrd_ne, xrd_eq, xrd_n2, xrd_J, xrd_K, xsimp_1, xsimp_2, xtl, xtl0, xbit_0, xbit_1, exists_eq_left, and_assoc, exists_and_left, if_true, if_false, true_and, and_true, not_true, not_false_iff, x6, Int32.neg_neg, x01, x11, x21, x31, x41, x51, xn1, xn2, xn3, xn4, xn5, xn6, xn7, xv1, xv2, xv3, xv4, xv5, xv6, xv7]
/-- X10_tie -/
def p120 (S : xS) (v1 : Int32) (v2 : Int32) (v3 : Int32) : Option Value × xS := if (v1 : Int32) < 0 then ((some (.int (-1)), (xwI S 84 1 ((S.1 84 1) + 1)))) else (if (v1 : Int32) < (S.1 54 0) then (if (v2 : Int32) < 0 then ((some (.int (-1)), (xwI S 84 1 ((S.1 84 1) + 1)))) else (if (v2 : Int32) < (S.1 54 0) then (if (v1 : Int32) = v2 then ((some (.int (-6)), (xwI S 84 6 ((S.1 84 6) + 1)))) else (if (v3 : Int32) < 0 then ((some (.int (-6)), (xwI S 84 6 ((S.1 84 6) + 1)))) else (if (20 : Int32) < v3 then ((some (.int (-6)), (xwI S 84 6 ((S.1 84 6) + 1)))) else ((some (.int (S.1 60 ((10 * v1) + v2).toNatClampNeg)), (xwI (xwI S 60 ((10 * v1) + v2).toNatClampNeg v3) 60 ((10 * v2) + v1).toNatClampNeg v3)))))) else ((some (.int (-1)), (xwI S 84 1 ((S.1 84 1) + 1)))))) else ((some (.int (-1)), (xwI S 84 1 ((S.1 84 1) + 1)))))
def g120 (S : xS) (v1 : Int32) (v2 : Int32) (v3 : Int32) : Prop := (if (v1 : Int32) < 0 then True else (if (v1 : Int32) < (S.1 54 0) then (if (v2 : Int32) < 0 then True else (if (v2 : Int32) < (S.1 54 0) then (if (v1 : Int32) = v2 then True else (if (v3 : Int32) < 0 then True else (if (20 : Int32) < v3 then True else (vp_in ((10 * v1) + v2) 100 ∧ (vp_in ((10 * v1) + v2) 100 ∧ (vp_in ((10 * v2) + v1) 100 ∧ True)))))) else True)) else True))
theorem t120 (d : Nat) (v1 : Int32) (v2 : Int32) (v3 : Int32) (S : xS) (r : Option Value × xS) (h : g120 S v1 v2 v3) : xX (d + 1) 120 0 [(0, .ref 54), (1, .int v1), (2, .int v2), (3, .int v3)] [] S r ↔ r = p120 S v1 v2 v3 := by
  by_cases c1 : (v1 : Int32) < 0
  · skip
    simp (decide := true) only [g120, c1, xrd_ne, xrd_eq, xrd_n2, xrd_J, xrd_K, ite_true, ite_false, if_true, if_false, and_true, true_and] at h
    simp (decide := true) only [p120, b120_0, b120_5, b120_8, b120_13, b120_16, b120_21, b120_22, b120_27, b120_31, b120_37, b120_43, b120_44, b115_0, b115_4, b115_12, b115_16, b114_0, c1, h, xrd_ne, xrd_eq, xrd_n2, xrd_J, xrd_K, xsimp_1, xsimp_2, xtl, xtl0, xbit_0, xbit_1, exists_eq_left, and_assoc, exists_and_left, if_true, if_false, true_and, and_true, not_true, not_false_iff, x6, Int32.neg_neg, x01, x11, x21, x31, x41, x51, xn1, xn2, xn3, xn4, xn5, xn6, xn7, xv1, xv2, xv3, xv4, xv5, xv6, xv7]
  · skip
    by_cases c2 : (v1 : Int32) < (S.1 54 0)
    · skip
      by_cases c3 : (v2 : Int32) < 0
      · skip
        simp (decide := true) only [g120, c1, c2, c3, xrd_ne, xrd_eq, xrd_n2, xrd_J, xrd_K, ite_true, ite_false, if_true, if_false, and_true, true_and] at h
        simp (decide := true) only [p120, b120_0, b120_5, b120_8, b120_13, b120_16, b120_21, b120_22, b120_27, b120_31, b120_37, b120_43, b120_44, b115_0, b115_4, b115_12, b115_16, b114_0, c1, c2, c3, h, xrd_ne, xrd_eq, xrd_n2, xrd_J, xrd_K, xsimp_1, xsimp_2, xtl, xtl0, xbit_0, xbit_1, exists_eq_left, and_assoc, exists_and_left, if_true, if_false, true_and, and_true, not_true, not_false_iff, x6, Int32.neg_neg, x01, x11, x21, x31, x41, x51, xn1, xn2, xn3, xn4, xn5, xn6, xn7, xv1, xv2, xv3, xv4, xv5, xv6, xv7]
      · skip
        by_cases c4 : (v2 : Int32) < (S.1 54 0)
        · skip
          by_cases c5 : (v1 : Int32) = v2
          · skip
            simp (decide := true) only [g120, c1, c2, c3, c4, c5, xrd_ne, xrd_eq, xrd_n2, xrd_J, xrd_K, ite_true, ite_false, if_true, if_false, and_true, true_and] at h
            simp (decide := true) only [p120, b120_0, b120_5, b120_8, b120_13, b120_16, b120_21, b120_22, b120_27, b120_31, b120_37, b120_43, b120_44, b115_0, b115_4, b115_12, b115_16, b114_0, c1, c2, c3, c4, c5, h, xrd_ne, xrd_eq, xrd_n2, xrd_J, xrd_K, xsimp_1, xsimp_2, xtl, xtl0, xbit_0, xbit_1, exists_eq_left, and_assoc, exists_and_left, if_true, if_false, true_and, and_true, not_true, not_false_iff, x6, Int32.neg_neg, x01, x11, x21, x31, x41, x51, xn1, xn2, xn3, xn4, xn5, xn6, xn7, xv1, xv2, xv3, xv4, xv5, xv6, xv7]
          · skip
            by_cases c6 : (v3 : Int32) < 0
            · skip
              simp (decide := true) only [g120, c1, c2, c3, c4, c5, c6, xrd_ne, xrd_eq, xrd_n2, xrd_J, xrd_K, ite_true, ite_false, if_true, if_false, and_true, true_and] at h
              simp (decide := true) only [p120, b120_0, b120_5, b120_8, b120_13, b120_16, b120_21, b120_22, b120_27, b120_31, b120_37, b120_43, b120_44, b115_0, b115_4, b115_12, b115_16, b114_0, c1, c2, c3, c4, c5, c6, h, xrd_ne, xrd_eq, xrd_n2, xrd_J, xrd_K, xsimp_1, xsimp_2, xtl, xtl0, xbit_0, xbit_1, exists_eq_left, and_assoc, exists_and_left, if_true, if_false, true_and, and_true, not_true, not_false_iff, x6, Int32.neg_neg, x01, x11, x21, x31, x41, x51, xn1, xn2, xn3, xn4, xn5, xn6, xn7, xv1, xv2, xv3, xv4, xv5, xv6, xv7]
            · skip
              by_cases c7 : (20 : Int32) < v3
              · skip
                simp (decide := true) only [g120, c1, c2, c3, c4, c5, c6, c7, xrd_ne, xrd_eq, xrd_n2, xrd_J, xrd_K, ite_true, ite_false, if_true, if_false, and_true, true_and] at h
                simp (decide := true) only [p120, b120_0, b120_5, b120_8, b120_13, b120_16, b120_21, b120_22, b120_27, b120_31, b120_37, b120_43, b120_44, b115_0, b115_4, b115_12, b115_16, b114_0, c1, c2, c3, c4, c5, c6, c7, h, xrd_ne, xrd_eq, xrd_n2, xrd_J, xrd_K, xsimp_1, xsimp_2, xtl, xtl0, xbit_0, xbit_1, exists_eq_left, and_assoc, exists_and_left, if_true, if_false, true_and, and_true, not_true, not_false_iff, x6, Int32.neg_neg, x01, x11, x21, x31, x41, x51, xn1, xn2, xn3, xn4, xn5, xn6, xn7, xv1, xv2, xv3, xv4, xv5, xv6, xv7]
              · skip
                simp (decide := true) only [g120, c1, c2, c3, c4, c5, c6, c7, xrd_ne, xrd_eq, xrd_n2, xrd_J, xrd_K, ite_true, ite_false, if_true, if_false, and_true, true_and] at h
                simp (decide := true) only [p120, b120_0, b120_5, b120_8, b120_13, b120_16, b120_21, b120_22, b120_27, b120_31, b120_37, b120_43, b120_44, b115_0, b115_4, b115_12, b115_16, b114_0, c1, c2, c3, c4, c5, c6, c7, h, xrd_ne, xrd_eq, xrd_n2, xrd_J, xrd_K, xsimp_1, xsimp_2, xtl, xtl0, xbit_0, xbit_1, exists_eq_left, and_assoc, exists_and_left, if_true, if_false, true_and, and_true, not_true, not_false_iff, x6, Int32.neg_neg, x01, x11, x21, x31, x41, x51, xn1, xn2, xn3, xn4, xn5, xn6, xn7, xv1, xv2, xv3, xv4, xv5, xv6, xv7]
        · skip
          simp (decide := true) only [g120, c1, c2, c3, c4, xrd_ne, xrd_eq, xrd_n2, xrd_J, xrd_K, ite_true, ite_false, if_true, if_false, and_true, true_and] at h
          simp (decide := true) only [p120, b120_0, b120_5, b120_8, b120_13, b120_16, b120_21, b120_22, b120_27, b120_31, b120_37, b120_43, b120_44, b115_0, b115_4, b115_12, b115_16, b114_0, c1, c2, c3, c4, h, xrd_ne, xrd_eq, xrd_n2, xrd_J, xrd_K, xsimp_1, xsimp_2, xtl, xtl0, xbit_0, xbit_1, exists_eq_left, and_assoc, exists_and_left, if_true, if_false, true_and, and_true, not_true, not_false_iff, x6, Int32.neg_neg, x01, x11, x21, x31, x41, x51, xn1, xn2, xn3, xn4, xn5, xn6, xn7, xv1, xv2, xv3, xv4, xv5, xv6, xv7]
    · skip
      simp (decide := true) only [g120, c1, c2, xrd_ne, xrd_eq, xrd_n2, xrd_J, xrd_K, ite_true, ite_false, if_true, if_false, and_true, true_and] at h
      simp (decide := true) only [p120, b120_0, b120_5, b120_8, b120_13, b120_16, b120_21, b120_22, b120_27, b120_31, b120_37, b120_43, b120_44, b115_0, b115_4, b115_12, b115_16, b114_0, c1, c2, h, xrd_ne, xrd_eq, xrd_n2, xrd_J, xrd_K, xsimp_1, xsimp_2, xtl, xtl0, xbit_0, xbit_1, exists_eq_left, and_assoc, exists_and_left, if_true, if_false, true_and, and_true, not_true, not_false_iff, x6, Int32.neg_neg, x01, x11, x21, x31, x41, x51, xn1, xn2, xn3, xn4, xn5, xn6, xn7, xv1, xv2, xv3, xv4, xv5, xv6, xv7]
/-- X10_building -/
def p121 (S : xS) (v1 : Int32) (v2 : Int32) : Option Value × xS := if (v2 : Int32) < 0 then ((some (.int (-1)), (xwI S 84 1 ((S.1 84 1) + 1)))) else (if (v2 : Int32) < 5 then (if (v1 : Int32) < 1 then ((some (.int (-6)), (xwI S 84 6 ((S.1 84 6) + 1)))) else (if (120 : Int32) < v1 then ((some (.int (-6)), (xwI S 84 6 ((S.1 84 6) + 1)))) else (if ((S.1 54 15) : Int32) = 0 then (if ((S.1 54 1) : Int32) = 6 then ((some (.int (-7)), (xwI S 84 7 ((S.1 84 7) + 1)))) else ((some (.int (S.1 54 1)), (xwI (xwI (xwI S 61 (S.1 54 1).toNatClampNeg v1) 62 (S.1 54 1).toNatClampNeg v2) 54 1 ((S.1 54 1) + 1))))) else ((some (.int (-6)), (xwI S 84 6 ((S.1 84 6) + 1))))))) else ((some (.int (-1)), (xwI S 84 1 ((S.1 84 1) + 1)))))
def g121 (S : xS) (v1 : Int32) (v2 : Int32) : Prop := (if (v2 : Int32) < 0 then True else (if (v2 : Int32) < 5 then (if (v1 : Int32) < 1 then True else (if (120 : Int32) < v1 then True else (if ((S.1 54 15) : Int32) = 0 then (if ((S.1 54 1) : Int32) = 6 then True else (vp_in (S.1 54 1) 6 ∧ (vp_in (S.1 54 1) 6 ∧ True))) else True))) else True))
theorem t121 (d : Nat) (v1 : Int32) (v2 : Int32) (S : xS) (r : Option Value × xS) (h : g121 S v1 v2) : xX (d + 1) 121 0 [(0, .ref 54), (1, .int v1), (2, .int v2)] [] S r ↔ r = p121 S v1 v2 := by
  by_cases c1 : (v2 : Int32) < 0
  · skip
    simp (decide := true) only [g121, c1, xrd_ne, xrd_eq, xrd_n2, xrd_J, xrd_K, ite_true, ite_false, if_true, if_false, and_true, true_and] at h
    simp (decide := true) only [p121, b121_0, b121_4, b121_7, b121_12, b121_13, b121_18, b121_24, b121_31, b121_37, b121_38, b121_47, b121_53, b121_54, b116_0, b116_4, b116_9, b116_13, b114_0, c1, h, xrd_ne, xrd_eq, xrd_n2, xrd_J, xrd_K, xsimp_1, xsimp_2, xtl, xtl0, xbit_0, xbit_1, exists_eq_left, and_assoc, exists_and_left, if_true, if_false, true_and, and_true, not_true, not_false_iff, x6, Int32.neg_neg, x01, x11, x21, x31, x41, x51, xn1, xn2, xn3, xn4, xn5, xn6, xn7, xv1, xv2, xv3, xv4, xv5, xv6, xv7]
  · skip
    by_cases c2 : (v2 : Int32) < 5
    · skip
      by_cases c3 : (v1 : Int32) < 1
      · skip
        simp (decide := true) only [g121, c1, c2, c3, xrd_ne, xrd_eq, xrd_n2, xrd_J, xrd_K, ite_true, ite_false, if_true, if_false, and_true, true_and] at h
        simp (decide := true) only [p121, b121_0, b121_4, b121_7, b121_12, b121_13, b121_18, b121_24, b121_31, b121_37, b121_38, b121_47, b121_53, b121_54, b116_0, b116_4, b116_9, b116_13, b114_0, c1, c2, c3, h, xrd_ne, xrd_eq, xrd_n2, xrd_J, xrd_K, xsimp_1, xsimp_2, xtl, xtl0, xbit_0, xbit_1, exists_eq_left, and_assoc, exists_and_left, if_true, if_false, true_and, and_true, not_true, not_false_iff, x6, Int32.neg_neg, x01, x11, x21, x31, x41, x51, xn1, xn2, xn3, xn4, xn5, xn6, xn7, xv1, xv2, xv3, xv4, xv5, xv6, xv7]
      · skip
        by_cases c4 : (120 : Int32) < v1
        · skip
          simp (decide := true) only [g121, c1, c2, c3, c4, xrd_ne, xrd_eq, xrd_n2, xrd_J, xrd_K, ite_true, ite_false, if_true, if_false, and_true, true_and] at h
          simp (decide := true) only [p121, b121_0, b121_4, b121_7, b121_12, b121_13, b121_18, b121_24, b121_31, b121_37, b121_38, b121_47, b121_53, b121_54, b116_0, b116_4, b116_9, b116_13, b114_0, c1, c2, c3, c4, h, xrd_ne, xrd_eq, xrd_n2, xrd_J, xrd_K, xsimp_1, xsimp_2, xtl, xtl0, xbit_0, xbit_1, exists_eq_left, and_assoc, exists_and_left, if_true, if_false, true_and, and_true, not_true, not_false_iff, x6, Int32.neg_neg, x01, x11, x21, x31, x41, x51, xn1, xn2, xn3, xn4, xn5, xn6, xn7, xv1, xv2, xv3, xv4, xv5, xv6, xv7]
        · skip
          by_cases c5 : ((S.1 54 15) : Int32) = 0
          · skip
            by_cases c6 : ((S.1 54 1) : Int32) = 6
            · skip
              simp (decide := true) only [g121, c1, c2, c3, c4, c5, c6, xrd_ne, xrd_eq, xrd_n2, xrd_J, xrd_K, ite_true, ite_false, if_true, if_false, and_true, true_and] at h
              simp (decide := true) only [p121, b121_0, b121_4, b121_7, b121_12, b121_13, b121_18, b121_24, b121_31, b121_37, b121_38, b121_47, b121_53, b121_54, b116_0, b116_4, b116_9, b116_13, b114_0, c1, c2, c3, c4, c5, c6, h, xrd_ne, xrd_eq, xrd_n2, xrd_J, xrd_K, xsimp_1, xsimp_2, xtl, xtl0, xbit_0, xbit_1, exists_eq_left, and_assoc, exists_and_left, if_true, if_false, true_and, and_true, not_true, not_false_iff, x6, Int32.neg_neg, x01, x11, x21, x31, x41, x51, xn1, xn2, xn3, xn4, xn5, xn6, xn7, xv1, xv2, xv3, xv4, xv5, xv6, xv7]
            · skip
              simp (decide := true) only [g121, c1, c2, c3, c4, c5, c6, xrd_ne, xrd_eq, xrd_n2, xrd_J, xrd_K, ite_true, ite_false, if_true, if_false, and_true, true_and] at h
              simp (decide := true) only [p121, b121_0, b121_4, b121_7, b121_12, b121_13, b121_18, b121_24, b121_31, b121_37, b121_38, b121_47, b121_53, b121_54, b116_0, b116_4, b116_9, b116_13, b114_0, c1, c2, c3, c4, c5, c6, h, xrd_ne, xrd_eq, xrd_n2, xrd_J, xrd_K, xsimp_1, xsimp_2, xtl, xtl0, xbit_0, xbit_1, exists_eq_left, and_assoc, exists_and_left, if_true, if_false, true_and, and_true, not_true, not_false_iff, x6, Int32.neg_neg, x01, x11, x21, x31, x41, x51, xn1, xn2, xn3, xn4, xn5, xn6, xn7, xv1, xv2, xv3, xv4, xv5, xv6, xv7]
          · skip
            simp (decide := true) only [g121, c1, c2, c3, c4, c5, xrd_ne, xrd_eq, xrd_n2, xrd_J, xrd_K, ite_true, ite_false, if_true, if_false, and_true, true_and] at h
            simp (decide := true) only [p121, b121_0, b121_4, b121_7, b121_12, b121_13, b121_18, b121_24, b121_31, b121_37, b121_38, b121_47, b121_53, b121_54, b116_0, b116_4, b116_9, b116_13, b114_0, c1, c2, c3, c4, c5, h, xrd_ne, xrd_eq, xrd_n2, xrd_J, xrd_K, xsimp_1, xsimp_2, xtl, xtl0, xbit_0, xbit_1, exists_eq_left, and_assoc, exists_and_left, if_true, if_false, true_and, and_true, not_true, not_false_iff, x6, Int32.neg_neg, x01, x11, x21, x31, x41, x51, xn1, xn2, xn3, xn4, xn5, xn6, xn7, xv1, xv2, xv3, xv4, xv5, xv6, xv7]
    · skip
      simp (decide := true) only [g121, c1, c2, xrd_ne, xrd_eq, xrd_n2, xrd_J, xrd_K, ite_true, ite_false, if_true, if_false, and_true, true_and] at h
      simp (decide := true) only [p121, b121_0, b121_4, b121_7, b121_12, b121_13, b121_18, b121_24, b121_31, b121_37, b121_38, b121_47, b121_53, b121_54, b116_0, b116_4, b116_9, b116_13, b114_0, c1, c2, h, xrd_ne, xrd_eq, xrd_n2, xrd_J, xrd_K, xsimp_1, xsimp_2, xtl, xtl0, xbit_0, xbit_1, exists_eq_left, and_assoc, exists_and_left, if_true, if_false, true_and, and_true, not_true, not_false_iff, x6, Int32.neg_neg, x01, x11, x21, x31, x41, x51, xn1, xn2, xn3, xn4, xn5, xn6, xn7, xv1, xv2, xv3, xv4, xv5, xv6, xv7]
/-- X10_late -/
def p122 (S : xS) (v1 : Int32) (v2 : Int32) : Option Value × xS := if (v1 : Int32) < 0 then ((some (.int (-1)), (xwI S 84 1 ((S.1 84 1) + 1)))) else (if (v1 : Int32) < (S.1 54 1) then (if (v2 : Int32) < 0 then ((some (.int (-1)), (xwI S 84 1 ((S.1 84 1) + 1)))) else (if (v2 : Int32) < 5 then (if ((S.1 62 v1.toNatClampNeg) : Int32) < (S.1 54 5) then ((some (.int (-6)), (xwI S 84 6 ((S.1 84 6) + 1)))) else (if (v2 : Int32) < (S.1 54 5) then ((some (.int (-6)), (xwI S 84 6 ((S.1 84 6) + 1)))) else ((some (.int (S.1 62 v1.toNatClampNeg)), (xwI S 62 v1.toNatClampNeg v2))))) else ((some (.int (-1)), (xwI S 84 1 ((S.1 84 1) + 1)))))) else ((some (.int (-1)), (xwI S 84 1 ((S.1 84 1) + 1)))))
def g122 (S : xS) (v1 : Int32) (v2 : Int32) : Prop := (if (v1 : Int32) < 0 then True else (if (v1 : Int32) < (S.1 54 1) then (if (v2 : Int32) < 0 then True else (if (v2 : Int32) < 5 then (vp_in v1 6 ∧ (if ((S.1 62 v1.toNatClampNeg) : Int32) < (S.1 54 5) then True else (if (v2 : Int32) < (S.1 54 5) then True else (vp_in v1 6 ∧ (vp_in v1 6 ∧ True))))) else True)) else True))
theorem t122 (d : Nat) (v1 : Int32) (v2 : Int32) (S : xS) (r : Option Value × xS) (h : g122 S v1 v2) : xX (d + 1) 122 0 [(0, .ref 54), (1, .int v1), (2, .int v2)] [] S r ↔ r = p122 S v1 v2 := by
  by_cases c1 : (v1 : Int32) < 0
  · skip
    simp (decide := true) only [g122, c1, xrd_ne, xrd_eq, xrd_n2, xrd_J, xrd_K, ite_true, ite_false, if_true, if_false, and_true, true_and] at h
    simp (decide := true) only [p122, b122_0, b122_4, b122_12, b122_16, b122_19, b122_24, b122_25, b122_38, b122_46, b122_52, b122_53, b116_0, b116_4, b116_9, b116_13, b114_0, c1, h, xrd_ne, xrd_eq, xrd_n2, xrd_J, xrd_K, xsimp_1, xsimp_2, xtl, xtl0, xbit_0, xbit_1, exists_eq_left, and_assoc, exists_and_left, if_true, if_false, true_and, and_true, not_true, not_false_iff, x6, Int32.neg_neg, x01, x11, x21, x31, x41, x51, xn1, xn2, xn3, xn4, xn5, xn6, xn7, xv1, xv2, xv3, xv4, xv5, xv6, xv7]
  · skip
    by_cases c2 : (v1 : Int32) < (S.1 54 1)
    · skip
      by_cases c3 : (v2 : Int32) < 0
      · skip
        simp (decide := true) only [g122, c1, c2, c3, xrd_ne, xrd_eq, xrd_n2, xrd_J, xrd_K, ite_true, ite_false, if_true, if_false, and_true, true_and] at h
        simp (decide := true) only [p122, b122_0, b122_4, b122_12, b122_16, b122_19, b122_24, b122_25, b122_38, b122_46, b122_52, b122_53, b116_0, b116_4, b116_9, b116_13, b114_0, c1, c2, c3, h, xrd_ne, xrd_eq, xrd_n2, xrd_J, xrd_K, xsimp_1, xsimp_2, xtl, xtl0, xbit_0, xbit_1, exists_eq_left, and_assoc, exists_and_left, if_true, if_false, true_and, and_true, not_true, not_false_iff, x6, Int32.neg_neg, x01, x11, x21, x31, x41, x51, xn1, xn2, xn3, xn4, xn5, xn6, xn7, xv1, xv2, xv3, xv4, xv5, xv6, xv7]
      · skip
        by_cases c4 : (v2 : Int32) < 5
        · skip
          by_cases c5 : ((S.1 62 v1.toNatClampNeg) : Int32) < (S.1 54 5)
          · skip
            simp (decide := true) only [g122, c1, c2, c3, c4, c5, xrd_ne, xrd_eq, xrd_n2, xrd_J, xrd_K, ite_true, ite_false, if_true, if_false, and_true, true_and] at h
            simp (decide := true) only [p122, b122_0, b122_4, b122_12, b122_16, b122_19, b122_24, b122_25, b122_38, b122_46, b122_52, b122_53, b116_0, b116_4, b116_9, b116_13, b114_0, c1, c2, c3, c4, c5, h, xrd_ne, xrd_eq, xrd_n2, xrd_J, xrd_K, xsimp_1, xsimp_2, xtl, xtl0, xbit_0, xbit_1, exists_eq_left, and_assoc, exists_and_left, if_true, if_false, true_and, and_true, not_true, not_false_iff, x6, Int32.neg_neg, x01, x11, x21, x31, x41, x51, xn1, xn2, xn3, xn4, xn5, xn6, xn7, xv1, xv2, xv3, xv4, xv5, xv6, xv7]
          · skip
            by_cases c6 : (v2 : Int32) < (S.1 54 5)
            · skip
              simp (decide := true) only [g122, c1, c2, c3, c4, c5, c6, xrd_ne, xrd_eq, xrd_n2, xrd_J, xrd_K, ite_true, ite_false, if_true, if_false, and_true, true_and] at h
              simp (decide := true) only [p122, b122_0, b122_4, b122_12, b122_16, b122_19, b122_24, b122_25, b122_38, b122_46, b122_52, b122_53, b116_0, b116_4, b116_9, b116_13, b114_0, c1, c2, c3, c4, c5, c6, h, xrd_ne, xrd_eq, xrd_n2, xrd_J, xrd_K, xsimp_1, xsimp_2, xtl, xtl0, xbit_0, xbit_1, exists_eq_left, and_assoc, exists_and_left, if_true, if_false, true_and, and_true, not_true, not_false_iff, x6, Int32.neg_neg, x01, x11, x21, x31, x41, x51, xn1, xn2, xn3, xn4, xn5, xn6, xn7, xv1, xv2, xv3, xv4, xv5, xv6, xv7]
            · skip
              simp (decide := true) only [g122, c1, c2, c3, c4, c5, c6, xrd_ne, xrd_eq, xrd_n2, xrd_J, xrd_K, ite_true, ite_false, if_true, if_false, and_true, true_and] at h
              simp (decide := true) only [p122, b122_0, b122_4, b122_12, b122_16, b122_19, b122_24, b122_25, b122_38, b122_46, b122_52, b122_53, b116_0, b116_4, b116_9, b116_13, b114_0, c1, c2, c3, c4, c5, c6, h, xrd_ne, xrd_eq, xrd_n2, xrd_J, xrd_K, xsimp_1, xsimp_2, xtl, xtl0, xbit_0, xbit_1, exists_eq_left, and_assoc, exists_and_left, if_true, if_false, true_and, and_true, not_true, not_false_iff, x6, Int32.neg_neg, x01, x11, x21, x31, x41, x51, xn1, xn2, xn3, xn4, xn5, xn6, xn7, xv1, xv2, xv3, xv4, xv5, xv6, xv7]
        · skip
          simp (decide := true) only [g122, c1, c2, c3, c4, xrd_ne, xrd_eq, xrd_n2, xrd_J, xrd_K, ite_true, ite_false, if_true, if_false, and_true, true_and] at h
          simp (decide := true) only [p122, b122_0, b122_4, b122_12, b122_16, b122_19, b122_24, b122_25, b122_38, b122_46, b122_52, b122_53, b116_0, b116_4, b116_9, b116_13, b114_0, c1, c2, c3, c4, h, xrd_ne, xrd_eq, xrd_n2, xrd_J, xrd_K, xsimp_1, xsimp_2, xtl, xtl0, xbit_0, xbit_1, exists_eq_left, and_assoc, exists_and_left, if_true, if_false, true_and, and_true, not_true, not_false_iff, x6, Int32.neg_neg, x01, x11, x21, x31, x41, x51, xn1, xn2, xn3, xn4, xn5, xn6, xn7, xv1, xv2, xv3, xv4, xv5, xv6, xv7]
    · skip
      simp (decide := true) only [g122, c1, c2, xrd_ne, xrd_eq, xrd_n2, xrd_J, xrd_K, ite_true, ite_false, if_true, if_false, and_true, true_and] at h
      simp (decide := true) only [p122, b122_0, b122_4, b122_12, b122_16, b122_19, b122_24, b122_25, b122_38, b122_46, b122_52, b122_53, b116_0, b116_4, b116_9, b116_13, b114_0, c1, c2, h, xrd_ne, xrd_eq, xrd_n2, xrd_J, xrd_K, xsimp_1, xsimp_2, xtl, xtl0, xbit_0, xbit_1, exists_eq_left, and_assoc, exists_and_left, if_true, if_false, true_and, and_true, not_true, not_false_iff, x6, Int32.neg_neg, x01, x11, x21, x31, x41, x51, xn1, xn2, xn3, xn4, xn5, xn6, xn7, xv1, xv2, xv3, xv4, xv5, xv6, xv7]
/-- X10_ready -/
def p123 (S : xS) (v1 : Int32) (v2 : Int32) (v3 : Int32) : Option Value × xS := if (v1 : Int32) < 0 then ((some (.int (-1)), (xwI S 84 1 ((S.1 84 1) + 1)))) else (if (v1 : Int32) < 5 then (if (v2 : Int32) < 0 then ((some (.int (-6)), (xwI S 84 6 ((S.1 84 6) + 1)))) else (if (1 : Int32) < v2 then ((some (.int (-6)), (xwI S 84 6 ((S.1 84 6) + 1)))) else (if (v3 : Int32) < 0 then ((some (.int (-6)), (xwI S 84 6 ((S.1 84 6) + 1)))) else (if (400 : Int32) < v3 then ((some (.int (-6)), (xwI S 84 6 ((S.1 84 6) + 1)))) else (if ((S.1 54 15) : Int32) = 0 then (if (v2 : Int32) = 0 then ((some (.int (S.1 63 v1.toNatClampNeg)), (xwI S 63 v1.toNatClampNeg v3))) else ((some (.int (S.1 64 v1.toNatClampNeg)), (xwI S 64 v1.toNatClampNeg v3)))) else ((some (.int (-6)), (xwI S 84 6 ((S.1 84 6) + 1))))))))) else ((some (.int (-1)), (xwI S 84 1 ((S.1 84 1) + 1)))))
def g123 (S : xS) (v1 : Int32) (v2 : Int32) (v3 : Int32) : Prop := (if (v1 : Int32) < 0 then True else (if (v1 : Int32) < 5 then (if (v2 : Int32) < 0 then True else (if (1 : Int32) < v2 then True else (if (v3 : Int32) < 0 then True else (if (400 : Int32) < v3 then True else (if ((S.1 54 15) : Int32) = 0 then (if (v2 : Int32) = 0 then (vp_in v1 5 ∧ (vp_in v1 5 ∧ True)) else (vp_in v1 5 ∧ (vp_in v1 5 ∧ True))) else True))))) else True))
theorem t123 (d : Nat) (v1 : Int32) (v2 : Int32) (v3 : Int32) (S : xS) (r : Option Value × xS) (h : g123 S v1 v2 v3) : xX (d + 1) 123 0 [(0, .ref 54), (1, .int v1), (2, .int v2), (3, .int v3)] [] S r ↔ r = p123 S v1 v2 v3 := by
  by_cases c1 : (v1 : Int32) < 0
  · skip
    simp (decide := true) only [g123, c1, xrd_ne, xrd_eq, xrd_n2, xrd_J, xrd_K, ite_true, ite_false, if_true, if_false, and_true, true_and] at h
    simp (decide := true) only [p123, b123_0, b123_4, b123_7, b123_12, b123_13, b123_17, b123_22, b123_26, b123_33, b123_40, b123_46, b123_47, b123_51, b123_60, b123_72, b123_82, b116_0, b116_4, b116_9, b116_13, b114_0, c1, h, xrd_ne, xrd_eq, xrd_n2, xrd_J, xrd_K, xsimp_1, xsimp_2, xtl, xtl0, xbit_0, xbit_1, exists_eq_left, and_assoc, exists_and_left, if_true, if_false, true_and, and_true, not_true, not_false_iff, x6, Int32.neg_neg, x01, x11, x21, x31, x41, x51, xn1, xn2, xn3, xn4, xn5, xn6, xn7, xv1, xv2, xv3, xv4, xv5, xv6, xv7]
  · skip
    by_cases c2 : (v1 : Int32) < 5
    · skip
      by_cases c3 : (v2 : Int32) < 0
      · skip
        simp (decide := true) only [g123, c1, c2, c3, xrd_ne, xrd_eq, xrd_n2, xrd_J, xrd_K, ite_true, ite_false, if_true, if_false, and_true, true_and] at h
        simp (decide := true) only [p123, b123_0, b123_4, b123_7, b123_12, b123_13, b123_17, b123_22, b123_26, b123_33, b123_40, b123_46, b123_47, b123_51, b123_60, b123_72, b123_82, b116_0, b116_4, b116_9, b116_13, b114_0, c1, c2, c3, h, xrd_ne, xrd_eq, xrd_n2, xrd_J, xrd_K, xsimp_1, xsimp_2, xtl, xtl0, xbit_0, xbit_1, exists_eq_left, and_assoc, exists_and_left, if_true, if_false, true_and, and_true, not_true, not_false_iff, x6, Int32.neg_neg, x01, x11, x21, x31, x41, x51, xn1, xn2, xn3, xn4, xn5, xn6, xn7, xv1, xv2, xv3, xv4, xv5, xv6, xv7]
      · skip
        by_cases c4 : (1 : Int32) < v2
        · skip
          simp (decide := true) only [g123, c1, c2, c3, c4, xrd_ne, xrd_eq, xrd_n2, xrd_J, xrd_K, ite_true, ite_false, if_true, if_false, and_true, true_and] at h
          simp (decide := true) only [p123, b123_0, b123_4, b123_7, b123_12, b123_13, b123_17, b123_22, b123_26, b123_33, b123_40, b123_46, b123_47, b123_51, b123_60, b123_72, b123_82, b116_0, b116_4, b116_9, b116_13, b114_0, c1, c2, c3, c4, h, xrd_ne, xrd_eq, xrd_n2, xrd_J, xrd_K, xsimp_1, xsimp_2, xtl, xtl0, xbit_0, xbit_1, exists_eq_left, and_assoc, exists_and_left, if_true, if_false, true_and, and_true, not_true, not_false_iff, x6, Int32.neg_neg, x01, x11, x21, x31, x41, x51, xn1, xn2, xn3, xn4, xn5, xn6, xn7, xv1, xv2, xv3, xv4, xv5, xv6, xv7]
        · skip
          by_cases c5 : (v3 : Int32) < 0
          · skip
            simp (decide := true) only [g123, c1, c2, c3, c4, c5, xrd_ne, xrd_eq, xrd_n2, xrd_J, xrd_K, ite_true, ite_false, if_true, if_false, and_true, true_and] at h
            simp (decide := true) only [p123, b123_0, b123_4, b123_7, b123_12, b123_13, b123_17, b123_22, b123_26, b123_33, b123_40, b123_46, b123_47, b123_51, b123_60, b123_72, b123_82, b116_0, b116_4, b116_9, b116_13, b114_0, c1, c2, c3, c4, c5, h, xrd_ne, xrd_eq, xrd_n2, xrd_J, xrd_K, xsimp_1, xsimp_2, xtl, xtl0, xbit_0, xbit_1, exists_eq_left, and_assoc, exists_and_left, if_true, if_false, true_and, and_true, not_true, not_false_iff, x6, Int32.neg_neg, x01, x11, x21, x31, x41, x51, xn1, xn2, xn3, xn4, xn5, xn6, xn7, xv1, xv2, xv3, xv4, xv5, xv6, xv7]
          · skip
            by_cases c6 : (400 : Int32) < v3
            · skip
              simp (decide := true) only [g123, c1, c2, c3, c4, c5, c6, xrd_ne, xrd_eq, xrd_n2, xrd_J, xrd_K, ite_true, ite_false, if_true, if_false, and_true, true_and] at h
              simp (decide := true) only [p123, b123_0, b123_4, b123_7, b123_12, b123_13, b123_17, b123_22, b123_26, b123_33, b123_40, b123_46, b123_47, b123_51, b123_60, b123_72, b123_82, b116_0, b116_4, b116_9, b116_13, b114_0, c1, c2, c3, c4, c5, c6, h, xrd_ne, xrd_eq, xrd_n2, xrd_J, xrd_K, xsimp_1, xsimp_2, xtl, xtl0, xbit_0, xbit_1, exists_eq_left, and_assoc, exists_and_left, if_true, if_false, true_and, and_true, not_true, not_false_iff, x6, Int32.neg_neg, x01, x11, x21, x31, x41, x51, xn1, xn2, xn3, xn4, xn5, xn6, xn7, xv1, xv2, xv3, xv4, xv5, xv6, xv7]
            · skip
              by_cases c7 : ((S.1 54 15) : Int32) = 0
              · skip
                by_cases c8 : (v2 : Int32) = 0
                · skip
                  simp (decide := true) only [g123, c1, c2, c3, c4, c5, c6, c7, c8, xrd_ne, xrd_eq, xrd_n2, xrd_J, xrd_K, ite_true, ite_false, if_true, if_false, and_true, true_and] at h
                  simp (decide := true) only [p123, b123_0, b123_4, b123_7, b123_12, b123_13, b123_17, b123_22, b123_26, b123_33, b123_40, b123_46, b123_47, b123_51, b123_60, b123_72, b123_82, b116_0, b116_4, b116_9, b116_13, b114_0, c1, c2, c3, c4, c5, c6, c7, c8, h, xrd_ne, xrd_eq, xrd_n2, xrd_J, xrd_K, xsimp_1, xsimp_2, xtl, xtl0, xbit_0, xbit_1, exists_eq_left, and_assoc, exists_and_left, if_true, if_false, true_and, and_true, not_true, not_false_iff, x6, Int32.neg_neg, x01, x11, x21, x31, x41, x51, xn1, xn2, xn3, xn4, xn5, xn6, xn7, xv1, xv2, xv3, xv4, xv5, xv6, xv7]
                · skip
                  simp (decide := true) only [g123, c1, c2, c3, c4, c5, c6, c7, c8, xrd_ne, xrd_eq, xrd_n2, xrd_J, xrd_K, ite_true, ite_false, if_true, if_false, and_true, true_and] at h
                  simp (decide := true) only [p123, b123_0, b123_4, b123_7, b123_12, b123_13, b123_17, b123_22, b123_26, b123_33, b123_40, b123_46, b123_47, b123_51, b123_60, b123_72, b123_82, b116_0, b116_4, b116_9, b116_13, b114_0, c1, c2, c3, c4, c5, c6, c7, c8, h, xrd_ne, xrd_eq, xrd_n2, xrd_J, xrd_K, xsimp_1, xsimp_2, xtl, xtl0, xbit_0, xbit_1, exists_eq_left, and_assoc, exists_and_left, if_true, if_false, true_and, and_true, not_true, not_false_iff, x6, Int32.neg_neg, x01, x11, x21, x31, x41, x51, xn1, xn2, xn3, xn4, xn5, xn6, xn7, xv1, xv2, xv3, xv4, xv5, xv6, xv7]
              · skip
                simp (decide := true) only [g123, c1, c2, c3, c4, c5, c6, c7, xrd_ne, xrd_eq, xrd_n2, xrd_J, xrd_K, ite_true, ite_false, if_true, if_false, and_true, true_and] at h
                simp (decide := true) only [p123, b123_0, b123_4, b123_7, b123_12, b123_13, b123_17, b123_22, b123_26, b123_33, b123_40, b123_46, b123_47, b123_51, b123_60, b123_72, b123_82, b116_0, b116_4, b116_9, b116_13, b114_0, c1, c2, c3, c4, c5, c6, c7, h, xrd_ne, xrd_eq, xrd_n2, xrd_J, xrd_K, xsimp_1, xsimp_2, xtl, xtl0, xbit_0, xbit_1, exists_eq_left, and_assoc, exists_and_left, if_true, if_false, true_and, and_true, not_true, not_false_iff, x6, Int32.neg_neg, x01, x11, x21, x31, x41, x51, xn1, xn2, xn3, xn4, xn5, xn6, xn7, xv1, xv2, xv3, xv4, xv5, xv6, xv7]
    · skip
      simp (decide := true) only [g123, c1, c2, xrd_ne, xrd_eq, xrd_n2, xrd_J, xrd_K, ite_true, ite_false, if_true, if_false, and_true, true_and] at h
      simp (decide := true) only [p123, b123_0, b123_4, b123_7, b123_12, b123_13, b123_17, b123_22, b123_26, b123_33, b123_40, b123_46, b123_47, b123_51, b123_60, b123_72, b123_82, b116_0, b116_4, b116_9, b116_13, b114_0, c1, c2, h, xrd_ne, xrd_eq, xrd_n2, xrd_J, xrd_K, xsimp_1, xsimp_2, xtl, xtl0, xbit_0, xbit_1, exists_eq_left, and_assoc, exists_and_left, if_true, if_false, true_and, and_true, not_true, not_false_iff, x6, Int32.neg_neg, x01, x11, x21, x31, x41, x51, xn1, xn2, xn3, xn4, xn5, xn6, xn7, xv1, xv2, xv3, xv4, xv5, xv6, xv7]
/-- X10_limit -/
def p124 (S : xS) (v1 : Int32) (v2 : Int32) : Option Value × xS := if (v1 : Int32) < 0 then ((some (.int (-6)), (xwI S 84 6 ((S.1 84 6) + 1)))) else (if (2 : Int32) < v1 then ((some (.int (-6)), (xwI S 84 6 ((S.1 84 6) + 1)))) else (if (v1 : Int32) = 0 then (if (v2 : Int32) < 1 then ((some (.int (-6)), (xwI S 84 6 ((S.1 84 6) + 1)))) else (if (400 : Int32) < v2 then ((some (.int (-6)), (xwI S 84 6 ((S.1 84 6) + 1)))) else (if ((S.1 54 15) : Int32) = 0 then ((some (.int (S.1 54 8)), (xwI S 54 8 v2))) else ((some (.int (-6)), (xwI S 84 6 ((S.1 84 6) + 1))))))) else (if (v2 : Int32) < 0 then ((some (.int (-6)), (xwI S 84 6 ((S.1 84 6) + 1)))) else (if (v1 : Int32) = 2 then (if (1000 : Int32) < v2 then ((some (.int (-6)), (xwI S 84 6 ((S.1 84 6) + 1)))) else (if ((S.1 54 15) : Int32) = 0 then ((some (.int (S.1 54 7)), (xwI S 54 7 v2))) else ((some (.int (-6)), (xwI S 84 6 ((S.1 84 6) + 1)))))) else (if (400 : Int32) < v2 then ((some (.int (-6)), (xwI S 84 6 ((S.1 84 6) + 1)))) else (if ((S.1 54 15) : Int32) = 0 then (if (v1 : Int32) = 1 then ((some (.int (S.1 54 9)), (xwI S 54 9 v2))) else ((some (.int (S.1 54 7)), (xwI S 54 7 v2)))) else ((some (.int (-6)), (xwI S 84 6 ((S.1 84 6) + 1))))))))))
theorem t124 (d : Nat) (v1 : Int32) (v2 : Int32) (S : xS) (r : Option Value × xS) : xX (d + 1) 124 0 [(0, .ref 54), (1, .int v1), (2, .int v2)] [] S r ↔ r = p124 S v1 v2 := by
  by_cases c1 : (v1 : Int32) < 0
  · skip
    simp (decide := true) only [p124, b124_0, b124_4, b124_9, b124_14, b124_18, b124_22, b124_28, b124_34, b124_40, b124_47, b124_53, b124_54, b124_58, b124_65, b124_70, b124_77, b124_86, b124_94, b124_99, b124_107, b114_0, c1, xrd_ne, xrd_eq, xrd_n2, xrd_J, xrd_K, xsimp_1, xsimp_2, xtl, xtl0, xbit_0, xbit_1, exists_eq_left, and_assoc, exists_and_left, if_true, if_false, true_and, and_true, not_true, not_false_iff, x6, Int32.neg_neg, x01, x11, x21, x31, x41, x51, xn1, xn2, xn3, xn4, xn5, xn6, xn7, xv1, xv2, xv3, xv4, xv5, xv6, xv7]
  · skip
    by_cases c2 : (2 : Int32) < v1
    · skip
      simp (decide := true) only [p124, b124_0, b124_4, b124_9, b124_14, b124_18, b124_22, b124_28, b124_34, b124_40, b124_47, b124_53, b124_54, b124_58, b124_65, b124_70, b124_77, b124_86, b124_94, b124_99, b124_107, b114_0, c1, c2, xrd_ne, xrd_eq, xrd_n2, xrd_J, xrd_K, xsimp_1, xsimp_2, xtl, xtl0, xbit_0, xbit_1, exists_eq_left, and_assoc, exists_and_left, if_true, if_false, true_and, and_true, not_true, not_false_iff, x6, Int32.neg_neg, x01, x11, x21, x31, x41, x51, xn1, xn2, xn3, xn4, xn5, xn6, xn7, xv1, xv2, xv3, xv4, xv5, xv6, xv7]
    · skip
      by_cases c3 : (v1 : Int32) = 0
      · skip
        by_cases c4 : (v2 : Int32) < 1
        · skip
          simp (decide := true) only [p124, b124_0, b124_4, b124_9, b124_14, b124_18, b124_22, b124_28, b124_34, b124_40, b124_47, b124_53, b124_54, b124_58, b124_65, b124_70, b124_77, b124_86, b124_94, b124_99, b124_107, b114_0, c1, c2, c3, c4, xrd_ne, xrd_eq, xrd_n2, xrd_J, xrd_K, xsimp_1, xsimp_2, xtl, xtl0, xbit_0, xbit_1, exists_eq_left, and_assoc, exists_and_left, if_true, if_false, true_and, and_true, not_true, not_false_iff, x6, Int32.neg_neg, x01, x11, x21, x31, x41, x51, xn1, xn2, xn3, xn4, xn5, xn6, xn7, xv1, xv2, xv3, xv4, xv5, xv6, xv7]
        · skip
          by_cases c5 : (400 : Int32) < v2
          · skip
            simp (decide := true) only [p124, b124_0, b124_4, b124_9, b124_14, b124_18, b124_22, b124_28, b124_34, b124_40, b124_47, b124_53, b124_54, b124_58, b124_65, b124_70, b124_77, b124_86, b124_94, b124_99, b124_107, b114_0, c1, c2, c3, c4, c5, xrd_ne, xrd_eq, xrd_n2, xrd_J, xrd_K, xsimp_1, xsimp_2, xtl, xtl0, xbit_0, xbit_1, exists_eq_left, and_assoc, exists_and_left, if_true, if_false, true_and, and_true, not_true, not_false_iff, x6, Int32.neg_neg, x01, x11, x21, x31, x41, x51, xn1, xn2, xn3, xn4, xn5, xn6, xn7, xv1, xv2, xv3, xv4, xv5, xv6, xv7]
          · skip
            by_cases c6 : ((S.1 54 15) : Int32) = 0
            · skip
              simp (decide := true) only [p124, b124_0, b124_4, b124_9, b124_14, b124_18, b124_22, b124_28, b124_34, b124_40, b124_47, b124_53, b124_54, b124_58, b124_65, b124_70, b124_77, b124_86, b124_94, b124_99, b124_107, b114_0, c1, c2, c3, c4, c5, c6, xrd_ne, xrd_eq, xrd_n2, xrd_J, xrd_K, xsimp_1, xsimp_2, xtl, xtl0, xbit_0, xbit_1, exists_eq_left, and_assoc, exists_and_left, if_true, if_false, true_and, and_true, not_true, not_false_iff, x6, Int32.neg_neg, x01, x11, x21, x31, x41, x51, xn1, xn2, xn3, xn4, xn5, xn6, xn7, xv1, xv2, xv3, xv4, xv5, xv6, xv7]
            · skip
              simp (decide := true) only [p124, b124_0, b124_4, b124_9, b124_14, b124_18, b124_22, b124_28, b124_34, b124_40, b124_47, b124_53, b124_54, b124_58, b124_65, b124_70, b124_77, b124_86, b124_94, b124_99, b124_107, b114_0, c1, c2, c3, c4, c5, c6, xrd_ne, xrd_eq, xrd_n2, xrd_J, xrd_K, xsimp_1, xsimp_2, xtl, xtl0, xbit_0, xbit_1, exists_eq_left, and_assoc, exists_and_left, if_true, if_false, true_and, and_true, not_true, not_false_iff, x6, Int32.neg_neg, x01, x11, x21, x31, x41, x51, xn1, xn2, xn3, xn4, xn5, xn6, xn7, xv1, xv2, xv3, xv4, xv5, xv6, xv7]
      · skip
        by_cases c4 : (v2 : Int32) < 0
        · skip
          simp (decide := true) only [p124, b124_0, b124_4, b124_9, b124_14, b124_18, b124_22, b124_28, b124_34, b124_40, b124_47, b124_53, b124_54, b124_58, b124_65, b124_70, b124_77, b124_86, b124_94, b124_99, b124_107, b114_0, c1, c2, c3, c4, xrd_ne, xrd_eq, xrd_n2, xrd_J, xrd_K, xsimp_1, xsimp_2, xtl, xtl0, xbit_0, xbit_1, exists_eq_left, and_assoc, exists_and_left, if_true, if_false, true_and, and_true, not_true, not_false_iff, x6, Int32.neg_neg, x01, x11, x21, x31, x41, x51, xn1, xn2, xn3, xn4, xn5, xn6, xn7, xv1, xv2, xv3, xv4, xv5, xv6, xv7]
        · skip
          by_cases c5 : (v1 : Int32) = 2
          · skip
            by_cases c6 : (1000 : Int32) < v2
            · skip
              simp (decide := true) only [p124, b124_0, b124_4, b124_9, b124_14, b124_18, b124_22, b124_28, b124_34, b124_40, b124_47, b124_53, b124_54, b124_58, b124_65, b124_70, b124_77, b124_86, b124_94, b124_99, b124_107, b114_0, c1, c2, c3, c4, c5, c6, xrd_ne, xrd_eq, xrd_n2, xrd_J, xrd_K, xsimp_1, xsimp_2, xtl, xtl0, xbit_0, xbit_1, exists_eq_left, and_assoc, exists_and_left, if_true, if_false, true_and, and_true, not_true, not_false_iff, x6, Int32.neg_neg, x01, x11, x21, x31, x41, x51, xn1, xn2, xn3, xn4, xn5, xn6, xn7, xv1, xv2, xv3, xv4, xv5, xv6, xv7]
            · skip
              by_cases c7 : ((S.1 54 15) : Int32) = 0
              · skip
                simp (decide := true) only [p124, b124_0, b124_4, b124_9, b124_14, b124_18, b124_22, b124_28, b124_34, b124_40, b124_47, b124_53, b124_54, b124_58, b124_65, b124_70, b124_77, b124_86, b124_94, b124_99, b124_107, b114_0, c1, c2, c3, c4, c5, c6, c7, xrd_ne, xrd_eq, xrd_n2, xrd_J, xrd_K, xsimp_1, xsimp_2, xtl, xtl0, xbit_0, xbit_1, exists_eq_left, and_assoc, exists_and_left, if_true, if_false, true_and, and_true, not_true, not_false_iff, x6, Int32.neg_neg, x01, x11, x21, x31, x41, x51, xn1, xn2, xn3, xn4, xn5, xn6, xn7, xv1, xv2, xv3, xv4, xv5, xv6, xv7]
              · skip
                simp (decide := true) only [p124, b124_0, b124_4, b124_9, b124_14, b124_18, b124_22, b124_28, b124_34, b124_40, b124_47, b124_53, b124_54, b124_58, b124_65, b124_70, b124_77, b124_86, b124_94, b124_99, b124_107, b114_0, c1, c2, c3, c4, c5, c6, c7, xrd_ne, xrd_eq, xrd_n2, xrd_J, xrd_K, xsimp_1, xsimp_2, xtl, xtl0, xbit_0, xbit_1, exists_eq_left, and_assoc, exists_and_left, if_true, if_false, true_and, and_true, not_true, not_false_iff, x6, Int32.neg_neg, x01, x11, x21, x31, x41, x51, xn1, xn2, xn3, xn4, xn5, xn6, xn7, xv1, xv2, xv3, xv4, xv5, xv6, xv7]
          · skip
            by_cases c6 : (400 : Int32) < v2
            · skip
              simp (decide := true) only [p124, b124_0, b124_4, b124_9, b124_14, b124_18, b124_22, b124_28, b124_34, b124_40, b124_47, b124_53, b124_54, b124_58, b124_65, b124_70, b124_77, b124_86, b124_94, b124_99, b124_107, b114_0, c1, c2, c3, c4, c5, c6, xrd_ne, xrd_eq, xrd_n2, xrd_J, xrd_K, xsimp_1, xsimp_2, xtl, xtl0, xbit_0, xbit_1, exists_eq_left, and_assoc, exists_and_left, if_true, if_false, true_and, and_true, not_true, not_false_iff, x6, Int32.neg_neg, x01, x11, x21, x31, x41, x51, xn1, xn2, xn3, xn4, xn5, xn6, xn7, xv1, xv2, xv3, xv4, xv5, xv6, xv7]
            · skip
              by_cases c7 : ((S.1 54 15) : Int32) = 0
              · skip
                by_cases c8 : (v1 : Int32) = 1
                · skip
                  simp (decide := true) only [p124, b124_0, b124_4, b124_9, b124_14, b124_18, b124_22, b124_28, b124_34, b124_40, b124_47, b124_53, b124_54, b124_58, b124_65, b124_70, b124_77, b124_86, b124_94, b124_99, b124_107, b114_0, c1, c2, c3, c4, c5, c6, c7, c8, xrd_ne, xrd_eq, xrd_n2, xrd_J, xrd_K, xsimp_1, xsimp_2, xtl, xtl0, xbit_0, xbit_1, exists_eq_left, and_assoc, exists_and_left, if_true, if_false, true_and, and_true, not_true, not_false_iff, x6, Int32.neg_neg, x01, x11, x21, x31, x41, x51, xn1, xn2, xn3, xn4, xn5, xn6, xn7, xv1, xv2, xv3, xv4, xv5, xv6, xv7]
                · skip
                  simp (decide := true) only [p124, b124_0, b124_4, b124_9, b124_14, b124_18, b124_22, b124_28, b124_34, b124_40, b124_47, b124_53, b124_54, b124_58, b124_65, b124_70, b124_77, b124_86, b124_94, b124_99, b124_107, b114_0, c1, c2, c3, c4, c5, c6, c7, c8, xrd_ne, xrd_eq, xrd_n2, xrd_J, xrd_K, xsimp_1, xsimp_2, xtl, xtl0, xbit_0, xbit_1, exists_eq_left, and_assoc, exists_and_left, if_true, if_false, true_and, and_true, not_true, not_false_iff, x6, Int32.neg_neg, x01, x11, x21, x31, x41, x51, xn1, xn2, xn3, xn4, xn5, xn6, xn7, xv1, xv2, xv3, xv4, xv5, xv6, xv7]
              · skip
                simp (decide := true) only [p124, b124_0, b124_4, b124_9, b124_14, b124_18, b124_22, b124_28, b124_34, b124_40, b124_47, b124_53, b124_54, b124_58, b124_65, b124_70, b124_77, b124_86, b124_94, b124_99, b124_107, b114_0, c1, c2, c3, c4, c5, c6, c7, xrd_ne, xrd_eq, xrd_n2, xrd_J, xrd_K, xsimp_1, xsimp_2, xtl, xtl0, xbit_0, xbit_1, exists_eq_left, and_assoc, exists_and_left, if_true, if_false, true_and, and_true, not_true, not_false_iff, x6, Int32.neg_neg, x01, x11, x21, x31, x41, x51, xn1, xn2, xn3, xn4, xn5, xn6, xn7, xv1, xv2, xv3, xv4, xv5, xv6, xv7]
/-- X10_folk -/
def p125 (S : xS) (v1 : Int32) (v2 : Int32) (v3 : Int32) : Option Value × xS := if (v1 : Int32) < 0 then ((some (.int (-1)), (xwI S 84 1 ((S.1 84 1) + 1)))) else (if (v1 : Int32) < (S.1 54 0) then (if (v2 : Int32) < 0 then ((some (.int (-1)), (xwI S 84 1 ((S.1 84 1) + 1)))) else (if (v2 : Int32) < 3 then (if (v3 : Int32) < 0 then ((some (.int (-6)), (xwI S 84 6 ((S.1 84 6) + 1)))) else (if (40 : Int32) < v3 then ((some (.int (-6)), (xwI S 84 6 ((S.1 84 6) + 1)))) else (if ((S.1 54 15) : Int32) = 0 then ((some (.int (S.1 65 ((3 * v1) + v2).toNatClampNeg)), (xwI (xwI S 65 ((3 * v1) + v2).toNatClampNeg v3) 66 ((3 * v1) + v2).toNatClampNeg v3))) else ((some (.int (-6)), (xwI S 84 6 ((S.1 84 6) + 1))))))) else ((some (.int (-1)), (xwI S 84 1 ((S.1 84 1) + 1)))))) else ((some (.int (-1)), (xwI S 84 1 ((S.1 84 1) + 1)))))
def g125 (S : xS) (v1 : Int32) (v2 : Int32) (v3 : Int32) : Prop := (if (v1 : Int32) < 0 then True else (if (v1 : Int32) < (S.1 54 0) then (if (v2 : Int32) < 0 then True else (if (v2 : Int32) < 3 then (if (v3 : Int32) < 0 then True else (if (40 : Int32) < v3 then True else (if ((S.1 54 15) : Int32) = 0 then (vp_in ((3 * v1) + v2) 30 ∧ (vp_in ((3 * v1) + v2) 30 ∧ (vp_in ((3 * v1) + v2) 30 ∧ True))) else True))) else True)) else True))
theorem t125 (d : Nat) (v1 : Int32) (v2 : Int32) (v3 : Int32) (S : xS) (r : Option Value × xS) (h : g125 S v1 v2 v3) : xX (d + 1) 125 0 [(0, .ref 54), (1, .int v1), (2, .int v2), (3, .int v3)] [] S r ↔ r = p125 S v1 v2 v3 := by
  by_cases c1 : (v1 : Int32) < 0
  · skip
    simp (decide := true) only [g125, c1, xrd_ne, xrd_eq, xrd_n2, xrd_J, xrd_K, ite_true, ite_false, if_true, if_false, and_true, true_and] at h
    simp (decide := true) only [p125, b125_0, b125_5, b125_8, b125_12, b125_15, b125_20, b125_21, b125_25, b125_31, b125_38, b125_44, b125_45, b117_0, b117_4, b117_9, b117_13, b115_0, b115_4, b115_12, b115_16, b114_0, c1, h, xrd_ne, xrd_eq, xrd_n2, xrd_J, xrd_K, xsimp_1, xsimp_2, xtl, xtl0, xbit_0, xbit_1, exists_eq_left, and_assoc, exists_and_left, if_true, if_false, true_and, and_true, not_true, not_false_iff, x6, Int32.neg_neg, x01, x11, x21, x31, x41, x51, xn1, xn2, xn3, xn4, xn5, xn6, xn7, xv1, xv2, xv3, xv4, xv5, xv6, xv7]
  · skip
    by_cases c2 : (v1 : Int32) < (S.1 54 0)
    · skip
      by_cases c3 : (v2 : Int32) < 0
      · skip
        simp (decide := true) only [g125, c1, c2, c3, xrd_ne, xrd_eq, xrd_n2, xrd_J, xrd_K, ite_true, ite_false, if_true, if_false, and_true, true_and] at h
        simp (decide := true) only [p125, b125_0, b125_5, b125_8, b125_12, b125_15, b125_20, b125_21, b125_25, b125_31, b125_38, b125_44, b125_45, b117_0, b117_4, b117_9, b117_13, b115_0, b115_4, b115_12, b115_16, b114_0, c1, c2, c3, h, xrd_ne, xrd_eq, xrd_n2, xrd_J, xrd_K, xsimp_1, xsimp_2, xtl, xtl0, xbit_0, xbit_1, exists_eq_left, and_assoc, exists_and_left, if_true, if_false, true_and, and_true, not_true, not_false_iff, x6, Int32.neg_neg, x01, x11, x21, x31, x41, x51, xn1, xn2, xn3, xn4, xn5, xn6, xn7, xv1, xv2, xv3, xv4, xv5, xv6, xv7]
      · skip
        by_cases c4 : (v2 : Int32) < 3
        · skip
          by_cases c5 : (v3 : Int32) < 0
          · skip
            simp (decide := true) only [g125, c1, c2, c3, c4, c5, xrd_ne, xrd_eq, xrd_n2, xrd_J, xrd_K, ite_true, ite_false, if_true, if_false, and_true, true_and] at h
            simp (decide := true) only [p125, b125_0, b125_5, b125_8, b125_12, b125_15, b125_20, b125_21, b125_25, b125_31, b125_38, b125_44, b125_45, b117_0, b117_4, b117_9, b117_13, b115_0, b115_4, b115_12, b115_16, b114_0, c1, c2, c3, c4, c5, h, xrd_ne, xrd_eq, xrd_n2, xrd_J, xrd_K, xsimp_1, xsimp_2, xtl, xtl0, xbit_0, xbit_1, exists_eq_left, and_assoc, exists_and_left, if_true, if_false, true_and, and_true, not_true, not_false_iff, x6, Int32.neg_neg, x01, x11, x21, x31, x41, x51, xn1, xn2, xn3, xn4, xn5, xn6, xn7, xv1, xv2, xv3, xv4, xv5, xv6, xv7]
          · skip
            by_cases c6 : (40 : Int32) < v3
            · skip
              simp (decide := true) only [g125, c1, c2, c3, c4, c5, c6, xrd_ne, xrd_eq, xrd_n2, xrd_J, xrd_K, ite_true, ite_false, if_true, if_false, and_true, true_and] at h
              simp (decide := true) only [p125, b125_0, b125_5, b125_8, b125_12, b125_15, b125_20, b125_21, b125_25, b125_31, b125_38, b125_44, b125_45, b117_0, b117_4, b117_9, b117_13, b115_0, b115_4, b115_12, b115_16, b114_0, c1, c2, c3, c4, c5, c6, h, xrd_ne, xrd_eq, xrd_n2, xrd_J, xrd_K, xsimp_1, xsimp_2, xtl, xtl0, xbit_0, xbit_1, exists_eq_left, and_assoc, exists_and_left, if_true, if_false, true_and, and_true, not_true, not_false_iff, x6, Int32.neg_neg, x01, x11, x21, x31, x41, x51, xn1, xn2, xn3, xn4, xn5, xn6, xn7, xv1, xv2, xv3, xv4, xv5, xv6, xv7]
            · skip
              by_cases c7 : ((S.1 54 15) : Int32) = 0
              · skip
                simp (decide := true) only [g125, c1, c2, c3, c4, c5, c6, c7, xrd_ne, xrd_eq, xrd_n2, xrd_J, xrd_K, ite_true, ite_false, if_true, if_false, and_true, true_and] at h
                simp (decide := true) only [p125, b125_0, b125_5, b125_8, b125_12, b125_15, b125_20, b125_21, b125_25, b125_31, b125_38, b125_44, b125_45, b117_0, b117_4, b117_9, b117_13, b115_0, b115_4, b115_12, b115_16, b114_0, c1, c2, c3, c4, c5, c6, c7, h, xrd_ne, xrd_eq, xrd_n2, xrd_J, xrd_K, xsimp_1, xsimp_2, xtl, xtl0, xbit_0, xbit_1, exists_eq_left, and_assoc, exists_and_left, if_true, if_false, true_and, and_true, not_true, not_false_iff, x6, Int32.neg_neg, x01, x11, x21, x31, x41, x51, xn1, xn2, xn3, xn4, xn5, xn6, xn7, xv1, xv2, xv3, xv4, xv5, xv6, xv7]
              · skip
                simp (decide := true) only [g125, c1, c2, c3, c4, c5, c6, c7, xrd_ne, xrd_eq, xrd_n2, xrd_J, xrd_K, ite_true, ite_false, if_true, if_false, and_true, true_and] at h
                simp (decide := true) only [p125, b125_0, b125_5, b125_8, b125_12, b125_15, b125_20, b125_21, b125_25, b125_31, b125_38, b125_44, b125_45, b117_0, b117_4, b117_9, b117_13, b115_0, b115_4, b115_12, b115_16, b114_0, c1, c2, c3, c4, c5, c6, c7, h, xrd_ne, xrd_eq, xrd_n2, xrd_J, xrd_K, xsimp_1, xsimp_2, xtl, xtl0, xbit_0, xbit_1, exists_eq_left, and_assoc, exists_and_left, if_true, if_false, true_and, and_true, not_true, not_false_iff, x6, Int32.neg_neg, x01, x11, x21, x31, x41, x51, xn1, xn2, xn3, xn4, xn5, xn6, xn7, xv1, xv2, xv3, xv4, xv5, xv6, xv7]
        · skip
          simp (decide := true) only [g125, c1, c2, c3, c4, xrd_ne, xrd_eq, xrd_n2, xrd_J, xrd_K, ite_true, ite_false, if_true, if_false, and_true, true_and] at h
          simp (decide := true) only [p125, b125_0, b125_5, b125_8, b125_12, b125_15, b125_20, b125_21, b125_25, b125_31, b125_38, b125_44, b125_45, b117_0, b117_4, b117_9, b117_13, b115_0, b115_4, b115_12, b115_16, b114_0, c1, c2, c3, c4, h, xrd_ne, xrd_eq, xrd_n2, xrd_J, xrd_K, xsimp_1, xsimp_2, xtl, xtl0, xbit_0, xbit_1, exists_eq_left, and_assoc, exists_and_left, if_true, if_false, true_and, and_true, not_true, not_false_iff, x6, Int32.neg_neg, x01, x11, x21, x31, x41, x51, xn1, xn2, xn3, xn4, xn5, xn6, xn7, xv1, xv2, xv3, xv4, xv5, xv6, xv7]
    · skip
      simp (decide := true) only [g125, c1, c2, xrd_ne, xrd_eq, xrd_n2, xrd_J, xrd_K, ite_true, ite_false, if_true, if_false, and_true, true_and] at h
      simp (decide := true) only [p125, b125_0, b125_5, b125_8, b125_12, b125_15, b125_20, b125_21, b125_25, b125_31, b125_38, b125_44, b125_45, b117_0, b117_4, b117_9, b117_13, b115_0, b115_4, b115_12, b115_16, b114_0, c1, c2, h, xrd_ne, xrd_eq, xrd_n2, xrd_J, xrd_K, xsimp_1, xsimp_2, xtl, xtl0, xbit_0, xbit_1, exists_eq_left, and_assoc, exists_and_left, if_true, if_false, true_and, and_true, not_true, not_false_iff, x6, Int32.neg_neg, x01, x11, x21, x31, x41, x51, xn1, xn2, xn3, xn4, xn5, xn6, xn7, xv1, xv2, xv3, xv4, xv5, xv6, xv7]
/-- X10_kind -/
def p126 (S : xS) (v1 : Int32) (v2 : Int32) (v3 : Int32) : Option Value × xS := if (v1 : Int32) < 0 then ((some (.int (-1)), (xwI S 84 1 ((S.1 84 1) + 1)))) else (if (v1 : Int32) < 3 then (if (v2 : Int32) < 0 then ((some (.int (-6)), (xwI S 84 6 ((S.1 84 6) + 1)))) else (if (4 : Int32) < v2 then ((some (.int (-6)), (xwI S 84 6 ((S.1 84 6) + 1)))) else (if (v3 : Int32) < 0 then ((some (.int (-6)), (xwI S 84 6 ((S.1 84 6) + 1)))) else (if (100 : Int32) < v3 then ((some (.int (-6)), (xwI S 84 6 ((S.1 84 6) + 1)))) else (if ((S.1 54 15) : Int32) = 0 then ((some (.int (S.1 70 ((5 * v1) + v2).toNatClampNeg)), (xwI S 70 ((5 * v1) + v2).toNatClampNeg v3))) else ((some (.int (-6)), (xwI S 84 6 ((S.1 84 6) + 1))))))))) else ((some (.int (-1)), (xwI S 84 1 ((S.1 84 1) + 1)))))
def g126 (S : xS) (v1 : Int32) (v2 : Int32) (v3 : Int32) : Prop := (if (v1 : Int32) < 0 then True else (if (v1 : Int32) < 3 then (if (v2 : Int32) < 0 then True else (if (4 : Int32) < v2 then True else (if (v3 : Int32) < 0 then True else (if (100 : Int32) < v3 then True else (if ((S.1 54 15) : Int32) = 0 then (vp_in ((5 * v1) + v2) 15 ∧ (vp_in ((5 * v1) + v2) 15 ∧ True)) else True))))) else True))
theorem t126 (d : Nat) (v1 : Int32) (v2 : Int32) (v3 : Int32) (S : xS) (r : Option Value × xS) (h : g126 S v1 v2 v3) : xX (d + 1) 126 0 [(0, .ref 54), (1, .int v1), (2, .int v2), (3, .int v3)] [] S r ↔ r = p126 S v1 v2 v3 := by
  by_cases c1 : (v1 : Int32) < 0
  · skip
    simp (decide := true) only [g126, c1, xrd_ne, xrd_eq, xrd_n2, xrd_J, xrd_K, ite_true, ite_false, if_true, if_false, and_true, true_and] at h
    simp (decide := true) only [p126, b126_0, b126_4, b126_7, b126_12, b126_13, b126_17, b126_22, b126_26, b126_32, b126_39, b126_45, b126_46, b117_0, b117_4, b117_9, b117_13, b114_0, c1, h, xrd_ne, xrd_eq, xrd_n2, xrd_J, xrd_K, xsimp_1, xsimp_2, xtl, xtl0, xbit_0, xbit_1, exists_eq_left, and_assoc, exists_and_left, if_true, if_false, true_and, and_true, not_true, not_false_iff, x6, Int32.neg_neg, x01, x11, x21, x31, x41, x51, xn1, xn2, xn3, xn4, xn5, xn6, xn7, xv1, xv2, xv3, xv4, xv5, xv6, xv7]
  · skip
    by_cases c2 : (v1 : Int32) < 3
    · skip
      by_cases c3 : (v2 : Int32) < 0
      · skip
        simp (decide := true) only [g126, c1, c2, c3, xrd_ne, xrd_eq, xrd_n2, xrd_J, xrd_K, ite_true, ite_false, if_true, if_false, and_true, true_and] at h
        simp (decide := true) only [p126, b126_0, b126_4, b126_7, b126_12, b126_13, b126_17, b126_22, b126_26, b126_32, b126_39, b126_45, b126_46, b117_0, b117_4, b117_9, b117_13, b114_0, c1, c2, c3, h, xrd_ne, xrd_eq, xrd_n2, xrd_J, xrd_K, xsimp_1, xsimp_2, xtl, xtl0, xbit_0, xbit_1, exists_eq_left, and_assoc, exists_and_left, if_true, if_false, true_and, and_true, not_true, not_false_iff, x6, Int32.neg_neg, x01, x11, x21, x31, x41, x51, xn1, xn2, xn3, xn4, xn5, xn6, xn7, xv1, xv2, xv3, xv4, xv5, xv6, xv7]
      · skip
        by_cases c4 : (4 : Int32) < v2
        · skip
          simp (decide := true) only [g126, c1, c2, c3, c4, xrd_ne, xrd_eq, xrd_n2, xrd_J, xrd_K, ite_true, ite_false, if_true, if_false, and_true, true_and] at h
          simp (decide := true) only [p126, b126_0, b126_4, b126_7, b126_12, b126_13, b126_17, b126_22, b126_26, b126_32, b126_39, b126_45, b126_46, b117_0, b117_4, b117_9, b117_13, b114_0, c1, c2, c3, c4, h, xrd_ne, xrd_eq, xrd_n2, xrd_J, xrd_K, xsimp_1, xsimp_2, xtl, xtl0, xbit_0, xbit_1, exists_eq_left, and_assoc, exists_and_left, if_true, if_false, true_and, and_true, not_true, not_false_iff, x6, Int32.neg_neg, x01, x11, x21, x31, x41, x51, xn1, xn2, xn3, xn4, xn5, xn6, xn7, xv1, xv2, xv3, xv4, xv5, xv6, xv7]
        · skip
          by_cases c5 : (v3 : Int32) < 0
          · skip
            simp (decide := true) only [g126, c1, c2, c3, c4, c5, xrd_ne, xrd_eq, xrd_n2, xrd_J, xrd_K, ite_true, ite_false, if_true, if_false, and_true, true_and] at h
            simp (decide := true) only [p126, b126_0, b126_4, b126_7, b126_12, b126_13, b126_17, b126_22, b126_26, b126_32, b126_39, b126_45, b126_46, b117_0, b117_4, b117_9, b117_13, b114_0, c1, c2, c3, c4, c5, h, xrd_ne, xrd_eq, xrd_n2, xrd_J, xrd_K, xsimp_1, xsimp_2, xtl, xtl0, xbit_0, xbit_1, exists_eq_left, and_assoc, exists_and_left, if_true, if_false, true_and, and_true, not_true, not_false_iff, x6, Int32.neg_neg, x01, x11, x21, x31, x41, x51, xn1, xn2, xn3, xn4, xn5, xn6, xn7, xv1, xv2, xv3, xv4, xv5, xv6, xv7]
          · skip
            by_cases c6 : (100 : Int32) < v3
            · skip
              simp (decide := true) only [g126, c1, c2, c3, c4, c5, c6, xrd_ne, xrd_eq, xrd_n2, xrd_J, xrd_K, ite_true, ite_false, if_true, if_false, and_true, true_and] at h
              simp (decide := true) only [p126, b126_0, b126_4, b126_7, b126_12, b126_13, b126_17, b126_22, b126_26, b126_32, b126_39, b126_45, b126_46, b117_0, b117_4, b117_9, b117_13, b114_0, c1, c2, c3, c4, c5, c6, h, xrd_ne, xrd_eq, xrd_n2, xrd_J, xrd_K, xsimp_1, xsimp_2, xtl, xtl0, xbit_0, xbit_1, exists_eq_left, and_assoc, exists_and_left, if_true, if_false, true_and, and_true, not_true, not_false_iff, x6, Int32.neg_neg, x01, x11, x21, x31, x41, x51, xn1, xn2, xn3, xn4, xn5, xn6, xn7, xv1, xv2, xv3, xv4, xv5, xv6, xv7]
            · skip
              by_cases c7 : ((S.1 54 15) : Int32) = 0
              · skip
                simp (decide := true) only [g126, c1, c2, c3, c4, c5, c6, c7, xrd_ne, xrd_eq, xrd_n2, xrd_J, xrd_K, ite_true, ite_false, if_true, if_false, and_true, true_and] at h
                simp (decide := true) only [p126, b126_0, b126_4, b126_7, b126_12, b126_13, b126_17, b126_22, b126_26, b126_32, b126_39, b126_45, b126_46, b117_0, b117_4, b117_9, b117_13, b114_0, c1, c2, c3, c4, c5, c6, c7, h, xrd_ne, xrd_eq, xrd_n2, xrd_J, xrd_K, xsimp_1, xsimp_2, xtl, xtl0, xbit_0, xbit_1, exists_eq_left, and_assoc, exists_and_left, if_true, if_false, true_and, and_true, not_true, not_false_iff, x6, Int32.neg_neg, x01, x11, x21, x31, x41, x51, xn1, xn2, xn3, xn4, xn5, xn6, xn7, xv1, xv2, xv3, xv4, xv5, xv6, xv7]
              · skip
                simp (decide := true) only [g126, c1, c2, c3, c4, c5, c6, c7, xrd_ne, xrd_eq, xrd_n2, xrd_J, xrd_K, ite_true, ite_false, if_true, if_false, and_true, true_and] at h
                simp (decide := true) only [p126, b126_0, b126_4, b126_7, b126_12, b126_13, b126_17, b126_22, b126_26, b126_32, b126_39, b126_45, b126_46, b117_0, b117_4, b117_9, b117_13, b114_0, c1, c2, c3, c4, c5, c6, c7, h, xrd_ne, xrd_eq, xrd_n2, xrd_J, xrd_K, xsimp_1, xsimp_2, xtl, xtl0, xbit_0, xbit_1, exists_eq_left, and_assoc, exists_and_left, if_true, if_false, true_and, and_true, not_true, not_false_iff, x6, Int32.neg_neg, x01, x11, x21, x31, x41, x51, xn1, xn2, xn3, xn4, xn5, xn6, xn7, xv1, xv2, xv3, xv4, xv5, xv6, xv7]
    · skip
      simp (decide := true) only [g126, c1, c2, xrd_ne, xrd_eq, xrd_n2, xrd_J, xrd_K, ite_true, ite_false, if_true, if_false, and_true, true_and] at h
      simp (decide := true) only [p126, b126_0, b126_4, b126_7, b126_12, b126_13, b126_17, b126_22, b126_26, b126_32, b126_39, b126_45, b126_46, b117_0, b117_4, b117_9, b117_13, b114_0, c1, c2, h, xrd_ne, xrd_eq, xrd_n2, xrd_J, xrd_K, xsimp_1, xsimp_2, xtl, xtl0, xbit_0, xbit_1, exists_eq_left, and_assoc, exists_and_left, if_true, if_false, true_and, and_true, not_true, not_false_iff, x6, Int32.neg_neg, x01, x11, x21, x31, x41, x51, xn1, xn2, xn3, xn4, xn5, xn6, xn7, xv1, xv2, xv3, xv4, xv5, xv6, xv7]
/-- X10_set -/
def p128 (S : xS) (v1 : Int32) (v2 : Int32) (v3 : Int64) : Option Value × xS := if (v1 : Int32) < 0 then ((some (.int (-1)), (xwI S 84 1 ((S.1 84 1) + 1)))) else (if (v1 : Int32) < 8 then (if ((S.1 71 v1.toNatClampNeg) : Int32) = 2 then ((some (.int (-2)), (xwI S 84 2 ((S.1 84 2) + 1)))) else (if ((S.1 71 v1.toNatClampNeg) : Int32) = 0 then ((some (.int (-3)), (xwI S 84 3 ((S.1 84 3) + 1)))) else (if (v2 : Int32) < 0 then ((some (.int (-5)), (xwI S 84 5 ((S.1 84 5) + 1)))) else (if (v2 : Int32) < (S.1 73 v1.toNatClampNeg) then (if ((S.1 72 v1.toNatClampNeg) : Int32) = 0 then ((some (.int 1), (xwJ S 75 ((60 * v1) + v2).toNatClampNeg (Int32.toInt64 (Int8.toInt32 (Int32.toInt8 (Int64.toInt32 v3))))))) else (if ((S.1 72 v1.toNatClampNeg) : Int32) = 1 then ((some (.int 1), (xwJ S 75 ((60 * v1) + v2).toNatClampNeg (Int32.toInt64 (Int16.toInt32 (Int32.toInt16 (Int64.toInt32 v3))))))) else (if ((S.1 72 v1.toNatClampNeg) : Int32) = 2 then ((some (.int 1), (xwJ S 75 ((60 * v1) + v2).toNatClampNeg (Int32.toInt64 (Int64.toInt32 v3))))) else ((some (.int 1), (xwJ S 75 ((60 * v1) + v2).toNatClampNeg v3)))))) else ((some (.int (-5)), (xwI S 84 5 ((S.1 84 5) + 1)))))))) else ((some (.int (-1)), (xwI S 84 1 ((S.1 84 1) + 1)))))
def g128 (S : xS) (v1 : Int32) (v2 : Int32) (v3 : Int64) : Prop := (if (v1 : Int32) < 0 then True else (if (v1 : Int32) < 8 then (vp_in v1 8 ∧ (if ((S.1 71 v1.toNatClampNeg) : Int32) = 2 then True else (vp_in v1 8 ∧ (if ((S.1 71 v1.toNatClampNeg) : Int32) = 0 then True else (if (v2 : Int32) < 0 then True else (vp_in v1 8 ∧ (if (v2 : Int32) < (S.1 73 v1.toNatClampNeg) then (vp_in v1 8 ∧ (if ((S.1 72 v1.toNatClampNeg) : Int32) = 0 then (vp_in ((60 * v1) + v2) 480 ∧ True) else (vp_in v1 8 ∧ (if ((S.1 72 v1.toNatClampNeg) : Int32) = 1 then (vp_in ((60 * v1) + v2) 480 ∧ True) else (vp_in v1 8 ∧ (if ((S.1 72 v1.toNatClampNeg) : Int32) = 2 then (vp_in ((60 * v1) + v2) 480 ∧ True) else (vp_in ((60 * v1) + v2) 480 ∧ True))))))) else True))))))) else True))
theorem t128 (d : Nat) (v1 : Int32) (v2 : Int32) (v3 : Int64) (S : xS) (r : Option Value × xS) (h : g128 S v1 v2 v3) : xX (d + 1) 128 0 [(0, .ref 54), (1, .int v1), (2, .int v2), (3, .long v3)] [] S r ↔ r = p128 S v1 v2 v3 := by
  by_cases c1 : (v1 : Int32) < 0
  · skip
    simp (decide := true) only [g128, c1, xrd_ne, xrd_eq, xrd_n2, xrd_J, xrd_K, ite_true, ite_false, if_true, if_false, and_true, true_and] at h
    simp (decide := true) only [p128, b128_0, b128_4, b128_7, b128_12, b128_13, b128_23, b128_29, b128_30, b128_39, b128_45, b128_46, b128_50, b128_60, b128_66, b128_67, b128_86, b128_93, b128_103, b128_110, b128_120, b128_126, b118_0, b118_4, b118_10, b118_14, b114_0, c1, h, xrd_ne, xrd_eq, xrd_n2, xrd_J, xrd_K, xsimp_1, xsimp_2, xtl, xtl0, xbit_0, xbit_1, exists_eq_left, and_assoc, exists_and_left, if_true, if_false, true_and, and_true, not_true, not_false_iff, x6, Int32.neg_neg, x01, x11, x21, x31, x41, x51, xn1, xn2, xn3, xn4, xn5, xn6, xn7, xv1, xv2, xv3, xv4, xv5, xv6, xv7]
  · skip
    by_cases c2 : (v1 : Int32) < 8
    · skip
      by_cases c3 : ((S.1 71 v1.toNatClampNeg) : Int32) = 2
      · skip
        simp (decide := true) only [g128, c1, c2, c3, xrd_ne, xrd_eq, xrd_n2, xrd_J, xrd_K, ite_true, ite_false, if_true, if_false, and_true, true_and] at h
        simp (decide := true) only [p128, b128_0, b128_4, b128_7, b128_12, b128_13, b128_23, b128_29, b128_30, b128_39, b128_45, b128_46, b128_50, b128_60, b128_66, b128_67, b128_86, b128_93, b128_103, b128_110, b128_120, b128_126, b118_0, b118_4, b118_10, b118_14, b114_0, c1, c2, c3, h, xrd_ne, xrd_eq, xrd_n2, xrd_J, xrd_K, xsimp_1, xsimp_2, xtl, xtl0, xbit_0, xbit_1, exists_eq_left, and_assoc, exists_and_left, if_true, if_false, true_and, and_true, not_true, not_false_iff, x6, Int32.neg_neg, x01, x11, x21, x31, x41, x51, xn1, xn2, xn3, xn4, xn5, xn6, xn7, xv1, xv2, xv3, xv4, xv5, xv6, xv7]
      · skip
        by_cases c4 : ((S.1 71 v1.toNatClampNeg) : Int32) = 0
        · skip
          simp (decide := true) only [g128, c1, c2, c3, c4, xrd_ne, xrd_eq, xrd_n2, xrd_J, xrd_K, ite_true, ite_false, if_true, if_false, and_true, true_and] at h
          simp (decide := true) only [p128, b128_0, b128_4, b128_7, b128_12, b128_13, b128_23, b128_29, b128_30, b128_39, b128_45, b128_46, b128_50, b128_60, b128_66, b128_67, b128_86, b128_93, b128_103, b128_110, b128_120, b128_126, b118_0, b118_4, b118_10, b118_14, b114_0, c1, c2, c3, c4, h, xrd_ne, xrd_eq, xrd_n2, xrd_J, xrd_K, xsimp_1, xsimp_2, xtl, xtl0, xbit_0, xbit_1, exists_eq_left, and_assoc, exists_and_left, if_true, if_false, true_and, and_true, not_true, not_false_iff, x6, Int32.neg_neg, x01, x11, x21, x31, x41, x51, xn1, xn2, xn3, xn4, xn5, xn6, xn7, xv1, xv2, xv3, xv4, xv5, xv6, xv7]
        · skip
          by_cases c5 : (v2 : Int32) < 0
          · skip
            simp (decide := true) only [g128, c1, c2, c3, c4, c5, xrd_ne, xrd_eq, xrd_n2, xrd_J, xrd_K, ite_true, ite_false, if_true, if_false, and_true, true_and] at h
            simp (decide := true) only [p128, b128_0, b128_4, b128_7, b128_12, b128_13, b128_23, b128_29, b128_30, b128_39, b128_45, b128_46, b128_50, b128_60, b128_66, b128_67, b128_86, b128_93, b128_103, b128_110, b128_120, b128_126, b118_0, b118_4, b118_10, b118_14, b114_0, c1, c2, c3, c4, c5, h, xrd_ne, xrd_eq, xrd_n2, xrd_J, xrd_K, xsimp_1, xsimp_2, xtl, xtl0, xbit_0, xbit_1, exists_eq_left, and_assoc, exists_and_left, if_true, if_false, true_and, and_true, not_true, not_false_iff, x6, Int32.neg_neg, x01, x11, x21, x31, x41, x51, xn1, xn2, xn3, xn4, xn5, xn6, xn7, xv1, xv2, xv3, xv4, xv5, xv6, xv7]
          · skip
            by_cases c6 : (v2 : Int32) < (S.1 73 v1.toNatClampNeg)
            · skip
              by_cases c7 : ((S.1 72 v1.toNatClampNeg) : Int32) = 0
              · skip
                simp (decide := true) only [g128, c1, c2, c3, c4, c5, c6, c7, xrd_ne, xrd_eq, xrd_n2, xrd_J, xrd_K, ite_true, ite_false, if_true, if_false, and_true, true_and] at h
                simp (decide := true) only [p128, b128_0, b128_4, b128_7, b128_12, b128_13, b128_23, b128_29, b128_30, b128_39, b128_45, b128_46, b128_50, b128_60, b128_66, b128_67, b128_86, b128_93, b128_103, b128_110, b128_120, b128_126, b118_0, b118_4, b118_10, b118_14, b114_0, c1, c2, c3, c4, c5, c6, c7, h, xrd_ne, xrd_eq, xrd_n2, xrd_J, xrd_K, xsimp_1, xsimp_2, xtl, xtl0, xbit_0, xbit_1, exists_eq_left, and_assoc, exists_and_left, if_true, if_false, true_and, and_true, not_true, not_false_iff, x6, Int32.neg_neg, x01, x11, x21, x31, x41, x51, xn1, xn2, xn3, xn4, xn5, xn6, xn7, xv1, xv2, xv3, xv4, xv5, xv6, xv7]
              · skip
                by_cases c8 : ((S.1 72 v1.toNatClampNeg) : Int32) = 1
                · skip
                  simp (decide := true) only [g128, c1, c2, c3, c4, c5, c6, c7, c8, xrd_ne, xrd_eq, xrd_n2, xrd_J, xrd_K, ite_true, ite_false, if_true, if_false, and_true, true_and] at h
                  simp (decide := true) only [p128, b128_0, b128_4, b128_7, b128_12, b128_13, b128_23, b128_29, b128_30, b128_39, b128_45, b128_46, b128_50, b128_60, b128_66, b128_67, b128_86, b128_93, b128_103, b128_110, b128_120, b128_126, b118_0, b118_4, b118_10, b118_14, b114_0, c1, c2, c3, c4, c5, c6, c7, c8, h, xrd_ne, xrd_eq, xrd_n2, xrd_J, xrd_K, xsimp_1, xsimp_2, xtl, xtl0, xbit_0, xbit_1, exists_eq_left, and_assoc, exists_and_left, if_true, if_false, true_and, and_true, not_true, not_false_iff, x6, Int32.neg_neg, x01, x11, x21, x31, x41, x51, xn1, xn2, xn3, xn4, xn5, xn6, xn7, xv1, xv2, xv3, xv4, xv5, xv6, xv7]
                · skip
                  by_cases c9 : ((S.1 72 v1.toNatClampNeg) : Int32) = 2
                  · skip
                    simp (decide := true) only [g128, c1, c2, c3, c4, c5, c6, c7, c8, c9, xrd_ne, xrd_eq, xrd_n2, xrd_J, xrd_K, ite_true, ite_false, if_true, if_false, and_true, true_and] at h
                    simp (decide := true) only [p128, b128_0, b128_4, b128_7, b128_12, b128_13, b128_23, b128_29, b128_30, b128_39, b128_45, b128_46, b128_50, b128_60, b128_66, b128_67, b128_86, b128_93, b128_103, b128_110, b128_120, b128_126, b118_0, b118_4, b118_10, b118_14, b114_0, c1, c2, c3, c4, c5, c6, c7, c8, c9, h, xrd_ne, xrd_eq, xrd_n2, xrd_J, xrd_K, xsimp_1, xsimp_2, xtl, xtl0, xbit_0, xbit_1, exists_eq_left, and_assoc, exists_and_left, if_true, if_false, true_and, and_true, not_true, not_false_iff, x6, Int32.neg_neg, x01, x11, x21, x31, x41, x51, xn1, xn2, xn3, xn4, xn5, xn6, xn7, xv1, xv2, xv3, xv4, xv5, xv6, xv7]
                  · skip
                    simp (decide := true) only [g128, c1, c2, c3, c4, c5, c6, c7, c8, c9, xrd_ne, xrd_eq, xrd_n2, xrd_J, xrd_K, ite_true, ite_false, if_true, if_false, and_true, true_and] at h
                    simp (decide := true) only [p128, b128_0, b128_4, b128_7, b128_12, b128_13, b128_23, b128_29, b128_30, b128_39, b128_45, b128_46, b128_50, b128_60, b128_66, b128_67, b128_86, b128_93, b128_103, b128_110, b128_120, b128_126, b118_0, b118_4, b118_10, b118_14, b114_0, c1, c2, c3, c4, c5, c6, c7, c8, c9, h, xrd_ne, xrd_eq, xrd_n2, xrd_J, xrd_K, xsimp_1, xsimp_2, xtl, xtl0, xbit_0, xbit_1, exists_eq_left, and_assoc, exists_and_left, if_true, if_false, true_and, and_true, not_true, not_false_iff, x6, Int32.neg_neg, x01, x11, x21, x31, x41, x51, xn1, xn2, xn3, xn4, xn5, xn6, xn7, xv1, xv2, xv3, xv4, xv5, xv6, xv7]
            · skip
              simp (decide := true) only [g128, c1, c2, c3, c4, c5, c6, xrd_ne, xrd_eq, xrd_n2, xrd_J, xrd_K, ite_true, ite_false, if_true, if_false, and_true, true_and] at h
              simp (decide := true) only [p128, b128_0, b128_4, b128_7, b128_12, b128_13, b128_23, b128_29, b128_30, b128_39, b128_45, b128_46, b128_50, b128_60, b128_66, b128_67, b128_86, b128_93, b128_103, b128_110, b128_120, b128_126, b118_0, b118_4, b118_10, b118_14, b114_0, c1, c2, c3, c4, c5, c6, h, xrd_ne, xrd_eq, xrd_n2, xrd_J, xrd_K, xsimp_1, xsimp_2, xtl, xtl0, xbit_0, xbit_1, exists_eq_left, and_assoc, exists_and_left, if_true, if_false, true_and, and_true, not_true, not_false_iff, x6, Int32.neg_neg, x01, x11, x21, x31, x41, x51, xn1, xn2, xn3, xn4, xn5, xn6, xn7, xv1, xv2, xv3, xv4, xv5, xv6, xv7]
    · skip
      simp (decide := true) only [g128, c1, c2, xrd_ne, xrd_eq, xrd_n2, xrd_J, xrd_K, ite_true, ite_false, if_true, if_false, and_true, true_and] at h
      simp (decide := true) only [p128, b128_0, b128_4, b128_7, b128_12, b128_13, b128_23, b128_29, b128_30, b128_39, b128_45, b128_46, b128_50, b128_60, b128_66, b128_67, b128_86, b128_93, b128_103, b128_110, b128_120, b128_126, b118_0, b118_4, b118_10, b118_14, b114_0, c1, c2, h, xrd_ne, xrd_eq, xrd_n2, xrd_J, xrd_K, xsimp_1, xsimp_2, xtl, xtl0, xbit_0, xbit_1, exists_eq_left, and_assoc, exists_and_left, if_true, if_false, true_and, and_true, not_true, not_false_iff, x6, Int32.neg_neg, x01, x11, x21, x31, x41, x51, xn1, xn2, xn3, xn4, xn5, xn6, xn7, xv1, xv2, xv3, xv4, xv5, xv6, xv7]
/-- X10_element -/
def p130 (S : xS) (v1 : Int32) (v2 : Int32) : Option Value × xS := if (v1 : Int32) < 0 then ((some (.long 0), S)) else (if (v1 : Int32) < 8 then (if ((S.1 71 v1.toNatClampNeg) : Int32) = 1 then (if (v2 : Int32) < 0 then ((some (.long 0), S)) else (if (v2 : Int32) < (S.1 73 v1.toNatClampNeg) then ((some (.long (S.2.1 75 ((60 * v1) + v2).toNatClampNeg)), S)) else ((some (.long 0), S)))) else ((some (.long 0), S))) else ((some (.long 0), S)))
def g130 (S : xS) (v1 : Int32) (v2 : Int32) : Prop := (if (v1 : Int32) < 0 then True else (if (v1 : Int32) < 8 then (vp_in v1 8 ∧ (if ((S.1 71 v1.toNatClampNeg) : Int32) = 1 then (if (v2 : Int32) < 0 then True else (vp_in v1 8 ∧ (if (v2 : Int32) < (S.1 73 v1.toNatClampNeg) then (vp_in ((60 * v1) + v2) 480 ∧ True) else True))) else True)) else True))
theorem t130 (d : Nat) (v1 : Int32) (v2 : Int32) (S : xS) (r : Option Value × xS) (h : g130 S v1 v2) : xX (d + 1) 130 0 [(0, .ref 54), (1, .int v1), (2, .int v2)] [] S r ↔ r = p130 S v1 v2 := by
  by_cases c1 : (v1 : Int32) < 0
  · skip
    simp (decide := true) only [g130, c1, xrd_ne, xrd_eq, xrd_n2, xrd_J, xrd_K, ite_true, ite_false, if_true, if_false, and_true, true_and] at h
    simp (decide := true) only [p130, b130_0, b130_4, b130_7, b130_17, b130_21, b130_31, b130_45, b118_0, b118_4, b118_10, b118_14, c1, h, xrd_ne, xrd_eq, xrd_n2, xrd_J, xrd_K, xsimp_1, xsimp_2, xtl, xtl0, xbit_0, xbit_1, exists_eq_left, and_assoc, exists_and_left, if_true, if_false, true_and, and_true, not_true, not_false_iff, x6, Int32.neg_neg, x01, x11, x21, x31, x41, x51, xn1, xn2, xn3, xn4, xn5, xn6, xn7, xv1, xv2, xv3, xv4, xv5, xv6, xv7]
  · skip
    by_cases c2 : (v1 : Int32) < 8
    · skip
      by_cases c3 : ((S.1 71 v1.toNatClampNeg) : Int32) = 1
      · skip
        by_cases c4 : (v2 : Int32) < 0
        · skip
          simp (decide := true) only [g130, c1, c2, c3, c4, xrd_ne, xrd_eq, xrd_n2, xrd_J, xrd_K, ite_true, ite_false, if_true, if_false, and_true, true_and] at h
          simp (decide := true) only [p130, b130_0, b130_4, b130_7, b130_17, b130_21, b130_31, b130_45, b118_0, b118_4, b118_10, b118_14, c1, c2, c3, c4, h, xrd_ne, xrd_eq, xrd_n2, xrd_J, xrd_K, xsimp_1, xsimp_2, xtl, xtl0, xbit_0, xbit_1, exists_eq_left, and_assoc, exists_and_left, if_true, if_false, true_and, and_true, not_true, not_false_iff, x6, Int32.neg_neg, x01, x11, x21, x31, x41, x51, xn1, xn2, xn3, xn4, xn5, xn6, xn7, xv1, xv2, xv3, xv4, xv5, xv6, xv7]
        · skip
          by_cases c5 : (v2 : Int32) < (S.1 73 v1.toNatClampNeg)
          · skip
            simp (decide := true) only [g130, c1, c2, c3, c4, c5, xrd_ne, xrd_eq, xrd_n2, xrd_J, xrd_K, ite_true, ite_false, if_true, if_false, and_true, true_and] at h
            simp (decide := true) only [p130, b130_0, b130_4, b130_7, b130_17, b130_21, b130_31, b130_45, b118_0, b118_4, b118_10, b118_14, c1, c2, c3, c4, c5, h, xrd_ne, xrd_eq, xrd_n2, xrd_J, xrd_K, xsimp_1, xsimp_2, xtl, xtl0, xbit_0, xbit_1, exists_eq_left, and_assoc, exists_and_left, if_true, if_false, true_and, and_true, not_true, not_false_iff, x6, Int32.neg_neg, x01, x11, x21, x31, x41, x51, xn1, xn2, xn3, xn4, xn5, xn6, xn7, xv1, xv2, xv3, xv4, xv5, xv6, xv7]
          · skip
            simp (decide := true) only [g130, c1, c2, c3, c4, c5, xrd_ne, xrd_eq, xrd_n2, xrd_J, xrd_K, ite_true, ite_false, if_true, if_false, and_true, true_and] at h
            simp (decide := true) only [p130, b130_0, b130_4, b130_7, b130_17, b130_21, b130_31, b130_45, b118_0, b118_4, b118_10, b118_14, c1, c2, c3, c4, c5, h, xrd_ne, xrd_eq, xrd_n2, xrd_J, xrd_K, xsimp_1, xsimp_2, xtl, xtl0, xbit_0, xbit_1, exists_eq_left, and_assoc, exists_and_left, if_true, if_false, true_and, and_true, not_true, not_false_iff, x6, Int32.neg_neg, x01, x11, x21, x31, x41, x51, xn1, xn2, xn3, xn4, xn5, xn6, xn7, xv1, xv2, xv3, xv4, xv5, xv6, xv7]
      · skip
        simp (decide := true) only [g130, c1, c2, c3, xrd_ne, xrd_eq, xrd_n2, xrd_J, xrd_K, ite_true, ite_false, if_true, if_false, and_true, true_and] at h
        simp (decide := true) only [p130, b130_0, b130_4, b130_7, b130_17, b130_21, b130_31, b130_45, b118_0, b118_4, b118_10, b118_14, c1, c2, c3, h, xrd_ne, xrd_eq, xrd_n2, xrd_J, xrd_K, xsimp_1, xsimp_2, xtl, xtl0, xbit_0, xbit_1, exists_eq_left, and_assoc, exists_and_left, if_true, if_false, true_and, and_true, not_true, not_false_iff, x6, Int32.neg_neg, x01, x11, x21, x31, x41, x51, xn1, xn2, xn3, xn4, xn5, xn6, xn7, xv1, xv2, xv3, xv4, xv5, xv6, xv7]
    · skip
      simp (decide := true) only [g130, c1, c2, xrd_ne, xrd_eq, xrd_n2, xrd_J, xrd_K, ite_true, ite_false, if_true, if_false, and_true, true_and] at h
      simp (decide := true) only [p130, b130_0, b130_4, b130_7, b130_17, b130_21, b130_31, b130_45, b118_0, b118_4, b118_10, b118_14, c1, c2, h, xrd_ne, xrd_eq, xrd_n2, xrd_J, xrd_K, xsimp_1, xsimp_2, xtl, xtl0, xbit_0, xbit_1, exists_eq_left, and_assoc, exists_and_left, if_true, if_false, true_and, and_true, not_true, not_false_iff, x6, Int32.neg_neg, x01, x11, x21, x31, x41, x51, xn1, xn2, xn3, xn4, xn5, xn6, xn7, xv1, xv2, xv3, xv4, xv5, xv6, xv7]
/-- X10_show -/
def p131 (S : xS) (v1 : Int32) (v2 : Int32) : Option Value × xS := if (v1 : Int32) < 0 then ((some (.int (-1)), (xwI S 84 1 ((S.1 84 1) + 1)))) else (if (v1 : Int32) < 8 then (if (v2 : Int32) = (-1) then ((some (.int 0), (xwI (xwI S 71 v1.toNatClampNeg 0) 74 v1.toNatClampNeg v2))) else (if (v2 : Int32) < 0 then ((some (.int (-1)), (xwI S 84 1 ((S.1 84 1) + 1)))) else (if (v2 : Int32) < (S.1 54 0) then ((some (.int 1), (xwI (xwI S 71 v1.toNatClampNeg 2) 74 v1.toNatClampNeg v2))) else ((some (.int (-1)), (xwI S 84 1 ((S.1 84 1) + 1))))))) else ((some (.int (-1)), (xwI S 84 1 ((S.1 84 1) + 1)))))
def g131 (S : xS) (v1 : Int32) (v2 : Int32) : Prop := (if (v1 : Int32) < 0 then True else (if (v1 : Int32) < 8 then (if (v2 : Int32) = (-1) then (vp_in v1 8 ∧ (vp_in v1 8 ∧ True)) else (if (v2 : Int32) < 0 then True else (if (v2 : Int32) < (S.1 54 0) then (vp_in v1 8 ∧ (vp_in v1 8 ∧ True)) else True))) else True))
theorem t131 (d : Nat) (v1 : Int32) (v2 : Int32) (S : xS) (r : Option Value × xS) (h : g131 S v1 v2) : xX (d + 1) 131 0 [(0, .ref 54), (1, .int v1), (2, .int v2)] [] S r ↔ r = p131 S v1 v2 := by
  by_cases c1 : (v1 : Int32) < 0
  · skip
    simp (decide := true) only [g131, c1, xrd_ne, xrd_eq, xrd_n2, xrd_J, xrd_K, ite_true, ite_false, if_true, if_false, and_true, true_and] at h
    simp (decide := true) only [p131, b131_0, b131_4, b131_7, b131_12, b131_17, b131_20, b131_25, b131_26, b131_36, b131_40, b131_54, b131_58, b115_0, b115_4, b115_12, b115_16, b118_0, b118_4, b118_10, b118_14, b114_0, c1, h, xrd_ne, xrd_eq, xrd_n2, xrd_J, xrd_K, xsimp_1, xsimp_2, xtl, xtl0, xbit_0, xbit_1, exists_eq_left, and_assoc, exists_and_left, if_true, if_false, true_and, and_true, not_true, not_false_iff, x6, Int32.neg_neg, x01, x11, x21, x31, x41, x51, xn1, xn2, xn3, xn4, xn5, xn6, xn7, xv1, xv2, xv3, xv4, xv5, xv6, xv7]
  · skip
    by_cases c2 : (v1 : Int32) < 8
    · skip
      by_cases c3 : (v2 : Int32) = (-1)
      · skip
        simp (decide := true) only [g131, c1, c2, c3, xrd_ne, xrd_eq, xrd_n2, xrd_J, xrd_K, ite_true, ite_false, if_true, if_false, and_true, true_and] at h
        simp (decide := true) only [p131, b131_0, b131_4, b131_7, b131_12, b131_17, b131_20, b131_25, b131_26, b131_36, b131_40, b131_54, b131_58, b115_0, b115_4, b115_12, b115_16, b118_0, b118_4, b118_10, b118_14, b114_0, c1, c2, c3, h, xrd_ne, xrd_eq, xrd_n2, xrd_J, xrd_K, xsimp_1, xsimp_2, xtl, xtl0, xbit_0, xbit_1, exists_eq_left, and_assoc, exists_and_left, if_true, if_false, true_and, and_true, not_true, not_false_iff, x6, Int32.neg_neg, x01, x11, x21, x31, x41, x51, xn1, xn2, xn3, xn4, xn5, xn6, xn7, xv1, xv2, xv3, xv4, xv5, xv6, xv7]
      · skip
        by_cases c4 : (v2 : Int32) < 0
        · skip
          simp (decide := true) only [g131, c1, c2, c3, c4, xrd_ne, xrd_eq, xrd_n2, xrd_J, xrd_K, ite_true, ite_false, if_true, if_false, and_true, true_and] at h
          simp (decide := true) only [p131, b131_0, b131_4, b131_7, b131_12, b131_17, b131_20, b131_25, b131_26, b131_36, b131_40, b131_54, b131_58, b115_0, b115_4, b115_12, b115_16, b118_0, b118_4, b118_10, b118_14, b114_0, c1, c2, c3, c4, h, xrd_ne, xrd_eq, xrd_n2, xrd_J, xrd_K, xsimp_1, xsimp_2, xtl, xtl0, xbit_0, xbit_1, exists_eq_left, and_assoc, exists_and_left, if_true, if_false, true_and, and_true, not_true, not_false_iff, x6, Int32.neg_neg, x01, x11, x21, x31, x41, x51, xn1, xn2, xn3, xn4, xn5, xn6, xn7, xv1, xv2, xv3, xv4, xv5, xv6, xv7]
        · skip
          by_cases c5 : (v2 : Int32) < (S.1 54 0)
          · skip
            simp (decide := true) only [g131, c1, c2, c3, c4, c5, xrd_ne, xrd_eq, xrd_n2, xrd_J, xrd_K, ite_true, ite_false, if_true, if_false, and_true, true_and] at h
            simp (decide := true) only [p131, b131_0, b131_4, b131_7, b131_12, b131_17, b131_20, b131_25, b131_26, b131_36, b131_40, b131_54, b131_58, b115_0, b115_4, b115_12, b115_16, b118_0, b118_4, b118_10, b118_14, b114_0, c1, c2, c3, c4, c5, h, xrd_ne, xrd_eq, xrd_n2, xrd_J, xrd_K, xsimp_1, xsimp_2, xtl, xtl0, xbit_0, xbit_1, exists_eq_left, and_assoc, exists_and_left, if_true, if_false, true_and, and_true, not_true, not_false_iff, x6, Int32.neg_neg, x01, x11, x21, x31, x41, x51, xn1, xn2, xn3, xn4, xn5, xn6, xn7, xv1, xv2, xv3, xv4, xv5, xv6, xv7]
          · skip
            simp (decide := true) only [g131, c1, c2, c3, c4, c5, xrd_ne, xrd_eq, xrd_n2, xrd_J, xrd_K, ite_true, ite_false, if_true, if_false, and_true, true_and] at h
            simp (decide := true) only [p131, b131_0, b131_4, b131_7, b131_12, b131_17, b131_20, b131_25, b131_26, b131_36, b131_40, b131_54, b131_58, b115_0, b115_4, b115_12, b115_16, b118_0, b118_4, b118_10, b118_14, b114_0, c1, c2, c3, c4, c5, h, xrd_ne, xrd_eq, xrd_n2, xrd_J, xrd_K, xsimp_1, xsimp_2, xtl, xtl0, xbit_0, xbit_1, exists_eq_left, and_assoc, exists_and_left, if_true, if_false, true_and, and_true, not_true, not_false_iff, x6, Int32.neg_neg, x01, x11, x21, x31, x41, x51, xn1, xn2, xn3, xn4, xn5, xn6, xn7, xv1, xv2, xv3, xv4, xv5, xv6, xv7]
    · skip
      simp (decide := true) only [g131, c1, c2, xrd_ne, xrd_eq, xrd_n2, xrd_J, xrd_K, ite_true, ite_false, if_true, if_false, and_true, true_and] at h
      simp (decide := true) only [p131, b131_0, b131_4, b131_7, b131_12, b131_17, b131_20, b131_25, b131_26, b131_36, b131_40, b131_54, b131_58, b115_0, b115_4, b115_12, b115_16, b118_0, b118_4, b118_10, b118_14, b114_0, c1, c2, h, xrd_ne, xrd_eq, xrd_n2, xrd_J, xrd_K, xsimp_1, xsimp_2, xtl, xtl0, xbit_0, xbit_1, exists_eq_left, and_assoc, exists_and_left, if_true, if_false, true_and, and_true, not_true, not_false_iff, x6, Int32.neg_neg, x01, x11, x21, x31, x41, x51, xn1, xn2, xn3, xn4, xn5, xn6, xn7, xv1, xv2, xv3, xv4, xv5, xv6, xv7]
/-- X10_holds -/
def p132 (S : xS) (v1 : Int32) : Option Value × xS := if (v1 : Int32) < 0 then ((some (.int (-1)), S)) else (if (v1 : Int32) < 8 then (if ((S.1 71 v1.toNatClampNeg) : Int32) = 0 then ((some (.int (-1)), S)) else (if ((S.1 71 v1.toNatClampNeg) : Int32) = 1 then ((some (.int (100 + (S.1 72 v1.toNatClampNeg))), S)) else ((some (.int (S.1 74 v1.toNatClampNeg)), S)))) else ((some (.int (-1)), S)))
def g132 (S : xS) (v1 : Int32) : Prop := (if (v1 : Int32) < 0 then True else (if (v1 : Int32) < 8 then (vp_in v1 8 ∧ (if ((S.1 71 v1.toNatClampNeg) : Int32) = 0 then True else (vp_in v1 8 ∧ (if ((S.1 71 v1.toNatClampNeg) : Int32) = 1 then (vp_in v1 8 ∧ True) else (vp_in v1 8 ∧ True))))) else True))
theorem t132 (d : Nat) (v1 : Int32) (S : xS) (r : Option Value × xS) (h : g132 S v1) : xX (d + 1) 132 0 [(0, .ref 54), (1, .int v1)] [] S r ↔ r = p132 S v1 := by
  by_cases c1 : (v1 : Int32) < 0
  · skip
    simp (decide := true) only [g132, c1, xrd_ne, xrd_eq, xrd_n2, xrd_J, xrd_K, ite_true, ite_false, if_true, if_false, and_true, true_and] at h
    simp (decide := true) only [p132, b132_0, b132_4, b132_7, b132_16, b132_18, b132_28, b132_40, b118_0, b118_4, b118_10, b118_14, c1, h, xrd_ne, xrd_eq, xrd_n2, xrd_J, xrd_K, xsimp_1, xsimp_2, xtl, xtl0, xbit_0, xbit_1, exists_eq_left, and_assoc, exists_and_left, if_true, if_false, true_and, and_true, not_true, not_false_iff, x6, Int32.neg_neg, x01, x11, x21, x31, x41, x51, xn1, xn2, xn3, xn4, xn5, xn6, xn7, xv1, xv2, xv3, xv4, xv5, xv6, xv7]
  · skip
    by_cases c2 : (v1 : Int32) < 8
    · skip
      by_cases c3 : ((S.1 71 v1.toNatClampNeg) : Int32) = 0
      · skip
        simp (decide := true) only [g132, c1, c2, c3, xrd_ne, xrd_eq, xrd_n2, xrd_J, xrd_K, ite_true, ite_false, if_true, if_false, and_true, true_and] at h
        simp (decide := true) only [p132, b132_0, b132_4, b132_7, b132_16, b132_18, b132_28, b132_40, b118_0, b118_4, b118_10, b118_14, c1, c2, c3, h, xrd_ne, xrd_eq, xrd_n2, xrd_J, xrd_K, xsimp_1, xsimp_2, xtl, xtl0, xbit_0, xbit_1, exists_eq_left, and_assoc, exists_and_left, if_true, if_false, true_and, and_true, not_true, not_false_iff, x6, Int32.neg_neg, x01, x11, x21, x31, x41, x51, xn1, xn2, xn3, xn4, xn5, xn6, xn7, xv1, xv2, xv3, xv4, xv5, xv6, xv7]
      · skip
        by_cases c4 : ((S.1 71 v1.toNatClampNeg) : Int32) = 1
        · skip
          simp (decide := true) only [g132, c1, c2, c3, c4, xrd_ne, xrd_eq, xrd_n2, xrd_J, xrd_K, ite_true, ite_false, if_true, if_false, and_true, true_and] at h
          simp (decide := true) only [p132, b132_0, b132_4, b132_7, b132_16, b132_18, b132_28, b132_40, b118_0, b118_4, b118_10, b118_14, c1, c2, c3, c4, h, xrd_ne, xrd_eq, xrd_n2, xrd_J, xrd_K, xsimp_1, xsimp_2, xtl, xtl0, xbit_0, xbit_1, exists_eq_left, and_assoc, exists_and_left, if_true, if_false, true_and, and_true, not_true, not_false_iff, x6, Int32.neg_neg, x01, x11, x21, x31, x41, x51, xn1, xn2, xn3, xn4, xn5, xn6, xn7, xv1, xv2, xv3, xv4, xv5, xv6, xv7]
        · skip
          simp (decide := true) only [g132, c1, c2, c3, c4, xrd_ne, xrd_eq, xrd_n2, xrd_J, xrd_K, ite_true, ite_false, if_true, if_false, and_true, true_and] at h
          simp (decide := true) only [p132, b132_0, b132_4, b132_7, b132_16, b132_18, b132_28, b132_40, b118_0, b118_4, b118_10, b118_14, c1, c2, c3, c4, h, xrd_ne, xrd_eq, xrd_n2, xrd_J, xrd_K, xsimp_1, xsimp_2, xtl, xtl0, xbit_0, xbit_1, exists_eq_left, and_assoc, exists_and_left, if_true, if_false, true_and, and_true, not_true, not_false_iff, x6, Int32.neg_neg, x01, x11, x21, x31, x41, x51, xn1, xn2, xn3, xn4, xn5, xn6, xn7, xv1, xv2, xv3, xv4, xv5, xv6, xv7]
    · skip
      simp (decide := true) only [g132, c1, c2, xrd_ne, xrd_eq, xrd_n2, xrd_J, xrd_K, ite_true, ite_false, if_true, if_false, and_true, true_and] at h
      simp (decide := true) only [p132, b132_0, b132_4, b132_7, b132_16, b132_18, b132_28, b132_40, b118_0, b118_4, b118_10, b118_14, c1, c2, h, xrd_ne, xrd_eq, xrd_n2, xrd_J, xrd_K, xsimp_1, xsimp_2, xtl, xtl0, xbit_0, xbit_1, exists_eq_left, and_assoc, exists_and_left, if_true, if_false, true_and, and_true, not_true, not_false_iff, x6, Int32.neg_neg, x01, x11, x21, x31, x41, x51, xn1, xn2, xn3, xn4, xn5, xn6, xn7, xv1, xv2, xv3, xv4, xv5, xv6, xv7]
/-- X10_desksIn -/
def p133 (S : xS) (v1 : Int32) : Option Value × xS := if (v1 : Int32) < 0 then ((some (.int (-1)), (xwI S 84 1 ((S.1 84 1) + 1)))) else (if (v1 : Int32) < 8 then (if ((S.1 71 v1.toNatClampNeg) : Int32) = 1 then ((some (.int (-2)), (xwI S 84 2 ((S.1 84 2) + 1)))) else (if ((S.1 71 v1.toNatClampNeg) : Int32) = 0 then ((some (.int (-3)), (xwI S 84 3 ((S.1 84 3) + 1)))) else ((some (.int (S.1 55 (S.1 74 v1.toNatClampNeg).toNatClampNeg)), S)))) else ((some (.int (-1)), (xwI S 84 1 ((S.1 84 1) + 1)))))
def g133 (S : xS) (v1 : Int32) : Prop := (if (v1 : Int32) < 0 then True else (if (v1 : Int32) < 8 then (vp_in v1 8 ∧ (if ((S.1 71 v1.toNatClampNeg) : Int32) = 1 then True else (vp_in v1 8 ∧ (if ((S.1 71 v1.toNatClampNeg) : Int32) = 0 then True else (vp_in v1 8 ∧ (vp_in (S.1 74 v1.toNatClampNeg) 10 ∧ True)))))) else True))
theorem t133 (d : Nat) (v1 : Int32) (S : xS) (r : Option Value × xS) (h : g133 S v1) : xX (d + 1) 133 0 [(0, .ref 54), (1, .int v1)] [] S r ↔ r = p133 S v1 := by
  by_cases c1 : (v1 : Int32) < 0
  · skip
    simp (decide := true) only [g133, c1, xrd_ne, xrd_eq, xrd_n2, xrd_J, xrd_K, ite_true, ite_false, if_true, if_false, and_true, true_and] at h
    simp (decide := true) only [p133, b133_0, b133_4, b133_7, b133_12, b133_13, b133_23, b133_29, b133_30, b133_39, b133_45, b133_48, b118_0, b118_4, b118_10, b118_14, b114_0, c1, h, xrd_ne, xrd_eq, xrd_n2, xrd_J, xrd_K, xsimp_1, xsimp_2, xtl, xtl0, xbit_0, xbit_1, exists_eq_left, and_assoc, exists_and_left, if_true, if_false, true_and, and_true, not_true, not_false_iff, x6, Int32.neg_neg, x01, x11, x21, x31, x41, x51, xn1, xn2, xn3, xn4, xn5, xn6, xn7, xv1, xv2, xv3, xv4, xv5, xv6, xv7]
  · skip
    by_cases c2 : (v1 : Int32) < 8
    · skip
      by_cases c3 : ((S.1 71 v1.toNatClampNeg) : Int32) = 1
      · skip
        simp (decide := true) only [g133, c1, c2, c3, xrd_ne, xrd_eq, xrd_n2, xrd_J, xrd_K, ite_true, ite_false, if_true, if_false, and_true, true_and] at h
        simp (decide := true) only [p133, b133_0, b133_4, b133_7, b133_12, b133_13, b133_23, b133_29, b133_30, b133_39, b133_45, b133_48, b118_0, b118_4, b118_10, b118_14, b114_0, c1, c2, c3, h, xrd_ne, xrd_eq, xrd_n2, xrd_J, xrd_K, xsimp_1, xsimp_2, xtl, xtl0, xbit_0, xbit_1, exists_eq_left, and_assoc, exists_and_left, if_true, if_false, true_and, and_true, not_true, not_false_iff, x6, Int32.neg_neg, x01, x11, x21, x31, x41, x51, xn1, xn2, xn3, xn4, xn5, xn6, xn7, xv1, xv2, xv3, xv4, xv5, xv6, xv7]
      · skip
        by_cases c4 : ((S.1 71 v1.toNatClampNeg) : Int32) = 0
        · skip
          simp (decide := true) only [g133, c1, c2, c3, c4, xrd_ne, xrd_eq, xrd_n2, xrd_J, xrd_K, ite_true, ite_false, if_true, if_false, and_true, true_and] at h
          simp (decide := true) only [p133, b133_0, b133_4, b133_7, b133_12, b133_13, b133_23, b133_29, b133_30, b133_39, b133_45, b133_48, b118_0, b118_4, b118_10, b118_14, b114_0, c1, c2, c3, c4, h, xrd_ne, xrd_eq, xrd_n2, xrd_J, xrd_K, xsimp_1, xsimp_2, xtl, xtl0, xbit_0, xbit_1, exists_eq_left, and_assoc, exists_and_left, if_true, if_false, true_and, and_true, not_true, not_false_iff, x6, Int32.neg_neg, x01, x11, x21, x31, x41, x51, xn1, xn2, xn3, xn4, xn5, xn6, xn7, xv1, xv2, xv3, xv4, xv5, xv6, xv7]
        · skip
          simp (decide := true) only [g133, c1, c2, c3, c4, xrd_ne, xrd_eq, xrd_n2, xrd_J, xrd_K, ite_true, ite_false, if_true, if_false, and_true, true_and] at h
          simp (decide := true) only [p133, b133_0, b133_4, b133_7, b133_12, b133_13, b133_23, b133_29, b133_30, b133_39, b133_45, b133_48, b118_0, b118_4, b118_10, b118_14, b114_0, c1, c2, c3, c4, h, xrd_ne, xrd_eq, xrd_n2, xrd_J, xrd_K, xsimp_1, xsimp_2, xtl, xtl0, xbit_0, xbit_1, exists_eq_left, and_assoc, exists_and_left, if_true, if_false, true_and, and_true, not_true, not_false_iff, x6, Int32.neg_neg, x01, x11, x21, x31, x41, x51, xn1, xn2, xn3, xn4, xn5, xn6, xn7, xv1, xv2, xv3, xv4, xv5, xv6, xv7]
    · skip
      simp (decide := true) only [g133, c1, c2, xrd_ne, xrd_eq, xrd_n2, xrd_J, xrd_K, ite_true, ite_false, if_true, if_false, and_true, true_and] at h
      simp (decide := true) only [p133, b133_0, b133_4, b133_7, b133_12, b133_13, b133_23, b133_29, b133_30, b133_39, b133_45, b133_48, b118_0, b118_4, b118_10, b118_14, b114_0, c1, c2, h, xrd_ne, xrd_eq, xrd_n2, xrd_J, xrd_K, xsimp_1, xsimp_2, xtl, xtl0, xbit_0, xbit_1, exists_eq_left, and_assoc, exists_and_left, if_true, if_false, true_and, and_true, not_true, not_false_iff, x6, Int32.neg_neg, x01, x11, x21, x31, x41, x51, xn1, xn2, xn3, xn4, xn5, xn6, xn7, xv1, xv2, xv3, xv4, xv5, xv6, xv7]
/-- X10_stay -/
def p134 (S : xS) (v1 : Int32) (v2 : Int32) : Option Value × xS := if (v1 : Int32) < 0 then ((some (.int (-1)), (xwI S 84 1 ((S.1 84 1) + 1)))) else (if (v1 : Int32) < (S.1 54 0) then (if ((S.1 59 v1.toNatClampNeg) : Int32) = 0 then (if ((S.1 58 v1.toNatClampNeg) : Int32) = v2 then ((some (.int 0), S)) else ((some (.int 1), (xwI (xwI S 58 v1.toNatClampNeg v2) 57 v1.toNatClampNeg (-1))))) else ((some (.int (-6)), (xwI S 84 6 ((S.1 84 6) + 1))))) else ((some (.int (-1)), (xwI S 84 1 ((S.1 84 1) + 1)))))
def g134 (S : xS) (v1 : Int32) (v2 : Int32) : Prop := (if (v1 : Int32) < 0 then True else (if (v1 : Int32) < (S.1 54 0) then (vp_in v1 10 ∧ (if ((S.1 59 v1.toNatClampNeg) : Int32) = 0 then (vp_in v1 10 ∧ (if ((S.1 58 v1.toNatClampNeg) : Int32) = v2 then True else ((xbit v2 ∧ vp_in v1 10) ∧ (vp_in v1 10 ∧ True)))) else True)) else True))
theorem t134 (d : Nat) (v1 : Int32) (v2 : Int32) (S : xS) (r : Option Value × xS) (h : g134 S v1 v2) : xX (d + 1) 134 0 [(0, .ref 54), (1, .int v1), (2, .int v2)] [] S r ↔ r = p134 S v1 v2 := by
  by_cases c1 : (v1 : Int32) < 0
  · skip
    simp (decide := true) only [g134, c1, xrd_ne, xrd_eq, xrd_n2, xrd_J, xrd_K, ite_true, ite_false, if_true, if_false, and_true, true_and] at h
    simp (decide := true) only [p134, b134_0, b134_5, b134_8, b134_13, b134_14, b134_23, b134_29, b134_30, b134_40, b134_42, b115_0, b115_4, b115_12, b115_16, b114_0, c1, h, xrd_ne, xrd_eq, xrd_n2, xrd_J, xrd_K, xsimp_1, xsimp_2, xtl, xtl0, xbit_0, xbit_1, exists_eq_left, and_assoc, exists_and_left, if_true, if_false, true_and, and_true, not_true, not_false_iff, x6, Int32.neg_neg, x01, x11, x21, x31, x41, x51, xn1, xn2, xn3, xn4, xn5, xn6, xn7, xv1, xv2, xv3, xv4, xv5, xv6, xv7]
  · skip
    by_cases c2 : (v1 : Int32) < (S.1 54 0)
    · skip
      by_cases c3 : ((S.1 59 v1.toNatClampNeg) : Int32) = 0
      · skip
        by_cases c4 : ((S.1 58 v1.toNatClampNeg) : Int32) = v2
        · skip
          simp (decide := true) only [g134, c1, c2, c3, c4, xrd_ne, xrd_eq, xrd_n2, xrd_J, xrd_K, ite_true, ite_false, if_true, if_false, and_true, true_and] at h
          simp (decide := true) only [p134, b134_0, b134_5, b134_8, b134_13, b134_14, b134_23, b134_29, b134_30, b134_40, b134_42, b115_0, b115_4, b115_12, b115_16, b114_0, c1, c2, c3, c4, h, xrd_ne, xrd_eq, xrd_n2, xrd_J, xrd_K, xsimp_1, xsimp_2, xtl, xtl0, xbit_0, xbit_1, exists_eq_left, and_assoc, exists_and_left, if_true, if_false, true_and, and_true, not_true, not_false_iff, x6, Int32.neg_neg, x01, x11, x21, x31, x41, x51, xn1, xn2, xn3, xn4, xn5, xn6, xn7, xv1, xv2, xv3, xv4, xv5, xv6, xv7]
        · skip
          simp (decide := true) only [g134, c1, c2, c3, c4, xrd_ne, xrd_eq, xrd_n2, xrd_J, xrd_K, ite_true, ite_false, if_true, if_false, and_true, true_and] at h
          simp (decide := true) only [p134, b134_0, b134_5, b134_8, b134_13, b134_14, b134_23, b134_29, b134_30, b134_40, b134_42, b115_0, b115_4, b115_12, b115_16, b114_0, c1, c2, c3, c4, h, xrd_ne, xrd_eq, xrd_n2, xrd_J, xrd_K, xsimp_1, xsimp_2, xtl, xtl0, xbit_0, xbit_1, exists_eq_left, and_assoc, exists_and_left, if_true, if_false, true_and, and_true, not_true, not_false_iff, x6, Int32.neg_neg, x01, x11, x21, x31, x41, x51, xn1, xn2, xn3, xn4, xn5, xn6, xn7, xv1, xv2, xv3, xv4, xv5, xv6, xv7]
      · skip
        simp (decide := true) only [g134, c1, c2, c3, xrd_ne, xrd_eq, xrd_n2, xrd_J, xrd_K, ite_true, ite_false, if_true, if_false, and_true, true_and] at h
        simp (decide := true) only [p134, b134_0, b134_5, b134_8, b134_13, b134_14, b134_23, b134_29, b134_30, b134_40, b134_42, b115_0, b115_4, b115_12, b115_16, b114_0, c1, c2, c3, h, xrd_ne, xrd_eq, xrd_n2, xrd_J, xrd_K, xsimp_1, xsimp_2, xtl, xtl0, xbit_0, xbit_1, exists_eq_left, and_assoc, exists_and_left, if_true, if_false, true_and, and_true, not_true, not_false_iff, x6, Int32.neg_neg, x01, x11, x21, x31, x41, x51, xn1, xn2, xn3, xn4, xn5, xn6, xn7, xv1, xv2, xv3, xv4, xv5, xv6, xv7]
    · skip
      simp (decide := true) only [g134, c1, c2, xrd_ne, xrd_eq, xrd_n2, xrd_J, xrd_K, ite_true, ite_false, if_true, if_false, and_true, true_and] at h
      simp (decide := true) only [p134, b134_0, b134_5, b134_8, b134_13, b134_14, b134_23, b134_29, b134_30, b134_40, b134_42, b115_0, b115_4, b115_12, b115_16, b114_0, c1, c2, h, xrd_ne, xrd_eq, xrd_n2, xrd_J, xrd_K, xsimp_1, xsimp_2, xtl, xtl0, xbit_0, xbit_1, exists_eq_left, and_assoc, exists_and_left, if_true, if_false, true_and, and_true, not_true, not_false_iff, x6, Int32.neg_neg, x01, x11, x21, x31, x41, x51, xn1, xn2, xn3, xn4, xn5, xn6, xn7, xv1, xv2, xv3, xv4, xv5, xv6, xv7]
/-- X10_mayGive -/
def p135 (S : xS) (v1 : Int32) (v2 : Int32) : Option Value × xS := if ((S.1 59 v1.toNatClampNeg) : Int32) = 0 then (if ((S.1 58 v1.toNatClampNeg) : Int32) = 0 then (if (v2 : Int32) = (-1) then ((some (.int 1), S)) else (if (v2 : Int32) < (S.1 54 5) then ((some (.int 0), S)) else ((some (.int 1), S)))) else ((some (.int 0), S))) else ((some (.int 0), S))
def g135 (S : xS) (v1 : Int32) (v2 : Int32) : Prop := (vp_in v1 10 ∧ (if ((S.1 59 v1.toNatClampNeg) : Int32) = 0 then (vp_in v1 10 ∧ True) else True))
theorem t135 (d : Nat) (v1 : Int32) (v2 : Int32) (S : xS) (r : Option Value × xS) (h : g135 S v1 v2) : xX d 135 0 [(0, .ref 54), (1, .int v1), (2, .int v2)] [] S r ↔ r = p135 S v1 v2 := by
  by_cases c1 : ((S.1 59 v1.toNatClampNeg) : Int32) = 0
  · skip
    by_cases c2 : ((S.1 58 v1.toNatClampNeg) : Int32) = 0
    · skip
      by_cases c3 : (v2 : Int32) = (-1)
      · skip
        simp (decide := true) only [g135, c1, c2, c3, xrd_ne, xrd_eq, xrd_n2, xrd_J, xrd_K, ite_true, ite_false, if_true, if_false, and_true, true_and] at h
        simp (decide := true) only [p135, b135_0, b135_9, b135_18, b135_23, b135_31, b135_35, c1, c2, c3, h, xrd_ne, xrd_eq, xrd_n2, xrd_J, xrd_K, xsimp_1, xsimp_2, xtl, xtl0, xbit_0, xbit_1, exists_eq_left, and_assoc, exists_and_left, if_true, if_false, true_and, and_true, not_true, not_false_iff, x6, Int32.neg_neg, x01, x11, x21, x31, x41, x51, xn1, xn2, xn3, xn4, xn5, xn6, xn7, xv1, xv2, xv3, xv4, xv5, xv6, xv7]
      · skip
        by_cases c4 : (v2 : Int32) < (S.1 54 5)
        · skip
          simp (decide := true) only [g135, c1, c2, c3, c4, xrd_ne, xrd_eq, xrd_n2, xrd_J, xrd_K, ite_true, ite_false, if_true, if_false, and_true, true_and] at h
          simp (decide := true) only [p135, b135_0, b135_9, b135_18, b135_23, b135_31, b135_35, c1, c2, c3, c4, h, xrd_ne, xrd_eq, xrd_n2, xrd_J, xrd_K, xsimp_1, xsimp_2, xtl, xtl0, xbit_0, xbit_1, exists_eq_left, and_assoc, exists_and_left, if_true, if_false, true_and, and_true, not_true, not_false_iff, x6, Int32.neg_neg, x01, x11, x21, x31, x41, x51, xn1, xn2, xn3, xn4, xn5, xn6, xn7, xv1, xv2, xv3, xv4, xv5, xv6, xv7]
        · skip
          simp (decide := true) only [g135, c1, c2, c3, c4, xrd_ne, xrd_eq, xrd_n2, xrd_J, xrd_K, ite_true, ite_false, if_true, if_false, and_true, true_and] at h
          simp (decide := true) only [p135, b135_0, b135_9, b135_18, b135_23, b135_31, b135_35, c1, c2, c3, c4, h, xrd_ne, xrd_eq, xrd_n2, xrd_J, xrd_K, xsimp_1, xsimp_2, xtl, xtl0, xbit_0, xbit_1, exists_eq_left, and_assoc, exists_and_left, if_true, if_false, true_and, and_true, not_true, not_false_iff, x6, Int32.neg_neg, x01, x11, x21, x31, x41, x51, xn1, xn2, xn3, xn4, xn5, xn6, xn7, xv1, xv2, xv3, xv4, xv5, xv6, xv7]
    · skip
      simp (decide := true) only [g135, c1, c2, xrd_ne, xrd_eq, xrd_n2, xrd_J, xrd_K, ite_true, ite_false, if_true, if_false, and_true, true_and] at h
      simp (decide := true) only [p135, b135_0, b135_9, b135_18, b135_23, b135_31, b135_35, c1, c2, h, xrd_ne, xrd_eq, xrd_n2, xrd_J, xrd_K, xsimp_1, xsimp_2, xtl, xtl0, xbit_0, xbit_1, exists_eq_left, and_assoc, exists_and_left, if_true, if_false, true_and, and_true, not_true, not_false_iff, x6, Int32.neg_neg, x01, x11, x21, x31, x41, x51, xn1, xn2, xn3, xn4, xn5, xn6, xn7, xv1, xv2, xv3, xv4, xv5, xv6, xv7]
  · skip
    simp (decide := true) only [g135, c1, xrd_ne, xrd_eq, xrd_n2, xrd_J, xrd_K, ite_true, ite_false, if_true, if_false, and_true, true_and] at h
    simp (decide := true) only [p135, b135_0, b135_9, b135_18, b135_23, b135_31, b135_35, c1, h, xrd_ne, xrd_eq, xrd_n2, xrd_J, xrd_K, xsimp_1, xsimp_2, xtl, xtl0, xbit_0, xbit_1, exists_eq_left, and_assoc, exists_and_left, if_true, if_false, true_and, and_true, not_true, not_false_iff, x6, Int32.neg_neg, x01, x11, x21, x31, x41, x51, xn1, xn2, xn3, xn4, xn5, xn6, xn7, xv1, xv2, xv3, xv4, xv5, xv6, xv7]
/-- X10_give -/
def p136 (S : xS) (v1 : Int32) (v2 : Int32) : Option Value × xS := if (v1 : Int32) < 0 then ((some (.int (-1)), (xwI S 84 1 ((S.1 84 1) + 1)))) else (if (v1 : Int32) < (S.1 54 0) then (if (v2 : Int32) = (-1) then (if ((S.1 59 v1.toNatClampNeg) : Int32) = 0 then (if ((S.1 58 v1.toNatClampNeg) : Int32) = 0 then ((some (.int (S.1 57 v1.toNatClampNeg)), (xwI S 57 v1.toNatClampNeg v2))) else ((some (.int (-6)), (xwI S 84 6 ((S.1 84 6) + 1))))) else ((some (.int (-6)), (xwI S 84 6 ((S.1 84 6) + 1))))) else (if (v2 : Int32) < 0 then ((some (.int (-1)), (xwI S 84 1 ((S.1 84 1) + 1)))) else (if (v2 : Int32) < 5 then (if ((S.1 59 v1.toNatClampNeg) : Int32) = 0 then (if ((S.1 58 v1.toNatClampNeg) : Int32) = 0 then (if (v2 : Int32) < (S.1 54 5) then ((some (.int (-6)), (xwI S 84 6 ((S.1 84 6) + 1)))) else ((some (.int (S.1 57 v1.toNatClampNeg)), (xwI S 57 v1.toNatClampNeg v2)))) else ((some (.int (-6)), (xwI S 84 6 ((S.1 84 6) + 1))))) else ((some (.int (-6)), (xwI S 84 6 ((S.1 84 6) + 1))))) else ((some (.int (-1)), (xwI S 84 1 ((S.1 84 1) + 1))))))) else ((some (.int (-1)), (xwI S 84 1 ((S.1 84 1) + 1)))))
def g136 (S : xS) (v1 : Int32) (v2 : Int32) : Prop := (if (v1 : Int32) < 0 then True else (if (v1 : Int32) < (S.1 54 0) then (if (v2 : Int32) = (-1) then (vp_in v1 10 ∧ (if ((S.1 59 v1.toNatClampNeg) : Int32) = 0 then (vp_in v1 10 ∧ (if ((S.1 58 v1.toNatClampNeg) : Int32) = 0 then (vp_in v1 10 ∧ (vp_in v1 10 ∧ True)) else True)) else True)) else (if (v2 : Int32) < 0 then True else (if (v2 : Int32) < 5 then (vp_in v1 10 ∧ (if ((S.1 59 v1.toNatClampNeg) : Int32) = 0 then (vp_in v1 10 ∧ (if ((S.1 58 v1.toNatClampNeg) : Int32) = 0 then (if (v2 : Int32) < (S.1 54 5) then True else (vp_in v1 10 ∧ (vp_in v1 10 ∧ True))) else True)) else True)) else True))) else True))
theorem t136 (d : Nat) (v1 : Int32) (v2 : Int32) (S : xS) (r : Option Value × xS) (h : g136 S v1 v2) : xX (d + 1) 136 0 [(0, .ref 54), (1, .int v1), (2, .int v2)] [] S r ↔ r = p136 S v1 v2 := by
  by_cases c1 : (v1 : Int32) < 0
  · skip
    simp (decide := true) only [g136, c1, xrd_ne, xrd_eq, xrd_n2, xrd_J, xrd_K, ite_true, ite_false, if_true, if_false, and_true, true_and] at h
    simp (decide := true) only [p136, b136_0, b136_5, b136_8, b136_13, b136_17, b136_20, b136_25, b136_26, b136_32, b136_35, b136_41, b136_42, b115_0, b115_4, b115_12, b115_16, b116_0, b116_4, b116_9, b116_13, b135_0, b135_9, b135_18, b135_23, b135_31, b135_35, b114_0, c1, h, xrd_ne, xrd_eq, xrd_n2, xrd_J, xrd_K, xsimp_1, xsimp_2, xtl, xtl0, xbit_0, xbit_1, exists_eq_left, and_assoc, exists_and_left, if_true, if_false, true_and, and_true, not_true, not_false_iff, x6, Int32.neg_neg, x01, x11, x21, x31, x41, x51, xn1, xn2, xn3, xn4, xn5, xn6, xn7, xv1, xv2, xv3, xv4, xv5, xv6, xv7]
  · skip
    by_cases c2 : (v1 : Int32) < (S.1 54 0)
    · skip
      by_cases c3 : (v2 : Int32) = (-1)
      · skip
        by_cases c4 : ((S.1 59 v1.toNatClampNeg) : Int32) = 0
        · skip
          by_cases c5 : ((S.1 58 v1.toNatClampNeg) : Int32) = 0
          · skip
            simp (decide := true) only [g136, c1, c2, c3, c4, c5, xrd_ne, xrd_eq, xrd_n2, xrd_J, xrd_K, ite_true, ite_false, if_true, if_false, and_true, true_and] at h
            simp (decide := true) only [p136, b136_0, b136_5, b136_8, b136_13, b136_17, b136_20, b136_25, b136_26, b136_32, b136_35, b136_41, b136_42, b115_0, b115_4, b115_12, b115_16, b116_0, b116_4, b116_9, b116_13, b135_0, b135_9, b135_18, b135_23, b135_31, b135_35, b114_0, c1, c2, c3, c4, c5, h, xrd_ne, xrd_eq, xrd_n2, xrd_J, xrd_K, xsimp_1, xsimp_2, xtl, xtl0, xbit_0, xbit_1, exists_eq_left, and_assoc, exists_and_left, if_true, if_false, true_and, and_true, not_true, not_false_iff, x6, Int32.neg_neg, x01, x11, x21, x31, x41, x51, xn1, xn2, xn3, xn4, xn5, xn6, xn7, xv1, xv2, xv3, xv4, xv5, xv6, xv7]
          · skip
            simp (decide := true) only [g136, c1, c2, c3, c4, c5, xrd_ne, xrd_eq, xrd_n2, xrd_J, xrd_K, ite_true, ite_false, if_true, if_false, and_true, true_and] at h
            simp (decide := true) only [p136, b136_0, b136_5, b136_8, b136_13, b136_17, b136_20, b136_25, b136_26, b136_32, b136_35, b136_41, b136_42, b115_0, b115_4, b115_12, b115_16, b116_0, b116_4, b116_9, b116_13, b135_0, b135_9, b135_18, b135_23, b135_31, b135_35, b114_0, c1, c2, c3, c4, c5, h, xrd_ne, xrd_eq, xrd_n2, xrd_J, xrd_K, xsimp_1, xsimp_2, xtl, xtl0, xbit_0, xbit_1, exists_eq_left, and_assoc, exists_and_left, if_true, if_false, true_and, and_true, not_true, not_false_iff, x6, Int32.neg_neg, x01, x11, x21, x31, x41, x51, xn1, xn2, xn3, xn4, xn5, xn6, xn7, xv1, xv2, xv3, xv4, xv5, xv6, xv7]
        · skip
          simp (decide := true) only [g136, c1, c2, c3, c4, xrd_ne, xrd_eq, xrd_n2, xrd_J, xrd_K, ite_true, ite_false, if_true, if_false, and_true, true_and] at h
          simp (decide := true) only [p136, b136_0, b136_5, b136_8, b136_13, b136_17, b136_20, b136_25, b136_26, b136_32, b136_35, b136_41, b136_42, b115_0, b115_4, b115_12, b115_16, b116_0, b116_4, b116_9, b116_13, b135_0, b135_9, b135_18, b135_23, b135_31, b135_35, b114_0, c1, c2, c3, c4, h, xrd_ne, xrd_eq, xrd_n2, xrd_J, xrd_K, xsimp_1, xsimp_2, xtl, xtl0, xbit_0, xbit_1, exists_eq_left, and_assoc, exists_and_left, if_true, if_false, true_and, and_true, not_true, not_false_iff, x6, Int32.neg_neg, x01, x11, x21, x31, x41, x51, xn1, xn2, xn3, xn4, xn5, xn6, xn7, xv1, xv2, xv3, xv4, xv5, xv6, xv7]
      · skip
        by_cases c4 : (v2 : Int32) < 0
        · skip
          simp (decide := true) only [g136, c1, c2, c3, c4, xrd_ne, xrd_eq, xrd_n2, xrd_J, xrd_K, ite_true, ite_false, if_true, if_false, and_true, true_and] at h
          simp (decide := true) only [p136, b136_0, b136_5, b136_8, b136_13, b136_17, b136_20, b136_25, b136_26, b136_32, b136_35, b136_41, b136_42, b115_0, b115_4, b115_12, b115_16, b116_0, b116_4, b116_9, b116_13, b135_0, b135_9, b135_18, b135_23, b135_31, b135_35, b114_0, c1, c2, c3, c4, h, xrd_ne, xrd_eq, xrd_n2, xrd_J, xrd_K, xsimp_1, xsimp_2, xtl, xtl0, xbit_0, xbit_1, exists_eq_left, and_assoc, exists_and_left, if_true, if_false, true_and, and_true, not_true, not_false_iff, x6, Int32.neg_neg, x01, x11, x21, x31, x41, x51, xn1, xn2, xn3, xn4, xn5, xn6, xn7, xv1, xv2, xv3, xv4, xv5, xv6, xv7]
        · skip
          by_cases c5 : (v2 : Int32) < 5
          · skip
            by_cases c6 : ((S.1 59 v1.toNatClampNeg) : Int32) = 0
            · skip
              by_cases c7 : ((S.1 58 v1.toNatClampNeg) : Int32) = 0
              · skip
                by_cases c8 : (v2 : Int32) < (S.1 54 5)
                · skip
                  simp (decide := true) only [g136, c1, c2, c3, c4, c5, c6, c7, c8, xrd_ne, xrd_eq, xrd_n2, xrd_J, xrd_K, ite_true, ite_false, if_true, if_false, and_true, true_and] at h
                  simp (decide := true) only [p136, b136_0, b136_5, b136_8, b136_13, b136_17, b136_20, b136_25, b136_26, b136_32, b136_35, b136_41, b136_42, b115_0, b115_4, b115_12, b115_16, b116_0, b116_4, b116_9, b116_13, b135_0, b135_9, b135_18, b135_23, b135_31, b135_35, b114_0, c1, c2, c3, c4, c5, c6, c7, c8, h, xrd_ne, xrd_eq, xrd_n2, xrd_J, xrd_K, xsimp_1, xsimp_2, xtl, xtl0, xbit_0, xbit_1, exists_eq_left, and_assoc, exists_and_left, if_true, if_false, true_and, and_true, not_true, not_false_iff, x6, Int32.neg_neg, x01, x11, x21, x31, x41, x51, xn1, xn2, xn3, xn4, xn5, xn6, xn7, xv1, xv2, xv3, xv4, xv5, xv6, xv7]
                · skip
                  simp (decide := true) only [g136, c1, c2, c3, c4, c5, c6, c7, c8, xrd_ne, xrd_eq, xrd_n2, xrd_J, xrd_K, ite_true, ite_false, if_true, if_false, and_true, true_and] at h
                  simp (decide := true) only [p136, b136_0, b136_5, b136_8, b136_13, b136_17, b136_20, b136_25, b136_26, b136_32, b136_35, b136_41, b136_42, b115_0, b115_4, b115_12, b115_16, b116_0, b116_4, b116_9, b116_13, b135_0, b135_9, b135_18, b135_23, b135_31, b135_35, b114_0, c1, c2, c3, c4, c5, c6, c7, c8, h, xrd_ne, xrd_eq, xrd_n2, xrd_J, xrd_K, xsimp_1, xsimp_2, xtl, xtl0, xbit_0, xbit_1, exists_eq_left, and_assoc, exists_and_left, if_true, if_false, true_and, and_true, not_true, not_false_iff, x6, Int32.neg_neg, x01, x11, x21, x31, x41, x51, xn1, xn2, xn3, xn4, xn5, xn6, xn7, xv1, xv2, xv3, xv4, xv5, xv6, xv7]
              · skip
                simp (decide := true) only [g136, c1, c2, c3, c4, c5, c6, c7, xrd_ne, xrd_eq, xrd_n2, xrd_J, xrd_K, ite_true, ite_false, if_true, if_false, and_true, true_and] at h
                simp (decide := true) only [p136, b136_0, b136_5, b136_8, b136_13, b136_17, b136_20, b136_25, b136_26, b136_32, b136_35, b136_41, b136_42, b115_0, b115_4, b115_12, b115_16, b116_0, b116_4, b116_9, b116_13, b135_0, b135_9, b135_18, b135_23, b135_31, b135_35, b114_0, c1, c2, c3, c4, c5, c6, c7, h, xrd_ne, xrd_eq, xrd_n2, xrd_J, xrd_K, xsimp_1, xsimp_2, xtl, xtl0, xbit_0, xbit_1, exists_eq_left, and_assoc, exists_and_left, if_true, if_false, true_and, and_true, not_true, not_false_iff, x6, Int32.neg_neg, x01, x11, x21, x31, x41, x51, xn1, xn2, xn3, xn4, xn5, xn6, xn7, xv1, xv2, xv3, xv4, xv5, xv6, xv7]
            · skip
              simp (decide := true) only [g136, c1, c2, c3, c4, c5, c6, xrd_ne, xrd_eq, xrd_n2, xrd_J, xrd_K, ite_true, ite_false, if_true, if_false, and_true, true_and] at h
              simp (decide := true) only [p136, b136_0, b136_5, b136_8, b136_13, b136_17, b136_20, b136_25, b136_26, b136_32, b136_35, b136_41, b136_42, b115_0, b115_4, b115_12, b115_16, b116_0, b116_4, b116_9, b116_13, b135_0, b135_9, b135_18, b135_23, b135_31, b135_35, b114_0, c1, c2, c3, c4, c5, c6, h, xrd_ne, xrd_eq, xrd_n2, xrd_J, xrd_K, xsimp_1, xsimp_2, xtl, xtl0, xbit_0, xbit_1, exists_eq_left, and_assoc, exists_and_left, if_true, if_false, true_and, and_true, not_true, not_false_iff, x6, Int32.neg_neg, x01, x11, x21, x31, x41, x51, xn1, xn2, xn3, xn4, xn5, xn6, xn7, xv1, xv2, xv3, xv4, xv5, xv6, xv7]
          · skip
            simp (decide := true) only [g136, c1, c2, c3, c4, c5, xrd_ne, xrd_eq, xrd_n2, xrd_J, xrd_K, ite_true, ite_false, if_true, if_false, and_true, true_and] at h
            simp (decide := true) only [p136, b136_0, b136_5, b136_8, b136_13, b136_17, b136_20, b136_25, b136_26, b136_32, b136_35, b136_41, b136_42, b115_0, b115_4, b115_12, b115_16, b116_0, b116_4, b116_9, b116_13, b135_0, b135_9, b135_18, b135_23, b135_31, b135_35, b114_0, c1, c2, c3, c4, c5, h, xrd_ne, xrd_eq, xrd_n2, xrd_J, xrd_K, xsimp_1, xsimp_2, xtl, xtl0, xbit_0, xbit_1, exists_eq_left, and_assoc, exists_and_left, if_true, if_false, true_and, and_true, not_true, not_false_iff, x6, Int32.neg_neg, x01, x11, x21, x31, x41, x51, xn1, xn2, xn3, xn4, xn5, xn6, xn7, xv1, xv2, xv3, xv4, xv5, xv6, xv7]
    · skip
      simp (decide := true) only [g136, c1, c2, xrd_ne, xrd_eq, xrd_n2, xrd_J, xrd_K, ite_true, ite_false, if_true, if_false, and_true, true_and] at h
      simp (decide := true) only [p136, b136_0, b136_5, b136_8, b136_13, b136_17, b136_20, b136_25, b136_26, b136_32, b136_35, b136_41, b136_42, b115_0, b115_4, b115_12, b115_16, b116_0, b116_4, b116_9, b116_13, b135_0, b135_9, b135_18, b135_23, b135_31, b135_35, b114_0, c1, c2, h, xrd_ne, xrd_eq, xrd_n2, xrd_J, xrd_K, xsimp_1, xsimp_2, xtl, xtl0, xbit_0, xbit_1, exists_eq_left, and_assoc, exists_and_left, if_true, if_false, true_and, and_true, not_true, not_false_iff, x6, Int32.neg_neg, x01, x11, x21, x31, x41, x51, xn1, xn2, xn3, xn4, xn5, xn6, xn7, xv1, xv2, xv3, xv4, xv5, xv6, xv7]
/-- X10_isFree -/
def p142 (S : xS) (v1 : Int32) : Option Value × xS := if ((S.1 59 v1.toNatClampNeg) : Int32) = 0 then (if ((S.1 58 v1.toNatClampNeg) : Int32) = 0 then ((some (.int 1), S)) else ((some (.int 0), S))) else ((some (.int 0), S))
def g142 (S : xS) (v1 : Int32) : Prop := (vp_in v1 10 ∧ (if ((S.1 59 v1.toNatClampNeg) : Int32) = 0 then (vp_in v1 10 ∧ True) else True))
theorem t142 (d : Nat) (v1 : Int32) (S : xS) (r : Option Value × xS) (h : g142 S v1) : xX d 142 0 [(0, .ref 54), (1, .int v1)] [] S r ↔ r = p142 S v1 := by
  by_cases c1 : ((S.1 59 v1.toNatClampNeg) : Int32) = 0
  · skip
    by_cases c2 : ((S.1 58 v1.toNatClampNeg) : Int32) = 0
    · skip
      simp (decide := true) only [g142, c1, c2, xrd_ne, xrd_eq, xrd_n2, xrd_J, xrd_K, ite_true, ite_false, if_true, if_false, and_true, true_and] at h
      simp (decide := true) only [p142, b142_0, b142_9, b142_18, b142_22, c1, c2, h, xrd_ne, xrd_eq, xrd_n2, xrd_J, xrd_K, xsimp_1, xsimp_2, xtl, xtl0, xbit_0, xbit_1, exists_eq_left, and_assoc, exists_and_left, if_true, if_false, true_and, and_true, not_true, not_false_iff, x6, Int32.neg_neg, x01, x11, x21, x31, x41, x51, xn1, xn2, xn3, xn4, xn5, xn6, xn7, xv1, xv2, xv3, xv4, xv5, xv6, xv7]
    · skip
      simp (decide := true) only [g142, c1, c2, xrd_ne, xrd_eq, xrd_n2, xrd_J, xrd_K, ite_true, ite_false, if_true, if_false, and_true, true_and] at h
      simp (decide := true) only [p142, b142_0, b142_9, b142_18, b142_22, c1, c2, h, xrd_ne, xrd_eq, xrd_n2, xrd_J, xrd_K, xsimp_1, xsimp_2, xtl, xtl0, xbit_0, xbit_1, exists_eq_left, and_assoc, exists_and_left, if_true, if_false, true_and, and_true, not_true, not_false_iff, x6, Int32.neg_neg, x01, x11, x21, x31, x41, x51, xn1, xn2, xn3, xn4, xn5, xn6, xn7, xv1, xv2, xv3, xv4, xv5, xv6, xv7]
  · skip
    simp (decide := true) only [g142, c1, xrd_ne, xrd_eq, xrd_n2, xrd_J, xrd_K, ite_true, ite_false, if_true, if_false, and_true, true_and] at h
    simp (decide := true) only [p142, b142_0, b142_9, b142_18, b142_22, c1, h, xrd_ne, xrd_eq, xrd_n2, xrd_J, xrd_K, xsimp_1, xsimp_2, xtl, xtl0, xbit_0, xbit_1, exists_eq_left, and_assoc, exists_and_left, if_true, if_false, true_and, and_true, not_true, not_false_iff, x6, Int32.neg_neg, x01, x11, x21, x31, x41, x51, xn1, xn2, xn3, xn4, xn5, xn6, xn7, xv1, xv2, xv3, xv4, xv5, xv6, xv7]
/-- X10_swap -/
def p145 (S : xS) (v1 : Int32) (v2 : Int32) : Option Value × xS := (none, (xwI (xwI S 85 v1.toNatClampNeg (S.1 85 v2.toNatClampNeg)) 85 v2.toNatClampNeg (S.1 85 v1.toNatClampNeg)))
def g145 (S : xS) (v1 : Int32) (v2 : Int32) : Prop := (vp_in v1 10 ∧ (vp_in v2 10 ∧ (vp_in v1 10 ∧ (vp_in v2 10 ∧ True))))
theorem t145 (d : Nat) (v1 : Int32) (v2 : Int32) (S : xS) (r : Option Value × xS) (h : g145 S v1 v2) : xX d 145 0 [(0, .ref 54), (1, .int v1), (2, .int v2)] [] S r ↔ r = p145 S v1 v2 := by
  simp (decide := true) only [g145, xrd_ne, xrd_eq, xrd_n2, xrd_J, xrd_K, ite_true, ite_false, if_true, if_false, and_true, true_and] at h
  simp (decide := true) only [p145, b145_0, h, xrd_ne, xrd_eq, xrd_n2, xrd_J, xrd_K, xsimp_1, xsimp_2, xtl, xtl0, xbit_0, xbit_1, exists_eq_left, and_assoc, exists_and_left, if_true, if_false, true_and, and_true, not_true, not_false_iff, x6, Int32.neg_neg, x01, x11, x21, x31, x41, x51, xn1, xn2, xn3, xn4, xn5, xn6, xn7, xv1, xv2, xv3, xv4, xv5, xv6, xv7]
/-- X10_isOpen -/
def p148 (S : xS) (v1 : Int32) (v2 : Int32) : Option Value × xS := if ((S.1 59 v1.toNatClampNeg) : Int32) = 0 then (if ((S.1 58 v1.toNatClampNeg) : Int32) = 0 then (if (v2 : Int32) = 0 then ((some (.int 1), S)) else (if ((S.1 87 (v2 - 1).toNatClampNeg) : Int32) < v1 then ((some (.int 1), S)) else ((some (.int 0), S)))) else ((some (.int 0), S))) else ((some (.int 0), S))
def g148 (S : xS) (v1 : Int32) (v2 : Int32) : Prop := (vp_in v1 10 ∧ (if ((S.1 59 v1.toNatClampNeg) : Int32) = 0 then (vp_in v1 10 ∧ (if ((S.1 58 v1.toNatClampNeg) : Int32) = 0 then (if (v2 : Int32) = 0 then True else (vp_in (v2 - 1) 10 ∧ True)) else True)) else True))
theorem t148 (d : Nat) (v1 : Int32) (v2 : Int32) (S : xS) (r : Option Value × xS) (h : g148 S v1 v2) : xX (d + 1) 148 0 [(0, .ref 54), (1, .int v1), (2, .int v2)] [] S r ↔ r = p148 S v1 v2 := by
  by_cases c1 : ((S.1 59 v1.toNatClampNeg) : Int32) = 0
  · skip
    by_cases c2 : ((S.1 58 v1.toNatClampNeg) : Int32) = 0
    · skip
      by_cases c3 : (v2 : Int32) = 0
      · skip
        simp (decide := true) only [g148, c1, c2, c3, xrd_ne, xrd_eq, xrd_n2, xrd_J, xrd_K, ite_true, ite_false, if_true, if_false, and_true, true_and] at h
        simp (decide := true) only [p148, b148_0, b148_5, b148_8, b148_12, b148_24, b148_28, b142_0, b142_9, b142_18, b142_22, c1, c2, c3, h, xrd_ne, xrd_eq, xrd_n2, xrd_J, xrd_K, xsimp_1, xsimp_2, xtl, xtl0, xbit_0, xbit_1, exists_eq_left, and_assoc, exists_and_left, if_true, if_false, true_and, and_true, not_true, not_false_iff, x6, Int32.neg_neg, x01, x11, x21, x31, x41, x51, xn1, xn2, xn3, xn4, xn5, xn6, xn7, xv1, xv2, xv3, xv4, xv5, xv6, xv7]
      · skip
        by_cases c4 : ((S.1 87 (v2 - 1).toNatClampNeg) : Int32) < v1
        · skip
          simp (decide := true) only [g148, c1, c2, c3, c4, xrd_ne, xrd_eq, xrd_n2, xrd_J, xrd_K, ite_true, ite_false, if_true, if_false, and_true, true_and] at h
          simp (decide := true) only [p148, b148_0, b148_5, b148_8, b148_12, b148_24, b148_28, b142_0, b142_9, b142_18, b142_22, c1, c2, c3, c4, h, xrd_ne, xrd_eq, xrd_n2, xrd_J, xrd_K, xsimp_1, xsimp_2, xtl, xtl0, xbit_0, xbit_1, exists_eq_left, and_assoc, exists_and_left, if_true, if_false, true_and, and_true, not_true, not_false_iff, x6, Int32.neg_neg, x01, x11, x21, x31, x41, x51, xn1, xn2, xn3, xn4, xn5, xn6, xn7, xv1, xv2, xv3, xv4, xv5, xv6, xv7]
        · skip
          simp (decide := true) only [g148, c1, c2, c3, c4, xrd_ne, xrd_eq, xrd_n2, xrd_J, xrd_K, ite_true, ite_false, if_true, if_false, and_true, true_and] at h
          simp (decide := true) only [p148, b148_0, b148_5, b148_8, b148_12, b148_24, b148_28, b142_0, b142_9, b142_18, b142_22, c1, c2, c3, c4, h, xrd_ne, xrd_eq, xrd_n2, xrd_J, xrd_K, xsimp_1, xsimp_2, xtl, xtl0, xbit_0, xbit_1, exists_eq_left, and_assoc, exists_and_left, if_true, if_false, true_and, and_true, not_true, not_false_iff, x6, Int32.neg_neg, x01, x11, x21, x31, x41, x51, xn1, xn2, xn3, xn4, xn5, xn6, xn7, xv1, xv2, xv3, xv4, xv5, xv6, xv7]
    · skip
      simp (decide := true) only [g148, c1, c2, xrd_ne, xrd_eq, xrd_n2, xrd_J, xrd_K, ite_true, ite_false, if_true, if_false, and_true, true_and] at h
      simp (decide := true) only [p148, b148_0, b148_5, b148_8, b148_12, b148_24, b148_28, b142_0, b142_9, b142_18, b142_22, c1, c2, h, xrd_ne, xrd_eq, xrd_n2, xrd_J, xrd_K, xsimp_1, xsimp_2, xtl, xtl0, xbit_0, xbit_1, exists_eq_left, and_assoc, exists_and_left, if_true, if_false, true_and, and_true, not_true, not_false_iff, x6, Int32.neg_neg, x01, x11, x21, x31, x41, x51, xn1, xn2, xn3, xn4, xn5, xn6, xn7, xv1, xv2, xv3, xv4, xv5, xv6, xv7]
  · skip
    simp (decide := true) only [g148, c1, xrd_ne, xrd_eq, xrd_n2, xrd_J, xrd_K, ite_true, ite_false, if_true, if_false, and_true, true_and] at h
    simp (decide := true) only [p148, b148_0, b148_5, b148_8, b148_12, b148_24, b148_28, b142_0, b142_9, b142_18, b142_22, c1, h, xrd_ne, xrd_eq, xrd_n2, xrd_J, xrd_K, xsimp_1, xsimp_2, xtl, xtl0, xbit_0, xbit_1, exists_eq_left, and_assoc, exists_and_left, if_true, if_false, true_and, and_true, not_true, not_false_iff, x6, Int32.neg_neg, x01, x11, x21, x31, x41, x51, xn1, xn2, xn3, xn4, xn5, xn6, xn7, xv1, xv2, xv3, xv4, xv5, xv6, xv7]
/-- X10_wave -/
def p153 (S : xS) (v1 : Int32) : Option Value × xS := if (v1 : Int32) < 0 then ((some (.int (-1)), S)) else (if (v1 : Int32) < (S.1 54 0) then ((some (.int (S.1 57 v1.toNatClampNeg)), S)) else ((some (.int (-1)), S)))
def g153 (S : xS) (v1 : Int32) : Prop := (if (v1 : Int32) < 0 then True else (if (v1 : Int32) < (S.1 54 0) then (vp_in v1 10 ∧ True) else True))
theorem t153 (d : Nat) (v1 : Int32) (S : xS) (r : Option Value × xS) (h : g153 S v1) : xX (d + 1) 153 0 [(0, .ref 54), (1, .int v1)] [] S r ↔ r = p153 S v1 := by
  by_cases c1 : (v1 : Int32) < 0
  · skip
    simp (decide := true) only [g153, c1, xrd_ne, xrd_eq, xrd_n2, xrd_J, xrd_K, ite_true, ite_false, if_true, if_false, and_true, true_and] at h
    simp (decide := true) only [p153, b153_0, b153_5, b153_8, b153_17, b115_0, b115_4, b115_12, b115_16, c1, h, xrd_ne, xrd_eq, xrd_n2, xrd_J, xrd_K, xsimp_1, xsimp_2, xtl, xtl0, xbit_0, xbit_1, exists_eq_left, and_assoc, exists_and_left, if_true, if_false, true_and, and_true, not_true, not_false_iff, x6, Int32.neg_neg, x01, x11, x21, x31, x41, x51, xn1, xn2, xn3, xn4, xn5, xn6, xn7, xv1, xv2, xv3, xv4, xv5, xv6, xv7]
  · skip
    by_cases c2 : (v1 : Int32) < (S.1 54 0)
    · skip
      simp (decide := true) only [g153, c1, c2, xrd_ne, xrd_eq, xrd_n2, xrd_J, xrd_K, ite_true, ite_false, if_true, if_false, and_true, true_and] at h
      simp (decide := true) only [p153, b153_0, b153_5, b153_8, b153_17, b115_0, b115_4, b115_12, b115_16, c1, c2, h, xrd_ne, xrd_eq, xrd_n2, xrd_J, xrd_K, xsimp_1, xsimp_2, xtl, xtl0, xbit_0, xbit_1, exists_eq_left, and_assoc, exists_and_left, if_true, if_false, true_and, and_true, not_true, not_false_iff, x6, Int32.neg_neg, x01, x11, x21, x31, x41, x51, xn1, xn2, xn3, xn4, xn5, xn6, xn7, xv1, xv2, xv3, xv4, xv5, xv6, xv7]
    · skip
      simp (decide := true) only [g153, c1, c2, xrd_ne, xrd_eq, xrd_n2, xrd_J, xrd_K, ite_true, ite_false, if_true, if_false, and_true, true_and] at h
      simp (decide := true) only [p153, b153_0, b153_5, b153_8, b153_17, b115_0, b115_4, b115_12, b115_16, c1, c2, h, xrd_ne, xrd_eq, xrd_n2, xrd_J, xrd_K, xsimp_1, xsimp_2, xtl, xtl0, xbit_0, xbit_1, exists_eq_left, and_assoc, exists_and_left, if_true, if_false, true_and, and_true, not_true, not_false_iff, x6, Int32.neg_neg, x01, x11, x21, x31, x41, x51, xn1, xn2, xn3, xn4, xn5, xn6, xn7, xv1, xv2, xv3, xv4, xv5, xv6, xv7]
/-- X10_isEnd -/
def p164 (S : xS) (v1 : Int32) : Option Value × xS := if ((S.1 54 50) : Int32) < (S.1 73 v1.toNatClampNeg) then ((some (.int 0), S)) else ((some (.int 1), S))
def g164 (S : xS) (v1 : Int32) : Prop := (vp_in v1 8 ∧ True)
theorem t164 (d : Nat) (v1 : Int32) (S : xS) (r : Option Value × xS) (h : g164 S v1) : xX d 164 0 [(0, .ref 54), (1, .int v1)] [] S r ↔ r = p164 S v1 := by
  by_cases c1 : ((S.1 54 50) : Int32) < (S.1 73 v1.toNatClampNeg)
  · skip
    simp (decide := true) only [g164, c1, xrd_ne, xrd_eq, xrd_n2, xrd_J, xrd_K, ite_true, ite_false, if_true, if_false, and_true, true_and] at h
    simp (decide := true) only [p164, b164_0, b164_13, b164_17, c1, h, xrd_ne, xrd_eq, xrd_n2, xrd_J, xrd_K, xsimp_1, xsimp_2, xtl, xtl0, xbit_0, xbit_1, exists_eq_left, and_assoc, exists_and_left, if_true, if_false, true_and, and_true, not_true, not_false_iff, x6, Int32.neg_neg, x01, x11, x21, x31, x41, x51, xn1, xn2, xn3, xn4, xn5, xn6, xn7, xv1, xv2, xv3, xv4, xv5, xv6, xv7]
  · skip
    simp (decide := true) only [g164, c1, xrd_ne, xrd_eq, xrd_n2, xrd_J, xrd_K, ite_true, ite_false, if_true, if_false, and_true, true_and] at h
    simp (decide := true) only [p164, b164_0, b164_13, b164_17, c1, h, xrd_ne, xrd_eq, xrd_n2, xrd_J, xrd_K, xsimp_1, xsimp_2, xtl, xtl0, xbit_0, xbit_1, exists_eq_left, and_assoc, exists_and_left, if_true, if_false, true_and, and_true, not_true, not_false_iff, x6, Int32.neg_neg, x01, x11, x21, x31, x41, x51, xn1, xn2, xn3, xn4, xn5, xn6, xn7, xv1, xv2, xv3, xv4, xv5, xv6, xv7]
/-- X10_letter -/
def p165 (S : xS) (v1 : Int32) : Option Value × xS := (some (.int (Int64.toInt32 (S.2.1 75 ((60 * v1) + (S.1 54 50)).toNatClampNeg))), S)
def g165 (S : xS) (v1 : Int32) : Prop := (vp_in ((60 * v1) + (S.1 54 50)) 480 ∧ True)
theorem t165 (d : Nat) (v1 : Int32) (S : xS) (r : Option Value × xS) (h : g165 S v1) : xX d 165 0 [(0, .ref 54), (1, .int v1)] [] S r ↔ r = p165 S v1 := by
  simp (decide := true) only [g165, xrd_ne, xrd_eq, xrd_n2, xrd_J, xrd_K, ite_true, ite_false, if_true, if_false, and_true, true_and] at h
  simp (decide := true) only [p165, b165_0, h, xrd_ne, xrd_eq, xrd_n2, xrd_J, xrd_K, xsimp_1, xsimp_2, xtl, xtl0, xbit_0, xbit_1, exists_eq_left, and_assoc, exists_and_left, if_true, if_false, true_and, and_true, not_true, not_false_iff, x6, Int32.neg_neg, x01, x11, x21, x31, x41, x51, xn1, xn2, xn3, xn4, xn5, xn6, xn7, xv1, xv2, xv3, xv4, xv5, xv6, xv7]
/-- X10_is -/
def p166 (S : xS) (v1 : Int32) (v2 : Int32) : Option Value × xS := if ((S.1 54 50) : Int32) < (S.1 73 v1.toNatClampNeg) then (if ((Int64.toInt32 (S.2.1 75 ((60 * v1) + (S.1 54 50)).toNatClampNeg)) : Int32) = v2 then ((some (.int 1), S)) else ((some (.int 0), S))) else ((some (.int 0), S))
def g166 (S : xS) (v1 : Int32) (v2 : Int32) : Prop := (vp_in v1 8 ∧ (if ((S.1 54 50) : Int32) < (S.1 73 v1.toNatClampNeg) then (vp_in ((60 * v1) + (S.1 54 50)) 480 ∧ True) else True))
theorem t166 (d : Nat) (v1 : Int32) (v2 : Int32) (S : xS) (r : Option Value × xS) (h : g166 S v1 v2) : xX (d + 1) 166 0 [(0, .ref 54), (1, .int v1), (2, .int v2)] [] S r ↔ r = p166 S v1 v2 := by
  by_cases c1 : ((S.1 54 50) : Int32) < (S.1 73 v1.toNatClampNeg)
  · skip
    by_cases c2 : ((Int64.toInt32 (S.2.1 75 ((60 * v1) + (S.1 54 50)).toNatClampNeg)) : Int32) = v2
    · skip
      simp (decide := true) only [g166, c1, c2, xrd_ne, xrd_eq, xrd_n2, xrd_J, xrd_K, ite_true, ite_false, if_true, if_false, and_true, true_and] at h
      simp (decide := true) only [p166, b166_0, b166_5, b166_8, b166_13, b166_17, b166_21, b164_0, b164_13, b164_17, b165_0, c1, c2, h, xrd_ne, xrd_eq, xrd_n2, xrd_J, xrd_K, xsimp_1, xsimp_2, xtl, xtl0, xbit_0, xbit_1, exists_eq_left, and_assoc, exists_and_left, if_true, if_false, true_and, and_true, not_true, not_false_iff, x6, Int32.neg_neg, x01, x11, x21, x31, x41, x51, xn1, xn2, xn3, xn4, xn5, xn6, xn7, xv1, xv2, xv3, xv4, xv5, xv6, xv7]
    · skip
      simp (decide := true) only [g166, c1, c2, xrd_ne, xrd_eq, xrd_n2, xrd_J, xrd_K, ite_true, ite_false, if_true, if_false, and_true, true_and] at h
      simp (decide := true) only [p166, b166_0, b166_5, b166_8, b166_13, b166_17, b166_21, b164_0, b164_13, b164_17, b165_0, c1, c2, h, xrd_ne, xrd_eq, xrd_n2, xrd_J, xrd_K, xsimp_1, xsimp_2, xtl, xtl0, xbit_0, xbit_1, exists_eq_left, and_assoc, exists_and_left, if_true, if_false, true_and, and_true, not_true, not_false_iff, x6, Int32.neg_neg, x01, x11, x21, x31, x41, x51, xn1, xn2, xn3, xn4, xn5, xn6, xn7, xv1, xv2, xv3, xv4, xv5, xv6, xv7]
  · skip
    simp (decide := true) only [g166, c1, xrd_ne, xrd_eq, xrd_n2, xrd_J, xrd_K, ite_true, ite_false, if_true, if_false, and_true, true_and] at h
    simp (decide := true) only [p166, b166_0, b166_5, b166_8, b166_13, b166_17, b166_21, b164_0, b164_13, b164_17, b165_0, c1, h, xrd_ne, xrd_eq, xrd_n2, xrd_J, xrd_K, xsimp_1, xsimp_2, xtl, xtl0, xbit_0, xbit_1, exists_eq_left, and_assoc, exists_and_left, if_true, if_false, true_and, and_true, not_true, not_false_iff, x6, Int32.neg_neg, x01, x11, x21, x31, x41, x51, xn1, xn2, xn3, xn4, xn5, xn6, xn7, xv1, xv2, xv3, xv4, xv5, xv6, xv7]
/-- X10_fault -/
def p169 (S : xS) : Option Value × xS := (some (.int (S.1 54 14)), S)
theorem t169 (d : Nat) (S : xS) (r : Option Value × xS) : xX d 169 0 [(0, .ref 54)] [] S r ↔ r = p169 S := by
  simp (decide := true) only [p169, b169_0, xrd_ne, xrd_eq, xrd_n2, xrd_J, xrd_K, xsimp_1, xsimp_2, xtl, xtl0, xbit_0, xbit_1, exists_eq_left, and_assoc, exists_and_left, if_true, if_false, true_and, and_true, not_true, not_false_iff, x6, Int32.neg_neg, x01, x11, x21, x31, x41, x51, xn1, xn2, xn3, xn4, xn5, xn6, xn7, xv1, xv2, xv3, xv4, xv5, xv6, xv7]
/-- X10_vote -/
def p170 (S : xS) (v1 : Int32) (v2 : Int32) (v3 : Int32) (v4 : Int32) (v5 : Int32) : Option Value × xS := if (v1 : Int32) < 0 then ((some (.int (-1)), (xwI S 84 1 ((S.1 84 1) + 1)))) else (if (v1 : Int32) < (S.1 54 2) then (if (v2 : Int32) < 0 then ((some (.int (-6)), (xwI S 84 6 ((S.1 84 6) + 1)))) else (if (1000 : Int32) < v2 then ((some (.int (-6)), (xwI S 84 6 ((S.1 84 6) + 1)))) else (if (v3 : Int32) < 0 then ((some (.int (-6)), (xwI S 84 6 ((S.1 84 6) + 1)))) else (if (1000 : Int32) < v3 then ((some (.int (-6)), (xwI S 84 6 ((S.1 84 6) + 1)))) else (if (v4 : Int32) < 0 then ((some (.int (-6)), (xwI S 84 6 ((S.1 84 6) + 1)))) else (if (1000 : Int32) < v4 then ((some (.int (-6)), (xwI S 84 6 ((S.1 84 6) + 1)))) else (if (v5 : Int32) < 0 then ((some (.int (-6)), (xwI S 84 6 ((S.1 84 6) + 1)))) else (if (1000 : Int32) < v5 then ((some (.int (-6)), (xwI S 84 6 ((S.1 84 6) + 1)))) else (if (v3 : Int32) < v2 then (if (v5 : Int32) < v4 then ((some (.int 1), (xwI S 80 v1.toNatClampNeg 1))) else (if (v2 : Int32) < (2 * v3) then ((some (.int 0), (xwI S 80 v1.toNatClampNeg 0))) else ((some (.int 1), (xwI S 80 v1.toNatClampNeg 1))))) else ((some (.int 0), (xwI S 80 v1.toNatClampNeg 0)))))))))))) else ((some (.int (-1)), (xwI S 84 1 ((S.1 84 1) + 1)))))
def g170 (S : xS) (v1 : Int32) (v2 : Int32) (v3 : Int32) (v4 : Int32) (v5 : Int32) : Prop := (if (v1 : Int32) < 0 then True else (if (v1 : Int32) < (S.1 54 2) then (if (v2 : Int32) < 0 then True else (if (1000 : Int32) < v2 then True else (if (v3 : Int32) < 0 then True else (if (1000 : Int32) < v3 then True else (if (v4 : Int32) < 0 then True else (if (1000 : Int32) < v4 then True else (if (v5 : Int32) < 0 then True else (if (1000 : Int32) < v5 then True else (if (v3 : Int32) < v2 then (if (v5 : Int32) < v4 then ((xbit 1 ∧ vp_in v1 6) ∧ (vp_in v1 6 ∧ True)) else (if (v2 : Int32) < (2 * v3) then ((xbit 0 ∧ vp_in v1 6) ∧ (vp_in v1 6 ∧ True)) else ((xbit 1 ∧ vp_in v1 6) ∧ (vp_in v1 6 ∧ True)))) else ((xbit 0 ∧ vp_in v1 6) ∧ (vp_in v1 6 ∧ True))))))))))) else True))
theorem t170 (d : Nat) (v1 : Int32) (v2 : Int32) (v3 : Int32) (v4 : Int32) (v5 : Int32) (S : xS) (r : Option Value × xS) (h : g170 S v1 v2 v3 v4 v5) : xX (d + 1) 170 0 [(0, .ref 54), (1, .int v1), (2, .int v2), (3, .int v3), (4, .int v4), (5, .int v5)] [] S r ↔ r = p170 S v1 v2 v3 v4 v5 := by
  by_cases c1 : (v1 : Int32) < 0
  · skip
    simp (decide := true) only [g170, c1, xrd_ne, xrd_eq, xrd_n2, xrd_J, xrd_K, ite_true, ite_false, if_true, if_false, and_true, true_and] at h
    simp (decide := true) only [p170, b170_0, b170_4, b170_12, b170_17, b170_18, b170_22, b170_29, b170_33, b170_40, b170_45, b170_53, b170_58, b170_66, b170_72, b170_73, b170_83, b170_90, b170_97, b170_101, b170_112, b170_116, b114_0, c1, h, xrd_ne, xrd_eq, xrd_n2, xrd_J, xrd_K, xsimp_1, xsimp_2, xtl, xtl0, xbit_0, xbit_1, exists_eq_left, and_assoc, exists_and_left, if_true, if_false, true_and, and_true, not_true, not_false_iff, x6, Int32.neg_neg, x01, x11, x21, x31, x41, x51, xn1, xn2, xn3, xn4, xn5, xn6, xn7, xv1, xv2, xv3, xv4, xv5, xv6, xv7]
  · skip
    by_cases c2 : (v1 : Int32) < (S.1 54 2)
    · skip
      by_cases c3 : (v2 : Int32) < 0
      · skip
        simp (decide := true) only [g170, c1, c2, c3, xrd_ne, xrd_eq, xrd_n2, xrd_J, xrd_K, ite_true, ite_false, if_true, if_false, and_true, true_and] at h
        simp (decide := true) only [p170, b170_0, b170_4, b170_12, b170_17, b170_18, b170_22, b170_29, b170_33, b170_40, b170_45, b170_53, b170_58, b170_66, b170_72, b170_73, b170_83, b170_90, b170_97, b170_101, b170_112, b170_116, b114_0, c1, c2, c3, h, xrd_ne, xrd_eq, xrd_n2, xrd_J, xrd_K, xsimp_1, xsimp_2, xtl, xtl0, xbit_0, xbit_1, exists_eq_left, and_assoc, exists_and_left, if_true, if_false, true_and, and_true, not_true, not_false_iff, x6, Int32.neg_neg, x01, x11, x21, x31, x41, x51, xn1, xn2, xn3, xn4, xn5, xn6, xn7, xv1, xv2, xv3, xv4, xv5, xv6, xv7]
      · skip
        by_cases c4 : (1000 : Int32) < v2
        · skip
          simp (decide := true) only [g170, c1, c2, c3, c4, xrd_ne, xrd_eq, xrd_n2, xrd_J, xrd_K, ite_true, ite_false, if_true, if_false, and_true, true_and] at h
          simp (decide := true) only [p170, b170_0, b170_4, b170_12, b170_17, b170_18, b170_22, b170_29, b170_33, b170_40, b170_45, b170_53, b170_58, b170_66, b170_72, b170_73, b170_83, b170_90, b170_97, b170_101, b170_112, b170_116, b114_0, c1, c2, c3, c4, h, xrd_ne, xrd_eq, xrd_n2, xrd_J, xrd_K, xsimp_1, xsimp_2, xtl, xtl0, xbit_0, xbit_1, exists_eq_left, and_assoc, exists_and_left, if_true, if_false, true_and, and_true, not_true, not_false_iff, x6, Int32.neg_neg, x01, x11, x21, x31, x41, x51, xn1, xn2, xn3, xn4, xn5, xn6, xn7, xv1, xv2, xv3, xv4, xv5, xv6, xv7]
        · skip
          by_cases c5 : (v3 : Int32) < 0
          · skip
            simp (decide := true) only [g170, c1, c2, c3, c4, c5, xrd_ne, xrd_eq, xrd_n2, xrd_J, xrd_K, ite_true, ite_false, if_true, if_false, and_true, true_and] at h
            simp (decide := true) only [p170, b170_0, b170_4, b170_12, b170_17, b170_18, b170_22, b170_29, b170_33, b170_40, b170_45, b170_53, b170_58, b170_66, b170_72, b170_73, b170_83, b170_90, b170_97, b170_101, b170_112, b170_116, b114_0, c1, c2, c3, c4, c5, h, xrd_ne, xrd_eq, xrd_n2, xrd_J, xrd_K, xsimp_1, xsimp_2, xtl, xtl0, xbit_0, xbit_1, exists_eq_left, and_assoc, exists_and_left, if_true, if_false, true_and, and_true, not_true, not_false_iff, x6, Int32.neg_neg, x01, x11, x21, x31, x41, x51, xn1, xn2, xn3, xn4, xn5, xn6, xn7, xv1, xv2, xv3, xv4, xv5, xv6, xv7]
          · skip
            by_cases c6 : (1000 : Int32) < v3
            · skip
              simp (decide := true) only [g170, c1, c2, c3, c4, c5, c6, xrd_ne, xrd_eq, xrd_n2, xrd_J, xrd_K, ite_true, ite_false, if_true, if_false, and_true, true_and] at h
              simp (decide := true) only [p170, b170_0, b170_4, b170_12, b170_17, b170_18, b170_22, b170_29, b170_33, b170_40, b170_45, b170_53, b170_58, b170_66, b170_72, b170_73, b170_83, b170_90, b170_97, b170_101, b170_112, b170_116, b114_0, c1, c2, c3, c4, c5, c6, h, xrd_ne, xrd_eq, xrd_n2, xrd_J, xrd_K, xsimp_1, xsimp_2, xtl, xtl0, xbit_0, xbit_1, exists_eq_left, and_assoc, exists_and_left, if_true, if_false, true_and, and_true, not_true, not_false_iff, x6, Int32.neg_neg, x01, x11, x21, x31, x41, x51, xn1, xn2, xn3, xn4, xn5, xn6, xn7, xv1, xv2, xv3, xv4, xv5, xv6, xv7]
            · skip
              by_cases c7 : (v4 : Int32) < 0
              · skip
                simp (decide := true) only [g170, c1, c2, c3, c4, c5, c6, c7, xrd_ne, xrd_eq, xrd_n2, xrd_J, xrd_K, ite_true, ite_false, if_true, if_false, and_true, true_and] at h
                simp (decide := true) only [p170, b170_0, b170_4, b170_12, b170_17, b170_18, b170_22, b170_29, b170_33, b170_40, b170_45, b170_53, b170_58, b170_66, b170_72, b170_73, b170_83, b170_90, b170_97, b170_101, b170_112, b170_116, b114_0, c1, c2, c3, c4, c5, c6, c7, h, xrd_ne, xrd_eq, xrd_n2, xrd_J, xrd_K, xsimp_1, xsimp_2, xtl, xtl0, xbit_0, xbit_1, exists_eq_left, and_assoc, exists_and_left, if_true, if_false, true_and, and_true, not_true, not_false_iff, x6, Int32.neg_neg, x01, x11, x21, x31, x41, x51, xn1, xn2, xn3, xn4, xn5, xn6, xn7, xv1, xv2, xv3, xv4, xv5, xv6, xv7]
              · skip
                by_cases c8 : (1000 : Int32) < v4
                · skip
                  simp (decide := true) only [g170, c1, c2, c3, c4, c5, c6, c7, c8, xrd_ne, xrd_eq, xrd_n2, xrd_J, xrd_K, ite_true, ite_false, if_true, if_false, and_true, true_and] at h
                  simp (decide := true) only [p170, b170_0, b170_4, b170_12, b170_17, b170_18, b170_22, b170_29, b170_33, b170_40, b170_45, b170_53, b170_58, b170_66, b170_72, b170_73, b170_83, b170_90, b170_97, b170_101, b170_112, b170_116, b114_0, c1, c2, c3, c4, c5, c6, c7, c8, h, xrd_ne, xrd_eq, xrd_n2, xrd_J, xrd_K, xsimp_1, xsimp_2, xtl, xtl0, xbit_0, xbit_1, exists_eq_left, and_assoc, exists_and_left, if_true, if_false, true_and, and_true, not_true, not_false_iff, x6, Int32.neg_neg, x01, x11, x21, x31, x41, x51, xn1, xn2, xn3, xn4, xn5, xn6, xn7, xv1, xv2, xv3, xv4, xv5, xv6, xv7]
                · skip
                  by_cases c9 : (v5 : Int32) < 0
                  · skip
                    simp (decide := true) only [g170, c1, c2, c3, c4, c5, c6, c7, c8, c9, xrd_ne, xrd_eq, xrd_n2, xrd_J, xrd_K, ite_true, ite_false, if_true, if_false, and_true, true_and] at h
                    simp (decide := true) only [p170, b170_0, b170_4, b170_12, b170_17, b170_18, b170_22, b170_29, b170_33, b170_40, b170_45, b170_53, b170_58, b170_66, b170_72, b170_73, b170_83, b170_90, b170_97, b170_101, b170_112, b170_116, b114_0, c1, c2, c3, c4, c5, c6, c7, c8, c9, h, xrd_ne, xrd_eq, xrd_n2, xrd_J, xrd_K, xsimp_1, xsimp_2, xtl, xtl0, xbit_0, xbit_1, exists_eq_left, and_assoc, exists_and_left, if_true, if_false, true_and, and_true, not_true, not_false_iff, x6, Int32.neg_neg, x01, x11, x21, x31, x41, x51, xn1, xn2, xn3, xn4, xn5, xn6, xn7, xv1, xv2, xv3, xv4, xv5, xv6, xv7]
                  · skip
                    by_cases c10 : (1000 : Int32) < v5
                    · skip
                      simp (decide := true) only [g170, c1, c2, c3, c4, c5, c6, c7, c8, c9, c10, xrd_ne, xrd_eq, xrd_n2, xrd_J, xrd_K, ite_true, ite_false, if_true, if_false, and_true, true_and] at h
                      simp (decide := true) only [p170, b170_0, b170_4, b170_12, b170_17, b170_18, b170_22, b170_29, b170_33, b170_40, b170_45, b170_53, b170_58, b170_66, b170_72, b170_73, b170_83, b170_90, b170_97, b170_101, b170_112, b170_116, b114_0, c1, c2, c3, c4, c5, c6, c7, c8, c9, c10, h, xrd_ne, xrd_eq, xrd_n2, xrd_J, xrd_K, xsimp_1, xsimp_2, xtl, xtl0, xbit_0, xbit_1, exists_eq_left, and_assoc, exists_and_left, if_true, if_false, true_and, and_true, not_true, not_false_iff, x6, Int32.neg_neg, x01, x11, x21, x31, x41, x51, xn1, xn2, xn3, xn4, xn5, xn6, xn7, xv1, xv2, xv3, xv4, xv5, xv6, xv7]
                    · skip
                      by_cases c11 : (v3 : Int32) < v2
                      · skip
                        by_cases c12 : (v5 : Int32) < v4
                        · skip
                          simp (decide := true) only [g170, c1, c2, c3, c4, c5, c6, c7, c8, c9, c10, c11, c12, xrd_ne, xrd_eq, xrd_n2, xrd_J, xrd_K, ite_true, ite_false, if_true, if_false, and_true, true_and] at h
                          simp (decide := true) only [p170, b170_0, b170_4, b170_12, b170_17, b170_18, b170_22, b170_29, b170_33, b170_40, b170_45, b170_53, b170_58, b170_66, b170_72, b170_73, b170_83, b170_90, b170_97, b170_101, b170_112, b170_116, b114_0, c1, c2, c3, c4, c5, c6, c7, c8, c9, c10, c11, c12, h, xrd_ne, xrd_eq, xrd_n2, xrd_J, xrd_K, xsimp_1, xsimp_2, xtl, xtl0, xbit_0, xbit_1, exists_eq_left, and_assoc, exists_and_left, if_true, if_false, true_and, and_true, not_true, not_false_iff, x6, Int32.neg_neg, x01, x11, x21, x31, x41, x51, xn1, xn2, xn3, xn4, xn5, xn6, xn7, xv1, xv2, xv3, xv4, xv5, xv6, xv7]
                        · skip
                          by_cases c13 : (v2 : Int32) < (2 * v3)
                          · skip
                            simp (decide := true) only [g170, c1, c2, c3, c4, c5, c6, c7, c8, c9, c10, c11, c12, c13, xrd_ne, xrd_eq, xrd_n2, xrd_J, xrd_K, ite_true, ite_false, if_true, if_false, and_true, true_and] at h
                            simp (decide := true) only [p170, b170_0, b170_4, b170_12, b170_17, b170_18, b170_22, b170_29, b170_33, b170_40, b170_45, b170_53, b170_58, b170_66, b170_72, b170_73, b170_83, b170_90, b170_97, b170_101, b170_112, b170_116, b114_0, c1, c2, c3, c4, c5, c6, c7, c8, c9, c10, c11, c12, c13, h, xrd_ne, xrd_eq, xrd_n2, xrd_J, xrd_K, xsimp_1, xsimp_2, xtl, xtl0, xbit_0, xbit_1, exists_eq_left, and_assoc, exists_and_left, if_true, if_false, true_and, and_true, not_true, not_false_iff, x6, Int32.neg_neg, x01, x11, x21, x31, x41, x51, xn1, xn2, xn3, xn4, xn5, xn6, xn7, xv1, xv2, xv3, xv4, xv5, xv6, xv7]
                          · skip
                            simp (decide := true) only [g170, c1, c2, c3, c4, c5, c6, c7, c8, c9, c10, c11, c12, c13, xrd_ne, xrd_eq, xrd_n2, xrd_J, xrd_K, ite_true, ite_false, if_true, if_false, and_true, true_and] at h
                            simp (decide := true) only [p170, b170_0, b170_4, b170_12, b170_17, b170_18, b170_22, b170_29, b170_33, b170_40, b170_45, b170_53, b170_58, b170_66, b170_72, b170_73, b170_83, b170_90, b170_97, b170_101, b170_112, b170_116, b114_0, c1, c2, c3, c4, c5, c6, c7, c8, c9, c10, c11, c12, c13, h, xrd_ne, xrd_eq, xrd_n2, xrd_J, xrd_K, xsimp_1, xsimp_2, xtl, xtl0, xbit_0, xbit_1, exists_eq_left, and_assoc, exists_and_left, if_true, if_false, true_and, and_true, not_true, not_false_iff, x6, Int32.neg_neg, x01, x11, x21, x31, x41, x51, xn1, xn2, xn3, xn4, xn5, xn6, xn7, xv1, xv2, xv3, xv4, xv5, xv6, xv7]
                      · skip
                        simp (decide := true) only [g170, c1, c2, c3, c4, c5, c6, c7, c8, c9, c10, c11, xrd_ne, xrd_eq, xrd_n2, xrd_J, xrd_K, ite_true, ite_false, if_true, if_false, and_true, true_and] at h
                        simp (decide := true) only [p170, b170_0, b170_4, b170_12, b170_17, b170_18, b170_22, b170_29, b170_33, b170_40, b170_45, b170_53, b170_58, b170_66, b170_72, b170_73, b170_83, b170_90, b170_97, b170_101, b170_112, b170_116, b114_0, c1, c2, c3, c4, c5, c6, c7, c8, c9, c10, c11, h, xrd_ne, xrd_eq, xrd_n2, xrd_J, xrd_K, xsimp_1, xsimp_2, xtl, xtl0, xbit_0, xbit_1, exists_eq_left, and_assoc, exists_and_left, if_true, if_false, true_and, and_true, not_true, not_false_iff, x6, Int32.neg_neg, x01, x11, x21, x31, x41, x51, xn1, xn2, xn3, xn4, xn5, xn6, xn7, xv1, xv2, xv3, xv4, xv5, xv6, xv7]
    · skip
      simp (decide := true) only [g170, c1, c2, xrd_ne, xrd_eq, xrd_n2, xrd_J, xrd_K, ite_true, ite_false, if_true, if_false, and_true, true_and] at h
      simp (decide := true) only [p170, b170_0, b170_4, b170_12, b170_17, b170_18, b170_22, b170_29, b170_33, b170_40, b170_45, b170_53, b170_58, b170_66, b170_72, b170_73, b170_83, b170_90, b170_97, b170_101, b170_112, b170_116, b114_0, c1, c2, h, xrd_ne, xrd_eq, xrd_n2, xrd_J, xrd_K, xsimp_1, xsimp_2, xtl, xtl0, xbit_0, xbit_1, exists_eq_left, and_assoc, exists_and_left, if_true, if_false, true_and, and_true, not_true, not_false_iff, x6, Int32.neg_neg, x01, x11, x21, x31, x41, x51, xn1, xn2, xn3, xn4, xn5, xn6, xn7, xv1, xv2, xv3, xv4, xv5, xv6, xv7]
/-- X10_embassy -/
def p172 (S : xS) (v1 : Int32) : Option Value × xS := if (v1 : Int32) < 0 then ((some (.int (-6)), (xwI S 84 6 ((S.1 84 6) + 1)))) else (if (9 : Int32) < v1 then ((some (.int (-6)), (xwI S 84 6 ((S.1 84 6) + 1)))) else (if ((S.1 54 3) : Int32) = 10 then ((some (.int (-7)), (xwI S 84 7 ((S.1 84 7) + 1)))) else ((some (.int (S.1 54 3)), (xwI (xwI S 81 (S.1 54 3).toNatClampNeg v1) 54 3 ((S.1 54 3) + 1))))))
def g172 (S : xS) (v1 : Int32) : Prop := (if (v1 : Int32) < 0 then True else (if (9 : Int32) < v1 then True else (if ((S.1 54 3) : Int32) = 10 then True else (vp_in (S.1 54 3) 10 ∧ True))))
theorem t172 (d : Nat) (v1 : Int32) (S : xS) (r : Option Value × xS) (h : g172 S v1) : xX (d + 1) 172 0 [(0, .ref 54), (1, .int v1)] [] S r ↔ r = p172 S v1 := by
  by_cases c1 : (v1 : Int32) < 0
  · skip
    simp (decide := true) only [g172, c1, xrd_ne, xrd_eq, xrd_n2, xrd_J, xrd_K, ite_true, ite_false, if_true, if_false, and_true, true_and] at h
    simp (decide := true) only [p172, b172_0, b172_4, b172_10, b172_16, b172_17, b172_26, b172_32, b172_33, b114_0, c1, h, xrd_ne, xrd_eq, xrd_n2, xrd_J, xrd_K, xsimp_1, xsimp_2, xtl, xtl0, xbit_0, xbit_1, exists_eq_left, and_assoc, exists_and_left, if_true, if_false, true_and, and_true, not_true, not_false_iff, x6, Int32.neg_neg, x01, x11, x21, x31, x41, x51, xn1, xn2, xn3, xn4, xn5, xn6, xn7, xv1, xv2, xv3, xv4, xv5, xv6, xv7]
  · skip
    by_cases c2 : (9 : Int32) < v1
    · skip
      simp (decide := true) only [g172, c1, c2, xrd_ne, xrd_eq, xrd_n2, xrd_J, xrd_K, ite_true, ite_false, if_true, if_false, and_true, true_and] at h
      simp (decide := true) only [p172, b172_0, b172_4, b172_10, b172_16, b172_17, b172_26, b172_32, b172_33, b114_0, c1, c2, h, xrd_ne, xrd_eq, xrd_n2, xrd_J, xrd_K, xsimp_1, xsimp_2, xtl, xtl0, xbit_0, xbit_1, exists_eq_left, and_assoc, exists_and_left, if_true, if_false, true_and, and_true, not_true, not_false_iff, x6, Int32.neg_neg, x01, x11, x21, x31, x41, x51, xn1, xn2, xn3, xn4, xn5, xn6, xn7, xv1, xv2, xv3, xv4, xv5, xv6, xv7]
    · skip
      by_cases c3 : ((S.1 54 3) : Int32) = 10
      · skip
        simp (decide := true) only [g172, c1, c2, c3, xrd_ne, xrd_eq, xrd_n2, xrd_J, xrd_K, ite_true, ite_false, if_true, if_false, and_true, true_and] at h
        simp (decide := true) only [p172, b172_0, b172_4, b172_10, b172_16, b172_17, b172_26, b172_32, b172_33, b114_0, c1, c2, c3, h, xrd_ne, xrd_eq, xrd_n2, xrd_J, xrd_K, xsimp_1, xsimp_2, xtl, xtl0, xbit_0, xbit_1, exists_eq_left, and_assoc, exists_and_left, if_true, if_false, true_and, and_true, not_true, not_false_iff, x6, Int32.neg_neg, x01, x11, x21, x31, x41, x51, xn1, xn2, xn3, xn4, xn5, xn6, xn7, xv1, xv2, xv3, xv4, xv5, xv6, xv7]
      · skip
        simp (decide := true) only [g172, c1, c2, c3, xrd_ne, xrd_eq, xrd_n2, xrd_J, xrd_K, ite_true, ite_false, if_true, if_false, and_true, true_and] at h
        simp (decide := true) only [p172, b172_0, b172_4, b172_10, b172_16, b172_17, b172_26, b172_32, b172_33, b114_0, c1, c2, c3, h, xrd_ne, xrd_eq, xrd_n2, xrd_J, xrd_K, xsimp_1, xsimp_2, xtl, xtl0, xbit_0, xbit_1, exists_eq_left, and_assoc, exists_and_left, if_true, if_false, true_and, and_true, not_true, not_false_iff, x6, Int32.neg_neg, x01, x11, x21, x31, x41, x51, xn1, xn2, xn3, xn4, xn5, xn6, xn7, xv1, xv2, xv3, xv4, xv5, xv6, xv7]
/-- X10_palace -/
def p173 (S : xS) (v1 : Int32) : Option Value × xS := if (v1 : Int32) < 0 then ((some (.int (-1)), (xwI S 84 1 ((S.1 84 1) + 1)))) else (if (35 : Int32) < v1 then ((some (.int (-1)), (xwI S 84 1 ((S.1 84 1) + 1)))) else ((some (.int (S.1 54 6)), (xwI S 54 6 v1))))
theorem t173 (d : Nat) (v1 : Int32) (S : xS) (r : Option Value × xS) : xX (d + 1) 173 0 [(0, .ref 54), (1, .int v1)] [] S r ↔ r = p173 S v1 := by
  by_cases c1 : (v1 : Int32) < 0
  · skip
    simp (decide := true) only [p173, b173_0, b173_4, b173_10, b173_15, b173_16, b114_0, c1, xrd_ne, xrd_eq, xrd_n2, xrd_J, xrd_K, xsimp_1, xsimp_2, xtl, xtl0, xbit_0, xbit_1, exists_eq_left, and_assoc, exists_and_left, if_true, if_false, true_and, and_true, not_true, not_false_iff, x6, Int32.neg_neg, x01, x11, x21, x31, x41, x51, xn1, xn2, xn3, xn4, xn5, xn6, xn7, xv1, xv2, xv3, xv4, xv5, xv6, xv7]
  · skip
    by_cases c2 : (35 : Int32) < v1
    · skip
      simp (decide := true) only [p173, b173_0, b173_4, b173_10, b173_15, b173_16, b114_0, c1, c2, xrd_ne, xrd_eq, xrd_n2, xrd_J, xrd_K, xsimp_1, xsimp_2, xtl, xtl0, xbit_0, xbit_1, exists_eq_left, and_assoc, exists_and_left, if_true, if_false, true_and, and_true, not_true, not_false_iff, x6, Int32.neg_neg, x01, x11, x21, x31, x41, x51, xn1, xn2, xn3, xn4, xn5, xn6, xn7, xv1, xv2, xv3, xv4, xv5, xv6, xv7]
    · skip
      simp (decide := true) only [p173, b173_0, b173_4, b173_10, b173_15, b173_16, b114_0, c1, c2, xrd_ne, xrd_eq, xrd_n2, xrd_J, xrd_K, xsimp_1, xsimp_2, xtl, xtl0, xbit_0, xbit_1, exists_eq_left, and_assoc, exists_and_left, if_true, if_false, true_and, and_true, not_true, not_false_iff, x6, Int32.neg_neg, x01, x11, x21, x31, x41, x51, xn1, xn2, xn3, xn4, xn5, xn6, xn7, xv1, xv2, xv3, xv4, xv5, xv6, xv7]
/-- X10_size -/
def p174 (S : xS) (v0 : Int32) : Option Value × xS := if (v0 : Int32) < 0 then ((some (.int (-v0)), S)) else ((some (.int v0), S))
theorem t174 (d : Nat) (v0 : Int32) (S : xS) (r : Option Value × xS) : xX d 174 0 [(0, .int v0)] [] S r ↔ r = p174 S v0 := by
  by_cases c1 : (v0 : Int32) < 0
  · skip
    simp (decide := true) only [p174, b174_0, b174_4, b174_9, c1, xrd_ne, xrd_eq, xrd_n2, xrd_J, xrd_K, xsimp_1, xsimp_2, xtl, xtl0, xbit_0, xbit_1, exists_eq_left, and_assoc, exists_and_left, if_true, if_false, true_and, and_true, not_true, not_false_iff, x6, Int32.neg_neg, x01, x11, x21, x31, x41, x51, xn1, xn2, xn3, xn4, xn5, xn6, xn7, xv1, xv2, xv3, xv4, xv5, xv6, xv7]
  · skip
    simp (decide := true) only [p174, b174_0, b174_4, b174_9, c1, xrd_ne, xrd_eq, xrd_n2, xrd_J, xrd_K, xsimp_1, xsimp_2, xtl, xtl0, xbit_0, xbit_1, exists_eq_left, and_assoc, exists_and_left, if_true, if_false, true_and, and_true, not_true, not_false_iff, x6, Int32.neg_neg, x01, x11, x21, x31, x41, x51, xn1, xn2, xn3, xn4, xn5, xn6, xn7, xv1, xv2, xv3, xv4, xv5, xv6, xv7]
/-- X10_file -/
def p176 (S : xS) (v1 : Int32) : Option Value × xS := if (v1 : Int32) < 0 then ((some (.int (-1)), (xwI S 84 1 ((S.1 84 1) + 1)))) else (if (v1 : Int32) < (S.1 54 0) then (if ((S.1 54 4) : Int32) = 12 then ((some (.int (-7)), (xwI S 84 7 ((S.1 84 7) + 1)))) else (if ((S.1 59 v1.toNatClampNeg) : Int32) = 0 then ((some (.int (S.1 54 4)), (xwI (xwI (xwI S 82 (S.1 54 4).toNatClampNeg v1) 83 (S.1 54 4).toNatClampNeg 0) 54 4 ((S.1 54 4) + 1)))) else ((some (.int (S.1 54 4)), (xwI (xwI (xwI S 82 (S.1 54 4).toNatClampNeg v1) 83 (S.1 54 4).toNatClampNeg 2) 54 4 ((S.1 54 4) + 1)))))) else ((some (.int (-1)), (xwI S 84 1 ((S.1 84 1) + 1)))))
def g176 (S : xS) (v1 : Int32) : Prop := (if (v1 : Int32) < 0 then True else (if (v1 : Int32) < (S.1 54 0) then (if ((S.1 54 4) : Int32) = 12 then True else (vp_in (S.1 54 4) 12 ∧ (vp_in v1 10 ∧ (if ((S.1 59 v1.toNatClampNeg) : Int32) = 0 then (vp_in (S.1 54 4) 12 ∧ True) else (vp_in (S.1 54 4) 12 ∧ True))))) else True))
theorem t176 (d : Nat) (v1 : Int32) (S : xS) (r : Option Value × xS) (h : g176 S v1) : xX (d + 1) 176 0 [(0, .ref 54), (1, .int v1)] [] S r ↔ r = p176 S v1 := by
  by_cases c1 : (v1 : Int32) < 0
  · skip
    simp (decide := true) only [g176, c1, xrd_ne, xrd_eq, xrd_n2, xrd_J, xrd_K, ite_true, ite_false, if_true, if_false, and_true, true_and] at h
    simp (decide := true) only [p176, b176_0, b176_5, b176_8, b176_13, b176_14, b176_23, b176_29, b176_30, b176_57, b176_61, b115_0, b115_4, b115_12, b115_16, b114_0, c1, h, xrd_ne, xrd_eq, xrd_n2, xrd_J, xrd_K, xsimp_1, xsimp_2, xtl, xtl0, xbit_0, xbit_1, exists_eq_left, and_assoc, exists_and_left, if_true, if_false, true_and, and_true, not_true, not_false_iff, x6, Int32.neg_neg, x01, x11, x21, x31, x41, x51, xn1, xn2, xn3, xn4, xn5, xn6, xn7, xv1, xv2, xv3, xv4, xv5, xv6, xv7]
  · skip
    by_cases c2 : (v1 : Int32) < (S.1 54 0)
    · skip
      by_cases c3 : ((S.1 54 4) : Int32) = 12
      · skip
        simp (decide := true) only [g176, c1, c2, c3, xrd_ne, xrd_eq, xrd_n2, xrd_J, xrd_K, ite_true, ite_false, if_true, if_false, and_true, true_and] at h
        simp (decide := true) only [p176, b176_0, b176_5, b176_8, b176_13, b176_14, b176_23, b176_29, b176_30, b176_57, b176_61, b115_0, b115_4, b115_12, b115_16, b114_0, c1, c2, c3, h, xrd_ne, xrd_eq, xrd_n2, xrd_J, xrd_K, xsimp_1, xsimp_2, xtl, xtl0, xbit_0, xbit_1, exists_eq_left, and_assoc, exists_and_left, if_true, if_false, true_and, and_true, not_true, not_false_iff, x6, Int32.neg_neg, x01, x11, x21, x31, x41, x51, xn1, xn2, xn3, xn4, xn5, xn6, xn7, xv1, xv2, xv3, xv4, xv5, xv6, xv7]
      · skip
        by_cases c4 : ((S.1 59 v1.toNatClampNeg) : Int32) = 0
        · skip
          simp (decide := true) only [g176, c1, c2, c3, c4, xrd_ne, xrd_eq, xrd_n2, xrd_J, xrd_K, ite_true, ite_false, if_true, if_false, and_true, true_and] at h
          simp (decide := true) only [p176, b176_0, b176_5, b176_8, b176_13, b176_14, b176_23, b176_29, b176_30, b176_57, b176_61, b115_0, b115_4, b115_12, b115_16, b114_0, c1, c2, c3, c4, h, xrd_ne, xrd_eq, xrd_n2, xrd_J, xrd_K, xsimp_1, xsimp_2, xtl, xtl0, xbit_0, xbit_1, exists_eq_left, and_assoc, exists_and_left, if_true, if_false, true_and, and_true, not_true, not_false_iff, x6, Int32.neg_neg, x01, x11, x21, x31, x41, x51, xn1, xn2, xn3, xn4, xn5, xn6, xn7, xv1, xv2, xv3, xv4, xv5, xv6, xv7]
        · skip
          simp (decide := true) only [g176, c1, c2, c3, c4, xrd_ne, xrd_eq, xrd_n2, xrd_J, xrd_K, ite_true, ite_false, if_true, if_false, and_true, true_and] at h
          simp (decide := true) only [p176, b176_0, b176_5, b176_8, b176_13, b176_14, b176_23, b176_29, b176_30, b176_57, b176_61, b115_0, b115_4, b115_12, b115_16, b114_0, c1, c2, c3, c4, h, xrd_ne, xrd_eq, xrd_n2, xrd_J, xrd_K, xsimp_1, xsimp_2, xtl, xtl0, xbit_0, xbit_1, exists_eq_left, and_assoc, exists_and_left, if_true, if_false, true_and, and_true, not_true, not_false_iff, x6, Int32.neg_neg, x01, x11, x21, x31, x41, x51, xn1, xn2, xn3, xn4, xn5, xn6, xn7, xv1, xv2, xv3, xv4, xv5, xv6, xv7]
    · skip
      simp (decide := true) only [g176, c1, c2, xrd_ne, xrd_eq, xrd_n2, xrd_J, xrd_K, ite_true, ite_false, if_true, if_false, and_true, true_and] at h
      simp (decide := true) only [p176, b176_0, b176_5, b176_8, b176_13, b176_14, b176_23, b176_29, b176_30, b176_57, b176_61, b115_0, b115_4, b115_12, b115_16, b114_0, c1, c2, h, xrd_ne, xrd_eq, xrd_n2, xrd_J, xrd_K, xsimp_1, xsimp_2, xtl, xtl0, xbit_0, xbit_1, exists_eq_left, and_assoc, exists_and_left, if_true, if_false, true_and, and_true, not_true, not_false_iff, x6, Int32.neg_neg, x01, x11, x21, x31, x41, x51, xn1, xn2, xn3, xn4, xn5, xn6, xn7, xv1, xv2, xv3, xv4, xv5, xv6, xv7]
/-- X10_road -/
def p177 (S : xS) (v1 : Int32) : Option Value × xS := if (v1 : Int32) < 0 then ((some (.int (-1)), (xwI S 84 1 ((S.1 84 1) + 1)))) else (if (v1 : Int32) < (S.1 54 4) then (if ((S.1 83 v1.toNatClampNeg) : Int32) = 0 then (if ((S.1 54 5) : Int32) = 5 then ((some (.int (-6)), (xwI S 84 6 ((S.1 84 6) + 1)))) else ((some (.int 1), (xwI S 83 v1.toNatClampNeg 1)))) else ((some (.int (-6)), (xwI S 84 6 ((S.1 84 6) + 1))))) else ((some (.int (-1)), (xwI S 84 1 ((S.1 84 1) + 1)))))
def g177 (S : xS) (v1 : Int32) : Prop := (if (v1 : Int32) < 0 then True else (if (v1 : Int32) < (S.1 54 4) then (vp_in v1 12 ∧ (if ((S.1 83 v1.toNatClampNeg) : Int32) = 0 then (if ((S.1 54 5) : Int32) = 5 then True else (vp_in v1 12 ∧ True)) else True)) else True))
theorem t177 (d : Nat) (v1 : Int32) (S : xS) (r : Option Value × xS) (h : g177 S v1) : xX (d + 1) 177 0 [(0, .ref 54), (1, .int v1)] [] S r ↔ r = p177 S v1 := by
  by_cases c1 : (v1 : Int32) < 0
  · skip
    simp (decide := true) only [g177, c1, xrd_ne, xrd_eq, xrd_n2, xrd_J, xrd_K, ite_true, ite_false, if_true, if_false, and_true, true_and] at h
    simp (decide := true) only [p177, b177_0, b177_4, b177_12, b177_17, b177_18, b177_27, b177_35, b177_41, b177_42, b114_0, c1, h, xrd_ne, xrd_eq, xrd_n2, xrd_J, xrd_K, xsimp_1, xsimp_2, xtl, xtl0, xbit_0, xbit_1, exists_eq_left, and_assoc, exists_and_left, if_true, if_false, true_and, and_true, not_true, not_false_iff, x6, Int32.neg_neg, x01, x11, x21, x31, x41, x51, xn1, xn2, xn3, xn4, xn5, xn6, xn7, xv1, xv2, xv3, xv4, xv5, xv6, xv7]
  · skip
    by_cases c2 : (v1 : Int32) < (S.1 54 4)
    · skip
      by_cases c3 : ((S.1 83 v1.toNatClampNeg) : Int32) = 0
      · skip
        by_cases c4 : ((S.1 54 5) : Int32) = 5
        · skip
          simp (decide := true) only [g177, c1, c2, c3, c4, xrd_ne, xrd_eq, xrd_n2, xrd_J, xrd_K, ite_true, ite_false, if_true, if_false, and_true, true_and] at h
          simp (decide := true) only [p177, b177_0, b177_4, b177_12, b177_17, b177_18, b177_27, b177_35, b177_41, b177_42, b114_0, c1, c2, c3, c4, h, xrd_ne, xrd_eq, xrd_n2, xrd_J, xrd_K, xsimp_1, xsimp_2, xtl, xtl0, xbit_0, xbit_1, exists_eq_left, and_assoc, exists_and_left, if_true, if_false, true_and, and_true, not_true, not_false_iff, x6, Int32.neg_neg, x01, x11, x21, x31, x41, x51, xn1, xn2, xn3, xn4, xn5, xn6, xn7, xv1, xv2, xv3, xv4, xv5, xv6, xv7]
        · skip
          simp (decide := true) only [g177, c1, c2, c3, c4, xrd_ne, xrd_eq, xrd_n2, xrd_J, xrd_K, ite_true, ite_false, if_true, if_false, and_true, true_and] at h
          simp (decide := true) only [p177, b177_0, b177_4, b177_12, b177_17, b177_18, b177_27, b177_35, b177_41, b177_42, b114_0, c1, c2, c3, c4, h, xrd_ne, xrd_eq, xrd_n2, xrd_J, xrd_K, xsimp_1, xsimp_2, xtl, xtl0, xbit_0, xbit_1, exists_eq_left, and_assoc, exists_and_left, if_true, if_false, true_and, and_true, not_true, not_false_iff, x6, Int32.neg_neg, x01, x11, x21, x31, x41, x51, xn1, xn2, xn3, xn4, xn5, xn6, xn7, xv1, xv2, xv3, xv4, xv5, xv6, xv7]
      · skip
        simp (decide := true) only [g177, c1, c2, c3, xrd_ne, xrd_eq, xrd_n2, xrd_J, xrd_K, ite_true, ite_false, if_true, if_false, and_true, true_and] at h
        simp (decide := true) only [p177, b177_0, b177_4, b177_12, b177_17, b177_18, b177_27, b177_35, b177_41, b177_42, b114_0, c1, c2, c3, h, xrd_ne, xrd_eq, xrd_n2, xrd_J, xrd_K, xsimp_1, xsimp_2, xtl, xtl0, xbit_0, xbit_1, exists_eq_left, and_assoc, exists_and_left, if_true, if_false, true_and, and_true, not_true, not_false_iff, x6, Int32.neg_neg, x01, x11, x21, x31, x41, x51, xn1, xn2, xn3, xn4, xn5, xn6, xn7, xv1, xv2, xv3, xv4, xv5, xv6, xv7]
    · skip
      simp (decide := true) only [g177, c1, c2, xrd_ne, xrd_eq, xrd_n2, xrd_J, xrd_K, ite_true, ite_false, if_true, if_false, and_true, true_and] at h
      simp (decide := true) only [p177, b177_0, b177_4, b177_12, b177_17, b177_18, b177_27, b177_35, b177_41, b177_42, b114_0, c1, c2, h, xrd_ne, xrd_eq, xrd_n2, xrd_J, xrd_K, xsimp_1, xsimp_2, xtl, xtl0, xbit_0, xbit_1, exists_eq_left, and_assoc, exists_and_left, if_true, if_false, true_and, and_true, not_true, not_false_iff, x6, Int32.neg_neg, x01, x11, x21, x31, x41, x51, xn1, xn2, xn3, xn4, xn5, xn6, xn7, xv1, xv2, xv3, xv4, xv5, xv6, xv7]
/-- X10_days -/
def p178 (S : xS) (v1 : Int32) (v2 : Int32) : Option Value × xS := if (v1 : Int32) < 0 then ((some (.int (-1)), S)) else (if (v1 : Int32) < (S.1 54 4) then (if (v2 : Int32) < 0 then ((some (.int (-1)), S)) else (if (v2 : Int32) < (S.1 54 0) then (if ((S.1 83 v1.toNatClampNeg) : Int32) = 1 then ((some (.int 4), S)) else (if ((S.1 83 v1.toNatClampNeg) : Int32) = 2 then (if (1 : Int32) = (S.1 59 v2.toNatClampNeg) then ((some (.int 0), S)) else ((some (.int 2), S))) else (if (0 : Int32) = (S.1 59 v2.toNatClampNeg) then ((some (.int 0), S)) else ((some (.int 2), S))))) else ((some (.int (-1)), S)))) else ((some (.int (-1)), S)))
def g178 (S : xS) (v1 : Int32) (v2 : Int32) : Prop := (if (v1 : Int32) < 0 then True else (if (v1 : Int32) < (S.1 54 4) then (if (v2 : Int32) < 0 then True else (if (v2 : Int32) < (S.1 54 0) then (vp_in v1 12 ∧ (if ((S.1 83 v1.toNatClampNeg) : Int32) = 1 then True else (vp_in v1 12 ∧ (if ((S.1 83 v1.toNatClampNeg) : Int32) = 2 then (vp_in v2 10 ∧ True) else (vp_in v2 10 ∧ True))))) else True)) else True))
theorem t178 (d : Nat) (v1 : Int32) (v2 : Int32) (S : xS) (r : Option Value × xS) (h : g178 S v1 v2) : xX (d + 1) 178 0 [(0, .ref 54), (1, .int v1), (2, .int v2)] [] S r ↔ r = p178 S v1 v2 := by
  by_cases c1 : (v1 : Int32) < 0
  · skip
    simp (decide := true) only [g178, c1, xrd_ne, xrd_eq, xrd_n2, xrd_J, xrd_K, ite_true, ite_false, if_true, if_false, and_true, true_and] at h
    simp (decide := true) only [p178, b178_0, b178_4, b178_12, b178_17, b178_20, b178_22, b178_32, b178_34, b178_44, b178_48, b178_58, b178_62, b115_0, b115_4, b115_12, b115_16, c1, h, xrd_ne, xrd_eq, xrd_n2, xrd_J, xrd_K, xsimp_1, xsimp_2, xtl, xtl0, xbit_0, xbit_1, exists_eq_left, and_assoc, exists_and_left, if_true, if_false, true_and, and_true, not_true, not_false_iff, x6, Int32.neg_neg, x01, x11, x21, x31, x41, x51, xn1, xn2, xn3, xn4, xn5, xn6, xn7, xv1, xv2, xv3, xv4, xv5, xv6, xv7]
  · skip
    by_cases c2 : (v1 : Int32) < (S.1 54 4)
    · skip
      by_cases c3 : (v2 : Int32) < 0
      · skip
        simp (decide := true) only [g178, c1, c2, c3, xrd_ne, xrd_eq, xrd_n2, xrd_J, xrd_K, ite_true, ite_false, if_true, if_false, and_true, true_and] at h
        simp (decide := true) only [p178, b178_0, b178_4, b178_12, b178_17, b178_20, b178_22, b178_32, b178_34, b178_44, b178_48, b178_58, b178_62, b115_0, b115_4, b115_12, b115_16, c1, c2, c3, h, xrd_ne, xrd_eq, xrd_n2, xrd_J, xrd_K, xsimp_1, xsimp_2, xtl, xtl0, xbit_0, xbit_1, exists_eq_left, and_assoc, exists_and_left, if_true, if_false, true_and, and_true, not_true, not_false_iff, x6, Int32.neg_neg, x01, x11, x21, x31, x41, x51, xn1, xn2, xn3, xn4, xn5, xn6, xn7, xv1, xv2, xv3, xv4, xv5, xv6, xv7]
      · skip
        by_cases c4 : (v2 : Int32) < (S.1 54 0)
        · skip
          by_cases c5 : ((S.1 83 v1.toNatClampNeg) : Int32) = 1
          · skip
            simp (decide := true) only [g178, c1, c2, c3, c4, c5, xrd_ne, xrd_eq, xrd_n2, xrd_J, xrd_K, ite_true, ite_false, if_true, if_false, and_true, true_and] at h
            simp (decide := true) only [p178, b178_0, b178_4, b178_12, b178_17, b178_20, b178_22, b178_32, b178_34, b178_44, b178_48, b178_58, b178_62, b115_0, b115_4, b115_12, b115_16, c1, c2, c3, c4, c5, h, xrd_ne, xrd_eq, xrd_n2, xrd_J, xrd_K, xsimp_1, xsimp_2, xtl, xtl0, xbit_0, xbit_1, exists_eq_left, and_assoc, exists_and_left, if_true, if_false, true_and, and_true, not_true, not_false_iff, x6, Int32.neg_neg, x01, x11, x21, x31, x41, x51, xn1, xn2, xn3, xn4, xn5, xn6, xn7, xv1, xv2, xv3, xv4, xv5, xv6, xv7]
          · skip
            by_cases c6 : ((S.1 83 v1.toNatClampNeg) : Int32) = 2
            · skip
              by_cases c7 : (1 : Int32) = (S.1 59 v2.toNatClampNeg)
              · skip
                simp (decide := true) only [g178, c1, c2, c3, c4, c5, c6, c7.symm, xrd_ne, xrd_eq, xrd_n2, xrd_J, xrd_K, ite_true, ite_false, if_true, if_false, and_true, true_and] at h
                simp (decide := true) only [p178, b178_0, b178_4, b178_12, b178_17, b178_20, b178_22, b178_32, b178_34, b178_44, b178_48, b178_58, b178_62, b115_0, b115_4, b115_12, b115_16, c1, c2, c3, c4, c5, c6, c7.symm, h, xrd_ne, xrd_eq, xrd_n2, xrd_J, xrd_K, xsimp_1, xsimp_2, xtl, xtl0, xbit_0, xbit_1, exists_eq_left, and_assoc, exists_and_left, if_true, if_false, true_and, and_true, not_true, not_false_iff, x6, Int32.neg_neg, x01, x11, x21, x31, x41, x51, xn1, xn2, xn3, xn4, xn5, xn6, xn7, xv1, xv2, xv3, xv4, xv5, xv6, xv7]
              · skip
                simp (decide := true) only [g178, c1, c2, c3, c4, c5, c6, c7, xrd_ne, xrd_eq, xrd_n2, xrd_J, xrd_K, ite_true, ite_false, if_true, if_false, and_true, true_and] at h
                simp (decide := true) only [p178, b178_0, b178_4, b178_12, b178_17, b178_20, b178_22, b178_32, b178_34, b178_44, b178_48, b178_58, b178_62, b115_0, b115_4, b115_12, b115_16, c1, c2, c3, c4, c5, c6, c7, h, xrd_ne, xrd_eq, xrd_n2, xrd_J, xrd_K, xsimp_1, xsimp_2, xtl, xtl0, xbit_0, xbit_1, exists_eq_left, and_assoc, exists_and_left, if_true, if_false, true_and, and_true, not_true, not_false_iff, x6, Int32.neg_neg, x01, x11, x21, x31, x41, x51, xn1, xn2, xn3, xn4, xn5, xn6, xn7, xv1, xv2, xv3, xv4, xv5, xv6, xv7]
            · skip
              by_cases c7 : (0 : Int32) = (S.1 59 v2.toNatClampNeg)
              · skip
                simp (decide := true) only [g178, c1, c2, c3, c4, c5, c6, c7.symm, xrd_ne, xrd_eq, xrd_n2, xrd_J, xrd_K, ite_true, ite_false, if_true, if_false, and_true, true_and] at h
                simp (decide := true) only [p178, b178_0, b178_4, b178_12, b178_17, b178_20, b178_22, b178_32, b178_34, b178_44, b178_48, b178_58, b178_62, b115_0, b115_4, b115_12, b115_16, c1, c2, c3, c4, c5, c6, c7.symm, h, xrd_ne, xrd_eq, xrd_n2, xrd_J, xrd_K, xsimp_1, xsimp_2, xtl, xtl0, xbit_0, xbit_1, exists_eq_left, and_assoc, exists_and_left, if_true, if_false, true_and, and_true, not_true, not_false_iff, x6, Int32.neg_neg, x01, x11, x21, x31, x41, x51, xn1, xn2, xn3, xn4, xn5, xn6, xn7, xv1, xv2, xv3, xv4, xv5, xv6, xv7]
              · skip
                simp (decide := true) only [g178, c1, c2, c3, c4, c5, c6, c7, xrd_ne, xrd_eq, xrd_n2, xrd_J, xrd_K, ite_true, ite_false, if_true, if_false, and_true, true_and] at h
                simp (decide := true) only [p178, b178_0, b178_4, b178_12, b178_17, b178_20, b178_22, b178_32, b178_34, b178_44, b178_48, b178_58, b178_62, b115_0, b115_4, b115_12, b115_16, c1, c2, c3, c4, c5, c6, c7, h, xrd_ne, xrd_eq, xrd_n2, xrd_J, xrd_K, xsimp_1, xsimp_2, xtl, xtl0, xbit_0, xbit_1, exists_eq_left, and_assoc, exists_and_left, if_true, if_false, true_and, and_true, not_true, not_false_iff, x6, Int32.neg_neg, x01, x11, x21, x31, x41, x51, xn1, xn2, xn3, xn4, xn5, xn6, xn7, xv1, xv2, xv3, xv4, xv5, xv6, xv7]
        · skip
          simp (decide := true) only [g178, c1, c2, c3, c4, xrd_ne, xrd_eq, xrd_n2, xrd_J, xrd_K, ite_true, ite_false, if_true, if_false, and_true, true_and] at h
          simp (decide := true) only [p178, b178_0, b178_4, b178_12, b178_17, b178_20, b178_22, b178_32, b178_34, b178_44, b178_48, b178_58, b178_62, b115_0, b115_4, b115_12, b115_16, c1, c2, c3, c4, h, xrd_ne, xrd_eq, xrd_n2, xrd_J, xrd_K, xsimp_1, xsimp_2, xtl, xtl0, xbit_0, xbit_1, exists_eq_left, and_assoc, exists_and_left, if_true, if_false, true_and, and_true, not_true, not_false_iff, x6, Int32.neg_neg, x01, x11, x21, x31, x41, x51, xn1, xn2, xn3, xn4, xn5, xn6, xn7, xv1, xv2, xv3, xv4, xv5, xv6, xv7]
    · skip
      simp (decide := true) only [g178, c1, c2, xrd_ne, xrd_eq, xrd_n2, xrd_J, xrd_K, ite_true, ite_false, if_true, if_false, and_true, true_and] at h
      simp (decide := true) only [p178, b178_0, b178_4, b178_12, b178_17, b178_20, b178_22, b178_32, b178_34, b178_44, b178_48, b178_58, b178_62, b115_0, b115_4, b115_12, b115_16, c1, c2, h, xrd_ne, xrd_eq, xrd_n2, xrd_J, xrd_K, xsimp_1, xsimp_2, xtl, xtl0, xbit_0, xbit_1, exists_eq_left, and_assoc, exists_and_left, if_true, if_false, true_and, and_true, not_true, not_false_iff, x6, Int32.neg_neg, x01, x11, x21, x31, x41, x51, xn1, xn2, xn3, xn4, xn5, xn6, xn7, xv1, xv2, xv3, xv4, xv5, xv6, xv7]
