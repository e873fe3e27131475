/-! the reference's legality where the class's waves are new already -/
def xInvQ (S : xS) : Prop := ∃ f, xInvR (xset S 5 f)
theorem xInvQ.cnt {S : xS} (h : xInvQ S) : xN (S.1 2 0) ≤ 10 ∧ S.1 2 0 = nI (xN (S.1 2 0)) ∧ S.1 54 0 = nI (xN (S.1 2 0)) := h.elim fun _ h => h.cnt
theorem xInvQ.bld {S : xS} (h : xInvQ S) : xN (S.1 9 0) ≤ 6 ∧ S.1 9 0 = nI (xN (S.1 9 0)) ∧ S.1 54 1 = nI (xN (S.1 9 0)) := h.elim fun _ h => h.bld
theorem xInvQ.mst {S : xS} (h : xInvQ S) : xN (S.1 9 1) ≤ 400 ∧ S.1 9 1 = nI (xN (S.1 9 1)) ∧ S.1 54 8 = nI (xN (S.1 9 1)) := h.elim fun _ h => h.mst
theorem xInvQ.dsk {S : xS} (h : xInvQ S) {k : Nat} (hk : k < 10) : xN (S.1 3 k) ≤ 40 ∧ S.1 3 k = nI (xN (S.1 3 k)) ∧ S.1 55 k = nI (xN (S.1 3 k)) := h.elim fun _ h => h.dsk hk
theorem xInvQ.hBec {S : xS} (h : xInvQ S) : jBec (S.1 12) (S.1 63) (S.1 64) := h.elim fun _ h => h.hBec
theorem xInvQ.hFlk {S : xS} (h : xInvQ S) : iArr 30 40 (S.1 14) (S.1 65) := h.elim fun _ h => h.hFlk
theorem xInvQ.hTrt {S : xS} (h : xInvQ S) : iArr 15 100 (S.1 15) (S.1 70) := h.elim fun _ h => h.hTrt
theorem xtwoQ {S : xS} (h : xInvQ S) {k : Nat} (hk : k < 30) : S.1 14 k = nI (xN (S.1 14 k)) ∧ xN (S.1 14 k) ≤ 40 := h.elim fun _ h => xtwo h hk
theorem xbHQ {S : xS} (h : xInvQ S) {k : Nat} (hk : k < 10) : aH (S.1 14) k ≤ 120 := h.elim fun _ h => xbH h hk
theorem xbPQ {S : xS} (h : xInvQ S) {k : Nat} (hk : k < 10) : aP (S.1 14) (S.1 15) k ≤ 120 := h.elim fun _ h => xbP h hk
theorem xbDRQ {S : xS} (h : xInvQ S) (v : Nat) : aDR (S.1 9 0) (S.1 10) (S.1 11) v ≤ 720 := h.elim fun _ h => xbDR h v
theorem xbFRQ {S : xS} (h : xInvQ S) {v : Nat} (hv : v < 5) : aFR (S.1 12) v ≤ 2000 := h.elim fun _ h => xbFR h hv
theorem xbSRQ {S : xS} (h : xInvQ S) {v : Nat} (hv : v < 5) : aSR (S.1 12) v ≤ 2000 := h.elim fun _ h => xbSR h hv
theorem xdkMQ {S : xS} (h : xInvQ S) {v : Nat} (hv : v < 5) : xdk (S.1 61) (S.1 62) (nI v) (xN (S.1 9 0)) = nI (aDR (S.1 9 0) (S.1 10) (S.1 11) v) := h.elim fun _ h => xdkM h hv
theorem m148_85Q (S : xS) (h : xInvQ S) (d : Nat) {k : Nat} (hk : k < 10) (v2 v3 v4 v5 v6 : Int32) (r : Option Value × xS) : xX d 139 148 [(0, .ref 54), (1, .ref 85), (2, .int v2), (3, .int v3), (4, .int v4), (5, .int v5), (6, .int v6), (7, .int (nI k)), (8, .int 0)] [] S r ↔ xX d 139 92 [(0, .ref 54), (1, .ref 85), (2, .int v2), (3, .int v3), (4, .int (v4 - nI (aH (S.1 14) k))), (5, .int (v5 - nI (aP (S.1 14) (S.1 15) k))), (6, .int v6), (7, .int (nI (k + 1)))] [] S r := by
  have m0 : 3 * nI k + 0 = nI (3 * k) := by have := nI_m' 3 3 (by decide) k 0; rw [nI_0] at this; exact this
  have m1 : 3 * nI k + 1 = nI (3 * k + 1) := nI_m' 3 3 (by decide) k 1
  have m2 : 3 * nI k + 2 = nI (3 * k + 2) := nI_m' 3 3 (by decide) k 2
  have x0 : (nI (3 * k)).toNatClampNeg = 3 * k := nI_clamp (by omega)
  have x1 : (nI (3 * k + 1)).toNatClampNeg = 3 * k + 1 := nI_clamp (by omega)
  have x2 : (nI (3 * k + 2)).toNatClampNeg = 3 * k + 2 := nI_clamp (by omega)
  have y0 := vp_in_nI (show 3 * k < 30 by omega) (by omega : 30 < 2 ^ 31)
  have y1 := vp_in_nI (show 3 * k + 1 < 30 by omega) (by omega : 30 < 2 ^ 31)
  have y2 := vp_in_nI (show 3 * k + 2 < 30 by omega) (by omega : 30 < 2 ^ 31)
  have u0 : vp_in (5 * 0 + 2) 15 := vp_in_d (by decide)
  have u1 : vp_in (5 * 1 + 2) 15 := vp_in_d (by decide)
  have u2 : vp_in (5 * 2 + 2) 15 := vp_in_d (by decide)
  have w0 : ((5 : Int32) * 0 + 2).toNatClampNeg = 2 := by decide
  have w1 : ((5 : Int32) * 1 + 2).toNatClampNeg = 7 := by decide
  have w2 : ((5 : Int32) * 2 + 2).toNatClampNeg = 12 := by decide
  have q0 : S.1 65 (3 * k) = nI (xN (S.1 14 (3 * k))) := by rw [h.hFlk.eq (by omega)]; exact (xtwoQ h (by omega)).1
  have q1 : S.1 65 (3 * k + 1) = nI (xN (S.1 14 (3 * k + 1))) := by rw [h.hFlk.eq (by omega)]; exact (xtwoQ h (by omega)).1
  have q2 : S.1 65 (3 * k + 2) = nI (xN (S.1 14 (3 * k + 2))) := by rw [h.hFlk.eq (by omega)]; exact (xtwoQ h (by omega)).1
  have t0 : S.1 70 2 = S.1 15 2 := h.hTrt.eq (by omega)
  have t1 : S.1 70 7 = S.1 15 7 := h.hTrt.eq (by omega)
  have t2 : S.1 70 12 = S.1 15 12 := h.hTrt.eq (by omega)
  have eH : v4 - nI (xN (S.1 14 (3 * k))) - nI (xN (S.1 14 (3 * k + 1))) - nI (xN (S.1 14 (3 * k + 2))) = v4 - nI (aH (S.1 14) k) := by
    unfold aH
    rw [← nI_add, ← nI_add, Int32.sub_sub, Int32.sub_sub, Int32.add_assoc]
  by_cases c0 : 0 < S.1 15 2 <;> by_cases c1 : 0 < S.1 15 7 <;> by_cases c2 : 0 < S.1 15 12
  all_goals
    simp (decide := true) only [b139_85_148, b139_85_154, b139_85_185, b139_85_202, b139_85_208, m0, m1, m2, x0, x1, x2, y0, y1, y2, u0, u1, u2, w0, w1, w2, q0, q1, q2, t0, t1, t2, c0, c1, c2, x01, x11, x21, ↓reduceIte, true_and, eH, nI_1]
    simp only [aP, aK, c0, c1, c2, ↓reduceIte, Nat.mul_zero, Nat.mul_one, Nat.zero_add, Nat.reduceMul, Nat.reduceAdd, Nat.add_zero, nI_0, ← nI_add, Int32.sub_sub, Int32.sub_zero, Int32.add_assoc]
theorem m139_85Q (S : xS) (h : xInvQ S) {t : Nat → Nat} (hp : iPl (xN (S.1 2 0)) (S.1 85) t) {v : Nat} (hv : v < 5) : (aLg S t v ∧ ∀ (d : Nat) (r : Option Value × xS), xX (d + 1) 139 0 [(0, .ref 54), (1, .ref 85), (2, .int (nI v))] [] S r ↔ r = (some (.int 1), S)) ∨ (¬ aLg S t v ∧ ∀ (d : Nat) (r : Option Value × xS), xX (d + 1) 139 0 [(0, .ref 54), (1, .ref 85), (2, .int (nI v))] [] S r ↔ r = (some (.int 0), S)) := by
  obtain ⟨hn, hn1, hn2⟩ := h.cnt
  obtain ⟨hb, hb1, hb2⟩ := h.bld
  obtain ⟨hm, hm1, hm2⟩ := h.mst
  have k1 : ∀ (d : Nat) (r : Option Value × xS), xX (d + 1) 139 0 [(0, .ref 54), (1, .ref 85), (2, .int (nI v))] [] S r ↔ xX (d + 1) 139 50 [(0, .ref 54), (1, .ref 85), (2, .int (nI v)), (3, .int (nI (aDR (S.1 9 0) (S.1 10) (S.1 11) v))), (4, .int 0), (5, .int 0), (6, .int 0)] [] S r := by
    intro d r
    have key := xX_loop (d := d + 1) (f := 139) (pc := 11) (st := []) (fun j => ([(0, .ref 54), (1, .ref 85), (2, .int (nI v)), (3, .int (xdk (S.1 61) (S.1 62) (nI v) j)), (4, .int 0), (5, .int 0), (6, .int (nI j))], S)) (xN (S.1 9 0)) (fun j hj r => by
      refine (b139_85_11 _ _ _ _ _ _ _ _).trans ?_
      rw [hb2, if_pos (nI_lt hj (by omega))]
      have hv1 : vp_in (nI j) 6 := vp_in_nI (by omega) (by omega)
      have hcl : (nI j).toNatClampNeg = j := nI_clamp (by omega)
      by_cases c1 : nI v < S.1 62 j <;> simp (decide := true) only [b139_85_20, b139_85_41, b139_85_31, hv1, hcl, c1, ↓reduceIte, true_and, xdk, xsum, nI_1, xadd0]) r
    rw [b139_85_0]
    refine key.trans ?_
    refine (b139_85_11 _ _ _ _ _ _ _ _).trans ?_
    rw [hb2, if_neg (nI_nlt (Nat.le_refl _) (by omega)), b139_85_47, xdkMQ h hv]
  have k2 : ∀ (d : Nat) (v3 : Int32) (r : Option Value × xS), xX (d + 1) 139 50 [(0, .ref 54), (1, .ref 85), (2, .int (nI v)), (3, .int v3), (4, .int 0), (5, .int 0), (6, .int 0)] [] S r ↔ xX (d + 1) 139 92 [(0, .ref 54), (1, .ref 85), (2, .int (nI v)), (3, .int v3), (4, .int (nI (aFR (S.1 12) v))), (5, .int (nI (aSR (S.1 12) v))), (6, .int 0), (7, .int 0)] [] S r := by
    intro d v3 r
    have key := xX_loop (d := d + 1) (f := 139) (pc := 50) (st := []) (fun j => ([(0, .ref 54), (1, .ref 85), (2, .int (nI v)), (3, .int v3), (4, .int (xsum (S.1 63) j)), (5, .int (xsum (S.1 64) j)), (6, .int (nI j))], S)) (v + 1) (fun j hj r => by
      refine (b139_85_50 _ _ _ _ _ _ _ _).trans ?_
      rw [if_neg (nI_nlt (show j ≤ v by omega) (by omega))]
      have hv1 : vp_in (nI j) 5 := vp_in_nI (by omega) (by omega)
      have hcl : (nI j).toNatClampNeg = j := nI_clamp (by omega)
      simp only [b139_85_56, hv1, hcl, true_and, xsum, nI_1]) r
    refine key.trans ?_
    refine (b139_85_50 _ _ _ _ _ _ _ _).trans ?_
    rw [if_pos (nI_lt (show v < v + 1 by omega) (by omega)), b139_85_86]
    have e1 : xsum (S.1 63) (v + 1) = nI (aFR (S.1 12) v) := xsum_nI (fun k hk => (h.hBec.1.get (by omega) (show k < 5 by omega)).2.2)
    have e2 : xsum (S.1 64) (v + 1) = nI (aSR (S.1 12) v) := xsum_nI (fun k hk => (h.hBec.2.get (by omega) (show k < 5 by omega)).2.2)
    rw [e1, e2]
  have k3 : ∀ (d : Nat) (a b c : Int32) (r : Option Value × xS), xX (d + 1) 139 92 [(0, .ref 54), (1, .ref 85), (2, .int (nI v)), (3, .int a), (4, .int b), (5, .int c), (6, .int 0), (7, .int 0)] [] S r ↔ xX (d + 1) 139 214 [(0, .ref 54), (3, .int (a - nI (sN (fun k => if t k ≤ v then xN (S.1 3 k) else 0) (xN (S.1 2 0))))), (4, .int (b - nI (sN (fun k => if t k ≤ v then aH (S.1 14) k else 0) (xN (S.1 2 0))))), (5, .int (c - nI (sN (fun k => if t k ≤ v then aP (S.1 14) (S.1 15) k else 0) (xN (S.1 2 0))))), (6, .int (nI (sN (fun k => if t k = v then xN (S.1 3 k) else 0) (xN (S.1 2 0)))))] [] S r := by
    intro d a b c r
    have key := xX_loop (d := d + 1) (f := 139) (pc := 92) (st := []) (fun j => ([(0, .ref 54), (1, .ref 85), (2, .int (nI v)), (3, .int (a - nI (sN (fun k => if t k ≤ v then xN (S.1 3 k) else 0) j))), (4, .int (b - nI (sN (fun k => if t k ≤ v then aH (S.1 14) k else 0) j))), (5, .int (c - nI (sN (fun k => if t k ≤ v then aP (S.1 14) (S.1 15) k else 0) j))), (6, .int (nI (sN (fun k => if t k = v then xN (S.1 3 k) else 0) j))), (7, .int (nI j))], S)) (xN (S.1 2 0)) (fun j hj r => by
      refine (b139_85_92 _ _ _ _ _ _ _ _ _).trans ?_
      rw [hn2, if_pos (nI_lt hj (by omega))]
      have hj10 : j < 10 := by omega
      have hv1 : vp_in (nI j) 10 := vp_in_nI hj10 (by omega)
      have hcl : (nI j).toNatClampNeg = j := nI_clamp (by omega)
      have g := fun (d : Nat) (r : Option Value × xS) => m138_85 S hn hp hj hv d r
      have gD : S.1 55 j = nI (xN (S.1 3 j)) := (h.dsk hj10).2.2
      have gE := hp.eq hj hv
      have gK := fun (d : Nat) (v2 v3 v4 v5 v6 : Int32) (r : Option Value × xS) => m148_85Q S h d hj10 v2 v3 v4 v5 v6 r
      by_cases c1 : t j ≤ v
      · by_cases c2 : t j = v
        · have c3 := gE.mpr c2
          simp (decide := true) only [b139_85_101, g, exists_eq_left, xtl, b139_85_109, b139_85_112, b139_85_115, b139_85_133, b139_85_145, gK, hv1, hcl, gD, c1, c2, c3, ↓reduceIte, true_and, sN, ← nI_add, Int32.sub_sub, Nat.le_refl]
        · have c3 : ¬ S.1 85 j = nI v := fun z => c2 (gE.mp z)
          simp (decide := true) only [b139_85_101, g, exists_eq_left, xtl, b139_85_109, b139_85_112, b139_85_115, b139_85_133, b139_85_145, gK, hv1, hcl, gD, c1, c2, c3, ↓reduceIte, true_and, sN, ← nI_add, Int32.sub_sub, nI_0, Int32.add_zero]
      · have c2 : ¬ t j = v := by omega
        simp (decide := true) only [b139_85_101, g, exists_eq_left, xtl, b139_85_109, b139_85_112, hv1, hcl, c1, c2, ↓reduceIte, true_and, sN, ← nI_add, nI_0, Int32.add_zero]
        simp only [nI_1, nI_add]) r
    have e0 : ∀ f : Nat → Nat, nI (sN f 0) = 0 := fun _ => nI_0
    simp only [e0, Int32.sub_zero, nI_0] at key
    refine key.trans ?_
    refine (b139_85_92 _ _ _ _ _ _ _ _ _).trans ?_
    rw [hn2, if_neg (nI_nlt (Nat.le_refl _) (by omega))]
  have b1 := xbDRQ h v
  have b2 := xbFRQ h hv
  have b3 := xbSRQ h hv
  have s1 := xbS (c := fun k => t k ≤ v) (n := xN (S.1 2 0)) (fun k hk => (h.dsk (show k < 10 by omega)).1)
  have s2 := xbS (c := fun k => t k = v) (n := xN (S.1 2 0)) (fun k hk => (h.dsk (show k < 10 by omega)).1)
  have s3 := xbS (c := fun k => t k ≤ v) (n := xN (S.1 2 0)) (fun k hk => xbHQ h (show k < 10 by omega))
  have s4 := xbS (c := fun k => t k ≤ v) (n := xN (S.1 2 0)) (fun k hk => xbPQ h (show k < 10 by omega))
  have q1 := nI_subneg (a := aDR (S.1 9 0) (S.1 10) (S.1 11) v) (b := sN (fun k => if t k ≤ v then xN (S.1 3 k) else 0) (xN (S.1 2 0))) (by omega) (Nat.lt_of_le_of_lt s1 (by omega))
  have q2 := nI_ltB (a := xN (S.1 9 1)) (b := sN (fun k => if t k = v then xN (S.1 3 k) else 0) (xN (S.1 2 0))) (by omega) (Nat.lt_of_le_of_lt s2 (by omega))
  have q3 := nI_subneg (a := aFR (S.1 12) v) (b := sN (fun k => if t k ≤ v then aH (S.1 14) k else 0) (xN (S.1 2 0))) (by omega) (Nat.lt_of_le_of_lt s3 (by omega))
  have q4 := nI_subneg (a := aSR (S.1 12) v) (b := sN (fun k => if t k ≤ v then aP (S.1 14) (S.1 15) k else 0) (xN (S.1 2 0))) (by omega) (Nat.lt_of_le_of_lt s4 (by omega))
  have kk := fun (d : Nat) (r : Option Value × xS) => (k1 d r).trans ((k2 d _ r).trans (k3 d _ _ _ r))
  have fin : ∀ (z : Int32), (∀ (d : Nat) (r : Option Value × xS), xX (d + 1) 139 214 [(0, .ref 54), (3, .int (nI (aDR (S.1 9 0) (S.1 10) (S.1 11) v) - nI (sN (fun k => if t k ≤ v then xN (S.1 3 k) else 0) (xN (S.1 2 0))))), (4, .int (nI (aFR (S.1 12) v) - nI (sN (fun k => if t k ≤ v then aH (S.1 14) k else 0) (xN (S.1 2 0))))), (5, .int (nI (aSR (S.1 12) v) - nI (sN (fun k => if t k ≤ v then aP (S.1 14) (S.1 15) k else 0) (xN (S.1 2 0))))), (6, .int (nI (sN (fun k => if t k = v then xN (S.1 3 k) else 0) (xN (S.1 2 0)))))] [] S r ↔ r = (some (.int z), S)) → ∀ (d : Nat) (r : Option Value × xS), xX (d + 1) 139 0 [(0, .ref 54), (1, .ref 85), (2, .int (nI v))] [] S r ↔ r = (some (.int z), S) := fun z hz d r => (kk d r).trans (hz d r)
  unfold aLg LgA
  by_cases c1 : nI (aDR (S.1 9 0) (S.1 10) (S.1 11) v) - nI (sN (fun k => if t k ≤ v then xN (S.1 3 k) else 0) (xN (S.1 2 0))) < 0
  · exact Or.inr ⟨fun z => absurd z.1 (Nat.not_le.mpr (q1.mp c1)), fin 0 (fun d r => by simp (decide := true) only [b139_85_214, b139_85_241, c1, ↓reduceIte, true_and, xbit_0])⟩
  by_cases c3 : nI (aFR (S.1 12) v) - nI (sN (fun k => if t k ≤ v then aH (S.1 14) k else 0) (xN (S.1 2 0))) < 0
  · exact Or.inr ⟨fun z => absurd z.2.2.1 (Nat.not_le.mpr (q3.mp c3)), fin 0 (fun d r => by simp (decide := true) only [b139_85_214, b139_85_218, b139_85_241, c1, c3, ↓reduceIte, true_and, xbit_0])⟩
  by_cases c4 : nI (aSR (S.1 12) v) - nI (sN (fun k => if t k ≤ v then aP (S.1 14) (S.1 15) k else 0) (xN (S.1 2 0))) < 0
  · exact Or.inr ⟨fun z => absurd z.2.2.2 (Nat.not_le.mpr (q4.mp c4)), fin 0 (fun d r => by simp (decide := true) only [b139_85_214, b139_85_218, b139_85_223, b139_85_241, c1, c3, c4, ↓reduceIte, true_and, xbit_0])⟩
  by_cases c2 : nI (xN (S.1 9 1)) < nI (sN (fun k => if t k = v then xN (S.1 3 k) else 0) (xN (S.1 2 0)))
  · exact Or.inr ⟨fun z => absurd z.2.1 (Nat.not_le.mpr (q2.mp c2)), fin 0 (fun d r => by simp (decide := true) only [b139_85_214, b139_85_218, b139_85_223, b139_85_228, b139_85_241, hm2, c1, c2, c3, c4, ↓reduceIte, true_and, xbit_0])⟩
  · exact Or.inl ⟨⟨Nat.not_lt.mp (fun z => c1 (q1.mpr z)), Nat.not_lt.mp (fun z => c2 (q2.mpr z)), Nat.not_lt.mp (fun z => c3 (q3.mpr z)), Nat.not_lt.mp (fun z => c4 (q4.mpr z))⟩, fin 1 (fun d r => by simp (decide := true) only [b139_85_214, b139_85_218, b139_85_223, b139_85_228, b139_85_241, b139_85_237, hm2, c1, c2, c3, c4, ↓reduceIte, true_and, xbit_1])⟩
theorem scan140_85Q (S : xS) (h : xInvQ S) {t : Nat → Nat} (hp : iPl (xN (S.1 2 0)) (S.1 85) t) : ∀ m, m ≤ 5 → (∀ u, u < 5 - m → aLg S t u) → ∃ w, fW S t w ∧ ∀ (d : Nat) (r : Option Value × xS), xX (d + 2) 140 2 [(0, .ref 54), (1, .ref 85), (2, .int (nI (5 - m)))] [] S r ↔ r = (some (.int (nI w)), S)
  | 0, _, hl => ⟨5, ⟨Nat.le_refl 5, hl, fun z => absurd z (by decide)⟩, fun d r => by
    have d1 : ¬ nI (5 - 0) < 5 := by decide
    rw [b140_85_2, if_neg d1, b140_85_24]
    rfl⟩
  | m + 1, hm, hl => by
    have hv : 5 - (m + 1) < 5 := by omega
    have d1 : nI (5 - (m + 1)) < 5 := nI_lt (b := 5) hv (by omega)
    rcases m139_85Q S h hp hv with ⟨g, e⟩ | ⟨g, e⟩
    · have es : 5 - m = 5 - (m + 1) + 1 := by omega
      obtain ⟨w, hw, ew⟩ := scan140_85Q S h hp m (by omega) (fun u hu => by
        rcases Nat.lt_or_ge u (5 - (m + 1)) with z | z
        · exact hl u z
        · have : u = 5 - (m + 1) := by omega
          rw [this]; exact g)
      refine ⟨w, hw, fun d r => ?_⟩
      rw [b140_85_2, if_pos d1]
      simp (decide := true) only [b140_85_7, e, exists_eq_left, xtl, b140_85_13, ↓reduceIte, b140_85_18, nI_1]
      rw [← es]
      exact ew d r
    · refine ⟨5 - (m + 1), ⟨by omega, hl, fun _ => g⟩, fun d r => ?_⟩
      rw [b140_85_2, if_pos d1]
      simp (decide := true) only [b140_85_7, e, exists_eq_left, xtl, b140_85_13, ↓reduceIte, b140_85_16]
theorem m140_85Q (S : xS) (h : xInvQ S) {t : Nat → Nat} (hp : iPl (xN (S.1 2 0)) (S.1 85) t) : ∃ w, fW S t w ∧ ∀ (d : Nat) (r : Option Value × xS), xX (d + 2) 140 0 [(0, .ref 54), (1, .ref 85)] [] S r ↔ r = (some (.int (nI w)), S) := by
  obtain ⟨w, hw, e⟩ := scan140_85Q S h hp 5 (by decide) (fun u hu => absurd hu (Nat.not_lt_zero u))
  exact ⟨w, hw, fun d r => by rw [b140_85_0]; exact e d r⟩
