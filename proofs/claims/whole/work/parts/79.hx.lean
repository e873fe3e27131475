/-! households one behind the other: the class -/
def hPre (A : hS) (c : Nat) : hS := (A.1, vupd A.2.1 c (A.2.1 c - 1), A.2.2.1, A.2.2.2.1 - 1, A.2.2.2.2.1, A.2.2.2.2.2.1, A.2.2.2.2.2.2)
def hAdd (P : Int32 × hS) (f : hS → Int32 × hS) : Int32 × hS := (P.1 + (f P.2).1, (f P.2).2)
theorem hAdd_1 (P : Int32 × hS) (f : hS → Int32 × hS) : (hAdd P f).1 = P.1 + (f P.2).1 := rfl
theorem hAdd_2 (P : Int32 × hS) (f : hS → Int32 × hS) : (hAdd P f).2 = (f P.2).2 := rfl
section HH
variable (tr : Nat → Int32) (rent train : Int32) (pay : Nat → Int32)
/-- one that travels gives up the room first -/
def hB (pre : Bool) (o k : Nat) (A : hS) : hS := bif pre then hPre A (3 * o + k) else A
def hOne (pre : Bool) (o k : Nat) (A : hS) : Int32 × hS := (if hD tr rent train (hB pre o k A) k (pay o) = 0 then 1 else 0, hStep tr (hB pre o k A) (3 * o + k) k (pay o) (hD tr rent train (hB pre o k A) k (pay o)))
def hIt (pre : Bool) (o k : Nat) : Nat → hS → Int32 × hS
  | 0, A => (0, A)
  | j + 1, A => hAdd (hIt pre o k j A) (hOne tr rent train pay pre o k)
/-- by kinds; cn: how many are asked -/
def hK (pre : Bool) (cn : hS → Nat → Nat) (o : Nat) : Nat → hS → Int32 × hS
  | 0, A => (0, A)
  | k + 1, A => hAdd (hK pre cn o k A) (fun B => hIt tr rent train pay pre o k (cn B (3 * o + k)) B)
def cnT (A : hS) (c : Nat) : Nat := (A.2.1 c).toNatClampNeg
/-- all that travel -/
def hT : Nat → hS → Int32 × hS
  | 0, A => (0, A)
  | o + 1, A => hAdd (hT o A) (hK tr rent train pay true cnT o 3)
/-- all offices whose wave it is -/
def hW (folk w : Nat → Nat) (w0 : Nat) : Nat → hS → Int32 × hS
  | 0, A => (0, A)
  | o + 1, A => if w o = w0 then hAdd (hW folk w w0 o A) (hK tr rent train pay false (fun _ c => folk c) o 3) else hW folk w w0 o A
theorem hIt_s (pre : Bool) (o k j : Nat) (A : hS) : hIt tr rent train pay pre o k (j + 1) A = hAdd (hIt tr rent train pay pre o k j A) (hOne tr rent train pay pre o k) := by rw [hIt]
theorem hK_s (pre : Bool) (cn : hS → Nat → Nat) (o k : Nat) (A : hS) : hK tr rent train pay pre cn o (k + 1) A = hAdd (hK tr rent train pay pre cn o k A) (fun B => hIt tr rent train pay pre o k (cn B (3 * o + k)) B) := by rw [hK]
theorem hT_s (o : Nat) (A : hS) : hT tr rent train pay (o + 1) A = hAdd (hT tr rent train pay o A) (hK tr rent train pay true cnT o 3) := by rw [hT]
theorem hW_y (folk w : Nat → Nat) (w0 o : Nat) (A : hS) (h : w o = w0) : hW tr rent train pay folk w w0 (o + 1) A = hAdd (hW tr rent train pay folk w w0 o A) (hK tr rent train pay false (fun _ c => folk c) o 3) := by rw [hW, if_pos h]
theorem hW_n (folk w : Nat → Nat) (w0 o : Nat) (A : hS) (h : ¬ w o = w0) : hW tr rent train pay folk w w0 (o + 1) A = hW tr rent train pay folk w w0 o A := by rw [hW, if_neg h]
end HH
/-- what stays true of A -/
def hOk (A : hS) : Prop := A.2.2.2.2.1 ≤ 3000 ∧ A.2.2.2.2.2.1 ≤ 3000 ∧ A.2.2.2.1 = xsum A.2.1 30
theorem xsum_upd (f : Nat → Int32) (c : Nat) (y : Int32) : ∀ n, xsum (vupd f c (f c + y)) n = if c < n then xsum f n + y else xsum f n
  | 0 => by rw [if_neg (Nat.not_lt_zero c)]; rfl
  | n + 1 => by
    show xsum (vupd f c (f c + y)) n + vupd f c (f c + y) n = _
    rw [xsum_upd f c y n]
    by_cases e : n = c
    · subst e
      rw [vupd_eq, if_neg (Nat.lt_irrefl n), if_pos (Nat.lt_succ_self n)]
      show xsum f n + (f n + y) = xsum f n + f n + y
      rw [Int32.add_assoc]
    · rw [vupd_ne _ _ _ _ e]
      by_cases l : c < n
      · rw [if_pos l, if_pos (by omega)]
        show xsum f n + y + f n = xsum f n + f n + y
        rw [Int32.add_assoc, Int32.add_comm y, Int32.add_assoc]
      · rw [if_neg l, if_neg (by omega)]
        rfl
theorem hOk_pre {A : hS} {c : Nat} (hc : c < 30) (h : hOk A) : hOk (hPre A c) := by
  refine ⟨h.1, h.2.1, ?_⟩
  show A.2.2.2.1 - 1 = xsum (vupd A.2.1 c (A.2.1 c - 1)) 30
  rw [Int32.sub_eq_add_neg (A.2.1 c), xsum_upd, if_pos hc, h.2.2, Int32.sub_eq_add_neg]
theorem hOk_step {tr : Nat → Int32} {A : hS} {c k D : Nat} {pay : Int32} (hc : c < 30) (h : hOk A) : hOk (hStep tr A c k pay D) := by
  obtain ⟨h1, h2, h3⟩ := h
  unfold hStep
  by_cases d0 : D = 0
  · rw [if_pos d0]
    refine ⟨?_, ?_, h3⟩
    · show A.2.2.2.2.1 - 1 ≤ 3000
      omega
    · show (if 0 < tr (5 * k + 2) then A.2.2.2.2.2.1 - 1 else A.2.2.2.2.2.1) ≤ 3000
      by_cases e : 0 < tr (5 * k + 2)
      · rw [if_pos e]; omega
      · rw [if_neg e]; exact h2
  · rw [if_neg d0]
    by_cases d1 : D = 1
    · rw [if_pos d1]
      refine ⟨h1, h2, ?_⟩
      show A.2.2.2.1 + 1 = xsum (vupd A.2.1 c (A.2.1 c + 1)) 30
      rw [xsum_upd, if_pos hc, h3]
    · rw [if_neg d1]
      exact ⟨h1, h2, h3⟩
section HK
variable {tr : Nat → Int32} {rent train : Int32} {pay : Nat → Int32}
theorem hOk_B {pre : Bool} {o k : Nat} {A : hS} (ho : o < 10) (hk : k < 3) (h : hOk A) : hOk (hB pre o k A) := by
  cases pre with
  | true => exact hOk_pre (by omega) h
  | false => exact h
theorem hOk_one {pre : Bool} {o k : Nat} {A : hS} (ho : o < 10) (hk : k < 3) (h : hOk A) : hOk (hOne tr rent train pay pre o k A).2 := hOk_step (by omega) (hOk_B ho hk h)
theorem hOk_it {pre : Bool} {o k : Nat} {A : hS} (ho : o < 10) (hk : k < 3) (h : hOk A) : ∀ j, hOk (hIt tr rent train pay pre o k j A).2
  | 0 => by rw [hIt]; exact h
  | j + 1 => by rw [hIt_s, hAdd_2]; exact hOk_one ho hk (hOk_it ho hk h j)
theorem hOk_K {pre : Bool} {cn : hS → Nat → Nat} {o : Nat} {A : hS} (ho : o < 10) (h : hOk A) : ∀ k, k ≤ 3 → hOk (hK tr rent train pay pre cn o k A).2
  | 0, _ => by rw [hK]; exact h
  | k + 1, hk => by rw [hK_s, hAdd_2]; exact hOk_it ho (by omega) (hOk_K ho h k (by omega)) _
theorem hOk_T {A : hS} (h : hOk A) : ∀ o, o ≤ 10 → hOk (hT tr rent train pay o A).2
  | 0, _ => by rw [hT]; exact h
  | o + 1, ho => by rw [hT_s, hAdd_2]; exact hOk_K (by omega) (hOk_T h o (by omega)) 3 (Nat.le_refl 3)
theorem hOk_W {folk w : Nat → Nat} {w0 : Nat} {A : hS} (h : hOk A) : ∀ o, o ≤ 10 → hOk (hW tr rent train pay folk w w0 o A).2
  | 0, _ => by rw [hW]; exact h
  | o + 1, ho => by
    by_cases e : w o = w0
    · rw [hW_y _ _ _ _ _ _ _ _ _ e, hAdd_2]; exact hOk_K (by omega) (hOk_W h o (by omega)) 3 (Nat.le_refl 3)
    · rw [hW_n _ _ _ _ _ _ _ _ _ e]; exact hOk_W h o (by omega)
end HK
theorem lt_cnt {a : Int32} {j : Nat} (hj : j < 2 ^ 31) : (nI j < a) ↔ j < a.toNatClampNeg := by
  by_cases h : a < 0
  · have e : a.toNatClampNeg = 0 := by
      rw [Int32.lt_iff_toInt_lt] at h
      have h0 : (0 : Int32).toInt = 0 := rfl
      rw [← Int32.toNat_toInt]
      omega
    rw [e]
    constructor
    · intro z; exact absurd (Int32.lt_trans z h) (nI_pos hj)
    · intro z; exact absurd z (Nat.not_lt_zero j)
  · obtain ⟨m, hm, rfl⟩ := nI_of h
    rw [nI_ltI hj hm, nI_clamp hm]
theorem cnt_lt (a : Int32) : a.toNatClampNeg < 2 ^ 31 := by
  by_cases h : a < 0
  · have e : a.toNatClampNeg = 0 := by
      rw [Int32.lt_iff_toInt_lt] at h
      have h0 : (0 : Int32).toInt = 0 := rfl
      rw [← Int32.toNat_toInt]
      omega
    rw [e]; decide
  · obtain ⟨m, hm, rfl⟩ := nI_of h
    rw [nI_clamp hm]; exact hm
theorem xHx_pre {S0 S : xS} {A : hS} {c : Nat} (h : xHx S0 S A) : xHx S0 (xwI (xwI S 16 c (S.1 16 c - 1)) 13 7 (S.1 13 7 - 1)) (hPre A c) ∨ ¬ c < 30 := by
  by_cases hc : c < 30
  · refine Or.inl ?_
    obtain ⟨h1, h2, h3, h4, h5, h6, h7, h8, h9, h10, h11⟩ := h
    refine ⟨fun i hi => ?_, fun j hj => ?_, fun i hi => ?_, ?_, ?_, ?_, ?_, fun j c1 c2 c3 c4 c5 => ?_, ?_, ?_, h11⟩ <;> try simp (decide := true) only [xrd_ne, xrd_same, vupd_eq, vupd_ne, hPre]
    · exact h1 i hi
    · by_cases e : j = c
      · subst e; rw [vupd_eq, vupd_eq, h2 _ hc]
      · rw [vupd_ne _ _ _ _ e, vupd_ne _ _ _ _ e, h2 _ hj]
    · exact h3 i hi
    · rw [h4]
    · exact h5
    · exact h6
    · exact h7
    · rw [xrd_ne _ _ _ _ _ c1, xrd_ne _ _ _ _ _ c2]; exact h8 j c1 c2 c3 c4 c5
    · exact h9
    · exact h10
  · exact Or.inr hc
section XH
variable {S0 : xS} {tr : Nat → Int32} {rent train : Int32} {w0 n : Nat} {py : Nat → Int32}
/-- travellers of one kind -/
theorem x21k (hBs : xBase S0 tr rent train w0 n py) (d : Nat) {S : xS} {A : hS} (h : xHx S0 S A) (hA : hOk A) {o k : Nat} (ho : o < 10) (hk : k < 3) (now T : Int32) : ∃ S', xHx S0 S' (hIt tr rent train py true o k (cnT A (3 * o + k)) A).2 ∧ S'.1 7 = S.1 7 ∧ ∀ r, xX (d + 4) 21 27 [(0, .ref 13), (1, .ref 2), (2, .ref 19), (3, .int now), (4, .int T), (5, .int (nI o)), (6, .int (py o)), (7, .int (nI k))] [] S r ↔ xX (d + 4) 21 27 [(0, .ref 13), (1, .ref 2), (2, .ref 19), (3, .int now), (4, .int (T + (hIt tr rent train py true o k (cnT A (3 * o + k)) A).1)), (5, .int (nI o)), (6, .int (py o)), (7, .int (nI (k + 1)))] [] S' r := by
  have hc30 : 3 * o + k < 30 := by omega
  have mc : nI o * 3 + nI k = nI (3 * o + k) := nI_m 3 3 (by decide) o k
  have xc : (nI (3 * o + k)).toNatClampNeg = 3 * o + k := nI_clamp (by omega)
  have yc := vp_in_nI hc30 (by omega : 30 < 2 ^ 31)
  have hk3 : nI k < 3 := nI_lt (b := 3) hk (by omega)
  have ha : S.1 16 (3 * o + k) = A.2.1 (3 * o + k) := h.2.1 _ hc30
  obtain ⟨l', S', ⟨rfl, g1, g2⟩, e⟩ := xX_loopP (d := d + 4) (f := 21) (pc := 50) (st := []) (fun j l U => l = [(0, .ref 13), (1, .ref 2), (2, .ref 19), (3, .int now), (4, .int (T + (hIt tr rent train py true o k j A).1)), (5, .int (nI o)), (6, .int (py o)), (7, .int (nI k)), (8, .int (A.2.1 (3 * o + k))), (9, .int (nI j))] ∧ xHx S0 U (hIt tr rent train py true o k j A).2 ∧ U.1 7 = S.1 7) (cnT A (3 * o + k)) (by
    rintro j hj l U ⟨rfl, q1, q2⟩
    have hOk' := hOk_it (tr := tr) (rent := rent) (train := train) (pay := py) (pre := true) ho hk hA j
    have hp := (xHx_pre (c := 3 * o + k) q1).resolve_right (not_not_intro hc30)
    have hp3 := hOk_pre hc30 hOk'
    obtain ⟨U', u1, u2, u3⟩ := x20 hBs hp hp3.1 hp3.2.1 ho hk (py o)
    refine ⟨_, U', ⟨rfl, by rw [hIt_s, hAdd_2]; exact u1, u2.trans ?_⟩, fun r => ?_⟩
    · rw [xrd_ne _ _ _ _ _ (by decide), xrd_ne _ _ _ _ _ (by decide)]; exact q2
    · refine (b21_50 _ _ _ _ _ _ _ _ _ _).trans ?_
      rw [if_pos ((lt_cnt (Nat.lt_trans hj (cnt_lt _))).mpr hj), b21_57]
      simp only [mc, xc, yc, true_and, u3 d, exists_eq_left, xtl, b21_95, nI_1, hIt_s, hAdd_1, Int32.add_assoc]
      exact Iff.rfl) _ S ⟨rfl, by rw [hIt]; exact h, rfl⟩
  refine ⟨S', g1, g2, fun r => ?_⟩
  rw [b21_27, if_pos hk3, b21_33]
  simp only [mc, xc, yc, true_and, ha]
  have e' := e r
  rw [show (hIt tr rent train py true o k 0 A).1 = 0 by rw [hIt], Int32.add_zero, nI_0] at e'
  refine e'.trans ?_
  rw [b21_50, if_neg (show ¬ nI (cnT A (3 * o + k)) < A.2.1 (3 * o + k) from fun z => Nat.lt_irrefl _ ((lt_cnt (cnt_lt _)).mp z)), b21_104, nI_1]
theorem x17 (hBs : xBase S0 tr rent train w0 n py) {S : xS} {A : hS} (h : xHx S0 S A) (o d : Nat) (r : Option Value × xS) : xX d 17 0 [(0, .ref 19), (1, .int (nI o)), (2, .int (nI w0))] [] S r ↔ r = (some (.int (py o)), S) := by
  obtain ⟨b1, b2, b3, ⟨l, b4, b4l, b4p⟩, b5, b6⟩ := hBs
  have h8 := h.2.2.2.2.2.2.2.1
  rw [b4p]
  refine (t17 d (nI o) (nI w0) S r b4 (by rw [h8 19 (by decide) (by decide) (by decide) (by decide) (by decide)]; exact b4l)).trans ?_
  rw [h8 20 (by decide) (by decide) (by decide) (by decide) (by decide), h8 21 (by decide) (by decide) (by decide) (by decide) (by decide), h8 22 (by decide) (by decide) (by decide) (by decide) (by decide), h8 23 (by decide) (by decide) (by decide) (by decide) (by decide)]
/-- travellers of one office -/
theorem x21o (hBs : xBase S0 tr rent train w0 n py) (d : Nat) {S : xS} {A : hS} (h : xHx S0 S A) (hA : hOk A) {o : Nat} (ho : o < n) (T : Int32) : ∃ S', xHx S0 S' (hK tr rent train py true cnT o 3 A).2 ∧ S'.1 7 = S.1 7 ∧ ∀ r, xX (d + 4) 21 6 [(0, .ref 13), (1, .ref 2), (2, .ref 19), (3, .int (nI w0)), (4, .int T), (5, .int (nI o))] [] S r ↔ xX (d + 4) 21 6 [(0, .ref 13), (1, .ref 2), (2, .ref 19), (3, .int (nI w0)), (4, .int (T + (hK tr rent train py true cnT o 3 A).1)), (5, .int (nI (o + 1)))] [] S' r := by
  have hn10 := hBs.2.2.2.2.2
  have hn : S.1 2 0 = nI n := by rw [h.2.2.2.2.2.2.2.1 2 (by decide) (by decide) (by decide) (by decide) (by decide)]; exact hBs.2.2.2.2.1
  obtain ⟨l', S', ⟨rfl, g1, g2⟩, e⟩ := xX_loopP (d := d + 4) (f := 21) (pc := 27) (st := []) (fun k l U => l = [(0, .ref 13), (1, .ref 2), (2, .ref 19), (3, .int (nI w0)), (4, .int (T + (hK tr rent train py true cnT o k A).1)), (5, .int (nI o)), (6, .int (py o)), (7, .int (nI k))] ∧ xHx S0 U (hK tr rent train py true cnT o k A).2 ∧ U.1 7 = S.1 7) 3 (by
    rintro k hk l U ⟨rfl, q1, q2⟩
    obtain ⟨U', u1, u2, u3⟩ := x21k hBs d q1 (hOk_K (show o < 10 by omega) hA k (by omega)) (show o < 10 by omega) hk (nI w0) (T + (hK tr rent train py true cnT o k A).1)
    refine ⟨_, U', ⟨rfl, by rw [hK_s, hAdd_2]; exact u1, u2.trans q2⟩, fun r => (u3 r).trans ?_⟩
    rw [Int32.add_assoc, hK_s, hAdd_1]) _ S ⟨rfl, by rw [hK]; exact h, rfl⟩
  refine ⟨S', g1, g2, fun r => ?_⟩
  rw [b21_6, hn, if_pos (nI_lt ho (by omega))]
  simp only [b21_15, x17 hBs h, exists_eq_left, xtl, b21_22]
  have e' := e r
  rw [show (hK tr rent train py true cnT o 0 A).1 = 0 by rw [hK], Int32.add_zero, nI_0] at e'
  refine e'.trans ?_
  have d3 : ¬ nI 3 < 3 := by decide
  rw [b21_27, if_neg d3, b21_110, nI_1]
theorem x21a (hBs : xBase S0 tr rent train w0 n py) (d : Nat) {S : xS} {A : hS} (h : xHx S0 S A) (hA : hOk A) : ∃ S', xHx S0 S' (hT tr rent train py n A).2 ∧ S'.1 7 = S.1 7 ∧ ∀ r, xX (d + 4) 21 0 [(0, .ref 13), (1, .ref 2), (2, .ref 19), (3, .int (nI w0))] [] S r ↔ r = (some (.int (hT tr rent train py n A).1), S') := by
  have hn10 := hBs.2.2.2.2.2
  obtain ⟨l', S', ⟨rfl, g1, g2⟩, e⟩ := xX_loopP (d := d + 4) (f := 21) (pc := 6) (st := []) (fun o l U => l = [(0, .ref 13), (1, .ref 2), (2, .ref 19), (3, .int (nI w0)), (4, .int (hT tr rent train py o A).1), (5, .int (nI o))] ∧ xHx S0 U (hT tr rent train py o A).2 ∧ U.1 7 = S.1 7) n (by
    rintro o ho l U ⟨rfl, q1, q2⟩
    obtain ⟨U', u1, u2, u3⟩ := x21o hBs d q1 (hOk_T hA o (by omega)) ho (hT tr rent train py o A).1
    exact ⟨_, U', ⟨rfl, by rw [hT_s, hAdd_2]; exact u1, u2.trans q2⟩, fun r => (u3 r).trans (by rw [hT_s, hAdd_1])⟩) _ S ⟨rfl, by rw [hT]; exact h, rfl⟩
  refine ⟨S', g1, g2, fun r => ?_⟩
  have hn : S'.1 2 0 = nI n := by rw [g1.2.2.2.2.2.2.2.1 2 (by decide) (by decide) (by decide) (by decide) (by decide)]; exact hBs.2.2.2.2.1
  rw [b21_0]
  have e' := e r
  rw [show (hT tr rent train py 0 A).1 = 0 by rw [hT], nI_0] at e'
  refine e'.trans ?_
  rw [b21_6, hn, if_neg (nI_nlt (Nat.le_refl n) (by omega)), b21_116]
end XH
