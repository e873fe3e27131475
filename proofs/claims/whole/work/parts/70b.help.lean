/-! what the operations' writes do to the invariant -/
theorem x_lt1 {v : Int32} (h : ¬ v < 1) : ¬ v < 0 := by
  rw [Int32.lt_iff_toInt_lt] at h ⊢
  have h1 : (1 : Int32).toInt = 1 := rfl
  have h0 : (0 : Int32).toInt = 0 := rfl
  omega
theorem jWav_upd {a b : Nat → Int32} (h : jWav a b) (k w : Nat) (hw : w ≤ 5) : jWav (vupd a k (nI w)) (vupd b k (if w = 5 then -1 else nI w)) := by
  intro j hj
  unfold vupd
  by_cases e : j = k
  · rw [if_pos e, if_pos e]; exact ⟨w, hw, rfl, rfl⟩
  · rw [if_neg e, if_neg e]; exact h j hj
theorem jWav_upd5 {a b : Nat → Int32} (h : jWav a b) (k : Nat) : jWav (vupd a k 5) (vupd b k (-1)) := jWav_upd h k 5 (by decide)
theorem jWav_updw {a b : Nat → Int32} (h : jWav a b) (k w : Nat) (hw : w < 5) : jWav (vupd a k (nI w)) (vupd b k (nI w)) := by
  have := jWav_upd h k w (by omega)
  rw [if_neg (show ¬ w = 5 by omega)] at this
  exact this
theorem jShf_mono {n n' : Int32} {a b c d : Nat → Int32} (hn : xN n ≤ xN n') (h : jShf n a b c d) : jShf n' a b c d := by
  intro s hs
  rcases h s hs with h | ⟨o, h1, h⟩ | h
  · exact Or.inl h
  · exact Or.inr (Or.inl ⟨o, by omega, h⟩)
  · exact Or.inr (Or.inr h)
theorem jShf_none {n : Int32} {a b c d : Nat → Int32} (h : jShf n a b c d) {s : Nat} {v : Int32} (hv : v = -1) : jShf n (vupd a s v) (vupd b s 0) c (vupd d s v) := by
  intro j hj
  unfold vupd
  by_cases e : j = s
  · rw [if_pos e, if_pos e, if_pos e]; exact Or.inl ⟨hv, rfl⟩
  · rw [if_neg e, if_neg e, if_neg e]; exact h j hj
theorem jShf_off {n : Int32} {a b c d : Nat → Int32} (h : jShf n a b c d) {s o : Nat} (ho : o < xN n) : jShf n (vupd a s (nI o)) (vupd b s 2) c (vupd d s (nI o)) := by
  intro j hj
  unfold vupd
  by_cases e : j = s
  · rw [if_pos e, if_pos e, if_pos e]; exact Or.inr (Or.inl ⟨o, ho, rfl, rfl, rfl⟩)
  · rw [if_neg e, if_neg e, if_neg e]; exact h j hj
theorem jShf_row {n : Int32} {a b c d : Nat → Int32} (h : jShf n a b c d) {s q : Nat} (hq : q < 4) : jShf n (vupd a s (nI (100 + q))) (vupd b s 1) (vupd c s (nI q)) d := by
  intro j hj
  unfold vupd
  by_cases e : j = s
  · rw [if_pos e, if_pos e, if_pos e]; exact Or.inr (Or.inr ⟨q, hq, rfl, rfl, rfl⟩)
  · rw [if_neg e, if_neg e, if_neg e]; exact h j hj
theorem jPln_new {n n' now : Int32} {w sty mv : Nat → Int32} (hn : xN n' = xN n + 1) (h0 : now = 0) (h : jPln n now w sty mv) : jPln n' now (vupd w (xN n) 5) sty mv := by
  intro k hk
  obtain ⟨h1, h2, h3⟩ := h k hk
  have e0 : xN now = 0 := by rw [h0]; rfl
  refine ⟨fun hk' => ?_, fun hs => ?_, fun hk' => h3 (by omega)⟩
  · unfold vupd
    by_cases e : k = xN n
    · rw [if_pos e]
      refine ⟨fun z => absurd (h3 (by omega)).1 z, fun z => ?_⟩
      rw [e0] at z
      exact absurd z (Nat.not_lt_zero _)
    · rw [if_neg e]; exact h1 (by omega)
  · unfold vupd
    by_cases e : k = xN n
    · rw [if_pos e]
    · rw [if_neg e]; exact h2 hs
theorem jPln_new' {n n' now : Int32} {w sty mv : Nat → Int32} {m : Nat} (hm : xN n = m) (hn : xN n' = m + 1) (h0 : now = 0) (h : jPln n now w sty mv) : jPln n' now (vupd w m 5) sty mv := by
  subst hm
  exact jPln_new hn h0 h
theorem jPln_now0 {n now : Int32} {w sty mv : Nat → Int32} (h : jPln n now w sty mv) (h0 : now = 0) {k : Nat} (hk : k < 10) : mv k = 0 := by
  obtain ⟨h1, h2, h3⟩ := h k hk
  by_cases hn : k < xN n
  · by_cases z : mv k = 0
    · exact z
    · have := (h1 hn).mp z
      rw [h0] at this
      exact absurd this (Nat.not_lt_zero _)
  · exact (h3 (by omega)).1
theorem jTie_upd {a b : Nat → Int32} (h : jTie a b) {i j d : Nat} (hi : i < 10) (hj : j < 10) (hd : d ≤ 20) : jTie (vupd (vupd a (10 * i + j) (nI d)) (10 * j + i) (nI d)) (vupd (vupd b (10 * i + j) (nI d)) (10 * j + i) (nI d)) := by
  refine ⟨iArr_upd (iArr_upd h.1 _ d hd) _ d hd, fun p q hp hq => ?_⟩
  unfold vupd
  have e1 : (10 * p + q = 10 * j + i) ↔ (10 * q + p = 10 * i + j) := by constructor <;> intro <;> omega
  have e2 : (10 * p + q = 10 * i + j) ↔ (10 * q + p = 10 * j + i) := by constructor <;> intro <;> omega
  by_cases c1 : 10 * p + q = 10 * j + i
  · rw [if_pos c1]
    by_cases c2 : 10 * q + p = 10 * j + i
    · rw [if_pos c2]
    · rw [if_neg c2, if_pos (e1.mp c1)]
  · rw [if_neg c1]
    by_cases c2 : 10 * p + q = 10 * i + j
    · rw [if_pos c2, if_pos (e2.mp c2)]
    · rw [if_neg c2, if_neg (fun z => c2 (e2.mpr z)), if_neg (fun z => c1 (e1.mpr z))]
      exact h.2 p q hp hq
theorem jBec_0 {a f s : Nat → Int32} (h : jBec a f s) {k d : Nat} (hk : k < 5) (hd : d ≤ 400) : jBec (vupd a k (nI d)) (vupd f k (nI d)) s := by
  refine ⟨iArr_upd h.1 k d hd, fun j hj => ?_⟩
  have e : vupd a k (nI d) (5 + j) = a (5 + j) := vupd_ne _ _ _ _ (by omega)
  obtain ⟨m, h1, h2, h3⟩ := h.2 j hj
  exact ⟨m, h1, e.trans h2, h3⟩
theorem jBec_1 {a f s : Nat → Int32} (h : jBec a f s) {k d : Nat} (hk : k < 5) (hd : d ≤ 400) : jBec (vupd a (5 + k) (nI d)) f (vupd s k (nI d)) := by
  refine ⟨fun j hj => ?_, fun j hj => ?_⟩
  · rw [vupd_ne _ _ _ _ (by omega)]; exact h.1 j hj
  · show ∃ m : Nat, m ≤ 400 ∧ vupd a (5 + k) (nI d) (5 + j) = nI m ∧ vupd s k (nI d) j = nI m
    unfold vupd
    by_cases e : j = k
    · rw [if_pos (by omega), if_pos e]; exact ⟨d, hd, rfl, rfl⟩
    · rw [if_neg (by omega), if_neg e]; exact h.2 j hj
theorem jFre_0 {now a1 a2 a3 a4 : Int32} {b b' : Nat → Int32} (h0 : now = 0) (h : jFre now a1 a2 a3 a4 b) : jFre now a1 a2 a3 a4 b' := by
  have e : xN now = 0 := by rw [h0]; rfl
  obtain ⟨⟨p, q, h1, h2, h3⟩, ⟨p', q', h4, h5, h6⟩⟩ := h
  rw [e] at h3 h6
  have z : ∀ f : Nat → Nat, sN f 0 = 0 := fun _ => rfl
  rw [z] at h3 h6
  exact ⟨⟨p, q, h1, h2, by rw [e, z]; exact h3⟩, ⟨p', q', h4, h5, by rw [e, z]; exact h6⟩⟩
theorem jHer_upd {mv folk here : Nat → Int32} (h : jHer mv folk here) {a b : Nat} {d : Int32} (hb : b < 3) (hm : mv a = 0) : jHer mv (vupd folk (3 * a + b) d) (vupd here (3 * a + b) d) := by
  intro k hk j hj
  unfold vupd
  by_cases e : 3 * k + j = 3 * a + b
  · have ek : k = a := by omega
    rw [if_pos e, if_pos e, ek, if_pos hm]
  · rw [if_neg e, if_neg e]; exact h k hk j hj
theorem aDR_late {nb : Int32} {room ready : Nat → Int32} {a v : Nat} {x : Int32} (h1 : v < xN (ready a)) (h2 : v < xN x) : aDR nb room (vupd ready a x) v = aDR nb room ready v := by
  refine sN_congr (fun k _ => ?_)
  by_cases e : k = a
  · subst e; rw [vupd_eq, if_neg (by omega), if_neg (by omega)]
  · rw [vupd_ne _ _ _ _ e]
theorem jLeg_late {S : xS} (h : jLeg S) {a : Nat} {x : Int32} (h1 : xN (S.1 0 10) ≤ xN (S.1 11 a)) (h2 : xN (S.1 0 10) ≤ xN x) : ∀ v, v < xN (S.1 0 10) → LgA (xN (S.1 2 0)) (fun k => xN (S.1 5 k)) (fun k => xN (S.1 3 k)) (aH (S.1 14)) (aP (S.1 14) (S.1 15)) (aDR (S.1 9 0) (S.1 10) (vupd (S.1 11) a x)) (aFR (S.1 12)) (aSR (S.1 12)) (xN (S.1 9 1)) v := by
  intro v hv
  have := h v hv
  unfold aLg LgA at this
  unfold LgA
  rw [aDR_late (by omega) (by omega)]
  exact this
theorem jLeg_wav {S : xS} (h : jLeg S) {a : Nat} {x : Int32} (h1 : xN (S.1 0 10) ≤ xN (S.1 5 a)) (h2 : xN (S.1 0 10) ≤ xN x) : ∀ v, v < xN (S.1 0 10) → LgA (xN (S.1 2 0)) (fun k => xN (vupd (S.1 5) a x k)) (fun k => xN (S.1 3 k)) (aH (S.1 14)) (aP (S.1 14) (S.1 15)) (aDR (S.1 9 0) (S.1 10) (S.1 11)) (aFR (S.1 12)) (aSR (S.1 12)) (xN (S.1 9 1)) v := by
  intro v hv
  have := h v hv
  unfold aLg LgA at this
  unfold LgA
  have e1 : ∀ k, (xN (vupd (S.1 5) a x k) ≤ v) ↔ (xN (S.1 5 k) ≤ v) := by
    intro k
    by_cases e : k = a
    · subst e; rw [vupd_eq]; constructor <;> intro <;> omega
    · rw [vupd_ne _ _ _ _ e]
  have e2 : ∀ k, (xN (vupd (S.1 5) a x k) = v) ↔ (xN (S.1 5 k) = v) := by
    intro k
    by_cases e : k = a
    · subst e; rw [vupd_eq]; constructor <;> intro <;> omega
    · rw [vupd_ne _ _ _ _ e]
  simp only [e1, e2]
  exact this
theorem jPln_stay {n now : Int32} {w sty mv : Nat → Int32} (h : jPln n now w sty mv) {a : Nat} {v : Int32} (hm : mv a = 0) (hnow : xN now ≤ 5) (ha : a < xN n) : jPln n now (vupd w a 5) (vupd sty a v) mv := by
  intro k hk
  obtain ⟨h1, h2, h3⟩ := h k hk
  by_cases e : k = a
  · subst e
    rw [vupd_eq, vupd_eq]
    exact ⟨fun _ => ⟨fun z => absurd hm z, fun z => absurd z (Nat.not_lt.mpr hnow)⟩, fun _ => rfl, fun z => absurd z (by omega)⟩
  · rw [vupd_ne _ _ _ _ e, vupd_ne _ _ _ _ e]
    exact ⟨h1, h2, h3⟩
theorem jPln_give {n now : Int32} {w sty mv : Nat → Int32} (h : jPln n now w sty mv) {a : Nat} {x : Int32} (hm : mv a = 0) (hs : sty a = 0) (hx : xN now ≤ xN x) : jPln n now (vupd w a x) sty mv := by
  intro k hk
  obtain ⟨h1, h2, h3⟩ := h k hk
  by_cases e : k = a
  · subst e
    rw [vupd_eq]
    exact ⟨fun _ => ⟨fun z => absurd hm z, fun z => absurd z (Nat.not_lt.mpr hx)⟩, fun z => absurd hs z, h3⟩
  · rw [vupd_ne _ _ _ _ e]
    exact ⟨h1, h2, h3⟩
theorem jLaw_vote {n : Int32} {a1 b1 a2 b2 a3 b3 a4 b4 : Nat → Int32} (h : jLaw n a1 b1 a2 b2 a3 b3 a4 b4) {k : Nat} {v : Int32} (hv : v = 0 ∨ v = 1) (hk : k < xN n) : jLaw n a1 b1 a2 b2 a3 b3 (vupd a4 k v) (vupd b4 k v) := by
  obtain ⟨h1, h2, h3, h4, h5⟩ := h
  refine ⟨h1, h2, h3, iBit_upd h4 k v hv, fun j hj hn => ?_⟩
  rw [vupd_ne _ _ _ _ (by omega)]
  exact h5 j hj hn
theorem xwJ_2 (S : xS) (c k : Nat) (v : Int64) (a b : Nat) : (xwJ S c k v).2.1 a b = if a = c then (if b = k then v else S.2.1 a b) else S.2.1 a b := rfl
theorem jCel_set {S : xS} (hC : jCel S.2.1) {s b : Nat} (v : Int64) (hs : s < 8) (hb : b < 60) : jCel (xwJ (xwJ S (xrb + s) b v) 75 (60 * s + b) v).2.1 := by
  intro j hj k hk
  have e75 : ¬ xrb + j = 75 := by unfold xrb; omega
  have e76 : ¬ 75 = xrb + s := by unfold xrb; omega
  simp only [xwJ_2]
  rw [if_neg e75, if_neg e76, if_pos trivial]
  by_cases e : j = s
  · subst e
    rw [if_pos rfl]
    by_cases e2 : k = b
    · subst e2; rw [if_pos rfl, if_pos rfl]
    · rw [if_neg e2, if_neg (by omega)]; exact hC j hj k hk
  · rw [if_neg (by omega), if_neg (by omega)]; exact hC j hj k hk
theorem xInv_set {S : xS} (h : xInv S) {s b : Nat} (v : Int64) (hs : s < 8) (hb : b < 60) : xInv (xwJ (xwJ S (xrb + s) b v) 75 (60 * s + b) v) := by
  obtain ⟨h1, h2, h3, h4, h5, h6, h7, h8, h9, h10, h11, h12, h13, h14, h15, h16, h17, h18, h19, h20, h21, h22, h23, h24, h25, h26, h27, h28, h29, h30, h31, h32, h33, h34, h35, h36, hC, h38, h39⟩ := h
  exact ⟨h1, h2, h3, h4, h5, h6, h7, h8, h9, h10, h11, h12, h13, h14, h15, h16, h17, h18, h19, h20, h21, h22, h23, h24, h25, h26, h27, h28, h29, h30, h31, h32, h33, h34, h35, h36, jCel_set hC v hs hb, h38, h39⟩
theorem xOpJ_mk {I : xS → Prop} {fx fm : Nat} {as : xL} {S : xS} {z : Int64} {S1 S2 : xS} (hx : ∀ r, xX 59 fx 0 ((0, .ref 0) :: as) [] S r ↔ r = (some (.long z), S1)) (hm : ∀ r, xX 59 fm 0 ((0, .ref 54) :: as) [] S1 r ↔ r = (some (.long z), S2)) (hI : I S2) : xOpJ I fx fm as S := ⟨z, S1, S2, (hx _).mpr rfl, (hm _).mpr rfl, hI⟩
