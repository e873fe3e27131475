/-! the parts of the invariant by name -/
theorem xInv.hRef {S : xS} (h : xInv S) : iEq 8 (S.1 1) (S.1 84) := h.1
theorem xInv.hCnt {S : xS} (h : xInv S) : iSc (S.1 2 0) (S.1 54 0) 10 := h.2.1
theorem xInv.hBld {S : xS} (h : xInv S) : iSc (S.1 9 0) (S.1 54 1) 6 := h.2.2.1
theorem xInv.hLwc {S : xS} (h : xInv S) : iSc (S.1 19 0) (S.1 54 2) 6 := h.2.2.2.1
theorem xInv.hEmb {S : xS} (h : xInv S) : iSc (S.1 24 0) (S.1 54 3) 10 := h.2.2.2.2.1
theorem xInv.hFil {S : xS} (h : xInv S) : iSc (S.1 26 0) (S.1 54 4) 12 := h.2.2.2.2.2.1
theorem xInv.hNow {S : xS} (h : xInv S) : iSc (S.1 0 10) (S.1 54 5) 5 := h.2.2.2.2.2.2.1
theorem xInv.hPal {S : xS} (h : xInv S) : iSc (S.1 24 1) (S.1 54 6) 35 := h.2.2.2.2.2.2.2.1
theorem xInv.hRnt {S : xS} (h : xInv S) : S.1 13 6 = S.1 54 7 := h.2.2.2.2.2.2.2.2.1
theorem xInv.hMst {S : xS} (h : xInv S) : iSc (S.1 9 1) (S.1 54 8) 400 := h.2.2.2.2.2.2.2.2.2.1
theorem xInv.hTrn {S : xS} (h : xInv S) : S.1 13 5 = S.1 54 9 := h.2.2.2.2.2.2.2.2.2.2.1
theorem xInv.hOnt {S : xS} (h : xInv S) : S.1 13 7 = S.1 54 12 := h.2.2.2.2.2.2.2.2.2.2.2.1
theorem xInv.hPai {S : xS} (h : xInv S) : S.1 13 10 = S.1 54 13 := h.2.2.2.2.2.2.2.2.2.2.2.2.1
theorem xInv.hFlt {S : xS} (h : xInv S) : S.1 19 5 = S.1 54 14 := h.2.2.2.2.2.2.2.2.2.2.2.2.2.1
theorem xInv.hBeg {S : xS} (h : xInv S) : jBeg (S.1 0 9) (S.1 54 15) (S.1 0 10) := h.2.2.2.2.2.2.2.2.2.2.2.2.2.2.1
theorem xInv.hDsk {S : xS} (h : xInv S) : iArr 10 40 (S.1 3) (S.1 55) := h.2.2.2.2.2.2.2.2.2.2.2.2.2.2.2.1
theorem xInv.hRnk {S : xS} (h : xInv S) : iArr 10 9 (S.1 4) (S.1 56) := h.2.2.2.2.2.2.2.2.2.2.2.2.2.2.2.2.1
theorem xInv.hWav {S : xS} (h : xInv S) : jWav (S.1 5) (S.1 57) := h.2.2.2.2.2.2.2.2.2.2.2.2.2.2.2.2.2.1
theorem xInv.hSty {S : xS} (h : xInv S) : iBit 10 (S.1 6) (S.1 58) := h.2.2.2.2.2.2.2.2.2.2.2.2.2.2.2.2.2.2.1
theorem xInv.hMov {S : xS} (h : xInv S) : iBit 10 (S.1 7) (S.1 59) := h.2.2.2.2.2.2.2.2.2.2.2.2.2.2.2.2.2.2.2.1
theorem xInv.hTie {S : xS} (h : xInv S) : jTie (S.1 8) (S.1 60) := h.2.2.2.2.2.2.2.2.2.2.2.2.2.2.2.2.2.2.2.2.1
theorem xInv.hRom {S : xS} (h : xInv S) : iArr 6 120 (S.1 10) (S.1 61) := h.2.2.2.2.2.2.2.2.2.2.2.2.2.2.2.2.2.2.2.2.2.1
theorem xInv.hRdy {S : xS} (h : xInv S) : iArr 6 4 (S.1 11) (S.1 62) := h.2.2.2.2.2.2.2.2.2.2.2.2.2.2.2.2.2.2.2.2.2.2.1
theorem xInv.hBec {S : xS} (h : xInv S) : jBec (S.1 12) (S.1 63) (S.1 64) := h.2.2.2.2.2.2.2.2.2.2.2.2.2.2.2.2.2.2.2.2.2.2.2.1
theorem xInv.hFlk {S : xS} (h : xInv S) : iArr 30 40 (S.1 14) (S.1 65) := h.2.2.2.2.2.2.2.2.2.2.2.2.2.2.2.2.2.2.2.2.2.2.2.2.1
theorem xInv.hHer {S : xS} (h : xInv S) : jHer (S.1 7) (S.1 14) (S.1 66) := h.2.2.2.2.2.2.2.2.2.2.2.2.2.2.2.2.2.2.2.2.2.2.2.2.2.1
theorem xInv.hTrt {S : xS} (h : xInv S) : iArr 15 100 (S.1 15) (S.1 70) := h.2.2.2.2.2.2.2.2.2.2.2.2.2.2.2.2.2.2.2.2.2.2.2.2.2.2.1
theorem xInv.hTvl {S : xS} (h : xInv S) : jTvl (S.1 13 7) (S.1 16) (S.1 68) := h.2.2.2.2.2.2.2.2.2.2.2.2.2.2.2.2.2.2.2.2.2.2.2.2.2.2.2.1
theorem xInv.hSet {S : xS} (h : xInv S) : jThr (S.1 17) (S.1 67) := h.2.2.2.2.2.2.2.2.2.2.2.2.2.2.2.2.2.2.2.2.2.2.2.2.2.2.2.2.1
theorem xInv.hQui {S : xS} (h : xInv S) : jThr (S.1 18) (S.1 69) := h.2.2.2.2.2.2.2.2.2.2.2.2.2.2.2.2.2.2.2.2.2.2.2.2.2.2.2.2.2.1
theorem xInv.hFre {S : xS} (h : xInv S) : jFre (S.1 0 10) (S.1 54 10) (S.1 13 8) (S.1 54 11) (S.1 13 9) (S.1 12) := h.2.2.2.2.2.2.2.2.2.2.2.2.2.2.2.2.2.2.2.2.2.2.2.2.2.2.2.2.2.2.1
theorem xInv.hLaw {S : xS} (h : xInv S) : jLaw (S.1 19 0) (S.1 20) (S.1 77) (S.1 21) (S.1 78) (S.1 22) (S.1 79) (S.1 23) (S.1 80) := h.2.2.2.2.2.2.2.2.2.2.2.2.2.2.2.2.2.2.2.2.2.2.2.2.2.2.2.2.2.2.2.1
theorem xInv.hEmR {S : xS} (h : xInv S) : iArr 10 9 (S.1 25) (S.1 81) := h.2.2.2.2.2.2.2.2.2.2.2.2.2.2.2.2.2.2.2.2.2.2.2.2.2.2.2.2.2.2.2.2.1
theorem xInv.hPlc {S : xS} (h : xInv S) : iEq 12 (S.1 27) (S.1 83) := h.2.2.2.2.2.2.2.2.2.2.2.2.2.2.2.2.2.2.2.2.2.2.2.2.2.2.2.2.2.2.2.2.2.1
theorem xInv.hShf {S : xS} (h : xInv S) : jShf (S.1 2 0) (S.1 29) (S.1 71) (S.1 72) (S.1 74) := h.2.2.2.2.2.2.2.2.2.2.2.2.2.2.2.2.2.2.2.2.2.2.2.2.2.2.2.2.2.2.2.2.2.2.1
theorem xInv.hSiz {S : xS} (h : xInv S) : iArr 8 60 (S.1 30) (S.1 73) := h.2.2.2.2.2.2.2.2.2.2.2.2.2.2.2.2.2.2.2.2.2.2.2.2.2.2.2.2.2.2.2.2.2.2.2.1
theorem xInv.hCel {S : xS} (h : xInv S) : jCel S.2.1 := h.2.2.2.2.2.2.2.2.2.2.2.2.2.2.2.2.2.2.2.2.2.2.2.2.2.2.2.2.2.2.2.2.2.2.2.2.1
theorem xInv.hPln {S : xS} (h : xInv S) : jPln (S.1 2 0) (S.1 0 10) (S.1 5) (S.1 6) (S.1 7) := h.2.2.2.2.2.2.2.2.2.2.2.2.2.2.2.2.2.2.2.2.2.2.2.2.2.2.2.2.2.2.2.2.2.2.2.2.2.1
theorem xInv.hLeg {S : xS} (h : xInv S) : jLeg S := h.2.2.2.2.2.2.2.2.2.2.2.2.2.2.2.2.2.2.2.2.2.2.2.2.2.2.2.2.2.2.2.2.2.2.2.2.2.2
theorem xInvR.hCnt {S : xS} (h : xInvR S) : iSc (S.1 2 0) (S.1 54 0) 10 := h.1
theorem xInvR.hBld {S : xS} (h : xInvR S) : iSc (S.1 9 0) (S.1 54 1) 6 := h.2.1
theorem xInvR.hMst {S : xS} (h : xInvR S) : iSc (S.1 9 1) (S.1 54 8) 400 := h.2.2.1
theorem xInvR.hDsk {S : xS} (h : xInvR S) : iArr 10 40 (S.1 3) (S.1 55) := h.2.2.2.1
theorem xInvR.hWav {S : xS} (h : xInvR S) : jWav (S.1 5) (S.1 57) := h.2.2.2.2.1
theorem xInvR.hRom {S : xS} (h : xInvR S) : iArr 6 120 (S.1 10) (S.1 61) := h.2.2.2.2.2.1
theorem xInvR.hRdy {S : xS} (h : xInvR S) : iArr 6 4 (S.1 11) (S.1 62) := h.2.2.2.2.2.2.1
theorem xInvR.hBec {S : xS} (h : xInvR S) : jBec (S.1 12) (S.1 63) (S.1 64) := h.2.2.2.2.2.2.2.1
theorem xInvR.hFlk {S : xS} (h : xInvR S) : iArr 30 40 (S.1 14) (S.1 65) := h.2.2.2.2.2.2.2.2.1
theorem xInvR.hTrt {S : xS} (h : xInvR S) : iArr 15 100 (S.1 15) (S.1 70) := h.2.2.2.2.2.2.2.2.2
theorem xInv.R {S : xS} (h : xInv S) : xInvR S := ⟨h.hCnt, h.hBld, h.hMst, h.hDsk, h.hWav, h.hRom, h.hRdy, h.hBec, h.hFlk, h.hTrt⟩
theorem xInv.cnt {S : xS} (h : xInv S) : xN (S.1 2 0) ≤ 10 ∧ S.1 2 0 = nI (xN (S.1 2 0)) ∧ S.1 54 0 = nI (xN (S.1 2 0)) := by
  obtain ⟨n, h1, h2, h3⟩ := h.hCnt
  have e : xN (S.1 2 0) = n := by rw [h2]; exact xN_nI (by omega)
  rw [e]; exact ⟨h1, h2, h3⟩
theorem xInv.bld {S : xS} (h : xInv S) : xN (S.1 9 0) ≤ 6 ∧ S.1 9 0 = nI (xN (S.1 9 0)) ∧ S.1 54 1 = nI (xN (S.1 9 0)) := by
  obtain ⟨n, h1, h2, h3⟩ := h.hBld
  have e : xN (S.1 9 0) = n := by rw [h2]; exact xN_nI (by omega)
  rw [e]; exact ⟨h1, h2, h3⟩
theorem xInv.now {S : xS} (h : xInv S) : xN (S.1 0 10) ≤ 5 ∧ S.1 0 10 = nI (xN (S.1 0 10)) ∧ S.1 54 5 = nI (xN (S.1 0 10)) := by
  obtain ⟨n, h1, h2, h3⟩ := h.hNow
  have e : xN (S.1 0 10) = n := by rw [h2]; exact xN_nI (by omega)
  rw [e]; exact ⟨h1, h2, h3⟩
theorem xInv.mst {S : xS} (h : xInv S) : xN (S.1 9 1) ≤ 400 ∧ S.1 9 1 = nI (xN (S.1 9 1)) ∧ S.1 54 8 = nI (xN (S.1 9 1)) := by
  obtain ⟨n, h1, h2, h3⟩ := h.hMst
  have e : xN (S.1 9 1) = n := by rw [h2]; exact xN_nI (by omega)
  rw [e]; exact ⟨h1, h2, h3⟩
theorem xInv.dsk {S : xS} (h : xInv S) {k : Nat} (hk : k < 10) : xN (S.1 3 k) ≤ 40 ∧ S.1 3 k = nI (xN (S.1 3 k)) ∧ S.1 55 k = nI (xN (S.1 3 k)) := h.hDsk.get (by omega) hk
theorem xInv.wav {S : xS} (h : xInv S) {k : Nat} (hk : k < 10) : xN (S.1 5 k) ≤ 5 ∧ S.1 5 k = nI (xN (S.1 5 k)) ∧ S.1 57 k = (if xN (S.1 5 k) = 5 then -1 else nI (xN (S.1 5 k))) := by
  obtain ⟨n, h1, h2, h3⟩ := h.hWav k hk
  have e : xN (S.1 5 k) = n := by rw [h2]; exact xN_nI (by omega)
  rw [e]; exact ⟨h1, h2, h3⟩
theorem xInvR.cnt {S : xS} (h : xInvR S) : xN (S.1 2 0) ≤ 10 ∧ S.1 2 0 = nI (xN (S.1 2 0)) ∧ S.1 54 0 = nI (xN (S.1 2 0)) := by
  obtain ⟨n, h1, h2, h3⟩ := h.hCnt
  have e : xN (S.1 2 0) = n := by rw [h2]; exact xN_nI (by omega)
  rw [e]; exact ⟨h1, h2, h3⟩
theorem xInvR.bld {S : xS} (h : xInvR S) : xN (S.1 9 0) ≤ 6 ∧ S.1 9 0 = nI (xN (S.1 9 0)) ∧ S.1 54 1 = nI (xN (S.1 9 0)) := by
  obtain ⟨n, h1, h2, h3⟩ := h.hBld
  have e : xN (S.1 9 0) = n := by rw [h2]; exact xN_nI (by omega)
  rw [e]; exact ⟨h1, h2, h3⟩
theorem xInvR.mst {S : xS} (h : xInvR S) : xN (S.1 9 1) ≤ 400 ∧ S.1 9 1 = nI (xN (S.1 9 1)) ∧ S.1 54 8 = nI (xN (S.1 9 1)) := by
  obtain ⟨n, h1, h2, h3⟩ := h.hMst
  have e : xN (S.1 9 1) = n := by rw [h2]; exact xN_nI (by omega)
  rw [e]; exact ⟨h1, h2, h3⟩
theorem xInvR.dsk {S : xS} (h : xInvR S) {k : Nat} (hk : k < 10) : xN (S.1 3 k) ≤ 40 ∧ S.1 3 k = nI (xN (S.1 3 k)) ∧ S.1 55 k = nI (xN (S.1 3 k)) := h.hDsk.get (by omega) hk
theorem xInvR.wav {S : xS} (h : xInvR S) {k : Nat} (hk : k < 10) : xN (S.1 5 k) ≤ 5 ∧ S.1 5 k = nI (xN (S.1 5 k)) ∧ S.1 57 k = (if xN (S.1 5 k) = 5 then -1 else nI (xN (S.1 5 k))) := by
  obtain ⟨n, h1, h2, h3⟩ := h.hWav k hk
  have e : xN (S.1 5 k) = n := by rw [h2]; exact xN_nI (by omega)
  rw [e]; exact ⟨h1, h2, h3⟩
/-! bounds of what is compared -/
theorem xbH {S : xS} (h : xInvR S) {k : Nat} (hk : k < 10) : aH (S.1 14) k ≤ 120 := by
  have h0 := (xtwo h (show 3 * k < 30 by omega)).2
  have h1 := (xtwo h (show 3 * k + 1 < 30 by omega)).2
  have h2 := (xtwo h (show 3 * k + 2 < 30 by omega)).2
  unfold aH
  omega
theorem xaK {tr : Nat → Int32} {j : Nat} {x : Int32} : aK tr j x ≤ xN x := by
  unfold aK
  by_cases c : 0 < tr (5 * j + 2)
  · rw [if_pos c]; exact Nat.le_refl _
  · rw [if_neg c]; exact Nat.zero_le _
theorem xbP {S : xS} (h : xInvR S) {k : Nat} (hk : k < 10) : aP (S.1 14) (S.1 15) k ≤ 120 := by
  have h0 := (xtwo h (show 3 * k < 30 by omega)).2
  have h1 := (xtwo h (show 3 * k + 1 < 30 by omega)).2
  have h2 := (xtwo h (show 3 * k + 2 < 30 by omega)).2
  have g0 := xaK (tr := S.1 15) (j := 0) (x := S.1 14 (3 * k))
  have g1 := xaK (tr := S.1 15) (j := 1) (x := S.1 14 (3 * k + 1))
  have g2 := xaK (tr := S.1 15) (j := 2) (x := S.1 14 (3 * k + 2))
  unfold aP
  omega
theorem xbDR {S : xS} (h : xInvR S) (v : Nat) : aDR (S.1 9 0) (S.1 10) (S.1 11) v ≤ 720 := by
  have hb := h.bld.1
  have : aDR (S.1 9 0) (S.1 10) (S.1 11) v ≤ 120 * xN (S.1 9 0) := sN_bd (fun k hk => by
    show (if xN (S.1 11 k) ≤ v then xN (S.1 10 k) else 0) ≤ 120
    have := (h.hRom.get (by omega) (show k < 6 by omega)).1
    by_cases c : xN (S.1 11 k) ≤ v
    · rw [if_pos c]; exact this
    · rw [if_neg c]; omega)
  omega
theorem xbFR {S : xS} (h : xInvR S) {v : Nat} (hv : v < 5) : aFR (S.1 12) v ≤ 2000 := by
  have : aFR (S.1 12) v ≤ 400 * (v + 1) := sN_bd (fun k hk => (h.hBec.1.get (by omega) (show k < 5 by omega)).1)
  omega
theorem xbSR {S : xS} (h : xInvR S) {v : Nat} (hv : v < 5) : aSR (S.1 12) v ≤ 2000 := by
  have : aSR (S.1 12) v ≤ 400 * (v + 1) := sN_bd (fun k hk => (h.hBec.2.get (by omega) (show k < 5 by omega)).1)
  omega
theorem xbS {f : Nat → Nat} {c : Nat → Prop} [dc : ∀ k, Decidable (c k)] {m n : Nat} (h : ∀ k, k < n → f k ≤ m) : sN (fun k => if c k then f k else 0) n ≤ m * n := sN_bd (fun k hk => by
    show (if c k then f k else 0) ≤ m
    by_cases e : c k
    · rw [if_pos e]; exact h k hk
    · rw [if_neg e]; omega)
