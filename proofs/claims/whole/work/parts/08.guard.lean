section XSG
variable {p : Program} {l0 : Launch} {e : Env} {R : Room} {s : State} {m : MethodId} {args : Array Value} {below : List Frame} {meth : Method} {c : Code} {cells slots : Nat} {Q : State → Prop}
variable {f pc : Nat} {md : xMd} {D : va_G} {ad : Nat → Nat} {cy : Nat → ClassId} {A : Nat → Prop} {H0 : Heap} {ls : Array Slot} {H : Heap} {locs : List Loc} {l : xL} {st : List Value} {S : xS}
theorem xw_setI (ad : Nat → Nat) (cy : Nat → ClassId) (S : xS) {c0 n b k : Nat} {x : Int32} (hs : xsh c0 = .inr (0, n, b)) : (xw ad cy S).set c0 (ad c0, .inl (cy 0, n, .inl (upd (S.1 c0) k x))) = xw ad cy (xwI S c0 k x) :=
  xw_set ad cy S _ hs (by simp only [xce, xak]; rw [show upd (S.1 c0) k x = (xwI S c0 k x).1 c0 by funext z; simp [upd, xwI]]) (fun j hj => ⟨by funext z; simp [xwI, hj], rfl⟩)
theorem xw_setZ (ad : Nat → Nat) (cy : Nat → ClassId) (S : xS) {c0 n b k : Nat} {x : Int32} (hs : xsh c0 = .inr (1, n, b)) : (xw ad cy S).set c0 (ad c0, .inl (cy 1, n, .inl (upd (S.1 c0) k x))) = xw ad cy (xwI S c0 k x) :=
  xw_set ad cy S _ hs (by simp only [xce, xak]; rw [show upd (S.1 c0) k x = (xwI S c0 k x).1 c0 by funext z; simp [upd, xwI]]) (fun j hj => ⟨by funext z; simp [xwI, hj], rfl⟩)
theorem xw_setJ (ad : Nat → Nat) (cy : Nat → ClassId) (S : xS) {c0 n b k : Nat} {x : Int64} (hs : xsh c0 = .inr (2, n, b)) : (xw ad cy S).set c0 (ad c0, .inl (cy 2, n, .inr (.inl (vp_updL (S.2.1 c0) k x)))) = xw ad cy (xwJ S c0 k x) :=
  xw_set ad cy S _ hs (by simp only [xce, xak]; rw [show vp_updL (S.2.1 c0) k x = (xwJ S c0 k x).2.1 c0 by funext z; simp [vp_updL, xwJ]]) (fun j hj => ⟨rfl, by funext z; simp [xwJ, hj]⟩)
theorem xbit_nar {x : Int32} (h : xbit x) : vp_nar .boolean x = x ∧ narrow .boolean (.int x) = .int x ∧ fits .boolean (.int x) = true := by
  rcases h with rfl | rfl <;> exact ⟨rfl, rfl, rfl⟩
/-- a step with a condition -/
theorem xs_guard (E : xEnv p s m args c f md D cy) {q : xI} (hck : xchk f pc md q = true) (h : xAt f s D ad cy A H0 ls H locs l S) {G : Prop} {pc' : Nat} {l' : xL} {st' : List Value} {S' : xS} (hx : xexec f pc l st S q = .inr (.inl (G, pc', l', st', S'))) (hG : G) (hR : 1 ≤ R.frames ∧ 64 ≤ R.locals)
    (kk : ∀ (ls : Array Slot) (H : Heap) (locs : List Loc), xAt f s D ad cy A H0 ls H locs l' S' → W p l0 e R s m args below meth c H locs cells slots Q (F0 m pc' ls (st'.map (xv ad)))) : W p l0 e R s m args below meth c H locs cells slots Q (F0 m pc ls (st.map (xv ad))) := by
  obtain ⟨ins, ln, a, b, v, ts⟩ := q
  obtain ⟨hex, hb, hml, hown, hts, hN, hK⟩ := id E
  obtain ⟨hl, hP, hD, hS, hX⟩ := id h
  obtain ⟨hdg0, hok⟩ := Bool.and_eq_true_iff.mp hck
  have hdg : decode md.2.1 pc = .ok (ins, ln) := of_decide_eq_true hdg0
  clear hdg0 hck
  have h89 : xNC = 89 := rfl
  have hcall : ∀ b st, xcall b st ≠ .inr (.inl (G, pc', l', st', S')) := by
    intro b st z
    rcases xcall_spec b st with h | ⟨as, h, -⟩ <;> rw [h] at z <;> cases z
  cases ins with
  | idiv => have := of_decide_eq_true hok; subst this; simp only [xexec] at hx; split at hx; (next => cases hx; exact lv_idiv hex hb hdg hG (kk _ _ _ h)); (next => cases hx)
  | irem => have := of_decide_eq_true hok; subst this; simp only [xexec] at hx; split at hx; (next => cases hx; exact lv_irem hex hb hdg hG (kk _ _ _ h)); (next => cases hx)
  | putfield i =>
    obtain ⟨h1, h2⟩ := Bool.and_eq_true_iff.mp hok
    have := of_decide_eq_true h1; subst this
    obtain ⟨r, hr, hbr, hw⟩ := xfT_use h2
    simp only [xexec] at hx
    split at hx
    next x c0 t =>
      split at hx
      next hf =>
        obtain ⟨hc, fl, hs, hk⟩ := xfl_sh hf
        cases hbo : xbool a b with
        | false => rw [hbo] at hx; cases hx
        | true =>
          rw [hbo] at hx
          cases hx
          obtain ⟨r', hr', g1, g2, g3, g4⟩ := xsh_num hc hs hk
          cases hr.symm.trans hr'
          rw [hbo] at g4
          have g4 : xcty a b = .boolean := g4
          obtain ⟨-, n1, n2⟩ := xbit_nar hG
          refine va_put (v := .int x) (ty := .boolean) (C := r.1) (T := r.2.1) (N := r.2.2) hex hb hts (xcl_in a r hr) (xcty a) (xcl_ty a r hr) (xcl_nm a r hr) hown hK hP hD hS c0 (xw_get ad cy S hc hs) hr b hbr (hts _ hw) (fun _ z => by rw [xcl_decl a r hr b hbr] at z; exact z) g3 (by rw [xcl_ty a r hr b hbr, g4]) n1 n2 (by rw [xfs_len]; omega) hdg (fun H1 locs1 hP1 hD1 hS1 => ?_)
          rw [xw_set ad cy S (xwI S c0 b x) hs (by
            simp only [xce]
            congr 2
            apply List.ext_getElem?
            intro j
            rw [xfs_get]
            by_cases ej : j = b
            · subst ej
              rw [List.getElem?_set_self (by rw [xfs_len]; omega), hk]
              simp [xfv, xwI]
            · rw [List.getElem?_set_ne (fun z => ej z.symm), xfs_get]
              cases fl[j]? with
              | none => rfl
              | some o => cases o <;> simp [xfv, xwI, ej]) (fun k hk => ⟨by funext z; simp [xwI, hk], rfl⟩)] at hP1 hD1
          exact kk _ _ _ ⟨hl, hP1, hD1, hS1, xsc hX (by funext z; simp [xwI, xne999 hc]) rfl⟩
      next => cases hx
    next => cases hx
  | iaload =>
    have := of_decide_eq_true hok; subst this; simp only [xexec] at hx
    split at hx
    next i c0 t =>
      cases h9 : Nat.beq c0 999 with
      | true =>
        rw [h9] at hx
        cases hf : Nat.beq f 0 with
        | false => rw [hf] at hx; cases hx
        | true =>
          rw [hf] at hx
          cases hx
          cases Nat.eq_of_beq_eq_true h9
          obtain ⟨x1, x2, x3⟩ := hX (Nat.eq_of_beq_eq_true hf)
          exact va_sld hex hb x1 x2 x3 hS hG hdg (kk _ _ _ h)
      | false =>
        rw [h9] at hx
        simp only [cond_false] at hx
        split at hx
        next n hn =>
          obtain ⟨hc, b0, hs⟩ := xlen_sh hn
          cases hx
          exact va_iald hex hb hK hP c0 0 (xw_get ad cy S hc hs) rfl hG hdg (kk _ _ _ h)
        next => cases hx
    next => cases hx
  | baload =>
    have := of_decide_eq_true hok; subst this; simp only [xexec] at hx
    split at hx
    next i c0 t =>
      split at hx
      next n hn =>
        obtain ⟨hc, b0, hs⟩ := xlen_sh hn
        cases hx
        exact va_zald hex hb hK hP c0 1 (xw_get ad cy S hc hs) rfl hG hdg (kk _ _ _ h)
      next => cases hx
    next => cases hx
  | laload =>
    have := of_decide_eq_true hok; subst this; simp only [xexec] at hx
    split at hx
    next i c0 t =>
      split at hx
      next n hn =>
        obtain ⟨hc, b0, hs⟩ := xlen_sh hn
        cases hx
        exact va_lald hex hb hK hP c0 2 (xw_get ad cy S hc hs) rfl hG hdg (kk _ _ _ h)
      next => cases hx
    next i j t =>
      cases hx
      obtain ⟨hs, hc⟩ := xsh_row j hG.1
      exact va_lald hex hb hK hP (xrb + j) 2 (xw_get ad cy S hc hs) rfl hG.2 hdg (kk _ _ _ h)
    next => cases hx
  | aaload =>
    have := of_decide_eq_true hok; subst this; simp only [xexec] at hx
    split at hx
    next i c0 t =>
      cases h9 : Nat.beq c0 31 with
      | false => rw [h9] at hx; cases hx
      | true =>
        rw [h9] at hx
        cases hx
        cases Nat.eq_of_beq_eq_true h9
        have hlt : i.toNatClampNeg < 8 := Nat.not_le.mp fun q => hG (Or.inr q)
        refine W.aald (v := .ref (ad (xrb + i.toNatClampNeg))) (ty := .array .long) hex hb (hP 31 _ (xw_get ad cy S (c := 31) (by omega) rfl)) ((hK.2 3 _ rfl).1 8 (fun j => va_rf (some (ad (32 + j))))) rfl (fun q => by cases q) (by show ¬ (i < 0 ∨ (arrV _ _ _).slots.size ≤ _); rw [arrV_size]; exact hG) (by show (arrV _ _ _).slots[_]? = _; rw [arrV_read _ _ hlt]; rfl) rfl rfl hdg (kk _ _ _ h)
    next => cases hx
  | iastore =>
    have := of_decide_eq_true hok; subst this; simp only [xexec] at hx
    split at hx
    next x i c0 t =>
      split at hx
      next n hn =>
        obtain ⟨hc, b0, hs⟩ := xlen_sh hn
        cases hx
        refine va_iast hex hb hK hP hD hS c0 0 (xw_get ad cy S hc hs) rfl hG hdg (fun H1 locs1 hP1 hD1 hS1 => ?_)
        rw [xw_setI ad cy S hs] at hP1 hD1
        exact kk _ _ _ ⟨hl, hP1, hD1, hS1, xsc hX (by funext z; simp [xwI, xne999 hc]) rfl⟩
      next => cases hx
    next => cases hx
  | bastore =>
    have := of_decide_eq_true hok; subst this; simp only [xexec] at hx
    split at hx
    next x i c0 t =>
      split at hx
      next n hn =>
        obtain ⟨hc, b0, hs⟩ := xlen_sh hn
        cases hx
        refine va_zast hex hb hK hP hD hS c0 1 (xw_get ad cy S hc hs) rfl hG.2 hdg (fun H1 locs1 hP1 hD1 hS1 => ?_)
        rw [(xbit_nar hG.1).1, xw_setZ ad cy S hs] at hP1 hD1
        exact kk _ _ _ ⟨hl, hP1, hD1, hS1, xsc hX (by funext z; simp [xwI, xne999 hc]) rfl⟩
      next => cases hx
    next => cases hx
  | lastore =>
    have := of_decide_eq_true hok; subst this; simp only [xexec] at hx
    split at hx
    next x i c0 t =>
      split at hx
      next n hn =>
        obtain ⟨hc, b0, hs⟩ := xlen_sh hn
        cases hx
        refine va_last hex hb hK hP hD hS c0 2 (xw_get ad cy S hc hs) rfl hG hdg (fun H1 locs1 hP1 hD1 hS1 => ?_)
        rw [xw_setJ ad cy S hs] at hP1 hD1
        exact kk _ _ _ ⟨hl, hP1, hD1, hS1, xsc hX rfl rfl⟩
      next => cases hx
    next x i j t =>
      cases hx
      obtain ⟨hs, hc⟩ := xsh_row j hG.1
      refine va_last hex hb hK hP hD hS (xrb + j) 2 (xw_get ad cy S hc hs) rfl hG.2 hdg (fun H1 locs1 hP1 hD1 hS1 => ?_)
      rw [xw_setJ ad cy S hs] at hP1 hD1
      exact kk _ _ _ ⟨hl, hP1, hD1, hS1, xsc hX rfl rfl⟩
    next => cases hx
  | invokestatic i =>
    obtain ⟨h1, h2⟩ := Bool.and_eq_true_iff.mp hok
    obtain ⟨rfl, -⟩ := of_decide_eq_true h1
    simp only [xexec] at hx
    cases ha : Nat.beq a 3 with
    | false =>
      rw [ha] at hx
      simp only [cond_false] at hx
      cases ha4 : Nat.beq a 4 with
      | true => rw [ha4] at hx; exfalso; simp only [cond_eq_ite, if_true] at hx; (repeat' split at hx) <;> cases hx
      | false =>
      cases ha5 : Nat.beq a 5 with
      | true => rw [ha4, ha5] at hx; exfalso; simp only [cond_eq_ite, if_true] at hx; (repeat' split at hx) <;> cases hx
      | false =>
      cases ha6 : Nat.beq a 6 with
      | true => rw [ha4, ha5, ha6] at hx; exfalso; simp only [cond_eq_ite, if_true] at hx; (repeat' split at hx) <;> cases hx
      | false =>
      rw [ha4, ha5, ha6] at hx
      simp only [cond_false] at hx
      exact absurd hx (hcall _ _)
    | true =>
      rw [ha] at hx
      cases Nat.eq_of_beq_eq_true ha
      have hlink := hts _ (xmT_3 h2)
      have hnat : (Cond.native arraycopyName).before args s = true := hts _ (lwG_of (i := 510) (by decide +kernel) rfl)
      have hstt : (Cond.static arraycopyName).before args s = true := hts _ (lwG_of (i := 509) (by decide +kernel) rfl)
      have hini : (Cond.initialized "java/lang/System").before args s = true := hts _ (lwG_of (i := 57) (by decide +kernel) rfl)
      have hwords : ∀ t : List Value, xcat t ≤ 8 → ((t.map (xv ad)).map fun v => v.category).sum + (nativeFrameWords "java/lang/System" "arraycopy" 5 + 11) ≤ R.locals := by
        intro t ht
        rw [xcat_sum, show nativeFrameWords "java/lang/System" "arraycopy" 5 = 7 by decide +kernel]
        omega
      simp only [cond_true] at hx
      split at hx
      next n dp c1 sp c0 t =>
        split at hx
        next n0 n1 hn0 hn1 =>
          obtain ⟨hc0, b0, hs0⟩ := xlen_sh hn0
          obtain ⟨hc1, b1, hs1⟩ := xlen_sh hn1
          cases hca : Nat.ble (xcat t) 8 with
          | false => rw [hca] at hx; cases hx
          | true =>
            rw [hca] at hx
            cases hx
            obtain ⟨g1, g2, g3, g4, g5⟩ := hG
            refine va_copyi hex hb (hml.trans hl.1.symm) hown hlink hnat hstt hini hK hP hD hS c0 c1 0 0 (xw_get ad cy S hc0 hs0) (xw_get ad cy S hc1 hs1) rfl rfl rfl g1 g2 g3 g4 g5 (fun _ _ => rfl) hR.1 (hwords _ (Nat.le_of_ble_eq_true hca)) hdg (fun H1 locs1 hP1 hD1 hS1 => ?_)
            rw [xw_set ad cy S (xcI S c0 sp.toNatClampNeg c1 dp.toNatClampNeg n.toNatClampNeg) hs1 (by simp only [xce, xak]; rw [show va_cpy (S.1 c0) (S.1 c1) sp.toNatClampNeg dp.toNatClampNeg n.toNatClampNeg = (xcI S c0 sp.toNatClampNeg c1 dp.toNatClampNeg n.toNatClampNeg).1 c1 by funext z; simp [xcI]]) (fun j hj => ⟨by funext z; simp [xcI, hj], rfl⟩)] at hP1 hD1
            exact kk _ _ _ ⟨hl, hP1, hD1, hS1, xsc hX (by funext z; simp [xcI, xne999 hc1]) rfl⟩
        next => cases hx
      next n dp j1 sp j0 t =>
        cases hca : Nat.ble (xcat t) 8 with
        | false => rw [hca] at hx; cases hx
        | true =>
          rw [hca] at hx
          cases hx
          obtain ⟨gj0, gj1, g1, g2, g3, g4, g5⟩ := hG
          obtain ⟨hs0, hc0⟩ := xsh_row j0 gj0
          obtain ⟨hs1, hc1⟩ := xsh_row j1 gj1
          refine va_copyl hex hb (hml.trans hl.1.symm) hown hlink hnat hstt hini hK hP hD hS (xrb + j0) (xrb + j1) 2 2 (xw_get ad cy S hc0 hs0) (xw_get ad cy S hc1 hs1) rfl rfl rfl g1 g2 g3 g4 g5 (fun _ _ => rfl) hR.1 (hwords _ (Nat.le_of_ble_eq_true hca)) hdg (fun H1 locs1 hP1 hD1 hS1 => ?_)
          rw [xw_set ad cy S (xcJ S (xrb + j0) sp.toNatClampNeg (xrb + j1) dp.toNatClampNeg n.toNatClampNeg) hs1 (by simp only [xce, xak]; rw [show va_cpy (S.2.1 (xrb + j0)) (S.2.1 (xrb + j1)) sp.toNatClampNeg dp.toNatClampNeg n.toNatClampNeg = (xcJ S (xrb + j0) sp.toNatClampNeg (xrb + j1) dp.toNatClampNeg n.toNatClampNeg).2.1 (xrb + j1) by funext z; simp [xcJ]]) (fun j hj => ⟨rfl, by funext z; simp [xcJ, hj]⟩)] at hP1 hD1
          exact kk _ _ _ ⟨hl, hP1, hD1, hS1, xsc hX rfl rfl⟩
      next => cases hx
  | invokevirtual i => exact absurd hx (hcall _ _)
  | _ =>
    simp only [xexec, cond_eq_ite] at hx <;> (repeat' split at hx) <;> cases hx
end XSG
