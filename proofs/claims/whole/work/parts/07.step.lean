/-! each step of the run over numbers is a step of the machine -/
def xEnv (p : Program) (s : State) (m : MethodId) (args : Array Value) (c : Code) (f : Nat) (md : xMd) (D : va_G) (cy : Nat → ClassId) : Prop :=
  p.tables.exec = Jvm.exec ∧ c.code = md.2.1 ∧ c.maxLocals = xml f ∧ s.vm.findClass (xown (xmo f)) = some m.cls ∧ (∀ w ∈ lwG, w.before args s = true) ∧ (∀ w ∈ xnest, va_Nw w s) ∧ va_K D vwCl (xtys cy) s
def xAt (f : Nat) (s : State) (D : va_G) (ad : Nat → Nat) (cy : Nat → ClassId) (A : Nat → Prop) (H0 : Heap) (ls : Array Slot) (H : Heap) (locs : List Loc) (l : xL) (S : xS) : Prop :=
  lv_has ls (xml f) (xlv ad l) ∧ va_P D vwCl (xw ad cy S) H ∧ va_D A (xw ad cy S) ∧ va_S A H0 H locs ∧ (f = 0 → va_X (ad 999) S.2.2 (S.1 999) s H0 ∧ ad 999 < H0.size ∧ ¬ A (ad 999))
theorem xne999 {c : Nat} (h : c < xNC) : ¬ (999 : Nat) = c := by
  have : xNC = 89 := rfl
  omega
theorem xcl_decl : ∀ (ci : Nat) (r : vw_C), vwCl[ci]? = some r → ∀ k, k < r.2.2 → (r.2.1 k).1 = r.1 := by
  intro ci r h
  match ci, h with
  | 0, h => cases h; decide +kernel
  | 1, h => cases h; decide +kernel
  | 2, h => cases h; decide +kernel
  | 3, h => cases h; decide +kernel
  | 4, h => cases h; decide +kernel
  | 5, h => cases h; decide +kernel
  | 6, h => cases h; decide +kernel
  | 7, h => cases h; decide +kernel
  | 8, h => cases h; decide +kernel
  | 9, h => cases h; decide +kernel
  | 10, h => cases h; decide +kernel
  | k + 11, h => cases h
section XST
variable {p : Program} {l0 : Launch} {e : Env} {R : Room} {s : State} {m : MethodId} {args : Array Value} {below : List Frame} {meth : Method} {c : Code} {cells slots : Nat} {Q : State → Prop}
variable {f pc : Nat} {md : xMd} {D : va_G} {ad : Nat → Nat} {cy : Nat → ClassId} {A : Nat → Prop} {H0 : Heap} {ls : Array Slot} {H : Heap} {locs : List Loc} {l : xL} {st : List Value} {S : xS}
theorem xs_br {cc : ByteArray} (hexec : p.tables.exec = Jvm.exec) (hb : c.code = cc) {k : Jvm.ClassFile.Cond} {x : Int32} {off : Int} {a : Nat} {rest : List Value} (hdg : decode cc pc = .ok (.ifCond k off, 3)) (ht : (pc : Int) + off = (a : Int))
    (kk : W p l0 e R s m args below meth c H locs cells slots Q (F0 m (xbr k x 0 a (pc + 3)) ls rest)) : W p l0 e R s m args below meth c H locs cells slots Q (F0 m pc ls (.int x :: rest)) := by
  cases k with
  | eq => exact lv_if_eq hexec hb hdg ht (fun z => by rw [show xbr .eq x 0 a (pc + 3) = a from if_pos z] at kk; exact kk) (fun z => by rw [show xbr .eq x 0 a (pc + 3) = pc + 3 from if_neg z] at kk; exact kk)
  | ne => exact lv_if_ne hexec hb hdg ht (fun z => by rw [show xbr .ne x 0 a (pc + 3) = a from if_neg z] at kk; exact kk) (fun z => by rw [show xbr .ne x 0 a (pc + 3) = pc + 3 from if_pos z] at kk; exact kk)
  | lt => exact lv_if_lt hexec hb hdg ht (fun z => by rw [show xbr .lt x 0 a (pc + 3) = a from if_pos z] at kk; exact kk) (fun z => by rw [show xbr .lt x 0 a (pc + 3) = pc + 3 from if_neg z] at kk; exact kk)
  | ge => exact lv_if_ge hexec hb hdg ht (fun z => by rw [show xbr .ge x 0 a (pc + 3) = a from if_neg (Int32.not_lt.mpr z)] at kk; exact kk) (fun z => by rw [show xbr .ge x 0 a (pc + 3) = pc + 3 from if_pos (Int32.not_le.mp z)] at kk; exact kk)
  | gt => exact lv_if_gt hexec hb hdg ht (fun z => by rw [show xbr .gt x 0 a (pc + 3) = a from if_pos z] at kk; exact kk) (fun z => by rw [show xbr .gt x 0 a (pc + 3) = pc + 3 from if_neg z] at kk; exact kk)
  | le => exact lv_if_le hexec hb hdg ht (fun z => by rw [show xbr .le x 0 a (pc + 3) = a from if_neg (Int32.not_lt.mpr z)] at kk; exact kk) (fun z => by rw [show xbr .le x 0 a (pc + 3) = pc + 3 from if_pos (Int32.not_le.mp z)] at kk; exact kk)
theorem xs_cmp {cc : ByteArray} (hexec : p.tables.exec = Jvm.exec) (hb : c.code = cc) {k : Jvm.ClassFile.Cond} {x y : Int32} {off : Int} {a : Nat} {rest : List Value} (hdg : decode cc pc = .ok (.if_icmp k off, 3)) (ht : (pc : Int) + off = (a : Int))
    (kk : W p l0 e R s m args below meth c H locs cells slots Q (F0 m (xbr k x y a (pc + 3)) ls rest)) : W p l0 e R s m args below meth c H locs cells slots Q (F0 m pc ls (.int y :: .int x :: rest)) := by
  cases k with
  | eq => exact lv_icmp_eq hexec hb hdg ht (fun z => by rw [show xbr .eq x y a (pc + 3) = a from if_pos z] at kk; exact kk) (fun z => by rw [show xbr .eq x y a (pc + 3) = pc + 3 from if_neg z] at kk; exact kk)
  | ne => exact lv_icmp_ne hexec hb hdg ht (fun z => by rw [show xbr .ne x y a (pc + 3) = a from if_neg z] at kk; exact kk) (fun z => by rw [show xbr .ne x y a (pc + 3) = pc + 3 from if_pos z] at kk; exact kk)
  | lt => exact lv_icmp_lt hexec hb hdg ht (fun z => by rw [show xbr .lt x y a (pc + 3) = a from if_pos z] at kk; exact kk) (fun z => by rw [show xbr .lt x y a (pc + 3) = pc + 3 from if_neg z] at kk; exact kk)
  | ge => exact lv_icmp_ge hexec hb hdg ht (fun z => by rw [show xbr .ge x y a (pc + 3) = a from if_neg (Int32.not_lt.mpr z)] at kk; exact kk) (fun z => by rw [show xbr .ge x y a (pc + 3) = pc + 3 from if_pos (Int32.not_le.mp z)] at kk; exact kk)
  | gt => exact lv_icmp_gt hexec hb hdg ht (fun z => by rw [show xbr .gt x y a (pc + 3) = a from if_pos z] at kk; exact kk) (fun z => by rw [show xbr .gt x y a (pc + 3) = pc + 3 from if_neg z] at kk; exact kk)
  | le => exact lv_icmp_le hexec hb hdg ht (fun z => by rw [show xbr .le x y a (pc + 3) = a from if_neg (Int32.not_lt.mpr z)] at kk; exact kk) (fun z => by rw [show xbr .le x y a (pc + 3) = pc + 3 from if_pos (Int32.not_le.mp z)] at kk; exact kk)
theorem xsucc {lo : Int32} (h1 : -1000 < lo.toInt) (h2 : lo.toInt < 1000) : (lo + 1).toInt = lo.toInt + 1 := by
  rw [Int32.toInt_add]
  exact Int.bmod_eq_of_le (by have : (1 : Int32).toInt = 1 := rfl; omega) (by have : (1 : Int32).toInt = 1 := rfl; omega)
theorem xsw_out (x : Int32) (d : Nat) : ∀ (ts : List Nat) (lo : Int32), -200 < lo.toInt → lo.toInt + ts.length < 400 → (x.toInt < lo.toInt ∨ lo.toInt + ts.length ≤ x.toInt) → xsw x lo d ts = d
  | [], _, _, _, _ => rfl
  | t :: ts, lo, h1, h2, h => by
    simp only [List.length_cons] at h2 h
    unfold xsw
    have hs := xsucc (lo := lo) (by omega) (by omega)
    rw [if_neg (fun z => by rw [z] at h; omega)]
    exact xsw_out x d ts (lo + 1) (by omega) (by omega) (by omega)
theorem xsw_in (x : Int32) (d : Nat) : ∀ (ts : List Nat) (lo : Int32) (j t : Nat), -200 < lo.toInt → lo.toInt + ts.length < 400 → x.toInt = lo.toInt + j → ts[j]? = some t → xsw x lo d ts = t
  | [], _, _, _, _, _, _, h => by simp at h
  | t0 :: ts, lo, 0, t, h1, h2, hx, h => by
    unfold xsw
    rw [if_pos (Int32.toInt_inj.mp (by omega))]
    simpa using h
  | t0 :: ts, lo, j + 1, t, h1, h2, hx, h => by
    simp only [List.length_cons] at h2
    have hs := xsucc (lo := lo) (by omega) (by omega)
    unfold xsw
    rw [if_neg (fun z => by rw [z] at hx; omega)]
    exact xsw_in x d ts (lo + 1) j t (by omega) (by omega) (by omega) (by simpa using h)
theorem xs_sw {cc : ByteArray} (hexec : p.tables.exec = Jvm.exec) (hb : c.code = cc) {d lo hi : Int} {offs : Array Int} {ln a : Nat} {v x : Int32} {ts : List Nat} {rest : List Value} (hdg : decode cc pc = .ok (.tableswitch d lo hi offs, ln))
    (hok : (pc : Int) + d = (a : Int) ∧ v.toInt = lo ∧ hi = lo + (ts.length : Int) - 1 ∧ offs.toList.map (fun f => (pc : Int) + f) = ts.map Int.ofNat ∧ ts.length < 100 ∧ -100 < lo ∧ lo < 100)
    (kk : W p l0 e R s m args below meth c H locs cells slots Q (F0 m (xsw x v a ts) ls rest)) : W p l0 e R s m args below meth c H locs cells slots Q (F0 m pc ls (.int x :: rest)) := by
  obtain ⟨h1, h2, h3, h4, h5, h6, h7⟩ := hok
  by_cases hout : x.toInt < lo ∨ hi < x.toInt
  · refine lv_tableOut hexec hb hdg hout h1 ?_
    rw [xsw_out x a ts v (by omega) (by omega) (by omega)] at kk
    exact kk
  · have g1 : ¬ x.toInt < lo := fun z => hout (Or.inl z)
    have g2 : ¬ hi < x.toInt := fun z => hout (Or.inr z)
    have hj : (x.toInt - lo).toNat < ts.length := by omega
    have hlen : offs.toList.length = ts.length := by have := congrArg List.length h4; simpa using this
    obtain ⟨off, ho⟩ : ∃ off, offs[(x.toInt - lo).toNat]? = some off := ⟨_, Array.getElem?_eq_getElem (by rw [← Array.length_toList, hlen]; exact hj)⟩
    obtain ⟨t, ht⟩ : ∃ t, ts[(x.toInt - lo).toNat]? = some t := ⟨_, List.getElem?_eq_getElem hj⟩
    have hot : (pc : Int) + off = (t : Int) := by
      have h8 := congrArg (fun q => q[(x.toInt - lo).toNat]?) h4
      simp only [List.getElem?_map, Array.getElem?_toList, ho, ht, Option.map_some, Option.some.injEq] at h8
      exact h8
    refine lv_tableIn hexec hb hdg g1 g2 ho hot ?_
    rw [xsw_in x a ts v (x.toInt - lo).toNat t (by omega) (by omega) (by omega) ht] at kk
    exact kk
theorem xsc {S' : xS} (hX : f = 0 → va_X (ad 999) S.2.2 (S.1 999) s H0 ∧ ad 999 < H0.size ∧ ¬ A (ad 999)) (h1 : S'.1 999 = S.1 999) (h2 : S'.2.2 = S.2.2) : f = 0 → va_X (ad 999) S'.2.2 (S'.1 999) s H0 ∧ ad 999 < H0.size ∧ ¬ A (ad 999) := by
  rw [h1, h2]
  exact hX
/-- a step without a condition -/
theorem xs_next (E : xEnv p s m args c f md D cy) {q : xI} (hck : xchk f pc md q = true) (h : xAt f s D ad cy A H0 ls H locs l S) {pc' : Nat} {l' : xL} {st' : List Value} {S' : xS} (hx : xexec f pc l st S q = .inl (pc', l', st', S')) (hR : 1 ≤ R.frames ∧ 64 ≤ R.locals) (hcs : cells ≤ R.cells ∧ slots ≤ R.slots)
    (kk : ∀ (ls : Array Slot) (H : Heap) (locs : List Loc), xAt f s D ad cy A H0 ls H locs l' S' → W p l0 e R s m args below meth c H locs cells slots Q (F0 m pc' ls (st'.map (xv ad)))) : W p l0 e R s m args below meth c H locs cells slots Q (F0 m pc ls (st.map (xv ad))) := by
  obtain ⟨ins, ln, a, b, v, ts⟩ := q
  obtain ⟨hex, hb, hml, hown, hts, hN, hK⟩ := id E
  obtain ⟨hl, hP, hD, hS, hX⟩ := id h
  obtain ⟨hdg0, hok⟩ := Bool.and_eq_true_iff.mp hck
  have hdg : decode md.2.1 pc = .ok (ins, ln) := of_decide_eq_true hdg0
  clear hdg0 hck
  have hcall : ∀ b st, xcall b st ≠ .inl (pc', l', st', S') := by
    intro b st z
    rcases xcall_spec b st with h | ⟨as, h, -⟩ <;> rw [h] at z <;> cases z
  cases ins with
  | iconst n =>
    obtain ⟨rfl, hv⟩ := of_decide_eq_true hok
    cases hx
    exact lv_iconst hex hb hdg hv (kk _ _ _ h)
  | bipush n =>
    obtain ⟨rfl, hv⟩ := of_decide_eq_true hok
    cases hx
    exact lv_bipush hex hb hdg hv (kk _ _ _ h)
  | sipush n =>
    obtain ⟨rfl, hv⟩ := of_decide_eq_true hok
    cases hx
    exact lv_sipush hex hb hdg hv (kk _ _ _ h)
  | ldc i =>
    obtain ⟨rfl, ho, rfl, rfl⟩ := of_decide_eq_true hok
    cases hx
    exact lv_ldc hex hb hown (hts _ (by rw [ho]; exact lwG_of (i := 613) (by decide +kernel) rfl)) hdg (kk _ _ _ h)
  | ldc2_w i =>
    obtain ⟨rfl, ho, rfl⟩ := of_decide_eq_true hok
    simp only [xexec] at hx
    cases hf : Nat.beq f 0 with
    | false => rw [hf] at hx; cases hx
    | true =>
      rw [hf] at hx
      cases hx
      exact lv_ldc2 hex hb hown (hts _ (by rw [ho]; exact lwG_of (i := 1283) (by decide +kernel) rfl)) hdg (kk _ _ _ h)
  | lconst n =>
    have := of_decide_eq_true hok
    subst this
    cases hx
    exact lv_lconst hex hb hdg rfl (kk _ _ _ h)
  | iload_n k =>
    obtain ⟨rfl, ha⟩ := of_decide_eq_true hok
    simp only [xexec] at hx
    split at hx
    next x hg => cases hx; exact lv_iload_n hex hb hdg ha (xlv_at hl hg (by intro z; cases z)) (kk _ _ _ h)
    next => cases hx
  | iload k =>
    obtain ⟨rfl, rfl⟩ := of_decide_eq_true hok
    simp only [xexec] at hx
    split at hx
    next x hg => cases hx; exact lv_iload hex hb hdg (xlv_at hl hg (by intro z; cases z)) (kk _ _ _ h)
    next => cases hx
  | lload_n k =>
    obtain ⟨rfl, ha⟩ := of_decide_eq_true hok
    simp only [xexec] at hx
    split at hx
    next x hg => cases hx; exact lv_lload_n hex hb hdg ha (xlv_at hl hg (by intro z; cases z)) (kk _ _ _ h)
    next => cases hx
  | lload k =>
    obtain ⟨rfl, rfl⟩ := of_decide_eq_true hok
    simp only [xexec] at hx
    split at hx
    next x hg => cases hx; exact lv_lload hex hb hdg (xlv_at hl hg (by intro z; cases z)) (kk _ _ _ h)
    next => cases hx
  | aload_n k =>
    obtain ⟨rfl, ha⟩ := of_decide_eq_true hok
    simp only [xexec] at hx
    split at hx
    next x hg => cases hx; exact lv_aload_n hex hb hdg ha (xlv_at hl hg (by intro z; cases z)) (kk _ _ _ h)
    next => cases hx
  | aload k =>
    obtain ⟨rfl, rfl⟩ := of_decide_eq_true hok
    simp only [xexec] at hx
    split at hx
    next x hg => cases hx; exact lv_aload hex hb hdg (xlv_at hl hg (by intro z; cases z)) (kk _ _ _ h)
    next => cases hx
  | istore_n k =>
    obtain ⟨rfl, ha, hlt⟩ := of_decide_eq_true hok
    simp only [xexec] at hx
    split at hx
    next x t =>
      cases hc : xclear l a with
      | false => rw [hc] at hx; cases hx
      | true =>
        rw [hc] at hx
        cases hx
        exact lv_istore_n hex hb hdg ha hl hlt rfl (fun ls' h' => kk _ _ _ ⟨xlv_put hc h', hP, hD, hS, hX⟩)
    next => cases hx
  | istore k =>
    obtain ⟨rfl, rfl, hlt⟩ := of_decide_eq_true hok
    simp only [xexec] at hx
    split at hx
    next x t =>
      cases hc : xclear l k with
      | false => rw [hc] at hx; cases hx
      | true =>
        rw [hc] at hx
        cases hx
        exact lv_istore hex hb hdg hl hlt rfl (fun ls' h' => kk _ _ _ ⟨xlv_put hc h', hP, hD, hS, hX⟩)
    next => cases hx
  | iinc i n =>
    obtain ⟨rfl, rfl, hv, hlt⟩ := of_decide_eq_true hok
    simp only [xexec] at hx
    split at hx
    next x hg =>
      cases hc : xclear l i with
      | false => rw [hc] at hx; cases hx
      | true =>
        rw [hc] at hx
        cases hx
        obtain ⟨k, hk⟩ := List.getElem?_of_mem (List.mem_map.mpr ⟨(i, Value.int x), xget_mem hg (by intro z; cases z), rfl⟩ : (i, xv ad (.int x)) ∈ xlv ad l)
        exact lv_iinc hex hb hdg hl hk (by rw [hv]) hlt rfl (fun ls' h' => kk _ _ _ ⟨xlv_put hc h', hP, hD, hS, hX⟩)
    next => cases hx
  | iadd => have := of_decide_eq_true hok; subst this; simp only [xexec] at hx; split at hx; (next => cases hx; exact lv_iadd hex hb hdg (kk _ _ _ h)); (next => cases hx)
  | isub => have := of_decide_eq_true hok; subst this; simp only [xexec] at hx; split at hx; (next => cases hx; exact lv_isub hex hb hdg (kk _ _ _ h)); (next => cases hx)
  | imul => have := of_decide_eq_true hok; subst this; simp only [xexec] at hx; split at hx; (next => cases hx; exact lv_imul hex hb hdg (kk _ _ _ h)); (next => cases hx)
  | iand => have := of_decide_eq_true hok; subst this; simp only [xexec] at hx; split at hx; (next => cases hx; exact lv_iand hex hb hdg (kk _ _ _ h)); (next => cases hx)
  | ineg => have := of_decide_eq_true hok; subst this; simp only [xexec] at hx; split at hx; (next => cases hx; exact lv_ineg hex hb hdg (kk _ _ _ h)); (next => cases hx)
  | ladd => have := of_decide_eq_true hok; subst this; simp only [xexec] at hx; split at hx; (next => cases hx; exact lv_ladd hex hb hdg (kk _ _ _ h)); (next => cases hx)
  | land => have := of_decide_eq_true hok; subst this; simp only [xexec] at hx; split at hx; (next => cases hx; exact lv_land hex hb hdg (kk _ _ _ h)); (next => cases hx)
  | lor => have := of_decide_eq_true hok; subst this; simp only [xexec] at hx; split at hx; (next => cases hx; exact lv_lor hex hb hdg (kk _ _ _ h)); (next => cases hx)
  | lshl => have := of_decide_eq_true hok; subst this; simp only [xexec] at hx; split at hx; (next => cases hx; exact lv_lshl hex hb hdg rfl (kk _ _ _ h)); (next => cases hx)
  | lcmp => have := of_decide_eq_true hok; subst this; simp only [xexec] at hx; split at hx; (next => cases hx; exact W.lcmp hex hb hdg (kk _ _ _ h)); (next => cases hx)
  | i2l => have := of_decide_eq_true hok; subst this; simp only [xexec] at hx; split at hx; (next => cases hx; exact lv_i2l hex hb hdg rfl (kk _ _ _ h)); (next => cases hx)
  | l2i => have := of_decide_eq_true hok; subst this; simp only [xexec] at hx; split at hx; (next => cases hx; exact lv_l2i hex hb hdg rfl (kk _ _ _ h)); (next => cases hx)
  | i2b => have := of_decide_eq_true hok; subst this; simp only [xexec] at hx; split at hx; (next => cases hx; exact lv_i2b hex hb hdg rfl (kk _ _ _ h)); (next => cases hx)
  | i2s => have := of_decide_eq_true hok; subst this; simp only [xexec] at hx; split at hx; (next => cases hx; exact lv_i2s hex hb hdg rfl (kk _ _ _ h)); (next => cases hx)
  | dup =>
    have := of_decide_eq_true hok; subst this; simp only [xexec] at hx; split at hx
    · cases hx; exact lv_dup hex hb hdg rfl (kk _ _ _ h)
    · cases hx; exact lv_dup hex hb hdg rfl (kk _ _ _ h)
    · cases hx
  | dup_x1 =>
    have := of_decide_eq_true hok; subst this; simp only [xexec] at hx; split at hx
    · cases hx; exact lv_dup_x1 hex hb hdg rfl rfl (kk _ _ _ h)
    · cases hx; exact lv_dup_x1 hex hb hdg rfl rfl (kk _ _ _ h)
    · cases hx
  | dup2 =>
    have := of_decide_eq_true hok; subst this; simp only [xexec] at hx; split at hx
    · cases hx; exact lv_dup2_11 hex hb hdg rfl rfl (kk _ _ _ h)
    · cases hx
  | getfield i =>
    obtain ⟨h1, h2⟩ := Bool.and_eq_true_iff.mp hok
    have := of_decide_eq_true h1; subst this
    obtain ⟨r, hr, hbr, hw⟩ := xfT_use h2
    simp only [xexec] at hx
    split at hx
    next c0 t =>
      split at hx
      next hf =>
        obtain ⟨hc, fl, hs, hk⟩ := xfl_sh hf
        cases hx
        refine va_get (v := .int (S.1 c0 b)) (C := r.1) (T := r.2.1) (N := r.2.2) hex hb hts (xcl_in a r hr) hown hK hP c0 (xw_get ad cy S hc hs) hr b hbr (hts _ hw) (fun _ z => by rw [xcl_decl a r hr b hbr] at z; exact z) ?_ hdg (kk _ _ _ h)
        rw [xfs_get, hk]; simp [xfv]
      next r0 hf =>
        obtain ⟨hc, fl, hs, hk⟩ := xfl_sh hf
        cases hx
        refine va_get (v := .ref (ad r0)) (C := r.1) (T := r.2.1) (N := r.2.2) hex hb hts (xcl_in a r hr) hown hK hP c0 (xw_get ad cy S hc hs) hr b hbr (hts _ hw) (fun _ z => by rw [xcl_decl a r hr b hbr] at z; exact z) ?_ hdg (kk _ _ _ h)
        rw [xfs_get, hk]; simp [xfv]
      next => cases hx
    next => cases hx
  | putfield i =>
    obtain ⟨h1, h2⟩ := Bool.and_eq_true_iff.mp hok
    have := of_decide_eq_true h1; subst this
    obtain ⟨r, hr, hbr, hw⟩ := xfT_use h2
    simp only [xexec] at hx
    split at hx
    next x c0 t =>
      split at hx
      next hf =>
        obtain ⟨hc, fl, hs, hk⟩ := xfl_sh hf
        cases hbo : xbool a b with
        | true => rw [hbo] at hx; cases hx
        | false =>
          rw [hbo] at hx
          cases hx
          obtain ⟨r', hr', g1, g2, g3, g4⟩ := xsh_num hc hs hk
          cases hr.symm.trans hr'
          rw [hbo] at g4
          have g4 : xcty a b = .int := g4
          refine va_put (v := .int x) (ty := .int) (C := r.1) (T := r.2.1) (N := r.2.2) hex hb hts (xcl_in a r hr) (xcty a) (xcl_ty a r hr) (xcl_nm a r hr) hown hK hP hD hS c0 (xw_get ad cy S hc hs) hr b hbr (hts _ hw) (fun _ z => by rw [xcl_decl a r hr b hbr] at z; exact z) g3 (by rw [xcl_ty a r hr b hbr, g4]) rfl rfl (by rw [xfs_len]; omega) hdg (fun H1 locs1 hP1 hD1 hS1 => ?_)
          rw [xw_set ad cy S (xwI S c0 b x) hs (by
            simp only [xce]
            congr 2
            apply List.ext_getElem?
            intro j
            rw [xfs_get]
            by_cases ej : j = b
            · subst ej
              rw [List.getElem?_set_self (by rw [xfs_len]; omega), hk]
              simp [xfv, xwI]
            · rw [List.getElem?_set_ne (fun z => ej z.symm), xfs_get]
              cases fl[j]? with
              | none => rfl
              | some o => cases o <;> simp [xfv, xwI, ej]) (fun k hk => ⟨by funext z; simp [xwI, hk], rfl⟩)] at hP1 hD1
          exact kk _ _ _ ⟨hl, hP1, hD1, hS1, xsc hX (by funext z; simp [xwI, xne999 hc]) rfl⟩
      next => cases hx
    next => cases hx
  | arraylength =>
    have := of_decide_eq_true hok; subst this; simp only [xexec] at hx
    split at hx
    next c0 t =>
      cases h9 : Nat.beq c0 999 with
      | true =>
        rw [h9] at hx
        cases hf : Nat.beq f 0 with
        | false => rw [hf] at hx; cases hx
        | true =>
          rw [hf] at hx
          cases hx
          cases Nat.eq_of_beq_eq_true h9
          obtain ⟨x1, x2, x3⟩ := hX (Nat.eq_of_beq_eq_true hf)
          exact va_slen hex hb x1 x2 x3 hS hdg (kk _ _ _ h)
      | false =>
        rw [h9] at hx
        simp only [cond_false] at hx
        split at hx
        next n hn =>
          obtain ⟨hc, b0, hs⟩ := xlen_sh hn
          cases hx
          exact va_alen hex hb hK hP c0 0 (xw_get ad cy S hc hs) rfl rfl hdg (kk _ _ _ h)
        next =>
          split at hx
          next n hn =>
            obtain ⟨hc, b0, hs⟩ := xlen_sh hn
            cases hx
            exact va_alen hex hb hK hP c0 1 (xw_get ad cy S hc hs) rfl rfl hdg (kk _ _ _ h)
          next => cases hx
    next => cases hx
  | ifCond k o =>
    obtain ⟨rfl, ht⟩ := of_decide_eq_true hok
    simp only [xexec] at hx
    split at hx
    next => cases hx; exact xs_br hex hb hdg ht (kk _ _ _ h)
    next => cases hx
  | if_icmp k o =>
    obtain ⟨rfl, ht⟩ := of_decide_eq_true hok
    simp only [xexec] at hx
    split at hx
    next => cases hx; exact xs_cmp hex hb hdg ht (kk _ _ _ h)
    next => cases hx
  | goto o =>
    obtain ⟨rfl, ht⟩ := of_decide_eq_true hok
    cases hx
    exact lv_goto hex hb hdg ht (kk _ _ _ h)
  | tableswitch d lo hi offs =>
    have hk := of_decide_eq_true hok
    simp only [xexec] at hx
    split at hx
    next => cases hx; exact xs_sw hex hb hdg hk (kk _ _ _ h)
    next => cases hx
  | invokevirtual i => exact absurd hx (hcall _ _)
  | invokestatic i =>
    obtain ⟨h1, h2⟩ := Bool.and_eq_true_iff.mp hok
    obtain ⟨rfl, -⟩ := of_decide_eq_true h1
    simp only [xexec] at hx
    cases ha3 : Nat.beq a 3 with
    | true =>
      rw [ha3] at hx
      exfalso
      simp only [cond_eq_ite, if_true] at hx
      (repeat' split at hx) <;> cases hx
    | false =>
    rw [ha3] at hx
    simp only [cond_false] at hx
    cases ha4 : Nat.beq a 4 with
    | true =>
      rw [ha4] at hx
      cases Nat.eq_of_beq_eq_true ha4
      simp only [cond_true] at hx
      split at hx
      next x t =>
        cases hca : Nat.ble (xcat t) 8 with
        | false => rw [hca] at hx; cases hx
        | true =>
          rw [hca] at hx
          cases hx
          refine va_mabs hex hb (hml.trans hl.1.symm) hown (hts _ (xmT_4 h2)) (hts _ (lwG_of (i := 632) (by decide +kernel) rfl)) (hts _ (lwG_of (i := 58) (by decide +kernel) rfl)) (hts _ (lwG_of (i := 633) (by decide +kernel) rfl)) hR.1 ?_ hcs.1 hcs.2 hdg (kk _ _ _ h)
          rw [xcat_sum]
          have := Nat.le_of_ble_eq_true hca
          omega
      next => cases hx
    | false =>
    rw [ha4] at hx
    simp only [cond_false] at hx
    cases ha5 : Nat.beq a 5 with
    | true =>
      rw [ha5] at hx
      cases Nat.eq_of_beq_eq_true ha5
      simp only [cond_true] at hx
      split at hx
      next y x t =>
        cases hca : Nat.ble (xcat t) 8 with
        | false => rw [hca] at hx; cases hx
        | true =>
          rw [hca] at hx
          cases hx
          refine va_mmax hex hb (hml.trans hl.1.symm) hown (hts _ (xmT_5 h2)) (hts _ (lwG_of (i := 726) (by decide +kernel) rfl)) (hts _ (lwG_of (i := 58) (by decide +kernel) rfl)) (hts _ (lwG_of (i := 727) (by decide +kernel) rfl)) hR.1 ?_ hcs.1 hcs.2 hdg (kk _ _ _ h)
          rw [xcat_sum]
          have := Nat.le_of_ble_eq_true hca
          omega
      next => cases hx
    | false =>
    rw [ha5] at hx
    simp only [cond_false] at hx
    cases ha6 : Nat.beq a 6 with
    | true =>
      rw [ha6] at hx
      cases Nat.eq_of_beq_eq_true ha6
      simp only [cond_true] at hx
      split at hx
      next y x t =>
        cases hca : Nat.ble (xcat t) 8 with
        | false => rw [hca] at hx; cases hx
        | true =>
          rw [hca] at hx
          cases hx
          refine va_mmin hex hb (hml.trans hl.1.symm) hown (hts _ (xmT_6 h2)) (hts _ (lwG_of (i := 751) (by decide +kernel) rfl)) (hts _ (lwG_of (i := 58) (by decide +kernel) rfl)) (hts _ (lwG_of (i := 752) (by decide +kernel) rfl)) hR.1 ?_ hcs.1 hcs.2 hdg (kk _ _ _ h)
          rw [xcat_sum]
          have := Nat.le_of_ble_eq_true hca
          omega
      next => cases hx
    | false =>
    rw [ha6] at hx
    simp only [cond_false] at hx
    exact absurd hx (hcall _ _)
  | ireturn =>
    simp only [xexec, cond_eq_ite] at hx
    (repeat' split at hx) <;> cases hx
  | _ =>
    simp only [xexec, cond_eq_ite] at hx <;> (repeat' split at hx) <;> cases hx
end XST
