def xroom (d : Nat) : Room := { frames := d + 1, cells := 0, slots := 0, locals := (d + 1) * 64 }
def xB (D : va_G) (ad : Nat → Nat) (cy : Nat → ClassId) (sz : Nat) (S : xS) : State → Prop := fun U => U.heap.size = sz ∧ va_P D vwCl (xw ad cy S) U.heap ∧ va_K D vwCl (xtys cy) U ∧ va_D (fun _ => True) (xw ad cy S) ∧ ∀ w ∈ xnest, va_Nw w U
def xQ (D : va_G) (ad : Nat → Nat) (cy : Nat → ClassId) (v : Option Value) (S : xS) (A : Nat → Prop) : Array Value → State → Outcome → State → Prop := fun _ st o t => (o = .returned (v.map (xv ad)) ∧ va_P D vwCl (xw ad cy S) t.heap) ∧ va_F A st t
def xisN : Cond → Bool
  | .methodLinkNest _ _ _ _ => true
  | _ => false
theorem xnest_ok : xnest.all xisN = true := by decide +kernel
theorem xnest_use {w : Cond} (h : w ∈ xnest) : ∃ (a : String) (i : Nat) (x : MethodName) (g : String), w = .methodLinkNest a i x g := by
  have h1 := List.all_eq_true.mp xnest_ok w h
  cases w <;> first | exact ⟨_, _, _, _, rfl⟩ | cases h1
theorem xnest_moved {s U : State} (hW : s.WarmedH U.vm) (h : ∀ w ∈ xnest, va_Nw w s) : ∀ w ∈ xnest, va_Nw w U := by
  intro w hw
  obtain ⟨a, i, x, g, rfl⟩ := xnest_use hw
  exact va_Nw.warmM hW (h _ hw)
theorem xB_blind (av : List Value) (D : va_G) (ad : Nat → Nat) (cy : Nat → ClassId) (sz : Nat) (S : xS) : FrameBlind (va_Pc av (xB D ad cy sz S)) := fun a U g mk q => by
  obtain ⟨q0, q1, q2, q3, q4, q5⟩ := q
  refine ⟨q0, q1, q2, va_K.moved (u := U) (U := U.calling g mk a) (Vm.Alike.refl U.vm) q3, q4, fun w hw => ?_⟩
  obtain ⟨a', i, x, g', rfl⟩ := xnest_use hw
  exact va_Nw.same rfl (u := U) rfl (q5 _ hw)
theorem xown_cl : ∀ (ci : Nat) (r : vw_C), vwCl[ci]? = some r → r.1 = xown ci := by
  intro ci r h
  match ci, h with
  | 0, h => cases h; rfl
  | 1, h => cases h; rfl
  | 2, h => cases h; rfl
  | 3, h => cases h; rfl
  | 4, h => cases h; rfl
  | 5, h => cases h; rfl
  | 6, h => cases h; rfl
  | 7, h => cases h; rfl
  | 8, h => cases h; rfl
  | 9, h => cases h; rfl
  | 10, h => cases h; rfl
  | k + 11, h => cases h
theorem xsh_cl {c d : Nat} {fl : List (Option Nat)} (hc : c < xNC) (hs : xsh c = .inl (d, fl)) : ∃ r, vwCl[d]? = some r := by
  have h := List.all_eq_true.mp xsh_ok c (List.mem_range.mpr hc)
  unfold xshok at h
  rw [hs] at h
  simp only [] at h
  cases hr : vwCl[d]? with
  | none => rw [hr] at h; cases h
  | some r => exact ⟨r, rfl⟩
theorem xms_get {b : Nat} (h : b < 180) : ∃ md, xms[b]? = some md := ⟨_, List.getElem?_eq_getElem (by rw [xms_len]; exact h)⟩
section XSN
variable {p : Program} {l0 : Launch} {e : Env} {R : Room} {s : State} {m : MethodId} {args : Array Value} {below : List Frame} {meth : Method} {c : Code} {cells slots : Nat} {Q : State → Prop}
variable {f pc : Nat} {md : xMd} {D : va_G} {ad : Nat → Nat} {cy : Nat → ClassId} {A : Nat → Prop} {H0 : Heap} {ls : Array Slot} {H : Heap} {locs : List Loc} {l : xL} {st : List Value} {S : xS}
/-- behind a call -/
theorem xs_back {v : Option Value} {S1 : xS} {rest : List Value} {st0 : List Value} {av : Array Value} (hr : va_Run p l0 e R s m args below meth c H locs cells slots 0 0 (F0 m pc ls st0) rest (xQ D ad cy v S1 (va_A (xw ad cy S) H.size) av) (va_A (xw ad cy S) H.size)) (h : xAt f s D ad cy A H0 ls H locs l S) (h1 : S1.1 999 = S.1 999) (h2 : S1.2.2 = S.2.2) (hA : ∀ q : Nat, H0.size ≤ q → A q)
    (kk : ∀ (H : Heap) (locs : List Loc), xAt f s D ad cy A H0 ls H locs l S1 → W p l0 e R s m args below meth c H locs cells slots Q (F0 m (pc + 3) ls ((v.map (xv ad)).toList ++ rest))) : W p l0 e R s m args below meth c H locs cells slots Q (F0 m pc ls st0) := by
  obtain ⟨hl, hP, hD, hS, hX⟩ := id h
  intro T hT X
  obtain ⟨v', st₀, t, T', L, h0, X', hL, e1, e2, ⟨⟨hv, hp⟩, hz, hk⟩, st⟩ := hr T hT X
  cases hv
  rw [h0] at hz hk
  have hAA : ∀ q, va_A (xw ad cy S) H.size q → A q := by
    intro q h
    rcases h with ⟨k, e, h⟩ | h
    · exact hD.2 k (q, e) h
    · exact hA q (Nat.le_trans hS.1 h)
  obtain ⟨t2, a1, b1⟩ := kk T'.heap (locs ++ L) ⟨hl, by rw [e1]; exact hp, xw_D ad cy S S1 hD, ⟨Nat.le_trans hS.1 (by rw [e1]; exact hz), fun q g1 g2 => by
      rw [e1, hk q (Nat.lt_of_lt_of_le g1 hS.1) (fun z => g2 (hAA q z))]
      exact hS.2.1 q g1 g2, fun q hq => by
      rcases List.mem_append.mp hq with g | g
      · exact hS.2.2 q g
      · exact hAA _ (hL q g)⟩, xsc hX h1 h2⟩ T' rfl X'
  exact ⟨t2, st t2 a1, b1⟩
theorem xs_call (E : xEnv p s m args c f md D cy) {q : xI} (hck : xchk f pc md q = true) (h : xAt f s D ad cy A H0 ls H locs l S) {b : Nat} {as rest : List Value} (hx : xexec f pc l st S q = xca b as rest) {d : Nat} (hR : d + 2 ≤ R.frames ∧ (d + 2) * 64 ≤ R.locals) (hcs : cells ≤ R.cells ∧ slots ≤ R.slots) (hA : ∀ q : Nat, H0.size ≤ q → A q) {v : Option Value} {S1 : xS} (h1 : S1.1 999 = S.1 999) (h2 : S1.2.2 = S.2.2)
    (hM : ∀ md', xms[b]? = some md' → xcat as ≤ xml b → b ≠ 0 → Met l0 md'.1 (Cond.code md'.1 md'.2.1 (xml b) md'.2.2.1 :: lwG) (xroom d) (va_Pc (as.map (xv ad)) (xB D ad cy H.size S)) (xQ D ad cy v S1 (va_A (xw ad cy S) H.size)) 0 0 (va_A (xw ad cy S) H.size))
    (kk : ∀ (H : Heap) (locs : List Loc), xAt f s D ad cy A H0 ls H locs l S1 → W p l0 e R s m args below meth c H locs cells slots Q (F0 m (pc + 3) ls ((v.toList ++ rest).map (xv ad)))) : W p l0 e R s m args below meth c H locs cells slots Q (F0 m pc ls (st.map (xv ad))) := by
  obtain ⟨ins, ln, a, b', v', ts⟩ := q
  obtain ⟨hex, hb, hml, hown, hts, hN, hK⟩ := id E
  obtain ⟨hl, hP, hD, hS, hX⟩ := id h
  obtain ⟨hdg0, hok⟩ := Bool.and_eq_true_iff.mp hck
  have hdg : decode md.2.1 pc = .ok (ins, ln) := of_decide_eq_true hdg0
  clear hdg0 hck
  have kk : ∀ (H : Heap) (locs : List Loc), xAt f s D ad cy A H0 ls H locs l S1 → W p l0 e R s m args below meth c H locs cells slots Q (F0 m (pc + 3) ls ((v.map (xv ad)).toList ++ rest.map (xv ad))) := by
    intro H locs h
    have := kk H locs h
    rw [List.map_append] at this
    cases v <;> exact this
  have hpre : ∀ U : State, U.heap = H → s.WarmedH U.vm → xB D ad cy H.size S U := fun U hU hW => ⟨by rw [hU], by rw [hU]; exact hP, va_K.moved hW.alike hK, hD.weaken (fun _ _ _ _ => trivial), xnest_moved hW hN⟩
  have hws : ∀ y bytes maxL ret, Cond.code y bytes maxL ret ∈ lwG → GoodIn lwG (Cond.code y bytes maxL ret :: lwG) := by
    intro y bytes maxL ret hc w hw
    have hin : w ∈ lwG := by
      rcases List.mem_cons.mp hw with rfl | hw
      · exact hc
      · exact hw
    exact ⟨hin, good_of_word (lwG_good w hin)⟩
  have hgood : ∀ w ∈ lwG, w ∈ lwG ∧ ((w.onTables && w.keeps) = true ∨ ∃ ty, w = .arrayClass ty) := fun w hw => ⟨hw, good_of_word (lwG_good w hw)⟩
  have hsplit : ∀ b', (st.take (xnar b')).reverse = as → st = as.reverse ++ st.drop (xnar b') := by
    intro b' hb'
    rw [← hb', List.reverse_reverse, List.take_append_drop]
  cases ins with
  | invokevirtual i =>
    obtain ⟨g1, g2⟩ := Bool.and_eq_true_iff.mp hok
    obtain ⟨rfl, rfl⟩ := of_decide_eq_true g1
    simp only [xexec] at hx
    rcases xcall_spec b' st with z | ⟨as', z, hrev, hb0, hb180, hle, hc8, hwd, hrc⟩
    · rw [z] at hx; cases hx
    · rw [z] at hx
      cases hx
      obtain ⟨md', hmd⟩ := xms_get hb180
      obtain ⟨hlink, hst⟩ := xmT_0 hmd g2
      obtain ⟨hcode, hini, hcls, hmh, hvh, -, h40⟩ := xgm_all hb0 hmd
      obtain ⟨hins, hsel, hpar⟩ := xgm_in hb0 hmd hst
      obtain ⟨c0, t0, rfl, hcl⟩ := hrc hst
      obtain ⟨hc0, fl, hsh⟩ := xcl_sh hcl
      obtain ⟨r, hr⟩ := xsh_cl hc0 hsh
      have hr1 := xown_cl _ r hr
      have hlen : t0.length + 1 = xnar b := by
        have := congrArg List.length hrev
        simp only [List.length_reverse, List.length_take, List.length_cons] at this
        omega
      have hn : (parseMethodDescriptor md'.1.desc).map (fun d => d.parameters.length) = some t0.length := by
        cases hpd : parseMethodDescriptor md'.1.desc with
        | none => rw [hpd] at hpar; cases hpar
        | some ds =>
          rw [hpd] at hpar
          simp only [Option.map_some, Option.some.injEq] at hpar ⊢
          omega
      have hrecv := va_recv hK hP (ci := xmo b) (q0 := c0) hr (xw_get ad cy S hc0 hsh)
      rw [hr1, ← hcls] at hrecv
      refine xs_back (va_runV (C := md'.1.cls) (b := ad c0) (As := t0.map (xv ad)) (rest := (st.drop (xnar b)).map (xv ad)) ⟨hex, hb, hml, hown, hts⟩ (hM md' hmd hwd hb0) (cwV t0.length hts ?_ rfl rfl rfl ⟨rfl, hmh, hvh, hn⟩ ?_) ⟨xB_blind _ _ _ _ _ _, hrecv, fun U hU hW => ⟨rfl, hpre U hU hW⟩⟩ rfl (by rw [List.length_map]) hl.1 ?_ (lv_room (by rw [xcat_sum]; exact hc8)) hdg ⟨hcs.1, hcs.2⟩) h h1 h2 hA kk
      · intro w hw
        refine hgood w ?_
        rcases List.mem_append.mp (show w ∈ ([.methodLink (xown (xmo f)) i md'.1, .instanceMethod md'.1, .selects md'.1.cls md'.1 md'.1, .initialized md'.1.cls] : List Cond) ++ (Cond.code md'.1 md'.2.1 (xml b) md'.2.2.1 :: lwG) from hw) with hw | hw
        · simp only [List.mem_cons, List.not_mem_nil, or_false] at hw
          rcases hw with rfl | rfl | rfl | rfl <;> assumption
        · exact (hws _ _ _ _ hcode w hw).1
      · exact ⟨by show d + 1 + 1 ≤ _; omega, by show 8 + (xml b + 11) + (d + 1) * 64 ≤ _; omega⟩
      · show st.map (xv ad) = _
        conv => lhs; rw [hsplit b hrev]
        simp [xv]
  | invokestatic i =>
    obtain ⟨g1, g2⟩ := Bool.and_eq_true_iff.mp hok
    obtain ⟨rfl, ha0, ha7⟩ := of_decide_eq_true g1
    have ha0 : 0 < a := ha0
    have ha7 : a < 7 := ha7
    simp only [xexec] at hx
    cases ha : Nat.beq a 3 with
    | true =>
      rw [ha] at hx
      exfalso
      simp only [cond_eq_ite, if_true] at hx
      (repeat' split at hx) <;> cases hx
    | false =>
    rw [ha] at hx
    simp only [cond_false] at hx
    cases ha4 : Nat.beq a 4 with
    | true => rw [ha4] at hx; exfalso; simp only [cond_eq_ite, if_true] at hx; (repeat' split at hx) <;> cases hx
    | false =>
    cases ha5 : Nat.beq a 5 with
    | true => rw [ha4, ha5] at hx; exfalso; simp only [cond_eq_ite, if_true] at hx; (repeat' split at hx) <;> cases hx
    | false =>
    cases ha6 : Nat.beq a 6 with
    | true => rw [ha4, ha5, ha6] at hx; exfalso; simp only [cond_eq_ite, if_true] at hx; (repeat' split at hx) <;> cases hx
    | false =>
    rw [ha4, ha5, ha6] at hx
    simp only [cond_false] at hx
    rcases xcall_spec b' st with z | ⟨as', z, hrev, hb0, hb180, hle, hc8, hwd, -⟩
    · rw [z] at hx; cases hx
    · rw [z] at hx
      cases hx
      obtain ⟨md', hmd⟩ := xms_get hb180
      obtain ⟨hcode, hini, hcls, hmh, hvh, -, h40⟩ := xgm_all hb0 hmd
      have hlen : as.length = xnar b := by
        have := congrArg List.length hrev
        simp only [List.length_reverse, List.length_take] at this
        omega
      have hroom : (xroom d).frames + 1 ≤ R.frames ∧ 8 + (xml b + 11) + (xroom d).locals ≤ R.locals := ⟨by show d + 1 + 1 ≤ _; omega, by show 8 + (xml b + 11) + (d + 1) * 64 ≤ _; omega⟩
      have hstack : st.map (xv ad) = (as.map (xv ad)).reverse ++ (st.drop (xnar b)).map (xv ad) := by
        conv => lhs; rw [hsplit b hrev]
        simp
      have hcase : a = 1 ∨ a = 2 := by
        have : a ≠ 3 := fun z => by rw [z] at ha; cases ha
        have : a ≠ 4 := fun z => by rw [z] at ha4; cases ha4
        have : a ≠ 5 := fun z => by rw [z] at ha5; cases ha5
        have : a ≠ 6 := fun z => by rw [z] at ha6; cases ha6
        omega
      rcases hcase with rfl | rfl
      · obtain ⟨hlink, hst⟩ := xmT_1 hmd g2
        obtain ⟨hstat, hpar⟩ := xgm_st hb0 hmd hst
        refine xs_back (va_runS (As := as.map (xv ad)) (rest := (st.drop (xnar b)).map (xv ad)) ⟨hex, hb, hml, hown, hts⟩ (hM md' hmd hwd hb0) (va_cwS (xnar b) hts ?_ rfl rfl rfl ⟨hmh, hvh, hpar⟩ hroom) ⟨xB_blind _ _ _ _ _ _, fun U hU hW => ⟨rfl, hpre U hU hW⟩⟩ rfl (by rw [List.length_map]; exact hlen) hl.1 hstack (lv_room (by rw [xcat_sum]; exact hc8)) hdg ⟨hcs.1, hcs.2⟩) h h1 h2 hA kk
        intro w hw
        refine hgood w ?_
        rcases List.mem_append.mp (show w ∈ ([.methodLink (xown (xmo f)) i md'.1, .static md'.1, .initialized md'.1.cls] : List Cond) ++ (Cond.code md'.1 md'.2.1 (xml b) md'.2.2.1 :: lwG) from hw) with hw | hw
        · simp only [List.mem_cons, List.not_mem_nil, or_false] at hw
          rcases hw with rfl | rfl | rfl <;> assumption
        · exact (hws _ _ _ _ hcode w hw).1
      · obtain ⟨hlink, hst⟩ := xmT_2 hmd g2
        obtain ⟨hstat, hpar⟩ := xgm_st hb0 hmd hst
        exact xs_back (va_runSN (As := as.map (xv ad)) (rest := (st.drop (xnar b)).map (xv ad)) ⟨hex, hb, hml, hown, hts⟩ (hM md' hmd hwd hb0) ⟨va_cnB (xnar b) hts (hws _ _ _ _ hcode) rfl rfl rfl (hN _ hlink) (hts _ hini) ⟨hmh, hvh, hpar⟩ hroom, hts _ hstat, trivial⟩ ⟨xB_blind _ _ _ _ _ _, fun U hU hW => ⟨rfl, hpre U hU hW⟩⟩ rfl (by rw [List.length_map]; exact hlen) hl.1 hstack (lv_room (by rw [xcat_sum]; exact hc8)) hdg ⟨hcs.1, hcs.2⟩) h h1 h2 hA kk
  | _ =>
    simp only [xexec, cond_eq_ite] at hx <;> (repeat' split at hx) <;> cases hx
/-- the end of a method -/
theorem xs_ret (E : xEnv p s m args c f md D cy) (hrt : meth.sig.returnType = md.2.2.1) (hlocks : meth.locks = false) {q : xI} (hck : xchk f pc md q = true) (h : xAt f s D ad cy A s.heap ls H locs l S) {G : Prop} {v : Option Value} (hx : xexec f pc l st S q = xrt G v) (hG : G) {A1 : Nat → Prop} (hA1 : A1 = A) : W p l0 e R s m args below meth c H locs cells slots (MQ below (xQ D ad cy v S A1) args s cells slots A1) (F0 m pc ls (st.map (xv ad))) := by
  subst hA1
  obtain ⟨ins, ln, a, b', v', ts⟩ := q
  obtain ⟨hex, hb, hml, hown, hts, hN, hK⟩ := id E
  obtain ⟨hl, hP, hD, hS, hX⟩ := id h
  obtain ⟨hdg0, hok⟩ := Bool.and_eq_true_iff.mp hck
  have hdg : decode md.2.1 pc = .ok (ins, ln) := of_decide_eq_true hdg0
  clear hdg0 hck
  have hcall : ∀ b st, xcall b st ≠ xrt G v := by
    intro b st z
    rcases xcall_spec b st with h | ⟨as, h, -⟩ <;> rw [h] at z <;> cases z
  cases ins with
  | ireturn =>
    obtain ⟨rfl, hor⟩ := of_decide_eq_true hok
    simp only [xexec] at hx
    split at hx
    next x =>
      rcases hor with ⟨rfl, hre⟩ | ⟨rfl, hre⟩
      · cases hx
        exact W.iret hex hb (hrt.trans hre) (fun t ht hW => ⟨⟨rfl, by rw [ht]; exact hP⟩, hS.F ht⟩) hS.2.2 hdg hlocks
      · cases hx
        exact W.zret hex hb (hrt.trans hre) (xbit_nar hG).2.1 (fun t ht hW => ⟨⟨rfl, by rw [ht]; exact hP⟩, hS.F ht⟩) hS.2.2 hdg hlocks
    next => cases hx
  | lreturn =>
    obtain ⟨rfl, hre⟩ := of_decide_eq_true hok
    simp only [xexec] at hx
    split at hx
    next x =>
      cases hx
      exact W.lret hex hb (hrt.trans hre) (fun t ht hW => ⟨⟨rfl, by rw [ht]; exact hP⟩, hS.F ht⟩) hS.2.2 hdg hlocks
    next => cases hx
  | return_ =>
    obtain ⟨rfl, hre⟩ := of_decide_eq_true hok
    simp only [xexec] at hx
    split at hx
    next =>
      cases hx
      exact W.vret hex hb (hrt.trans hre) (fun t ht hW => ⟨⟨rfl, by rw [ht]; exact hP⟩, hS.F ht⟩) hS.2.2 hdg hlocks
    next => cases hx
  | invokevirtual i => exact absurd hx (hcall _ _)
  | invokestatic i =>
    simp only [xexec] at hx
    cases ha : Nat.beq a 3 with
    | false =>
      rw [ha] at hx
      simp only [cond_false] at hx
      cases ha4 : Nat.beq a 4 with
      | true => rw [ha4] at hx; exfalso; simp only [cond_eq_ite, if_true] at hx; (repeat' split at hx) <;> cases hx
      | false =>
      cases ha5 : Nat.beq a 5 with
      | true => rw [ha4, ha5] at hx; exfalso; simp only [cond_eq_ite, if_true] at hx; (repeat' split at hx) <;> cases hx
      | false =>
      cases ha6 : Nat.beq a 6 with
      | true => rw [ha4, ha5, ha6] at hx; exfalso; simp only [cond_eq_ite, if_true] at hx; (repeat' split at hx) <;> cases hx
      | false =>
      rw [ha4, ha5, ha6] at hx
      simp only [cond_false] at hx
      exact absurd hx (hcall _ _)
    | true =>
      rw [ha] at hx
      simp only [cond_eq_ite, if_true] at hx
      (repeat' split at hx) <;> cases hx
  | _ =>
    simp only [xexec, cond_eq_ite] at hx <;> (repeat' split at hx) <;> cases hx
end XSN
/-- the script's numbers stay -/
theorem xexec_scr {f pc : Nat} {l : xL} {st : List Value} {S : xS} {q : xI} : (∀ pc' l' st' S', xexec f pc l st S q = .inl (pc', l', st', S') → S'.1 999 = S.1 999 ∧ S'.2.2 = S.2.2) ∧ (∀ G pc' l' st' S', xexec f pc l st S q = .inr (.inl (G, pc', l', st', S')) → S'.1 999 = S.1 999 ∧ S'.2.2 = S.2.2) := by
  obtain ⟨ins, ln, a, b, v, ts⟩ := q
  have h89 : xNC = 89 := rfl
  have hI : ∀ (S : xS) (c k : Nat) (x : Int32), c < xNC → (xwI S c k x).1 999 = S.1 999 := fun S c k x h => by funext z; simp [xwI, xne999 h]
  have hC : ∀ (S : xS) (c0 sp c1 dp n : Nat), c1 < xNC → (xcI S c0 sp c1 dp n).1 999 = S.1 999 := fun S c0 sp c1 dp n h => by funext z; simp [xcI, xne999 h]
  have hcall : ∀ b st x, xcall b st ≠ .inl x := by
    intro b st x z
    rcases xcall_spec b st with h | ⟨as, h, -⟩ <;> rw [h] at z <;> cases z
  have hcall2 : ∀ b st x, xcall b st ≠ .inr (.inl x) := by
    intro b st x z
    rcases xcall_spec b st with h | ⟨as, h, -⟩ <;> rw [h] at z <;> cases z
  constructor
  · intro pc' l' st' S' hx
    cases ins with
    | invokevirtual i => exact absurd hx (hcall _ _ _)
    | invokestatic i =>
      simp only [xexec] at hx
      simp only [cond_eq_ite] at hx
      (repeat' split at hx) <;> first | exact absurd hx (hcall _ _ _) | (cases hx <;> exact ⟨rfl, rfl⟩)
    | putfield i =>
      simp only [xexec, cond_eq_ite] at hx
      (repeat' split at hx) <;> cases hx
      next hf _ => exact ⟨hI _ _ _ _ (xfl_sh hf).1, rfl⟩
    | _ =>
      simp only [xexec, cond_eq_ite] at hx <;> (repeat' split at hx) <;> cases hx <;> exact ⟨rfl, rfl⟩
  · intro G pc' l' st' S' hx
    cases ins with
    | invokevirtual i => exact absurd hx (hcall2 _ _ _)
    | invokestatic i =>
      simp only [xexec] at hx
      simp only [cond_eq_ite] at hx
      (repeat' split at hx) <;> first | exact absurd hx (hcall2 _ _ _) | (cases hx; done) | (cases hx; exact ⟨rfl, rfl⟩) | (cases hx; exact ⟨hC _ _ _ _ _ _ (xlen_sh (by assumption)).1, rfl⟩)
    | putfield i =>
      simp only [xexec, cond_eq_ite] at hx
      (repeat' split at hx) <;> cases hx
      next hf _ => exact ⟨hI _ _ _ _ (xfl_sh hf).1, rfl⟩
    | iastore =>
      simp only [xexec, cond_eq_ite] at hx
      (repeat' split at hx) <;> cases hx
      next hf => exact ⟨hI _ _ _ _ (xlen_sh hf).1, rfl⟩
    | bastore =>
      simp only [xexec, cond_eq_ite] at hx
      (repeat' split at hx) <;> cases hx
      next hf => exact ⟨hI _ _ _ _ (xlen_sh hf).1, rfl⟩
    | _ =>
      simp only [xexec, cond_eq_ite] at hx <;> (repeat' split at hx) <;> cases hx <;> exact ⟨rfl, rfl⟩
theorem xRun_scr : ∀ (n d f pc : Nat) (l : xL) (st : List Value) (S : xS) (r : Option Value × xS), xRun n d f pc l st S r → r.2.1 999 = S.1 999 ∧ r.2.2.2 = S.2.2 := by
  intro n
  induction n with
  | zero => intro d f pc l st S r h; exact h.elim
  | succ n ih =>
    intro d f pc l st S r h
    unfold xRun at h
    cases hq : xtab f pc with
    | none => rw [hq] at h; exact h.elim
    | some q =>
      rw [hq] at h
      simp only at h
      have hs := xexec_scr (f := f) (pc := pc) (l := xkeep (xdr f pc) l) (st := st) (S := S) (q := q)
      generalize xexec f pc (xkeep (xdr f pc) l) st S q = R at h hs
      match R, h, hs with
      | .inl (pc', l', st', S'), h, hs =>
        have := ih _ _ _ _ _ _ _ h
        have h2 := hs.1 _ _ _ _ rfl
        exact ⟨this.1.trans h2.1, this.2.trans h2.2⟩
      | .inr (.inl (G, pc', l', st', S')), h, hs =>
        have := ih _ _ _ _ _ _ _ h.2
        have h2 := hs.2 _ _ _ _ _ rfl
        exact ⟨this.1.trans h2.1, this.2.trans h2.2⟩
      | .inr (.inr (.inl (G, v))), h, hs => rw [h.2]; exact ⟨rfl, rfl⟩
      | .inr (.inr (.inr (.inl (g, as, rest)))), h, hs =>
        obtain ⟨d', r1, e, h1, h2⟩ := h
        have a1 := ih _ _ _ _ _ _ _ h1
        have a2 := ih _ _ _ _ _ _ _ h2
        exact ⟨a2.1.trans a1.1, a2.2.trans a1.2⟩
      | .inr (.inr (.inr (.inr _))), h, hs => exact h.elim
/-- WHAT RUNS OVER NUMBERS, RUNS ON THE MACHINE -/
theorem xsound : ∀ (n d f pc : Nat) (l : xL) (st : List Value) (S S1 : xS) (v : Option Value), xRun n d f pc l st S (v, S1) → ∀ (md : xMd), xms[f]? = some md → ∀ {p : Program} {l0 : Launch} {e : Env} {R : Room} {s : State} {m : MethodId} {args : Array Value} {below : List Frame} {meth : Method} {c : Code} {cells slots : Nat} {Q : State → Prop} {D : va_G} {ad : Nat → Nat} {cy : Nat → ClassId} {A : Nat → Prop} {H0 : Heap} {ls : Array Slot} {H : Heap} {locs : List Loc},
    xEnv p s m args c f md D cy → xAt f s D ad cy A H0 ls H locs l S → (∀ q : Nat, H0.size ≤ q → A q) → (d + 1 ≤ R.frames ∧ (d + 1) * 64 ≤ R.locals) → (cells ≤ R.cells ∧ slots ≤ R.slots) →
    (∀ (pc' : Nat) (l' : xL) (st' : List Value) (ls' : Array Slot) (H' : Heap) (locs' : List Loc) (q : xI) (G : Prop), md.2.2.2 pc' = some q → xchk f pc' md q = true → xAt f s D ad cy A H0 ls' H' locs' l' S1 → xexec f pc' l' st' S1 q = xrt G v → G → W p l0 e R s m args below meth c H' locs' cells slots Q (F0 m pc' ls' (st'.map (xv ad)))) →
    W p l0 e R s m args below meth c H locs cells slots Q (F0 m pc ls (st.map (xv ad))) := by
  intro n
  induction n with
  | zero => intro d f pc l st S S1 v h; exact h.elim
  | succ n ih =>
    intro d f pc l st S S1 v hrun md hf p l0 e R s m args below meth c cells slots Q D ad cy A H0 ls H locs E h hA hR hcs hret
    have hrun0 := hrun
    unfold xRun at hrun
    have ht : xtab f pc = md.2.2.2 pc := by unfold xtab; rw [hf]
    rw [ht] at hrun
    cases hq : md.2.2.2 pc with
    | none => rw [hq] at hrun; exact hrun.elim
    | some q =>
      rw [hq] at hrun
      simp only at hrun
      have hck := xgtab hf hq
      have h : xAt f s D ad cy A H0 ls H locs (xkeep (xdr f pc) l) S := by
        refine ⟨⟨h.1.1, h.1.2.1, fun z hz => h.1.2.2 z ?_⟩, h.2⟩
        obtain ⟨z0, h1, rfl⟩ := List.mem_map.mp hz
        exact List.mem_map.mpr ⟨z0, xkeep_mem h1, rfl⟩
      match hx : xexec f pc (xkeep (xdr f pc) l) st S q, hrun with
      | .inl (pc', l', st', S'), hrun =>
        exact xs_next E hck h hx ⟨by omega, by omega⟩ hcs (fun ls H locs h' => ih _ _ _ _ _ _ _ _ hrun md hf E h' hA hR hcs hret)
      | .inr (.inl (G, pc', l', st', S')), hrun =>
        exact xs_guard E hck h hx hrun.1 ⟨by omega, by omega⟩ (fun ls H locs h' => ih _ _ _ _ _ _ _ _ hrun.2 md hf E h' hA hR hcs hret)
      | .inr (.inr (.inl (G, v_))), hrun =>
        obtain ⟨hG, hr⟩ := hrun
        cases hr
        exact hret pc _ st ls H locs q G hq hck h hx hG
      | .inr (.inr (.inr (.inl (g, as, rest)))), hrun =>
        obtain ⟨d', r1, rfl, h1, h2⟩ := hrun
        have hs := xRun_scr _ _ _ _ _ _ _ _ h1
        refine xs_call E hck h hx hR hcs hA (v := r1.1) (S1 := r1.2) hs.1 hs.2 (fun md' hmd hwd hb0 => ?_) (fun H locs h' => ih _ _ _ _ _ _ _ _ h2 md hf E h' hA hR hcs hret)
        obtain ⟨hcode, hini, hcls, hmh, hvh, hpl, h40⟩ := xgm_all hb0 hmd
        refine Met.ofW (cc := md'.2.1) (maxL := xml g) (ret := md'.2.2.1) hpl rfl ?_
        intro p' e' s' m' args' below' meth' c' s₁ B hml' hv'
        obtain ⟨rfl, hsz, hP', hK', hD', hN'⟩ := hv'
        have hts' := atoms_spec (ws := Cond.code md'.1 md'.2.1 (xml g) md'.2.2.1 :: lwG) B.pre
        have E' : xEnv p' s' m' ((as.map (xv ad)).toArray) c' g md' D cy := ⟨B.exec, B.bytes, hml', by rw [← hcls]; exact findClass_of_methodNamed B.named, fun w hw => hts' w (List.mem_cons_of_mem _ hw), hN', hK'⟩
        rw [lg_entry_eq]
        have hl := lv_entry (as.map (xv ad)) (n := xml g) (by rw [xcat_sl]; exact hwd)
        rw [← xargs_lv] at hl
        refine ih d' g 0 (xargs 0 as) [] S r1.2 r1.1 h1 md' hmd E' (A := va_A (xw ad cy S) s'.heap.size) (H0 := s'.heap) ⟨hl, hP', hD'.self, va_S.rf, fun z => absurd z hb0⟩ (fun q hq => Or.inr hq) ⟨Nat.le_refl _, Nat.le_refl _⟩ ⟨Nat.le_refl _, Nat.le_refl _⟩ ?_
        intro pc' l' st' ls' H' locs' q' G' hq' hck' h' hx' hG'
        exact xs_ret E' B.returns B.notSynchronized hck' h' hx' hG' (by rw [hsz])
      | .inr (.inr (.inr (.inr _))), hrun => exact hrun.elim
