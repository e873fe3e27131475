/-! THE CLAIM OUT OF ONE WALK OF THE LAW'S BODY. Your part is whole_start (and what it stands on); all else here is the same for every law, but numbers. -/
def R_law : String := "CapitalMovedLaw"
def lw_P (b : Addr) (xs : List Int32) (args : Array Value) (s : State) : Prop := args = #[.ref b] ∧ s.IntsAt b xs ∧ xs.length ≤ 3072 ∧ (Jvm.Cond.and given_1 narrow_1).before args s = true
def lw_Q (_ : Array Value) (s : State) (o : Outcome) (t : State) : Prop := o = .returned (some (.int 1)) ∧ Framed s o t [] 600000 7302250
def lw_Z (below : List Frame) (a : Array Value) (s : State) : State → Prop := fun t => ∃ o, t.status = .running ∧ Ended t below o ∧ lw_Q a s o t
/-- the law's own end, with 1 on the stack, nothing written that was there before, its room as the claim has it -/
theorem lw_ret {p : Program} {l : Launch} {e : Env} {s : State} {m : MethodId} {below : List Frame} {meth : Method} {c : Code} {b : Nat} (hx : p.tables.exec = Jvm.exec) (hb : c.code = code) (hr : meth.sig.returnType = ret) (hlocks : meth.locks = false) {pc : Nat} {H : Heap} {ls : Array Slot} (hdg : decode code pc = .ok (.ireturn, 1)) : W p l e room_1 s m #[Value.ref b] below meth c H [] 600000 7302250 (lw_Z below #[Value.ref b] s) (F0 m pc ls [.int 1]) := by
  intro T hT X
  obtain ⟨fs, hret, hrun, hended, hW, hframe⟩ := X.leave (v := some (.int 1)) (hlocks := hlocks) (fun h => by rw [hr] at h; cases h)
  have hmeth' : T.vm.method? m = some meth := X.method'
  refine ⟨T.setFrames fs, ?_, .returned (some (.int 1)), hrun, hended, rfl, ⟨_, rfl⟩, hW, hframe⟩
  jvm_step X.here [X.here.top, hx, hb, hdg, hmeth', hr, ret, narrow_b1]
  (try refine ⟨rfl, ?_⟩); (try refine ⟨rfl, ?_⟩)
  first | (intro acts; rw [hret _ acts rfl rfl rfl]) | rw [hret _ _ rfl rfl rfl]
  exact Steps.refl _
/-- what holds at the law's entry: the machine, the code, the tables' words (any of lw_tbl by 'hts w (by decide +kernel)'), the script of L ints xs at the cell b, what the Statement gives of the start (any of its parts by flat_of_before) -/
def lw_At (p : Program) (s : State) (m : MethodId) (meth : Method) (c : Code) (b L : Nat) (xs : Nat → Int32) : Prop :=
  p.tables.exec = Jvm.exec ∧ c.code = code ∧ meth.sig.returnType = ret ∧ c.maxLocals = 4 ∧ s.vm.findClass R_law = some m.cls ∧ (∀ w ∈ lw_tbl, w.before #[Value.ref b] s = true) ∧ va_X b L xs s s.heap ∧ b < s.heap.size ∧ meth.locks = false ∧ (Jvm.Cond.and given_1 narrow_1).before #[Value.ref b] s = true
/-! the law: from its entry to its loop -/
def xI0 (xs : Nat → Int32) (c k : Nat) : Int32 := if c = 999 then xs k else if c = 29 then (upd (upd (upd (upd (upd (upd (upd (upd (fun _ => 0) 0 (-1)) 1 (-1)) 2 (-1)) 3 (-1)) 4 (-1)) 5 (-1)) 6 (-1)) 7 (-1)) k else if c = 9 then (if k = 1 then 400 else 0) else if c = 13 then (if k = 5 then 400 else if k = 6 then 20 else 0) else if c = 19 then (if k = 5 then -1 else 0) else if c = 24 then (if k = 1 then 35 else 0) else if c = 54 then (if k = 6 then 35 else if k = 7 then 20 else if k = 8 then 400 else if k = 9 then 400 else if k = 14 then -1 else 0) else 0
/-- the state at the loop's first turn -/
def xS0 (L : Nat) (xs : Nat → Int32) : xS := (xI0 xs, fun _ _ => 0, L)
def xad (b : Nat) (u v : Nat → Nat) : Nat → Nat := fun k => if k < 54 then u k else if k = 999 then b else v (k - 54)
def xPure : Prop := ∀ (L : Nat) (xs : Nat → Int32), L ≤ 3072 → ∃ S1, xX 60 0 18 [(0, .ref 999), (1, .ref 0), (2, .ref 54), (3, .int 0)] [] (xS0 L xs) (some (.int 1), S1)
theorem xarr {s : State} {args : Array Value} {ty : FieldType} (h : (Cond.arrayClass ty).before args s = true) : ∃ c : ClassId, ArrOfT s c ty ∧ s.vm.findClass ("[" ++ ty.toString) = some c := by
  obtain ⟨cA, kA, comp, h1, h2, h3⟩ := Cond.arrayClass_spec h
  exact ⟨cA, fun n z => ⟨fun k h => (by cases h), kA, h2, comp, h3⟩, h1⟩
theorem xarrA {s : State} {args : Array Value} {t : FieldType} (h : (Cond.arrayOver (.array t)).before args s = true) : ∃ c : ClassId, ArrOfT s c (.array t) ∧ s.vm.findClass ("[" ++ (FieldType.array t).toString) = some c := by
  obtain ⟨comp, cA, kA, -, h2, h3, h1⟩ := Cond.arrayOver_specA h
  exact ⟨cA, fun n z => ⟨fun k h => (by cases h), kA, h2, comp, h3⟩, h1⟩
theorem xret_int {f pc : Nat} {l : xL} {st : List Value} {S : xS} {q : xI} {G : Prop} {x : Int32} (hx : xexec f pc l st S q = xrt G (some (.int x))) : q.1 = .ireturn ∧ st = [.int x] := by
  obtain ⟨ins, ln, a, b', v', ts⟩ := q
  have hcall : ∀ b st, xcall b st ≠ xrt G (some (.int x)) := by
    intro b st z
    rcases xcall_spec b st with h | ⟨as, h, -⟩ <;> rw [h] at z <;> cases z
  cases ins with
  | ireturn =>
    simp only [xexec, cond_eq_ite] at hx
    (repeat' split at hx) <;> cases hx <;> exact ⟨rfl, rfl⟩
  | invokevirtual i => exact absurd hx (hcall _ _)
  | invokestatic i =>
    simp only [xexec] at hx
    simp only [cond_eq_ite] at hx
    (repeat' split at hx) <;> first | exact absurd hx (hcall _ _) | (cases hx; done)
  | _ =>
    simp only [xexec, cond_eq_ite] at hx <;> (repeat' split at hx) <;> cases hx
theorem xinst {s : State} {args : Array Value} (hts : ∀ w ∈ lw_tbl, w.before args s = true) : ∀ (k : Nat) (q : vw_C), vwCl[k]? = some q → (Cond.instantiable q.1 q.2.2).before args s = true := by
  intro k q h
  match k, h with
  | 0, h => cases h; exact hts _ (List.mem_of_getElem? (i := 223) (by decide +kernel))
  | 1, h => cases h; exact hts _ (List.mem_of_getElem? (i := 241) (by decide +kernel))
  | 2, h => cases h; exact hts _ (List.mem_of_getElem? (i := 137) (by decide +kernel))
  | 3, h => cases h; exact hts _ (List.mem_of_getElem? (i := 186) (by decide +kernel))
  | 4, h => cases h; exact hts _ (List.mem_of_getElem? (i := 285) (by decide +kernel))
  | 5, h => cases h; exact hts _ (List.mem_of_getElem? (i := 68) (by decide +kernel))
  | 6, h => cases h; exact hts _ (List.mem_of_getElem? (i := 279) (by decide +kernel))
  | 7, h => cases h; exact hts _ (List.mem_of_getElem? (i := 256) (by decide +kernel))
  | 8, h => cases h; exact hts _ (List.mem_of_getElem? (i := 111) (by decide +kernel))
  | 9, h => cases h; exact hts _ (List.mem_of_getElem? (i := 60) (by decide +kernel))
  | 10, h => cases h; exact hts _ (List.mem_of_getElem? (i := 864) (by decide +kernel))
  | k + 11, h => cases h
set_option maxHeartbeats 4000000 in
set_option maxRecDepth 100000 in
/-- from the law's entry to its loop, there the run over numbers does the rest -/
theorem xlaw_glue (hpure : xPure) {p : Program} {e : Env} {s : State} {m : MethodId} {below : List Frame} {meth : Method} {c : Code} (l : Launch) {b L : Nat} {xs : Nat → Int32} (hL : L ≤ 3072) (C0 : lw_At p s m meth c b L xs) : W p l e room_1 s m #[Value.ref b] below meth c s.heap [] 0 0 (lw_Z below #[Value.ref b] s) (entryFrame m ([Value.ref b] : List Value).toArray 4) := by
  obtain ⟨hx, hb, hr, hml, hown, hts, hX, hbl, hlocks, hgv⟩ := id C0
  have hA : ∀ q : Nat, s.heap.size ≤ q → (fun q : Nat => s.heap.size ≤ q) q := fun _ h => h
  have hbA : ¬ (fun q : Nat => s.heap.size ≤ q) b := Nat.not_le.mpr hbl
  have htG : ∀ w ∈ lwG, w.before #[Value.ref b] s = true := fun w hw => hts w (lwG_in w hw)
  have hkn : ∀ k : Nat, ∃ (cC : ClassId) (iS : Nat → Nat), ∀ q : vw_C, vwCl[k]? = some q → u_Kn s q.1 q.2.1 q.2.2 cC iS := by
    intro k
    cases hk : vwCl[k]? with
    | none => exact ⟨0, fun _ => 0, fun q h => by cases h⟩
    | some q =>
      obtain ⟨cC, iS, h⟩ := u_known (C := q.1) (T := q.2.1) (N := q.2.2) htG (xcl_in k q hk) (xinst hts k q hk)
      exact ⟨cC, iS, fun q' h' => by cases h'; exact h⟩
  obtain ⟨D, hKc⟩ : ∃ D : va_G, ∀ (k : Nat) (q : vw_C), vwCl[k]? = some q → u_Kn s q.1 q.2.1 q.2.2 (D.1 k) (D.2 k) := ⟨(fun k => (hkn k).choose, fun k => (hkn k).choose_spec.choose), fun k q h => (hkn k).choose_spec.choose_spec q h⟩
  obtain ⟨y0, y0a, y0b⟩ := xarr (ty := .int) (hts _ (List.mem_of_getElem? (i := 108) (by decide +kernel)))
  obtain ⟨y1, y1a, y1b⟩ := xarr (ty := .boolean) (hts _ (List.mem_of_getElem? (i := 109) (by decide +kernel)))
  obtain ⟨y2, y2a, y2b⟩ := xarr (ty := .long) (hts _ (List.mem_of_getElem? (i := 277) (by decide +kernel)))
  have hAO0 : (Cond.arrayOver (.array .long)).before #[Value.ref b] s = true := (hts _ (List.mem_of_getElem? (i := 262) (by decide +kernel)))
  obtain ⟨y3, y3a, y3b⟩ := xarrA hAO0
  have hAO : va_AOA .long s := hAO0
  obtain ⟨cy, e0, e1, e2, e3⟩ : ∃ cy : Nat → ClassId, cy 0 = y0 ∧ cy 1 = y1 ∧ cy 2 = y2 ∧ cy 3 = y3 := ⟨fun k => match k with | 0 => y0 | 1 => y1 | 2 => y2 | _ => y3, rfl, rfl, rfl, rfl⟩
  subst e0 e1 e2 e3
  have hK : va_K D vwCl (xtys cy) s := ⟨hKc, fun k q h => by
    match k, h with
    | 0, h => cases h; exact ⟨y0a, y0b⟩
    | 1, h => cases h; exact ⟨y1a, y1b⟩
    | 2, h => cases h; exact ⟨y2a, y2b⟩
    | 3, h => cases h; exact ⟨y3a, y3b⟩
    | k + 4, h => cases h⟩
  have hN : ∀ w ∈ xnestA, va_Nw w s := by
    intro w hw
    have h1 := hts w (List.mem_append_right _ (List.mem_filter.mp hw).1)
    obtain ⟨a, i, x, g, rfl⟩ := xnestA_use hw
    exact va_Nw.of rfl h1
  have hN2 : ∀ w ∈ xnest, va_Nw w s := by
    intro w hw
    refine hN w (List.mem_filter.mpr ⟨?_, List.all_eq_true.mp xnest_ok w hw⟩)
    obtain ⟨q, -, h2⟩ := List.mem_filterMap.mp hw
    cases hq : Nat.beq q.2.2.1 2 with
    | false => rw [hq] at h2; cases h2
    | true => rw [hq] at h2; exact List.mem_of_getElem? h2
  have hS : va_S (fun q : Nat => s.heap.size ≤ q) s.heap s.heap [] := va_S.rf
  have hP : va_P D vwCl [] s.heap := fun k q h => by simp at h
  have hD : va_D (fun q : Nat => s.heap.size ≤ q) [] := ⟨fun i j p q h => by simp at h, fun k q h => by simp at h⟩
  have hl := lv_entry ([.ref b]) (n := 4) (Nat.le_of_ble_eq_true rfl)
  rw [lg_entry_eq]
  generalize (lg_sl ([.ref b]) ++ List.replicate (4 - (lg_sl ([.ref b])).length) Slot.unset).toArray = ls at hl ⊢
  have hl : lv_has ls 4 [(0, .ref b)] := hl
  refine va_new (ci := 9) (fs := [.null, .null, .null, .null, .null, .null, .null, .null, .null, .int 0, .int 0]) (C := RX9) (T := TX9) (N := 11) hx hb htG (xcl_in 9 _ rfl) tyX9 tyX9_ok hown (htG _ (lwG_of (w := .classLink R_law 7 RX9) (i := 59) (by decide +kernel) rfl)) (htG _ (lwG_of (w := .instantiable RX9 11) (i := 60) (by decide +kernel) rfl)) (htG _ (lwG_of (w := .initialized RX9) (i := 46) (by decide +kernel) rfl)) hK hP hD hS hA rfl (by decide) (Nat.le_of_ble_eq_true rfl) (Nat.le_of_ble_eq_true rfl) (by decide +kernel : decode code 0 = .ok (.new 7, 3)) (fun a1 H hP hD hS => ?_)
  have hP : va_P D vwCl ([] ++ [(a1, .inr (9, [.null, .null, .null, .null, .null, .null, .null, .null, .null, .int 0, .int 0]))]) H := hP
  have hD : va_D (fun q : Nat => s.heap.size ≤ q) ([] ++ [(a1, .inr (9, [.null, .null, .null, .null, .null, .null, .null, .null, .null, .int 0, .int 0]))]) := hD
  refine lv_dup hx hb (by decide +kernel : decode code 3 = .ok (.dup, 1)) rfl ?_
  have hPc := hP.sub (ws' := [(a1, .inr (9, [.null, .null, .null, .null, .null, .null, .null, .null, .null, .int 0, .int 0]))]) [0] rfl
  have hDc := hD.sub (ws' := [(a1, .inr (9, [.null, .null, .null, .null, .null, .null, .null, .null, .null, .int 0, .int 0]))]) [0] (by decide) rfl
  have hFc := va_free (wc := [(a1, .inr (9, [.null, .null, .null, .null, .null, .null, .null, .null, .null, .int 0, .int 0]))]) hD hS hA [0] rfl
  refine va_callv (va_runI (As := []) (rest := [.ref a1]) ⟨hx, hb, hml, hown, htG⟩ (k_X9_init l D cy a1 H.size) (cwI 0 htG (xgoodc (lwG_of (i := 63) (by decide +kernel) rfl)) rfl rfl rfl (htG _ (lwG_of (w := .initialized RX9) (i := 46) (by decide +kernel) rfl)) (htG _ (lwG_of (w := .methodLink R_law 9 yX9_init) (i := 61) (by decide +kernel) rfl)) (htG _ (lwG_of (w := .instanceMethod yX9_init) (i := 62) (by decide +kernel) rfl)) rfl (by decide +kernel) ⟨Nat.le_of_ble_eq_true rfl, Nat.le_of_ble_eq_true rfl⟩) ⟨xkB_blind _ _ _ _ _, fun U hU hW => ⟨rfl, by rw [hU], by rw [hU]; exact hPc, va_K.moved hW.alike hK, hDc.weaken (fun _ _ _ _ => trivial), xnestA_moved hW hN, hAO.moved hW.alike⟩⟩ rfl rfl hl.1 rfl (lv_room (Nat.le_of_ble_eq_true rfl)) (by decide +kernel : decode code 4 = .ok (.invokespecial 9, 3)) ⟨Nat.le_of_ble_eq_true rfl, Nat.le_of_ble_eq_true rfl⟩) hS (fun q _ h => hFc q h) hFc (fun u t H1 locs ht hvm hw hB hz1 hk1 hS => ?_)
  obtain ⟨hP1, hD1⟩ := hB
  rw [ht] at hP1
  have hw : u 0 = a1 := hw
  obtain ⟨hP, hD⟩ := va_join (wr := []) (w1 := xo9 cy u) hP hD [0] [] rfl rfl (by decide) (by decide) hk1 hFc hP1 hD1
  generalize H1 = H at hP hS ⊢
  rw [← hw]
  have hP : va_P D vwCl (xo9 cy u) H := hP
  have hD : va_D (fun q : Nat => s.heap.size ≤ q) (xo9 cy u) := hD
  refine lv_astore_n (lv' := [(1, .ref (u 0)), (0, .ref b)]) hx hb (by decide +kernel : decode code 7 = .ok (.astore_n 1, 1)) rfl hl (by decide) rfl (fun ls hl => ?_)
  refine va_new (ci := 10) (fs := [.int 0, .int 0, .int 0, .int 0, .int 0, .int 0, .int 0, .int 0, .int 0, .int 0, .int 0, .int 0, .int 0, .int 0, .int 0, .int 0, .null, .null, .null, .null, .null, .null, .null, .null, .null, .null, .null, .null, .null, .null, .null, .null, .null, .null, .null, .null, .null, .null, .null, .null, .null, .null, .null, .null, .null, .null, .null, .null, .null, .null, .int 0]) (C := RX10) (T := TX10) (N := 51) hx hb htG (xcl_in 10 _ rfl) tyX10 tyX10_ok hown (htG _ (lwG_of (w := .classLink R_law 10 RX10) (i := 863) (by decide +kernel) rfl)) (htG _ (lwG_of (w := .instantiable RX10 51) (i := 864) (by decide +kernel) rfl)) (htG _ (lwG_of (w := .initialized RX10) (i := 56) (by decide +kernel) rfl)) hK hP hD hS hA rfl (by decide) (Nat.le_of_ble_eq_true rfl) (Nat.le_of_ble_eq_true rfl) (by decide +kernel : decode code 8 = .ok (.new 10, 3)) (fun a2 H hP hD hS => ?_)
  have hP : va_P D vwCl (xo9 cy u ++ [(a2, .inr (10, [.int 0, .int 0, .int 0, .int 0, .int 0, .int 0, .int 0, .int 0, .int 0, .int 0, .int 0, .int 0, .int 0, .int 0, .int 0, .int 0, .null, .null, .null, .null, .null, .null, .null, .null, .null, .null, .null, .null, .null, .null, .null, .null, .null, .null, .null, .null, .null, .null, .null, .null, .null, .null, .null, .null, .null, .null, .null, .null, .null, .null, .int 0]))]) H := hP
  have hD : va_D (fun q : Nat => s.heap.size ≤ q) (xo9 cy u ++ [(a2, .inr (10, [.int 0, .int 0, .int 0, .int 0, .int 0, .int 0, .int 0, .int 0, .int 0, .int 0, .int 0, .int 0, .int 0, .int 0, .int 0, .int 0, .null, .null, .null, .null, .null, .null, .null, .null, .null, .null, .null, .null, .null, .null, .null, .null, .null, .null, .null, .null, .null, .null, .null, .null, .null, .null, .null, .null, .null, .null, .null, .null, .null, .null, .int 0]))]) := hD
  refine lv_dup hx hb (by decide +kernel : decode code 11 = .ok (.dup, 1)) rfl ?_
  have hPc := hP.sub (ws' := [(a2, .inr (10, [.int 0, .int 0, .int 0, .int 0, .int 0, .int 0, .int 0, .int 0, .int 0, .int 0, .int 0, .int 0, .int 0, .int 0, .int 0, .int 0, .null, .null, .null, .null, .null, .null, .null, .null, .null, .null, .null, .null, .null, .null, .null, .null, .null, .null, .null, .null, .null, .null, .null, .null, .null, .null, .null, .null, .null, .null, .null, .null, .null, .null, .int 0]))]) [54] rfl
  have hDc := hD.sub (ws' := [(a2, .inr (10, [.int 0, .int 0, .int 0, .int 0, .int 0, .int 0, .int 0, .int 0, .int 0, .int 0, .int 0, .int 0, .int 0, .int 0, .int 0, .int 0, .null, .null, .null, .null, .null, .null, .null, .null, .null, .null, .null, .null, .null, .null, .null, .null, .null, .null, .null, .null, .null, .null, .null, .null, .null, .null, .null, .null, .null, .null, .null, .null, .null, .null, .int 0]))]) [54] (by decide) rfl
  have hFc := va_free (wc := [(a2, .inr (10, [.int 0, .int 0, .int 0, .int 0, .int 0, .int 0, .int 0, .int 0, .int 0, .int 0, .int 0, .int 0, .int 0, .int 0, .int 0, .int 0, .null, .null, .null, .null, .null, .null, .null, .null, .null, .null, .null, .null, .null, .null, .null, .null, .null, .null, .null, .null, .null, .null, .null, .null, .null, .null, .null, .null, .null, .null, .null, .null, .null, .null, .int 0]))]) hD hS hA [54] rfl
  refine va_callv (va_runI (As := []) (rest := [.ref a2]) ⟨hx, hb, hml, hown, htG⟩ (k_X10_init l D cy a2 H.size) (cwI 0 htG (xgoodc (lwG_of (i := 867) (by decide +kernel) rfl)) rfl rfl rfl (htG _ (lwG_of (w := .initialized RX10) (i := 56) (by decide +kernel) rfl)) (htG _ (lwG_of (w := .methodLink R_law 12 yX10_init) (i := 865) (by decide +kernel) rfl)) (htG _ (lwG_of (w := .instanceMethod yX10_init) (i := 866) (by decide +kernel) rfl)) rfl (by decide +kernel) ⟨Nat.le_of_ble_eq_true rfl, Nat.le_of_ble_eq_true rfl⟩) ⟨xkB_blind _ _ _ _ _, fun U hU hW => ⟨rfl, by rw [hU], by rw [hU]; exact hPc, va_K.moved hW.alike hK, hDc.weaken (fun _ _ _ _ => trivial), xnestA_moved hW hN, hAO.moved hW.alike⟩⟩ rfl rfl hl.1 rfl (lv_room (Nat.le_of_ble_eq_true rfl)) (by decide +kernel : decode code 12 = .ok (.invokespecial 12, 3)) ⟨Nat.le_of_ble_eq_true rfl, Nat.le_of_ble_eq_true rfl⟩) hS (fun q _ h => hFc q h) hFc (fun v t H1 locs ht hvm hw hB hz1 hk1 hS => ?_)
  obtain ⟨hP1, hD1⟩ := hB
  rw [ht] at hP1
  have hw : v 0 = a2 := hw
  obtain ⟨hP, hD⟩ := va_join (wr := xo9 cy u) (w1 := xo10 cy v) hP hD [54] [0, 1, 2, 3, 4, 5, 6, 7, 8, 9, 10, 11, 12, 13, 14, 15, 16, 17, 18, 19, 20, 21, 22, 23, 24, 25, 26, 27, 28, 29, 30, 31, 32, 33, 34, 35, 36, 37, 38, 39, 40, 41, 42, 43, 44, 45, 46, 47, 48, 49, 50, 51, 52, 53] rfl rfl (by decide) (by decide) hk1 hFc hP1 hD1
  generalize H1 = H at hP hS ⊢
  rw [← hw]
  have hP : va_P D vwCl (xo9 cy u ++ xo10 cy v) H := hP
  have hD : va_D (fun q : Nat => s.heap.size ≤ q) (xo9 cy u ++ xo10 cy v) := hD
  refine lv_astore_n (lv' := [(2, .ref (v 0)), (1, .ref (u 0)), (0, .ref b)]) hx hb (by decide +kernel : decode code 15 = .ok (.astore_n 2, 1)) rfl hl (by decide) rfl (fun ls hl => ?_)
  refine lv_iconst (v := 0) hx hb (by decide +kernel : decode code 16 = .ok (.iconst 0, 1)) (by decide) ?_
  refine lv_istore_n (lv' := [(3, .int 0), (2, .ref (v 0)), (1, .ref (u 0)), (0, .ref b)]) hx hb (by decide +kernel : decode code 17 = .ok (.istore_n 3, 1)) rfl hl (by decide) rfl (fun ls hl => ?_)
  have hP := xP_repl hP 31 (e1 := .inl (cy 3, 8, .inr (.inr (.inr (.inr (fun j => some (u (j + 32)))))))) rfl (.inl (cy 3, 8, .inr (.inr (.inr (.inr (fun j => some (xad b u v (32 + j)))))))) (xrow_at (fun j hj => by rw [show xad b u v (32 + j) = u (32 + j) from if_pos (by omega), Nat.add_comm]))
  have hD := hD.set (p := 31) (e := .inl (cy 3, 8, .inr (.inr (.inr (.inr (fun j => some (xad b u v (32 + j)))))))) rfl
  have hP : va_P D vwCl (xw (xad b u v) cy (xS0 L xs)) H := hP
  have hD : va_D (fun q : Nat => s.heap.size ≤ q) (xw (xad b u v) cy (xS0 L xs)) := hD
  obtain ⟨S1, n, hrun⟩ := hpure L xs hL
  refine W.widen (k := 600000) (n := 7302250) (Nat.le_of_ble_eq_true rfl) (Nat.le_of_ble_eq_true rfl) ?_
  refine xsound n 60 0 18 _ [] (xS0 L xs) S1 _ hrun xmd0 rfl (ad := xad b u v) (cy := cy) (D := D) (A := fun q : Nat => s.heap.size ≤ q) (H0 := s.heap) ⟨hx, hb, hml, hown, htG, hN2, hK⟩ ⟨lv_sub hl [3, 2, 1, 0] rfl, hP, hD, hS, fun _ => ⟨hX, hbl, hbA⟩⟩ hA ⟨Nat.le_of_ble_eq_true rfl, Nat.le_of_ble_eq_true rfl⟩ ⟨Nat.le_refl _, Nat.le_refl _⟩ ?_
  intro pc' l' st' ls' H' locs' q G hq hck h hx' hG
  obtain ⟨h1, rfl⟩ := xret_int hx'
  obtain ⟨hdg0, hok⟩ := Bool.and_eq_true_iff.mp hck
  obtain ⟨ins, ln, a, b', v', ts⟩ := q
  have h1 : ins = .ireturn := h1
  subst h1
  have hln : ln = 1 := (of_decide_eq_true hok).1
  subst hln
  have hdg : decode code pc' = .ok (.ireturn, 1) := of_decide_eq_true hdg0
  exact va_forget h.2.2.2.1.2.2 (lw_ret hx hb hr hlocks hdg)
