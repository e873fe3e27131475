/-! the world at its addresses -/
def xv (ad : Nat → Nat) : Value → Value
  | .ref k => .ref (ad k)
  | .retAddr j => .ref (ad (xrb + j))
  | .int x => .int x
  | .long x => .long x
  | .float x => .float x
  | .double x => .double x
  | .null => .null
def xfv (ad : Nat → Nat) (S : xS) (c k : Nat) : Option Nat → Value
  | none => .int (S.1 c k)
  | some r => .ref (ad r)
def xfs (ad : Nat → Nat) (S : xS) (c : Nat) : Nat → List (Option Nat) → List Value
  | _, [] => []
  | k, o :: t => xfv ad S c k o :: xfs ad S c (k + 1) t
def xak (ad : Nat → Nat) (S : xS) (c b : Nat) : Nat → ((Nat → Int32) ⊕ (Nat → Int64) ⊕ (Nat → UInt32) ⊕ (Nat → UInt64) ⊕ (Nat → Option Nat))
  | 0 => .inl (S.1 c)
  | 1 => .inl (S.1 c)
  | 2 => .inr (.inl (S.2.1 c))
  | _ => .inr (.inr (.inr (.inr (fun j => some (ad (b + j))))))
def xce (ad : Nat → Nat) (cy : Nat → ClassId) (S : xS) (c : Nat) : xC → va_E
  | .inl (ci, fl) => .inr (ci, xfs ad S c 0 fl)
  | .inr (k, n, b) => .inl (cy k, n, xak ad S c b k)
def xw (ad : Nat → Nat) (cy : Nat → ClassId) (S : xS) : va_W := (List.range xNC).map (fun c => (ad c, xce ad cy S c (xsh c)))
abbrev xtys (cy : Nat → ClassId) : List (ClassId × FieldType) := [(cy 0, .int), (cy 1, .boolean), (cy 2, .long), (cy 3, .array .long)]
theorem xw_get (ad : Nat → Nat) (cy : Nat → ClassId) (S : xS) {c : Nat} (h : c < xNC) {z : xC} (hz : xsh c = z) : (xw ad cy S)[c]? = some (ad c, xce ad cy S c z) := by
  subst hz
  unfold xw
  rw [List.getElem?_map, List.getElem?_range h]
  rfl
theorem xw_len (ad : Nat → Nat) (cy : Nat → ClassId) (S : xS) : (xw ad cy S).length = xNC := by
  unfold xw
  rw [List.length_map, List.length_range]
theorem xfs_get (ad : Nat → Nat) (S : xS) (c : Nat) : ∀ (fl : List (Option Nat)) (k0 j : Nat), (xfs ad S c k0 fl)[j]? = (fl[j]?).map (fun o => xfv ad S c (k0 + j) o)
  | [], _, _ => by simp [xfs]
  | o :: t, k0, 0 => by simp [xfs]
  | o :: t, k0, j + 1 => by
    simp only [xfs, List.getElem?_cons_succ]
    rw [xfs_get ad S c t (k0 + 1) j, show k0 + 1 + j = k0 + (j + 1) by omega]
theorem xfs_len (ad : Nat → Nat) (S : xS) (c : Nat) : ∀ (fl : List (Option Nat)) (k0 : Nat), (xfs ad S c k0 fl).length = fl.length
  | [], _ => rfl
  | o :: t, k0 => by simp [xfs, xfs_len ad S c t (k0 + 1)]
theorem xfs_congr (ad : Nat → Nat) (S S' : xS) (c : Nat) (h : S.1 c = S'.1 c) : ∀ (fl : List (Option Nat)) (k0 : Nat), xfs ad S c k0 fl = xfs ad S' c k0 fl
  | [], _ => rfl
  | o :: t, k0 => by
    unfold xfs
    rw [xfs_congr ad S S' c h t (k0 + 1)]
    cases o with
    | none => simp [xfv, h]
    | some r => rfl
theorem xce_congr (ad : Nat → Nat) (cy : Nat → ClassId) (S S' : xS) (c : Nat) (z : xC) (h1 : S.1 c = S'.1 c) (h2 : S.2.1 c = S'.2.1 c) : xce ad cy S c z = xce ad cy S' c z := by
  match z with
  | .inl (ci, fl) => simp only [xce, xfs_congr ad S S' c h1]
  | .inr (0, n, b) => simp only [xce, xak, h1]
  | .inr (1, n, b) => simp only [xce, xak, h1]
  | .inr (2, n, b) => simp only [xce, xak, h2]
  | .inr (k + 3, n, b) => simp only [xce, xak]
/-- the world with one cell changed -/
theorem xw_set (ad : Nat → Nat) (cy : Nat → ClassId) (S S' : xS) {c : Nat} {E : va_E} {z : xC} (hz : xsh c = z) (hE : E = xce ad cy S' c z) (h : ∀ k, k ≠ c → S.1 k = S'.1 k ∧ S.2.1 k = S'.2.1 k) : (xw ad cy S).set c (ad c, E) = xw ad cy S' := by
  subst hz
  apply List.ext_getElem?
  intro k
  by_cases hk : k < xNC
  · by_cases e : k = c
    · subst e
      rw [List.getElem?_set_self (by rw [xw_len]; exact hk), xw_get ad cy S' hk rfl, hE]
    · rw [List.getElem?_set_ne (fun q => e q.symm), xw_get ad cy S hk rfl, xw_get ad cy S' hk rfl, xce_congr ad cy S S' k _ (h k e).1 (h k e).2]
  · rw [List.getElem?_eq_none (by rw [List.length_set, xw_len]; omega), List.getElem?_eq_none (by rw [xw_len]; omega)]
theorem xw_D {A : Nat → Prop} (ad : Nat → Nat) (cy : Nat → ClassId) (S S' : xS) (h : va_D A (xw ad cy S)) : va_D A (xw ad cy S') := by
  have key : ∀ (k : Nat) (q : Nat × va_E), (xw ad cy S')[k]? = some q → ∃ q0, (xw ad cy S)[k]? = some q0 ∧ q0.1 = q.1 := by
    intro k q hq
    have hk : k < xNC := by rw [← xw_len ad cy S']; exact (List.getElem?_eq_some_iff.mp hq).1
    rw [xw_get ad cy S' hk rfl] at hq
    cases hq
    exact ⟨_, xw_get ad cy S hk rfl, rfl⟩
  refine ⟨fun i j x y hi hj hxy => ?_, fun k q hk => ?_⟩
  · obtain ⟨x0, h1, h2⟩ := key i x hi
    obtain ⟨y0, h3, h4⟩ := key j y hj
    exact h.1 i j x0 y0 h1 h3 (h2.trans (hxy.trans h4.symm))
  · obtain ⟨q0, h1, h2⟩ := key k q hk
    rw [← h2]
    exact h.2 k q0 h1
theorem xw_A (ad : Nat → Nat) (cy : Nat → ClassId) (S S' : xS) (sz : Nat) : va_A (xw ad cy S) sz = va_A (xw ad cy S') sz := by
  have key : ∀ (S S' : xS) (q : Nat), va_A (xw ad cy S) sz q → va_A (xw ad cy S') sz q := by
    intro S S' q h
    rcases h with ⟨k, e, h⟩ | h
    · have hk : k < xNC := by rw [← xw_len ad cy S]; exact (List.getElem?_eq_some_iff.mp h).1
      rw [xw_get ad cy S hk rfl] at h
      cases h
      exact Or.inl ⟨k, _, xw_get ad cy S' hk rfl⟩
    · exact Or.inr h
  funext q
  exact propext ⟨key S S' q, key S' S q⟩
theorem xlen_sh {c kd n : Nat} (h : xlen c kd = some n) : c < xNC ∧ ∃ b, xsh c = .inr (kd, n, b) := by
  unfold xlen at h
  cases hb : Nat.blt c xNC with
  | false => rw [hb] at h; cases h
  | true =>
    rw [hb] at h
    refine ⟨Nat.le_of_ble_eq_true hb, ?_⟩
    simp only [cond_true] at h
    match hs : xsh c, h with
    | .inr (k, n', b), h =>
      simp only [] at h
      cases e : Nat.beq k kd with
      | false => rw [e] at h; cases h
      | true =>
        rw [e] at h
        cases h
        cases Nat.eq_of_beq_eq_true e
        exact ⟨b, rfl⟩
    | .inl x, h => cases h
theorem xfl_sh {c ci k : Nat} {o : Option Nat} (h : xfl c ci k = some o) : c < xNC ∧ ∃ fl, xsh c = .inl (ci, fl) ∧ fl[k]? = some o := by
  unfold xfl at h
  cases hb : Nat.blt c xNC with
  | false => rw [hb] at h; cases h
  | true =>
    rw [hb] at h
    refine ⟨Nat.le_of_ble_eq_true hb, ?_⟩
    simp only [cond_true] at h
    match hs : xsh c, h with
    | .inl (d, fl), h =>
      simp only [] at h
      cases e : Nat.beq d ci with
      | false => rw [e] at h; cases h
      | true =>
        rw [e] at h
        cases Nat.eq_of_beq_eq_true e
        exact ⟨fl, rfl, h⟩
    | .inr x, h => cases h
theorem xcl_sh {c d : Nat} (h : xcl c = some d) : c < xNC ∧ ∃ fl, xsh c = .inl (d, fl) := by
  unfold xcl at h
  cases hb : Nat.blt c xNC with
  | false => rw [hb] at h; cases h
  | true =>
    rw [hb] at h
    refine ⟨Nat.le_of_ble_eq_true hb, ?_⟩
    simp only [cond_true] at h
    match hs : xsh c, h with
    | .inl (d', fl), h => cases h; exact ⟨fl, rfl⟩
    | .inr x, h => cases h
theorem xsh_row : ∀ j, j < 8 → xsh (xrb + j) = .inr (2, 60, 0) ∧ xrb + j < xNC := by decide +kernel
/-- what a field of numbers is -/
theorem xsh_num {c ci k : Nat} {fl : List (Option Nat)} (hc : c < xNC) (hs : xsh c = .inl (ci, fl)) (hk : fl[k]? = some none) : ∃ r, vwCl[ci]? = some r ∧ k < r.2.2 ∧ fl.length = r.2.2 ∧ (r.2.1 k).2.2.2 = false ∧ (bif xbool ci k then xcty ci k = .boolean else xcty ci k = .int) := by
  have h := List.all_eq_true.mp xsh_ok c (List.mem_range.mpr hc)
  unfold xshok at h
  rw [hs] at h
  simp only [] at h
  cases hr : vwCl[ci]? with
  | none => rw [hr] at h; cases h
  | some r =>
    rw [hr] at h
    simp only [Bool.and_eq_true, decide_eq_true_eq] at h
    obtain ⟨h1, h2⟩ := h
    have hkl : k < fl.length := (List.getElem?_eq_some_iff.mp hk).1
    have h3 := List.all_eq_true.mp h2 k (List.mem_range.mpr hkl)
    rw [hk] at h3
    simp only [Bool.and_eq_true] at h3
    refine ⟨r, rfl, by omega, h1, by simpa using h3.1, ?_⟩
    cases hb : xbool ci k with
    | true => have := h3.2; rw [hb] at this; exact (of_decide_eq_true (show decide (xcty ci k = .boolean) = true from this) : xcty ci k = .boolean)
    | false => have := h3.2; rw [hb] at this; exact (of_decide_eq_true (show decide (xcty ci k = .int) = true from this) : xcty ci k = .int)
theorem xget_mem : ∀ {l : xL} {a : Nat} {v : Value}, xget l a = v → v ≠ .null → (a, v) ∈ l
  | [], a, v, h, hv => absurd h.symm hv
  | q :: t, a, v, h, hv => by
    unfold xget at h
    cases e : Nat.beq q.1 a with
    | true =>
      rw [e] at h
      cases Nat.eq_of_beq_eq_true e
      cases h
      exact List.mem_cons_self
    | false =>
      rw [e] at h
      exact List.mem_cons_of_mem _ (xget_mem h hv)
theorem xdel_mem : ∀ {l : xL} {i : Nat} {q : Nat × Value}, q ∈ xdel l i → q ∈ l ∧ q.1 ≠ i
  | [], i, q, h => by cases h
  | p :: t, i, q, h => by
    unfold xdel at h
    cases e : Nat.beq p.1 i with
    | true =>
      rw [e] at h
      have := xdel_mem h
      exact ⟨List.mem_cons_of_mem _ this.1, this.2⟩
    | false =>
      rw [e] at h
      rcases List.mem_cons.mp h with rfl | h
      · exact ⟨List.mem_cons_self, fun z => by rw [z] at e; simp at e⟩
      · have := xdel_mem h
        exact ⟨List.mem_cons_of_mem _ this.1, this.2⟩
theorem xput_mem : ∀ {l : xL} {i : Nat} {v : Value} {q : Nat × Value}, q ∈ xput l i v → q = (i, v) ∨ (q ∈ l ∧ q.1 ≠ i)
  | [], i, v, q, h => Or.inl (List.mem_singleton.mp h)
  | p :: t, i, v, q, h => by
    unfold xput at h
    cases e : Nat.beq p.1 i with
    | true =>
      rw [e] at h
      rcases List.mem_cons.mp h with h | h
      · exact Or.inl h
      · have := xdel_mem h
        exact Or.inr ⟨List.mem_cons_of_mem _ this.1, this.2⟩
    | false =>
      rw [e] at h
      have hp : p.1 ≠ i := fun z => by rw [z] at e; simp at e
      cases e2 : Nat.blt i p.1 with
      | true =>
        rw [e2] at h
        rcases List.mem_cons.mp h with h | h
        · exact Or.inl h
        · rcases List.mem_cons.mp h with rfl | h
          · exact Or.inr ⟨List.mem_cons_self, hp⟩
          · have := xdel_mem h
            exact Or.inr ⟨List.mem_cons_of_mem _ this.1, this.2⟩
      | false =>
        rw [e2] at h
        rcases List.mem_cons.mp h with rfl | h
        · exact Or.inr ⟨List.mem_cons_self, hp⟩
        · rcases xput_mem h with h | h
          · exact Or.inl h
          · exact Or.inr ⟨List.mem_cons_of_mem _ h.1, h.2⟩
theorem xclear_mem : ∀ {l : xL} {i : Nat}, xclear l i = true → ∀ q ∈ l, ¬ (q.1 + 1 = i ∧ q.2.category = 2)
  | [], i, _, q, h => by cases h
  | p :: t, i, hc, q, h => by
    unfold xclear at hc
    obtain ⟨h1, h2⟩ := Bool.and_eq_true_iff.mp hc
    rcases List.mem_cons.mp h with rfl | h
    · rintro ⟨e1, e2⟩
      obtain ⟨n, v⟩ := q
      subst e1
      cases v <;> simp [Value.category] at e2 h1
    · exact xclear_mem h2 q h
theorem xv_cat (ad : Nat → Nat) (v : Value) : (xv ad v).category = v.category := by cases v <;> rfl
def xlv (ad : Nat → Nat) (l : xL) : List (Nat × Value) := l.map (fun q => (q.1, xv ad q.2))
theorem xlv_at {ad : Nat → Nat} {ls : Array Slot} {nL : Nat} {l : xL} (h : lv_has ls nL (xlv ad l)) {a : Nat} {v : Value} (hg : xget l a = v) (hv : v ≠ .null) : ls[a]? = some (.val (xv ad v)) :=
  h.2.2 (a, xv ad v) (List.mem_map.mpr ⟨(a, v), xget_mem hg hv, rfl⟩)
theorem xlv_put {ad : Nat → Nat} {ls : Array Slot} {nL i : Nat} {l : xL} {x : Int32} (hc : xclear l i = true) (h : lv_has ls nL ((i, Value.int x) :: (xlv ad l).filter (fun q => !(q.1 == i) && !(q.1 + 1 == i && q.2.category == 2)))) : lv_has ls nL (xlv ad (xput l i (.int x))) := by
  refine ⟨h.1, h.2.1, fun q hq => h.2.2 q ?_⟩
  obtain ⟨q0, h1, rfl⟩ := List.mem_map.mp hq
  rcases xput_mem h1 with rfl | ⟨h2, h3⟩
  · exact List.mem_cons_self
  · refine List.mem_cons_of_mem _ (List.mem_filter.mpr ⟨List.mem_map.mpr ⟨q0, h2, rfl⟩, ?_⟩)
    have h4 := xclear_mem hc q0 h2
    simp only [Bool.and_eq_true, Bool.not_eq_true', beq_eq_false_iff_ne, ne_eq, Bool.and_eq_false_iff, xv_cat]
    refine ⟨h3, ?_⟩
    by_cases e : q0.1 + 1 = i
    · exact Or.inr (fun z => h4 ⟨e, z⟩)
    · exact Or.inl e
theorem xargs_lv (ad : Nat → Nat) : ∀ (vs : List Value) (i : Nat), xlv ad (xargs i vs) = lv_args i (vs.map (xv ad))
  | [], _ => rfl
  | v :: t, i => by
    have ih := xargs_lv ad t
    cases v <;> exact congrArg (List.cons _) (ih _)
theorem xcat_sl (ad : Nat → Nat) : ∀ (vs : List Value), (lg_sl (vs.map (xv ad))).length = xcat vs
  | [] => rfl
  | v :: t => by
    have ih := xcat_sl ad t
    unfold lg_sl at ih ⊢
    simp only [List.map_cons, List.flatMap_cons, List.length_append, ih]
    cases v <;> rfl
theorem xcat_sum (ad : Nat → Nat) : ∀ (vs : List Value), ((vs.map (xv ad)).map fun v => v.category).sum = xcat vs
  | [] => rfl
  | v :: t => by
    have ih := xcat_sum ad t
    simp only [List.map_cons, List.sum_cons, ih]
    cases v <;> rfl
