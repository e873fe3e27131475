/-! rules over runs: a step, a call, a whole block -/
theorem xX_prune {d f pc : Nat} {l : xL} {st : List Value} {S : xS} {r : Option Value × xS} : xX d f pc l st S r ↔ xX d f pc (xkeep (xdr f pc) l) st S r := by
  have key : ∀ n, xRun n d f pc l st S r = xRun n d f pc (xkeep (xdr f pc) l) st S r := by
    intro n
    cases n with
    | zero => rfl
    | succ n => unfold xRun; rw [xkeep_idem]
  unfold xX
  constructor <;> rintro ⟨n, h⟩
  · exact ⟨n, key n ▸ h⟩
  · exact ⟨n, (key n).symm ▸ h⟩
theorem xX_pr {d f pc : Nat} {l l' : xL} {st : List Value} {S : xS} {r : Option Value × xS} (h : xkeep (xdr f pc) l = l') : xX d f pc l st S r ↔ xX d f pc l' st S r := by
  rw [← h]; exact xX_prune
section XRU
variable {d f pc : Nat} {l : xL} {st : List Value} {S : xS} {r : Option Value × xS} {q : xI}
theorem xX_next {pc' : Nat} {l' : xL} {st' : List Value} {S' : xS} (hq : xtab f pc = some q) (hx : xexec f pc (xkeep (xdr f pc) l) st S q = .inl (pc', l', st', S')) : xX d f pc l st S r ↔ xX d f pc' l' st' S' r := by
  constructor
  · rintro ⟨n, h⟩
    cases n with
    | zero => exact h.elim
    | succ n => unfold xRun at h; rw [hq] at h; simp only [hx] at h; exact ⟨n, h⟩
  · rintro ⟨n, h⟩
    exact ⟨n + 1, by unfold xRun; rw [hq]; simp only [hx]; exact h⟩
theorem xX_guard {G : Prop} {pc' : Nat} {l' : xL} {st' : List Value} {S' : xS} (hq : xtab f pc = some q) (hx : xexec f pc (xkeep (xdr f pc) l) st S q = .inr (.inl (G, pc', l', st', S'))) : xX d f pc l st S r ↔ G ∧ xX d f pc' l' st' S' r := by
  constructor
  · rintro ⟨n, h⟩
    cases n with
    | zero => exact h.elim
    | succ n => unfold xRun at h; rw [hq] at h; simp only [hx] at h; exact ⟨h.1, n, h.2⟩
  · rintro ⟨g, n, h⟩
    exact ⟨n + 1, by unfold xRun; rw [hq]; simp only [hx]; exact ⟨g, h⟩⟩
theorem xX_ret {G : Prop} {v : Option Value} (hq : xtab f pc = some q) (hx : xexec f pc (xkeep (xdr f pc) l) st S q = xrt G v) : xX d f pc l st S r ↔ G ∧ r = (v, S) := by
  constructor
  · rintro ⟨n, h⟩
    cases n with
    | zero => exact h.elim
    | succ n => unfold xRun at h; rw [hq] at h; simp only [hx] at h; exact h
  · rintro h
    exact ⟨1, by unfold xRun; rw [hq]; simp only [hx]; exact h⟩
theorem xX_call {g : Nat} {as rest : List Value} (hq : xtab f pc = some q) (hx : xexec f pc (xkeep (xdr f pc) l) st S q = xca g as rest) : xX (d + 1) f pc l st S r ↔ ∃ r1, xX d g 0 (xargs 0 as) [] S r1 ∧ xX (d + 1) f (pc + 3) (xkeep (xdr f pc) l) (r1.1.toList ++ rest) r1.2 r := by
  constructor
  · rintro ⟨n, h⟩
    cases n with
    | zero => exact h.elim
    | succ n =>
      unfold xRun at h
      rw [hq] at h
      simp only [hx] at h
      obtain ⟨d', r1, e, h1, h2⟩ := h
      cases e
      exact ⟨r1, ⟨n, h1⟩, ⟨n, h2⟩⟩
  · rintro ⟨r1, ⟨n1, h1⟩, ⟨n2, h2⟩⟩
    exact ⟨max n1 n2 + 1, by
      unfold xRun
      rw [hq]
      simp only [hx]
      exact ⟨d, r1, rfl, xRun_le (Nat.le_max_left _ _) h1, xRun_le (Nat.le_max_right _ _) h2⟩⟩
end XRU
theorem xRun_det : ∀ (n d f pc : Nat) (l : xL) (st : List Value) (S : xS) (r r' : Option Value × xS), xRun n d f pc l st S r → xRun n d f pc l st S r' → r = r' := by
  intro n
  induction n with
  | zero => intro d f pc l st S r r' h; exact h.elim
  | succ n ih =>
    intro d f pc l st S r r' h h'
    unfold xRun at h h'
    cases hq : xtab f pc with
    | none => rw [hq] at h; exact h.elim
    | some q =>
      rw [hq] at h h'
      simp only at h h'
      generalize xexec f pc (xkeep (xdr f pc) l) st S q = R at h h'
      match R, h, h' with
      | .inl (pc', l', st', S'), h, h' => exact ih _ _ _ _ _ _ _ _ h h'
      | .inr (.inl (G, pc', l', st', S')), h, h' => exact ih _ _ _ _ _ _ _ _ h.2 h'.2
      | .inr (.inr (.inl (G, v))), h, h' => rw [h.2, h'.2]
      | .inr (.inr (.inr (.inl (g, as, rest)))), h, h' =>
        obtain ⟨d1, r1, e1, h1, h2⟩ := h
        obtain ⟨d2, r2, e2, h3, h4⟩ := h'
        have : d1 = d2 := by omega
        subst this
        have := ih _ _ _ _ _ _ _ _ h1 h3
        subst this
        exact ih _ _ _ _ _ _ _ _ h2 h4
      | .inr (.inr (.inr (.inr _))), h, h' => exact h.elim
theorem xX_det {d f pc : Nat} {l : xL} {st : List Value} {S : xS} {r r' : Option Value × xS} (h : xX d f pc l st S r) (h' : xX d f pc l st S r') : r = r' := by
  obtain ⟨n, h⟩ := h
  obtain ⟨m, h'⟩ := h'
  exact xRun_det (max n m) _ _ _ _ _ _ _ _ (xRun_le (Nat.le_max_left _ _) h) (xRun_le (Nat.le_max_right _ _) h')
theorem xX_iff {d f pc : Nat} {l : xL} {st : List Value} {S : xS} {r0 : Option Value × xS} (h : xX d f pc l st S r0) (r : Option Value × xS) : xX d f pc l st S r ↔ r = r0 := ⟨fun h' => xX_det h' h, fun e => e ▸ h⟩
def xAnd : List Prop → Prop → Prop
  | [], P => P
  | g :: t, P => g ∧ xAnd t P
theorem xAnd_congr : ∀ {gs : List Prop} {P Q : Prop}, (P ↔ Q) → (xAnd gs P ↔ xAnd gs Q)
  | [], _, _, h => h
  | _ :: _, _, _, h => and_congr Iff.rfl (xAnd_congr h)
/-- k steps without a call, with their conditions -/
def xsteps (t : Nat → Option xI) (f : Nat) : Nat → Nat → xL → List Value → xS → Option (List Prop × Nat × xL × List Value × xS)
  | 0, pc, l, st, S => some ([], pc, l, st, S)
  | k + 1, pc, l, st, S => match t pc with
    | none => none
    | some q => match xexec f pc (xkeep (xdr f pc) l) st S q with
      | .inl (pc', l', st', S') => xsteps t f k pc' l' st' S'
      | .inr (.inl (G, pc', l', st', S')) => (match xsteps t f k pc' l' st' S' with
        | some (gs, z) => some (G :: gs, z)
        | none => none)
      | _ => none
theorem xX_steps {t : Nat → Option xI} {d f : Nat} {r : Option Value × xS} (ht : ∀ pc, xtab f pc = t pc) : ∀ {k pc : Nat} {l : xL} {st : List Value} {S : xS} {gs : List Prop} {pc' : Nat} {l' : xL} {st' : List Value} {S' : xS}, xsteps t f k pc l st S = some (gs, pc', l', st', S') → (xX d f pc l st S r ↔ xAnd gs (xX d f pc' l' st' S' r)) := by
  intro k
  induction k with
  | zero =>
    intro pc l st S gs pc' l' st' S' h
    cases h
    exact Iff.rfl
  | succ k ih =>
    intro pc l st S gs pc' l' st' S' h
    unfold xsteps at h
    cases hq : t pc with
    | none => rw [hq] at h; cases h
    | some q =>
      rw [hq] at h
      simp only at h
      have hq' : xtab f pc = some q := (ht pc).trans hq
      match hx : xexec f pc (xkeep (xdr f pc) l) st S q, h with
      | .inl (pc1, l1, st1, S1), h => exact (xX_next hq' hx).trans (ih h)
      | .inr (.inl (G, pc1, l1, st1, S1)), h =>
        simp only at h
        cases hs : xsteps t f k pc1 l1 st1 S1 with
        | none => rw [hs] at h; cases h
        | some z =>
          rw [hs] at h
          obtain ⟨gs1, z1⟩ := z
          cases h
          exact (xX_guard hq' hx).trans (and_congr Iff.rfl (ih hs))
      | .inr (.inr (.inl _)), h => cases h
      | .inr (.inr (.inr (.inl _))), h => cases h
      | .inr (.inr (.inr (.inr _))), h => cases h
section XRB
variable {t : Nat → Option xI} {d f k pc : Nat} {l : xL} {st : List Value} {S : xS} {gs : List Prop} {pc' : Nat} {l' : xL} {st' : List Value} {S' : xS} {r : Option Value × xS}
/-- a block that ends at a place -/
theorem xB_go {l2 : xL} (ht : ∀ pc, xtab f pc = t pc) (h : xsteps t f k pc l st S = some (gs, pc', l', st', S')) (hp : xkeep (xdr f pc') l' = l2) : xX d f pc l st S r ↔ xAnd gs (xX d f pc' l2 st' S' r) :=
  (xX_steps ht h).trans (xAnd_congr (xX_pr hp))
/-- a block that ends at a branch -/
theorem xB_if {c : Prop} (hc : Decidable c) {a b : Nat} {la lb : xL} (ht : ∀ pc, xtab f pc = t pc) (h : xsteps t f k pc l st S = some (gs, @ite Nat c hc a b, l', st', S')) (ha : xkeep (xdr f a) l' = la) (hb : xkeep (xdr f b) l' = lb) : xX d f pc l st S r ↔ xAnd gs (@ite Prop c hc (xX d f a la st' S' r) (xX d f b lb st' S' r)) := by
  refine (xX_steps ht h).trans (xAnd_congr ?_)
  by_cases z : c
  · rw [if_pos z, if_pos z]; exact xX_pr ha
  · rw [if_neg z, if_neg z]; exact xX_pr hb
def xSw (x lo : Int32) (P : Nat → Prop) (d : Nat) : List Nat → Prop
  | [] => P d
  | t :: ts => if x = lo then P t else xSw x (lo + 1) P d ts
theorem xSw_eq (x : Int32) (P : Nat → Prop) (d : Nat) : ∀ (ts : List Nat) (lo : Int32), P (xsw x lo d ts) ↔ xSw x lo P d ts
  | [], _ => Iff.rfl
  | t :: ts, lo => by
    unfold xsw xSw
    by_cases z : x = lo
    · rw [if_pos z, if_pos z]
    · rw [if_neg z, if_neg z]; exact xSw_eq x P d ts (lo + 1)
theorem xB_sw {x lo : Int32} {a : Nat} {ts : List Nat} (ht : ∀ pc, xtab f pc = t pc) (h : xsteps t f k pc l st S = some (gs, xsw x lo a ts, l', st', S')) : xX d f pc l st S r ↔ xAnd gs (xSw x lo (fun z => xX d f z (xkeep (xdr f z) l') st' S' r) a ts) := by
  refine (xX_steps ht h).trans (xAnd_congr ?_)
  exact (xX_prune).trans (xSw_eq x (fun z => xX d f z (xkeep (xdr f z) l') st' S' r) a ts lo)
/-- a block that ends with an answer -/
theorem xB_ret {q : xI} {v : Option Value} (ht : ∀ pc, xtab f pc = t pc) (h : xsteps t f k pc l st S = some (gs, pc', l', st', S')) (hq : t pc' = some q) (hx : xexec f pc' (xkeep (xdr f pc') l') st' S' q = xrt True v) : xX d f pc l st S r ↔ xAnd gs (r = (v, S')) :=
  (xX_steps ht h).trans (xAnd_congr ((xX_ret ((ht pc').trans hq) hx).trans (by rw [true_and])))
theorem xB_bit {q : xI} {x : Int32} (ht : ∀ pc, xtab f pc = t pc) (h : xsteps t f k pc l st S = some (gs, pc', l', st', S')) (hq : t pc' = some q) (hx : xexec f pc' (xkeep (xdr f pc') l') st' S' q = xrt (xbit x) (some (.int x))) : xX d f pc l st S r ↔ xAnd gs (xbit x ∧ r = (some (.int x), S')) :=
  (xX_steps ht h).trans (xAnd_congr (xX_ret ((ht pc').trans hq) hx))
/-- a block that ends with a call -/
theorem xB_call {q : xI} {g : Nat} {as rest : List Value} {la : xL} {l2 : xL} (ht : ∀ pc, xtab f pc = t pc) (h : xsteps t f k pc l st S = some (gs, pc', l', st', S')) (hq : t pc' = some q) (hk : xkeep (xdr f pc') l' = l2) (hx : xexec f pc' l2 st' S' q = xca g as rest) (ha : xargs 0 as = la) : xX (d + 1) f pc l st S r ↔ xAnd gs (∃ r1, xX d g 0 la [] S' r1 ∧ xX (d + 1) f (pc' + 3) l2 (r1.1.toList ++ rest) r1.2 r) := by
  subst hk; subst ha
  exact (xX_steps ht h).trans (xAnd_congr (xX_call ((ht pc').trans hq) hx))
/-- a loop: its states one behind the other -/
theorem xX_loop (s : Nat → xL × xS) (N : Nat) (h : ∀ j, j < N → ∀ r, (xX d f pc (s j).1 st (s j).2 r ↔ xX d f pc (s (j + 1)).1 st (s (j + 1)).2 r)) : ∀ r, xX d f pc (s 0).1 st (s 0).2 r ↔ xX d f pc (s N).1 st (s N).2 r := by
  intro r
  induction N with
  | zero => exact Iff.rfl
  | succ N ih => exact (ih (fun j hj => h j (Nat.lt_succ_of_lt hj))).trans (h N (Nat.lt_succ_self N) r)
end XRB
