/-! one instruction over a world of numbers: what comes next -/
abbrev xS : Type := (Nat → Nat → Int32) × (Nat → Nat → Int64) × Nat
abbrev xL : Type := List (Nat × Value)
abbrev xR : Type := (Nat × xL × List Value × xS) ⊕ (Prop × Nat × xL × List Value × xS) ⊕ (Prop × Option Value) ⊕ (Nat × List Value × List Value) ⊕ Unit
def xdel : xL → Nat → xL
  | [], _ => []
  | q :: t, i => bif Nat.beq q.1 i then xdel t i else q :: xdel t i
def xput : xL → Nat → Value → xL
  | [], i, v => [(i, v)]
  | q :: t, i, v => bif Nat.beq q.1 i then (i, v) :: xdel t i else bif Nat.blt i q.1 then (i, v) :: q :: xdel t i else q :: xput t i v
def xget : xL → Nat → Value
  | [], _ => .null
  | q :: t, i => bif Nat.beq q.1 i then q.2 else xget t i
/-- no long stands in or just ahead of a place -/
def xclear : xL → Nat → Bool
  | [], _ => true
  | q :: t, i => (match q.2 with | .long _ => !(Nat.beq (q.1 + 1) i) | .double _ => false | _ => true) && xclear t i
def xwI (S : xS) (c k : Nat) (v : Int32) : xS := (fun a b => if a = c then (if b = k then v else S.1 a b) else S.1 a b, S.2.1, S.2.2)
def xwJ (S : xS) (c k : Nat) (v : Int64) : xS := (S.1, fun a b => if a = c then (if b = k then v else S.2.1 a b) else S.2.1 a b, S.2.2)
def xcI (S : xS) (c0 sp c1 dp n : Nat) : xS := (fun a b => if a = c1 then va_cpy (S.1 c0) (S.1 c1) sp dp n b else S.1 a b, S.2.1, S.2.2)
def xcJ (S : xS) (c0 sp c1 dp n : Nat) : xS := (S.1, fun a b => if a = c1 then va_cpy (S.2.1 c0) (S.2.1 c1) sp dp n b else S.2.1 a b, S.2.2)
abbrev xnx (pc : Nat) (l : xL) (st : List Value) (S : xS) : xR := .inl (pc, l, st, S)
abbrev xng (G : Prop) (pc : Nat) (l : xL) (st : List Value) (S : xS) : xR := .inr (.inl (G, pc, l, st, S))
abbrev xrt (G : Prop) (v : Option Value) : xR := .inr (.inr (.inl (G, v)))
abbrev xca (f : Nat) (as rest : List Value) : xR := .inr (.inr (.inr (.inl (f, as, rest))))
abbrev xno : xR := .inr (.inr (.inr (.inr ())))
def xlen (c kd : Nat) : Option Nat := bif Nat.blt c xNC then (match xsh c with | .inr (k, n, _) => bif Nat.beq k kd then some n else none | _ => none) else none
def xfl (c ci k : Nat) : Option (Option Nat) := bif Nat.blt c xNC then (match xsh c with | .inl (d, fl) => bif Nat.beq d ci then fl[k]? else none | _ => none) else none
def xcl (c : Nat) : Option Nat := bif Nat.blt c xNC then (match xsh c with | .inl (d, _) => some d | _ => none) else none
def xbr (c : Jvm.ClassFile.Cond) (x y : Int32) (a b : Nat) : Nat := match c with
  | .eq => if x = y then a else b
  | .ne => if x = y then b else a
  | .lt => if x < y then a else b
  | .ge => if x < y then b else a
  | .gt => if y < x then a else b
  | .le => if y < x then b else a
def xsw (x lo : Int32) (d : Nat) : List Nat → Nat
  | [] => d
  | t :: ts => if x = lo then t else xsw x (lo + 1) d ts
def xcat : List Value → Nat
  | [] => 0
  | .long _ :: t => 2 + xcat t
  | .double _ :: t => 2 + xcat t
  | _ :: t => 1 + xcat t
def xbit (x : Int32) : Prop := x = 0 ∨ x = 1
def xcok (b : Nat) (st : List Value) : Bool := !(Nat.beq b 0) && (Nat.blt b 180 && (Nat.ble (xnar b) st.length && (Nat.ble (xcat (st.drop (xnar b))) 8 && Nat.ble (xcat (st.take (xnar b)).reverse) (xml b))))
def xcall (b : Nat) (st : List Value) : xR := bif xcok b st then
    (bif xst b then xca b (st.take (xnar b)).reverse (st.drop (xnar b)) else
      match (st.take (xnar b)).reverse with
      | .ref c :: as => (match xcl c with | some d => bif Nat.beq d (xmo b) then xca b (.ref c :: as) (st.drop (xnar b)) else xno | none => xno)
      | _ => xno) else xno
theorem xcall_spec (b : Nat) (st : List Value) : xcall b st = xno ∨ ∃ as, xcall b st = xca b as (st.drop (xnar b)) ∧ (st.take (xnar b)).reverse = as ∧ b ≠ 0 ∧ b < 180 ∧ xnar b ≤ st.length ∧ xcat (st.drop (xnar b)) ≤ 8 ∧ xcat as ≤ xml b ∧ (xst b = false → ∃ c t, as = .ref c :: t ∧ xcl c = some (xmo b)) := by
  unfold xcall
  cases hB : xcok b st with
  | false => exact Or.inl rfl
  | true =>
    unfold xcok at hB
    simp only [Bool.and_eq_true, Bool.not_eq_true'] at hB
    obtain ⟨h1, h2, h3, h4, h5⟩ := hB
    have g1 : b ≠ 0 := fun z => by rw [z] at h1; cases h1
    have g2 := Nat.le_of_ble_eq_true h2
    have g3 := Nat.le_of_ble_eq_true h3
    have g4 := Nat.le_of_ble_eq_true h4
    have g5 := Nat.le_of_ble_eq_true h5
    simp only [cond_true]
    cases hs : xst b with
    | true => exact Or.inr ⟨_, rfl, rfl, g1, g2, g3, g4, g5, fun z => by cases z⟩
    | false =>
      simp only [cond_false]
      match hr : (st.take (xnar b)).reverse with
      | .ref c :: as =>
        simp only []
        cases hc : xcl c with
        | none => exact Or.inl rfl
        | some d =>
          simp only []
          cases hd : Nat.beq d (xmo b) with
          | false => exact Or.inl rfl
          | true =>
            cases Nat.eq_of_beq_eq_true hd
            rw [hr] at g5
            exact Or.inr ⟨_, rfl, rfl, g1, g2, g3, g4, g5, fun _ => ⟨c, as, rfl, hc⟩⟩
      | [] => exact Or.inl rfl
      | .int _ :: _ => exact Or.inl rfl
      | .long _ :: _ => exact Or.inl rfl
      | .float _ :: _ => exact Or.inl rfl
      | .double _ :: _ => exact Or.inl rfl
      | .null :: _ => exact Or.inl rfl
      | .retAddr _ :: _ => exact Or.inl rfl
def xexec (f pc : Nat) (l : xL) (st : List Value) (S : xS) (q : xI) : xR := match q with
  | (ins, ln, a, b, v, ts) => match ins with
    | .iconst _ => xnx (pc + 1) l (.int v :: st) S
    | .bipush _ => xnx (pc + 2) l (.int v :: st) S
    | .sipush _ => xnx (pc + 3) l (.int v :: st) S
    | .ldc _ => xnx (pc + 2) l (.int v :: st) S
    | .ldc2_w _ => bif Nat.beq f 0 then xnx (pc + 3) l (.long 4294967295 :: st) S else xno
    | .lconst n => xnx (pc + 1) l (.long (Int64.ofNat n.val) :: st) S
    | .iload_n _ => (match xget l a with | .int x => xnx (pc + 1) l (.int x :: st) S | _ => xno)
    | .iload _ => (match xget l a with | .int x => xnx (pc + 2) l (.int x :: st) S | _ => xno)
    | .lload_n _ => (match xget l a with | .long x => xnx (pc + 1) l (.long x :: st) S | _ => xno)
    | .lload _ => (match xget l a with | .long x => xnx (pc + 2) l (.long x :: st) S | _ => xno)
    | .aload_n _ => (match xget l a with | .ref x => xnx (pc + 1) l (.ref x :: st) S | _ => xno)
    | .aload _ => (match xget l a with | .ref x => xnx (pc + 2) l (.ref x :: st) S | _ => xno)
    | .istore_n _ => (match st with | .int x :: t => bif xclear l a then xnx (pc + 1) (xput l a (.int x)) t S else xno | _ => xno)
    | .istore _ => (match st with | .int x :: t => bif xclear l a then xnx (pc + 2) (xput l a (.int x)) t S else xno | _ => xno)
    | .iinc _ _ => (match xget l a with | .int x => bif xclear l a then xnx (pc + 3) (xput l a (.int (x + v))) st S else xno | _ => xno)
    | .iadd => (match st with | .int y :: .int x :: t => xnx (pc + 1) l (.int (x + y) :: t) S | _ => xno)
    | .isub => (match st with | .int y :: .int x :: t => xnx (pc + 1) l (.int (x - y) :: t) S | _ => xno)
    | .imul => (match st with | .int y :: .int x :: t => xnx (pc + 1) l (.int (x * y) :: t) S | _ => xno)
    | .iand => (match st with | .int y :: .int x :: t => xnx (pc + 1) l (.int (x &&& y) :: t) S | _ => xno)
    | .ineg => (match st with | .int x :: t => xnx (pc + 1) l (.int (-x) :: t) S | _ => xno)
    | .idiv => (match st with | .int y :: .int x :: t => xng (¬ y = 0) (pc + 1) l (.int (x / y) :: t) S | _ => xno)
    | .irem => (match st with | .int y :: .int x :: t => xng (¬ y = 0) (pc + 1) l (.int (x - x / y * y) :: t) S | _ => xno)
    | .ladd => (match st with | .long y :: .long x :: t => xnx (pc + 1) l (.long (x + y) :: t) S | _ => xno)
    | .land => (match st with | .long y :: .long x :: t => xnx (pc + 1) l (.long (x &&& y) :: t) S | _ => xno)
    | .lor => (match st with | .long y :: .long x :: t => xnx (pc + 1) l (.long (x ||| y) :: t) S | _ => xno)
    | .lshl => (match st with | .int y :: .long x :: t => xnx (pc + 1) l (.long (x <<< (y.toInt64 &&& 63)) :: t) S | _ => xno)
    | .lcmp => (match st with | .long y :: .long x :: t => xnx (pc + 1) l (.int (lg_cmp x y) :: t) S | _ => xno)
    | .i2l => (match st with | .int x :: t => xnx (pc + 1) l (.long x.toInt64 :: t) S | _ => xno)
    | .l2i => (match st with | .long x :: t => xnx (pc + 1) l (.int x.toInt32 :: t) S | _ => xno)
    | .i2b => (match st with | .int x :: t => xnx (pc + 1) l (.int x.toInt8.toInt32 :: t) S | _ => xno)
    | .i2s => (match st with | .int x :: t => xnx (pc + 1) l (.int x.toInt16.toInt32 :: t) S | _ => xno)
    | .dup => (match st with | .int x :: t => xnx (pc + 1) l (.int x :: .int x :: t) S | .ref x :: t => xnx (pc + 1) l (.ref x :: .ref x :: t) S | _ => xno)
    | .dup_x1 => (match st with | .int x :: .ref y :: t => xnx (pc + 1) l (.int x :: .ref y :: .int x :: t) S | .int x :: .int y :: t => xnx (pc + 1) l (.int x :: .int y :: .int x :: t) S | _ => xno)
    | .dup2 => (match st with | .int x :: .ref y :: t => xnx (pc + 1) l (.int x :: .ref y :: .int x :: .ref y :: t) S | _ => xno)
    | .getfield _ => (match st with
      | .ref c :: t => (match xfl c a b with | some none => xnx (pc + 3) l (.int (S.1 c b) :: t) S | some (some r) => xnx (pc + 3) l (.ref r :: t) S | none => xno)
      | _ => xno)
    | .putfield _ => (match st with
      | .int x :: .ref c :: t => (match xfl c a b with | some none => bif xbool a b then xng (xbit x) (pc + 3) l t (xwI S c b x) else xnx (pc + 3) l t (xwI S c b x) | _ => xno)
      | _ => xno)
    | .iaload => (match st with
      | .int i :: .ref c :: t => bif Nat.beq c 999 then (bif Nat.beq f 0 then xng (vp_in i S.2.2) (pc + 1) l (.int (S.1 999 i.toNatClampNeg) :: t) S else xno) else (match xlen c 0 with | some n => xng (vp_in i n) (pc + 1) l (.int (S.1 c i.toNatClampNeg) :: t) S | none => xno)
      | _ => xno)
    | .baload => (match st with
      | .int i :: .ref c :: t => (match xlen c 1 with | some n => xng (vp_in i n) (pc + 1) l (.int (S.1 c i.toNatClampNeg) :: t) S | none => xno)
      | _ => xno)
    | .laload => (match st with
      | .int i :: .ref c :: t => (match xlen c 2 with | some n => xng (vp_in i n) (pc + 1) l (.long (S.2.1 c i.toNatClampNeg) :: t) S | none => xno)
      | .int i :: .retAddr j :: t => xng (j < 8 ∧ vp_in i 60) (pc + 1) l (.long (S.2.1 (xrb + j) i.toNatClampNeg) :: t) S
      | _ => xno)
    | .aaload => (match st with
      | .int i :: .ref c :: t => bif Nat.beq c 31 then xng (vp_in i 8) (pc + 1) l (.retAddr i.toNatClampNeg :: t) S else xno
      | _ => xno)
    | .iastore => (match st with
      | .int x :: .int i :: .ref c :: t => (match xlen c 0 with | some n => xng (vp_in i n) (pc + 1) l t (xwI S c i.toNatClampNeg x) | none => xno)
      | _ => xno)
    | .bastore => (match st with
      | .int x :: .int i :: .ref c :: t => (match xlen c 1 with | some n => xng (xbit x ∧ vp_in i n) (pc + 1) l t (xwI S c i.toNatClampNeg x) | none => xno)
      | _ => xno)
    | .lastore => (match st with
      | .long x :: .int i :: .ref c :: t => (match xlen c 2 with | some n => xng (vp_in i n) (pc + 1) l t (xwJ S c i.toNatClampNeg x) | none => xno)
      | .long x :: .int i :: .retAddr j :: t => xng (j < 8 ∧ vp_in i 60) (pc + 1) l t (xwJ S (xrb + j) i.toNatClampNeg x)
      | _ => xno)
    | .arraylength => (match st with
      | .ref c :: t => bif Nat.beq c 999 then (bif Nat.beq f 0 then xnx (pc + 1) l (.int (Int32.ofNat S.2.2) :: t) S else xno) else (match xlen c 0 with | some n => xnx (pc + 1) l (.int (Int32.ofNat n) :: t) S | none => (match xlen c 1 with | some n => xnx (pc + 1) l (.int (Int32.ofNat n) :: t) S | none => xno))
      | _ => xno)
    | .ifCond c _ => (match st with | .int x :: t => xnx (xbr c x 0 a (pc + 3)) l t S | _ => xno)
    | .if_icmp c _ => (match st with | .int y :: .int x :: t => xnx (xbr c x y a (pc + 3)) l t S | _ => xno)
    | .goto _ => xnx a l st S
    | .tableswitch _ _ _ _ => (match st with | .int x :: t => xnx (xsw x v a ts) l t S | _ => xno)
    | .invokevirtual _ => xcall b st
    | .invokestatic _ => bif Nat.beq a 3 then (match st with
        | .int n :: .int dp :: .ref c1 :: .int sp :: .ref c0 :: t => (match xlen c0 0, xlen c1 0 with
          | some n0, some n1 => bif Nat.ble (xcat t) 8 then xng (¬ sp < 0 ∧ ¬ dp < 0 ∧ ¬ n < 0 ∧ sp.toNatClampNeg + n.toNatClampNeg ≤ n0 ∧ dp.toNatClampNeg + n.toNatClampNeg ≤ n1) (pc + 3) l t (xcI S c0 sp.toNatClampNeg c1 dp.toNatClampNeg n.toNatClampNeg) else xno
          | _, _ => xno)
        | .int n :: .int dp :: .retAddr j1 :: .int sp :: .retAddr j0 :: t => bif Nat.ble (xcat t) 8 then xng (j0 < 8 ∧ j1 < 8 ∧ ¬ sp < 0 ∧ ¬ dp < 0 ∧ ¬ n < 0 ∧ sp.toNatClampNeg + n.toNatClampNeg ≤ 60 ∧ dp.toNatClampNeg + n.toNatClampNeg ≤ 60) (pc + 3) l t (xcJ S (xrb + j0) sp.toNatClampNeg (xrb + j1) dp.toNatClampNeg n.toNatClampNeg) else xno
        | _ => xno)
      else bif Nat.beq a 4 then (match st with | .int x :: t => bif Nat.ble (xcat t) 8 then xnx (pc + 3) l (.int (if 0 ≤ x then x else 0 - x) :: t) S else xno | _ => xno)
      else bif Nat.beq a 5 then (match st with | .int y :: .int x :: t => bif Nat.ble (xcat t) 8 then xnx (pc + 3) l (.int (if x < y then y else x) :: t) S else xno | _ => xno)
      else bif Nat.beq a 6 then (match st with | .int y :: .int x :: t => bif Nat.ble (xcat t) 8 then xnx (pc + 3) l (.int (if y < x then y else x) :: t) S else xno | _ => xno)
      else xcall b st
    | .ireturn => (match st with | [.int x] => bif Nat.beq a 1 then xrt (xbit x) (some (.int x)) else xrt True (some (.int x)) | _ => xno)
    | .lreturn => (match st with | [.long x] => xrt True (some (.long x)) | _ => xno)
    | .return_ => (match st with | [] => xrt True none | _ => xno)
    | _ => xno
def xtab (f pc : Nat) : Option xI := match xms[f]? with
  | some md => md.2.2.2 pc
  | none => none
def xargs : Nat → List Value → xL
  | _, [] => []
  | i, v :: t => (i, v) :: xargs (match v with | .long _ => i + 2 | .double _ => i + 2 | _ => i + 1) t
/-- a run: at most n steps, at most d calls deep -/
def xRun : Nat → Nat → Nat → Nat → xL → List Value → xS → Option Value × xS → Prop
  | 0, _, _, _, _, _, _, _ => False
  | n + 1, d, f, pc, l, st, S, r => match xtab f pc with
    | none => False
    | some q => match xexec f pc l st S q with
      | .inl (pc', l', st', S') => xRun n d f pc' l' st' S' r
      | .inr (.inl (G, pc', l', st', S')) => G ∧ xRun n d f pc' l' st' S' r
      | .inr (.inr (.inl (G, v))) => G ∧ r = (v, S)
      | .inr (.inr (.inr (.inl (g, as, rest)))) => ∃ (d' : Nat) (r1 : Option Value × xS), d = d' + 1 ∧ xRun n d' g 0 (xargs 0 as) [] S r1 ∧ xRun n d f (pc + 3) l (r1.1.toList ++ rest) r1.2 r
      | .inr (.inr (.inr (.inr _))) => False
theorem xRun_mono : ∀ (n d f pc : Nat) (l : xL) (st : List Value) (S : xS) (r : Option Value × xS), xRun n d f pc l st S r → xRun (n + 1) d f pc l st S r := by
  intro n
  induction n with
  | zero => intro d f pc l st S r h; exact h.elim
  | succ n ih =>
    intro d f pc l st S r h
    unfold xRun at h ⊢
    cases hq : xtab f pc with
    | none => rw [hq] at h; exact h
    | some q =>
      rw [hq] at h
      simp only at h ⊢
      generalize xexec f pc l st S q = R at h ⊢
      match R, h with
      | .inl (pc', l', st', S'), h => exact ih _ _ _ _ _ _ _ h
      | .inr (.inl (G, pc', l', st', S')), h => exact ⟨h.1, ih _ _ _ _ _ _ _ h.2⟩
      | .inr (.inr (.inl (G, v))), h => exact h
      | .inr (.inr (.inr (.inl (g, as, rest)))), h =>
        obtain ⟨d', r1, e, h1, h2⟩ := h
        exact ⟨d', r1, e, ih _ _ _ _ _ _ _ h1, ih _ _ _ _ _ _ _ h2⟩
      | .inr (.inr (.inr (.inr _))), h => exact h
theorem xRun_le {n n' d f pc : Nat} {l : xL} {st : List Value} {S : xS} {r : Option Value × xS} (hn : n ≤ n') (h : xRun n d f pc l st S r) : xRun n' d f pc l st S r := by
  induction hn with
  | refl => exact h
  | step _ ih => exact xRun_mono _ _ _ _ _ _ _ _ ih
def xX (d f pc : Nat) (l : xL) (st : List Value) (S : xS) (r : Option Value × xS) : Prop := ∃ n, xRun n d f pc l st S r
