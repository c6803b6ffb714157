/-! A SMALL MACHINE of our own: references are numbers of cells, counted from the law's start; a static table (and the script) is written .float i; a variable that holds nothing yet is written .null. One step, calls and ends apart; then a run with fuel. -/
abbrev mc_C : Type := (Nat × Nat × (Nat → Int32)) ⊕ (Nat × Nat × (Nat → Option Nat)) ⊕ (Nat × List Value)
abbrev mc_H : Type := List mc_C
abbrev mc_R : Type := Option (Option Value × mc_H)
abbrev mc_K : Type := Nat → Nat → List Value → List Value → mc_H → mc_R
/-- the tables: how long, what they hold -/
abbrev mc_X : Type := Nat → Nat × (Nat → Int32)
/-- what one step comes to: a next place of the same frame; a call (method, its variables, the stack below); an end -/
abbrev mc_S : Type := (Nat × List Value × List Value × mc_H) ⊕ (Nat × List Value × List Value) ⊕ Option Value
def mc_ty (ci j : Nat) : FieldType := match ci with
  | 0 => tyX0 j
  | 1 => tyX1 j
  | 2 => tyX2 j
  | 3 => tyX3 j
  | 4 => tyX4 j
  | 5 => tyX5 j
  | 6 => tyX6 j
  | 7 => tyX7 j
  | _ => tyX8 j
/-- a new object's fields -/
def mc_df (ci : Nat) : List Value := match ci with
  | 0 => [.int 0, .int 0, .int 0, .int 0, .int 0, .int 0, .null, .null, .null, .null]
  | 1 => [.null, .int 0, .int 0]
  | 2 => [.null, .int 0, .int 0, .int 0, .int 0, .int 0]
  | 3 => [.null, .null]
  | 4 => [.null, .null]
  | 5 => [.int 0, .int 0, .int 0, .null, .null]
  | 6 => [.int 0, .int 0, .null, .null]
  | 7 => [.null, .null, .null, .null, .null, .long 0, .int 0]
  | _ => [.int 0, .int 0, .long 0, .int 0, .int 0, .null, .null, .null, .null, .null, .null, .int 0, .null, .null, .null, .null, .null, .null, .null, .null]
def mc_getf (G : mc_H) (k ci j : Nat) : Option Value := match G[k]? with
  | some (.inr (.inr (c, fs))) => if c = ci then fs[j]? else none
  | _ => none
def mc_fit (ty : FieldType) (v : Value) : Bool := match ty, v with
  | .int, .int _ => true
  | .boolean, .int x => x == 0 || x == 1
  | .long, .long _ => true
  | .object _, .ref _ => true
  | .array _, .ref _ => true
  | _, _ => false
def mc_setf (G : mc_H) (k ci j : Nat) (v : Value) : Option mc_H := match G[k]? with
  | some (.inr (.inr (c, fs))) => if c = ci ∧ j < fs.length ∧ mc_fit (mc_ty ci j) v = true then some (G.set k (.inr (.inr (c, fs.set j v)))) else none
  | _ => none
/-- a number of an array (t: 0 int, 1 boolean) or of a table -/
def mc_getA (X : mc_X) (G : mc_H) (t : Nat) (r : Value) (i : Int32) : Option Int32 := match r with
  | .ref k => match G[k]? with
    | some (.inl (t', n, f)) => if t' = t ∧ ¬ (i < 0 ∨ n ≤ i.toNatClampNeg) then some (f i.toNatClampNeg) else none
    | _ => none
  | .float w => if t = 0 ∧ w.toNat < 4 ∧ ¬ (i < 0 ∨ (X w.toNat).1 ≤ i.toNatClampNeg) then some ((X w.toNat).2 i.toNatClampNeg) else none
  | _ => none
def mc_setA (G : mc_H) (t k : Nat) (i x : Int32) : Option mc_H := match G[k]? with
  | some (.inl (t', n, f)) => if t' = t ∧ ¬ (i < 0 ∨ n ≤ i.toNatClampNeg) then some (G.set k (.inl (t', n, upd f i.toNatClampNeg x))) else none
  | _ => none
def mc_len (X : mc_X) (G : mc_H) (r : Value) : Option Int32 := match r with
  | .ref k => match G[k]? with
    | some (.inl (t', n, _)) => if t' = 0 then some (Int32.ofNat n) else none
    | _ => none
  | .float w => if w.toNat < 4 then some (Int32.ofNat (X w.toNat).1) else none
  | _ => none
def mc_getQ (G : mc_H) (k : Nat) (i : Int32) : Option Nat := match G[k]? with
  | some (.inr (.inl (t, n, f))) => if (t = 2 ∨ t = 3) ∧ ¬ (i < 0 ∨ n ≤ i.toNatClampNeg) then f i.toNatClampNeg else none
  | _ => none
def mc_cls (G : mc_H) (k : Nat) : Option Nat := match G[k]? with
  | some (.inr (.inr (c, _))) => some c
  | _ => none
def mc_setQ (G : mc_H) (k : Nat) (i : Int32) (v : Nat) : Option mc_H := match G[k]? with
  | some (.inr (.inl (t, n, f))) => if ((t = 2 ∧ mc_cls G v = some 5) ∨ (t = 3 ∧ mc_cls G v = some 6)) ∧ ¬ (i < 0 ∨ n ≤ i.toNatClampNeg) then some (G.set k (.inr (.inl (t, n, va_up f i.toNatClampNeg (some v))))) else none
  | _ => none
def mc_cpy (G : mc_H) (a0 a : Nat) (sp dp n : Int32) : Option mc_H := match G[a0]?, G[a]? with
  | some (.inl (t0, n0, f)), some (.inl (t1, n1, g)) =>
    if t0 = 0 ∧ t1 = 0 ∧ ¬ sp < 0 ∧ ¬ dp < 0 ∧ ¬ n < 0 ∧ sp.toNatClampNeg + n.toNatClampNeg ≤ n0 ∧ dp.toNatClampNeg + n.toNatClampNeg ≤ n1 then
      some (G.set a (.inl (t1, n1, va_cpy f g sp.toNatClampNeg dp.toNatClampNeg n.toNatClampNeg))) else none
  | _, _ => none
def mc_tgt (pc : Nat) (off : Int) : Nat := ((pc : Int) + off).toNat
/-- the variables at a call -/
def mc_pad (n : Nat) (vs : List Value) : List Value := vs ++ List.replicate (n - vs.length) .null
/-- all of one word -/
def mc_c1 (vs : List Value) : Bool := vs.all (fun v => v.category == 1)
/-- one step at an instruction -/
def mc_ex (X : mc_X) (mi pc : Nat) (E : mc_E) (ls st : List Value) (G : mc_H) : Option mc_S := match E.1 with
  | .iconst n => some (.inl (pc + 1, ls, .int (Int32.ofInt n) :: st, G))
  | .bipush n => some (.inl (pc + 2, ls, .int (Int8.ofInt n).toInt32 :: st, G))
  | .sipush n => some (.inl (pc + 3, ls, .int (Int16.ofInt n).toInt32 :: st, G))
  | .lconst n => some (.inl (pc + 1, ls, .long (Int64.ofNat (n : Nat)) :: st, G))
  | .ldc _ => some (.inl (pc + 2, ls, .int (Int32.ofInt E.2.2.2.2.2) :: st, G))
  | .ldc_w _ => some (.inl (pc + 3, ls, .int (Int32.ofInt E.2.2.2.2.2) :: st, G))
  | .ldc2_w _ => some (.inl (pc + 3, ls, .long (Int64.ofInt E.2.2.2.2.2) :: st, G))
  | .iload_n k => match ls[(k : Nat)]? with
    | some (.int x) => some (.inl (pc + 1, ls, .int x :: st, G))
    | _ => none
  | .iload k => match ls[k]? with
    | some (.int x) => some (.inl (pc + 2, ls, .int x :: st, G))
    | _ => none
  | .aload_n k => match ls[(k : Nat)]? with
    | some (.ref x) => some (.inl (pc + 1, ls, .ref x :: st, G))
    | some (.float x) => some (.inl (pc + 1, ls, .float x :: st, G))
    | _ => none
  | .aload k => match ls[k]? with
    | some (.ref x) => some (.inl (pc + 2, ls, .ref x :: st, G))
    | some (.float x) => some (.inl (pc + 2, ls, .float x :: st, G))
    | _ => none
  | .istore_n k => match st with
    | .int x :: st => if (k : Nat) < ls.length then some (.inl (pc + 1, ls.set k (.int x), st, G)) else none
    | _ => none
  | .istore k => match st with
    | .int x :: st => if k < ls.length then some (.inl (pc + 2, ls.set k (.int x), st, G)) else none
    | _ => none
  | .astore_n k => match st with
    | .ref x :: st => if (k : Nat) < ls.length then some (.inl (pc + 1, ls.set k (.ref x), st, G)) else none
    | _ => none
  | .astore k => match st with
    | .ref x :: st => if k < ls.length then some (.inl (pc + 2, ls.set k (.ref x), st, G)) else none
    | _ => none
  | .iinc k n => match ls[k]? with
    | some (.int x) => some (.inl (pc + 3, ls.set k (.int (x + Int32.ofInt n)), st, G))
    | _ => none
  | .iadd => match st with
    | .int y :: .int x :: st => some (.inl (pc + 1, ls, .int (x + y) :: st, G))
    | _ => none
  | .isub => match st with
    | .int y :: .int x :: st => some (.inl (pc + 1, ls, .int (x - y) :: st, G))
    | _ => none
  | .imul => match st with
    | .int y :: .int x :: st => some (.inl (pc + 1, ls, .int (x * y) :: st, G))
    | _ => none
  | .iand => match st with
    | .int y :: .int x :: st => some (.inl (pc + 1, ls, .int (x &&& y) :: st, G))
    | _ => none
  | .ior => match st with
    | .int y :: .int x :: st => some (.inl (pc + 1, ls, .int (x ||| y) :: st, G))
    | _ => none
  | .ixor => match st with
    | .int y :: .int x :: st => some (.inl (pc + 1, ls, .int (x ^^^ y) :: st, G))
    | _ => none
  | .idiv => match st with
    | .int y :: .int x :: st => if y = 0 then none else some (.inl (pc + 1, ls, .int (x / y) :: st, G))
    | _ => none
  | .irem => match st with
    | .int y :: .int x :: st => if y = 0 then none else some (.inl (pc + 1, ls, .int (x - x / y * y) :: st, G))
    | _ => none
  | .ineg => match st with
    | .int x :: st => some (.inl (pc + 1, ls, .int (-x) :: st, G))
    | _ => none
  | .ishl => match st with
    | .int y :: .int x :: st => some (.inl (pc + 1, ls, .int (x <<< (y &&& 31)) :: st, G))
    | _ => none
  | .ishr => match st with
    | .int y :: .int x :: st => some (.inl (pc + 1, ls, .int (x >>> (y &&& 31)) :: st, G))
    | _ => none
  | .iushr => match st with
    | .int y :: .int x :: st => some (.inl (pc + 1, ls, .int ((x.toUInt32 >>> (y.toUInt32 &&& Int32.toUInt32 31)).toInt32) :: st, G))
    | _ => none
  | .i2l => match st with
    | .int x :: st => some (.inl (pc + 1, ls, .long x.toInt64 :: st, G))
    | _ => none
  | .i2b => match st with
    | .int x :: st => some (.inl (pc + 1, ls, .int x.toInt8.toInt32 :: st, G))
    | _ => none
  | .i2s => match st with
    | .int x :: st => some (.inl (pc + 1, ls, .int x.toInt16.toInt32 :: st, G))
    | _ => none
  | .ladd => match st with
    | .long y :: .long x :: st => some (.inl (pc + 1, ls, .long (x + y) :: st, G))
    | _ => none
  | .lcmp => match st with
    | .long y :: .long x :: st => some (.inl (pc + 1, ls, .int (lg_cmp x y) :: st, G))
    | _ => none
  | .dup => match st with
    | v :: st => if v.category = 1 then some (.inl (pc + 1, ls, v :: v :: st, G)) else none
    | _ => none
  | .ifCond c off => match st with
    | .int x :: st => match c with
      | .eq => if x = 0 then some (.inl (mc_tgt pc off, ls, st, G)) else some (.inl (pc + 3, ls, st, G))
      | .ne => if x = 0 then some (.inl (pc + 3, ls, st, G)) else some (.inl (mc_tgt pc off, ls, st, G))
      | .lt => if x < 0 then some (.inl (mc_tgt pc off, ls, st, G)) else some (.inl (pc + 3, ls, st, G))
      | .ge => if x < 0 then some (.inl (pc + 3, ls, st, G)) else some (.inl (mc_tgt pc off, ls, st, G))
      | .gt => if 0 < x then some (.inl (mc_tgt pc off, ls, st, G)) else some (.inl (pc + 3, ls, st, G))
      | .le => if 0 < x then some (.inl (pc + 3, ls, st, G)) else some (.inl (mc_tgt pc off, ls, st, G))
    | _ => none
  | .if_icmp c off => match st with
    | .int y :: .int x :: st => match c with
      | .eq => if x = y then some (.inl (mc_tgt pc off, ls, st, G)) else some (.inl (pc + 3, ls, st, G))
      | .ne => if x = y then some (.inl (pc + 3, ls, st, G)) else some (.inl (mc_tgt pc off, ls, st, G))
      | .lt => if x < y then some (.inl (mc_tgt pc off, ls, st, G)) else some (.inl (pc + 3, ls, st, G))
      | .ge => if x < y then some (.inl (pc + 3, ls, st, G)) else some (.inl (mc_tgt pc off, ls, st, G))
      | .gt => if y < x then some (.inl (mc_tgt pc off, ls, st, G)) else some (.inl (pc + 3, ls, st, G))
      | .le => if y < x then some (.inl (pc + 3, ls, st, G)) else some (.inl (mc_tgt pc off, ls, st, G))
    | _ => none
  | .goto off => some (.inl (mc_tgt pc off, ls, st, G))
  | .tableswitch d lo hi offs => match st with
    | .int x :: st => if x.toInt < lo ∨ hi < x.toInt then some (.inl (mc_tgt pc d, ls, st, G)) else
      match offs[(x.toInt - lo).toNat]? with
      | some off => if 0 ≤ (pc : Int) + off then some (.inl (mc_tgt pc off, ls, st, G)) else none
      | none => none
    | _ => none
  | .lookupswitch d ps => match st with
    | .int x :: st => if 0 ≤ (pc : Int) + Op.lookupswitch.offset ps.toList d x.toInt then some (.inl (mc_tgt pc (Op.lookupswitch.offset ps.toList d x.toInt), ls, st, G)) else none
    | _ => none
  | .getfield _ => match st with
    | .ref k :: st => match mc_getf G k E.2.2.1 E.2.2.2.1 with
      | some v => some (.inl (pc + 3, ls, v :: st, G))
      | none => none
    | _ => none
  | .putfield _ => match st with
    | v :: .ref k :: st => match mc_setf G k E.2.2.1 E.2.2.2.1 v with
      | some G' => some (.inl (pc + 3, ls, st, G'))
      | none => none
    | _ => none
  | .getstatic _ => some (.inl (pc + 3, ls, .float (UInt32.ofNat E.2.2.1) :: st, G))
  | .iaload => match st with
    | .int i :: r :: st => match mc_getA X G 0 r i with
      | some x => some (.inl (pc + 1, ls, .int x :: st, G))
      | none => none
    | _ => none
  | .baload => match st with
    | .int i :: r :: st => match mc_getA X G 1 r i with
      | some x => some (.inl (pc + 1, ls, .int x :: st, G))
      | none => none
    | _ => none
  | .iastore => match st with
    | .int x :: .int i :: .ref k :: st => match mc_setA G 0 k i x with
      | some G' => some (.inl (pc + 1, ls, st, G'))
      | none => none
    | _ => none
  | .bastore => match st with
    | .int x :: .int i :: .ref k :: st => match mc_setA G 1 k i (vp_nar .boolean x) with
      | some G' => some (.inl (pc + 1, ls, st, G'))
      | none => none
    | _ => none
  | .arraylength => match st with
    | r :: st => match mc_len X G r with
      | some n => some (.inl (pc + 1, ls, .int n :: st, G))
      | none => none
    | _ => none
  | .aaload => match st with
    | .int i :: .ref k :: st => match mc_getQ G k i with
      | some x => some (.inl (pc + 1, ls, .ref x :: st, G))
      | none => none
    | _ => none
  | .aastore => match st with
    | .ref v :: .int i :: .ref k :: st => match mc_setQ G k i v with
      | some G' => some (.inl (pc + 1, ls, st, G'))
      | none => none
    | _ => none
  | .new _ => some (.inl (pc + 3, ls, .ref G.length :: st, G ++ [.inr (.inr (E.2.2.1, mc_df E.2.2.1))]))
  | .newarray _ => match st with
    | .int n :: st => if n < 0 ∨ 65536 < n.toNatClampNeg then none else some (.inl (pc + 2, ls, .ref G.length :: st, G ++ [.inl (E.2.2.1, n.toNatClampNeg, fun _ => 0)]))
    | _ => none
  | .anewarray _ => match st with
    | .int n :: st => if n < 0 ∨ 65536 < n.toNatClampNeg then none else some (.inl (pc + 3, ls, .ref G.length :: st, G ++ [.inr (.inl (E.2.2.1, n.toNatClampNeg, fun _ => none))]))
    | _ => none
  | .invokespecial _ => if E.2.2.1 = 999 then
      match st with
      | .ref _ :: rest => if rest.length ≤ 4 then some (.inl (pc + 3, ls, rest, G)) else none
      | _ => none
    else match st.drop (mc_np E.2.2.1) with
      | .ref b :: rest => if rest.length ≤ 4 ∧ mc_c1 (st.take (mc_np E.2.2.1)) = true then some (.inr (.inl (E.2.2.1, mc_pad (mc_ml E.2.2.1) (.ref b :: (st.take (mc_np E.2.2.1)).reverse), rest))) else none
      | _ => none
  | .invokevirtual _ => match st.drop (mc_np E.2.2.1) with
      | .ref b :: rest => if rest.length ≤ 4 ∧ mc_cls G b = some (mc_own E.2.2.1) ∧ mc_c1 (st.take (mc_np E.2.2.1)) = true then some (.inr (.inl (E.2.2.1, mc_pad (mc_ml E.2.2.1) (.ref b :: (st.take (mc_np E.2.2.1)).reverse), rest))) else none
      | _ => none
  | .invokestatic _ => if E.2.2.1 = 998 then
      match st with
      | .int n :: .int dp :: .ref a :: .int sp :: .ref a0 :: rest => if rest.length ≤ 4 then
          match mc_cpy G a0 a sp dp n with
          | some G' => some (.inl (pc + 3, ls, rest, G'))
          | none => none
        else none
      | _ => none
    else if E.2.2.1 = 176 then
      match st with
      | .int x :: rest => if rest.length ≤ 4 then some (.inl (pc + 3, ls, .int (if 0 ≤ x then x else 0 - x) :: rest, G)) else none
      | _ => none
    else if E.2.2.1 = 177 then
      match st with
      | .int y :: .int x :: rest => if rest.length ≤ 4 then some (.inl (pc + 3, ls, .int (if x < y then y else x) :: rest, G)) else none
      | _ => none
    else if E.2.2.1 = 178 then
      match st with
      | .int y :: .int x :: rest => if rest.length ≤ 4 then some (.inl (pc + 3, ls, .int (if y < x then y else x) :: rest, G)) else none
      | _ => none
    else if mc_np E.2.2.1 ≤ st.length ∧ (st.drop (mc_np E.2.2.1)).length ≤ 4 ∧ mc_c1 (st.take (mc_np E.2.2.1)) = true then some (.inr (.inl (E.2.2.1, mc_pad (mc_ml E.2.2.1) (st.take (mc_np E.2.2.1)).reverse, st.drop (mc_np E.2.2.1)))) else none
  | .ireturn => match st with
    | [.int v] => if mc_rt mi = some .int ∨ (mc_rt mi = some .boolean ∧ (v = 0 ∨ v = 1)) then some (.inr (.inr (some (.int v)))) else none
    | _ => none
  | .lreturn => match st with
    | [.long v] => if mc_rt mi = some .long then some (.inr (.inr (some (.long v)))) else none
    | _ => none
  | .areturn => match st, mc_rt mi with
    | [.ref v], some (.object _) => some (.inr (.inr (some (.ref v))))
    | _, _ => none
  | .return_ => match st with
    | [] => if mc_rt mi = none then some (.inr (.inr none)) else none
    | _ => none
  | _ => none
def mc_st (X : mc_X) (mi pc : Nat) (ls st : List Value) (G : mc_H) : Option mc_S := match mc_code mi pc with
  | some E => mc_ex X mi pc E ls st G
  | none => none
def mc_F (X : mc_X) (kk : mc_K) : mc_K := fun mi pc ls st G => match mc_st X mi pc ls st G with
  | some (.inl (pc', ls', st', G')) => kk mi pc' ls' st' G'
  | some (.inr (.inl (cm, cl, rest))) => match kk cm 0 cl [] G with
    | some (v, G') => kk mi (pc + 3) ls (v.toList ++ rest) G'
    | none => none
  | some (.inr (.inr v)) => some (v, G)
  | none => none
def mc_run (X : mc_X) : Nat → mc_K
  | 0 => fun _ _ _ _ _ => none
  | n + 1 => mc_F X (mc_run X n)
theorem mc_F_mono {X : mc_X} {k1 k2 : mc_K} (h : ∀ mi pc ls st G r, k1 mi pc ls st G = some r → k2 mi pc ls st G = some r) : ∀ mi pc ls st G r, mc_F X k1 mi pc ls st G = some r → mc_F X k2 mi pc ls st G = some r := by
  intro mi pc ls st G r hr
  unfold mc_F at hr ⊢
  split at hr
  · exact h _ _ _ _ _ _ hr
  · rename_i cm cl rest _
    cases h1 : k1 cm 0 cl [] G with
    | none => rw [h1] at hr; cases hr
    | some q =>
      rw [h1] at hr
      rw [h _ _ _ _ _ _ h1]
      exact h _ _ _ _ _ _ hr
  · exact hr
  · cases hr
theorem mc_run_succ {X : mc_X} : ∀ (n : Nat) mi pc ls st G r, mc_run X n mi pc ls st G = some r → mc_run X (n + 1) mi pc ls st G = some r
  | 0 => fun _ _ _ _ _ _ h => by cases h
  | n + 1 => mc_F_mono (mc_run_succ n)
theorem mc_run_le {X : mc_X} {n n' : Nat} (hn : n ≤ n') {mi pc : Nat} {ls st : List Value} {G : mc_H} {r : Option Value × mc_H} (h : mc_run X n mi pc ls st G = some r) : mc_run X n' mi pc ls st G = some r := by
  induction hn with
  | refl => exact h
  | step _ ih => exact mc_run_succ _ _ _ _ _ _ _ ih
/-- what a run comes to, without fuel -/
noncomputable def mc_ev (X : mc_X) : mc_K := fun mi pc ls st G => by
  classical exact if h : ∃ r, ∃ n, mc_run X n mi pc ls st G = some r then some (Classical.choose h) else none
theorem mc_ev_iff {X : mc_X} {mi pc : Nat} {ls st : List Value} {G : mc_H} {r : Option Value × mc_H} : mc_ev X mi pc ls st G = some r ↔ ∃ n, mc_run X n mi pc ls st G = some r := by
  unfold mc_ev
  constructor
  · intro h
    split at h
    · rename_i hh
      obtain ⟨n, hn⟩ := Classical.choose_spec hh
      exact ⟨n, by rw [hn]; exact h⟩
    · cases h
  · intro h
    have hh : ∃ r, ∃ n, mc_run X n mi pc ls st G = some r := ⟨r, h⟩
    rw [dif_pos hh]
    obtain ⟨n, hn⟩ := h
    obtain ⟨n2, hn2⟩ := Classical.choose_spec hh
    have a := mc_run_le (Nat.le_max_left n n2) hn
    have b := mc_run_le (Nat.le_max_right n n2) hn2
    rw [a] at b
    exact b.symm
theorem mc_ev_eq {X : mc_X} (mi pc : Nat) (ls st : List Value) (G : mc_H) : mc_ev X mi pc ls st G = mc_F X (mc_ev X) mi pc ls st G := by
  apply Option.ext
  intro r
  constructor
  · intro h
    obtain ⟨n, hn⟩ := mc_ev_iff.mp h
    cases n with
    | zero => cases hn
    | succ n => exact mc_F_mono (fun _ _ _ _ _ _ h => mc_ev_iff.mpr ⟨n, h⟩) _ _ _ _ _ _ hn
  · intro h
    apply mc_ev_iff.mpr
    unfold mc_F at h
    split at h
    · rename_i hs
      obtain ⟨n, hn⟩ := mc_ev_iff.mp h
      refine ⟨n + 1, ?_⟩
      show mc_F X (mc_run X n) mi pc ls st G = some r
      unfold mc_F
      rw [hs]
      exact hn
    · rename_i cm cl rest hs
      cases h1 : mc_ev X cm 0 cl [] G with
      | none => rw [h1] at h; cases h
      | some q =>
        rw [h1] at h
        obtain ⟨v, G'⟩ := q
        obtain ⟨n1, hn1⟩ := mc_ev_iff.mp h1
        obtain ⟨n2, hn2⟩ := mc_ev_iff.mp h
        refine ⟨max n1 n2 + 1, ?_⟩
        show mc_F X (mc_run X (max n1 n2)) mi pc ls st G = some r
        unfold mc_F
        rw [hs]
        dsimp only
        rw [mc_run_le (Nat.le_max_left n1 n2) hn1]
        exact mc_run_le (Nat.le_max_right n1 n2) hn2
    · rename_i v hs
      refine ⟨1, ?_⟩
      show mc_F X (mc_run X 0) mi pc ls st G = some r
      unfold mc_F
      rw [hs]
      exact h
    · cases h
set_option maxHeartbeats 4000000 in
theorem mc_ex_grow0 {X : mc_X} {mi pc pc' : Nat} {E : mc_E} {ls st ls' st' : List Value} {G G' : mc_H} (h : mc_ex X mi pc E ls st G = some (.inl (pc', ls', st', G'))) :
    G' = G ∨ (∃ c, G' = G ++ [c]) ∨ (∃ k ci j v, mc_setf G k ci j v = some G') ∨ (∃ t k i x, mc_setA G t k i x = some G') ∨ (∃ k i v, mc_setQ G k i v = some G') ∨ (∃ a0 a sp dp n, mc_cpy G a0 a sp dp n = some G') := by
  obtain ⟨ins, len, a, b, w, kc⟩ := E
  unfold mc_ex at h
  dsimp only at h
  split at h
  all_goals try (cases h; done)
  all_goals try (cases h; exact Or.inl rfl)
  all_goals try (cases h; exact Or.inr (Or.inl ⟨_, rfl⟩))
  all_goals try split at h
  all_goals try (cases h; done)
  all_goals try (cases h; exact Or.inl rfl)
  all_goals try (cases h; exact Or.inr (Or.inl ⟨_, rfl⟩))
  all_goals try split at h
  all_goals try (cases h; done)
  all_goals try (cases h; exact Or.inl rfl)
  all_goals try (cases h; exact Or.inr (Or.inl ⟨_, rfl⟩))
  all_goals try split at h
  all_goals try (cases h; done)
  all_goals try (cases h; exact Or.inl rfl)
  all_goals try split at h
  all_goals try (cases h; done)
  all_goals try (cases h; exact Or.inl rfl)
  all_goals try split at h
  all_goals try (cases h; done)
  all_goals try (cases h; exact Or.inl rfl)
  all_goals try split at h
  all_goals try (cases h; done)
  all_goals try (cases h; exact Or.inl rfl)
  all_goals first
    | (cases h; exact Or.inr (Or.inr (Or.inl ⟨_, _, _, _, by assumption⟩)))
    | (cases h; exact Or.inr (Or.inr (Or.inr (Or.inl ⟨_, _, _, _, by assumption⟩))))
    | (cases h; exact Or.inr (Or.inr (Or.inr (Or.inr (Or.inl ⟨_, _, _, by assumption⟩)))))
    | (cases h; exact Or.inr (Or.inr (Or.inr (Or.inr (Or.inr ⟨_, _, _, _, _, by assumption⟩)))))
