/-! bits counted -/
/-- how many bits below n are set -/
def pop (B : Nat) : Nat → Nat := nsum (fun k => B / 2 ^ k % 2)
def bcI (x : Int32) : Int32 :=
  let us (a : Int32) (s : Int32) : Int32 := (a.toUInt32 >>> (s.toUInt32 &&& Int32.toUInt32 31)).toInt32
  let a := x - (us x 1 &&& 1431655765)
  let b := (a &&& 858993459) + (us a 2 &&& 858993459)
  let c := (b + us b 4) &&& 252645135
  let d := c + us c 8
  let e := d + us d 16
  e &&& 63
theorem bc_ok2 : ∀ a, a < 64 → ∀ b, b < 64 → bcI (nI (64 * a + b)) = nI (pop (64 * a + b) 12) := by decide +kernel
theorem bc_ok {B : Nat} (h : B < 4096) : bcI (nI B) = nI (pop B 12) := by
  have := bc_ok2 (B / 64) (by omega) (B % 64) (by omega)
  rw [Nat.div_add_mod] at this
  exact this
theorem j_bitCount {X : mc_X} {G : mc_H} (x : Int32) : mc_ev X 175 0 [.int x] [] G = some (some (.int (bcI x)), G) := by
  simp only [e_175, Option.bind_some, Option.toList_some, Option.toList_none, List.cons_append, List.nil_append, List.append_nil, List.length_cons, List.length_nil, true_or, or_true, eq_self, b01_0, b01_1, b01_2, b01_3, b01_4, Nat.zero_le, Nat.reduceAdd, Nat.reduceLeDiff, ↓reduceIte, not_true_eq_false, not_false_eq_true, Bool.false_eq_true]
  rfl
