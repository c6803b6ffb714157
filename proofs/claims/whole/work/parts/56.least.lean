/-! the least strain, the next greater one -/
theorem i32_lt {a b : Int32} : a < b ↔ a.toInt < b.toInt := Int32.lt_iff_toInt_lt
theorem nx_ab {may : Nat → Bool} {st : Nat → Int32} {v : Int32} (hb : ∀ a, 0 ≤ (st a).toInt ∧ (st a).toInt ≤ 68000) : ∀ n, (nxI may st v n = 10000000 ∧ abI may st v n = -9) ∨ (nxI may st v n = abI may st v n ∧ 0 ≤ (nxI may st v n).toInt ∧ (nxI may st v n).toInt ≤ 68000)
  | 0 => Or.inl ⟨rfl, rfl⟩
  | a + 1 => by
    have ih := nx_ab (may := may) (v := v) hb a
    have hs := hb a
    have e1 : nxI may st v (a + 1) = if v < st a ∧ st a < nxI may st v a ∧ may a = true then st a else nxI may st v a := rfl
    have e2 : abI may st v (a + 1) = if may a then (if v < st a ∧ (abI may st v a = -9 ∨ st a < abI may st v a) then st a else abI may st v a) else abI may st v a := rfl
    rw [e1, e2]
    cases hm : may a with
    | false => simpa using ih
    | true =>
      by_cases c1 : v < st a
      · rcases ih with ⟨q1, q2⟩ | ⟨q1, q2, q3⟩
        · have c2 : st a < 10000000 := i32_lt.mpr (by have : (10000000 : Int32).toInt = 10000000 := rfl; omega)
          right
          rw [q1, q2]
          simp [c1, c2, hs.1, hs.2]
        · right
          rw [← q1]
          have c3 : ¬ nxI may st v a = -9 := fun e => by rw [e] at q2; exact absurd q2 (by decide)
          by_cases c2 : st a < nxI may st v a
          · simp [c1, c2, hs.1, hs.2]
          · simp [c1, c2, c3, q2, q3]
      · simpa [c1] using ih
theorem ls_ab {may : Nat → Bool} {st : Nat → Int32} (hb : ∀ a, 0 ≤ (st a).toInt ∧ (st a).toInt ≤ 68000) : ∀ n, ((∀ a, a < n → may a = false) ∧ abI may st (-1) n = -9 ∧ lsI may st n = 2147483647) ∨ (abI may st (-1) n = lsI may st n ∧ 0 ≤ (lsI may st n).toInt ∧ (lsI may st n).toInt ≤ 68000)
  | 0 => Or.inl ⟨fun a h => absurd h (Nat.not_lt_zero a), rfl, rfl⟩
  | a + 1 => by
    have ih := ls_ab (may := may) hb a
    have hs := hb a
    have e1 : lsI may st (a + 1) = if may a then (if st a < lsI may st a then st a else lsI may st a) else lsI may st a := rfl
    have e2 : abI may st (-1) (a + 1) = if may a then (if -1 < st a ∧ (abI may st (-1) a = -9 ∨ st a < abI may st (-1) a) then st a else abI may st (-1) a) else abI may st (-1) a := rfl
    rw [e1, e2]
    have c1 : (-1 : Int32) < st a := i32_lt.mpr (by have : (-1 : Int32).toInt = -1 := rfl; omega)
    cases hm : may a with
    | false =>
      rcases ih with ⟨q0, q1, q2⟩ | ih
      · left
        refine ⟨fun b hb2 => ?_, by simpa using q1, by simpa using q2⟩
        by_cases c : b = a
        · subst c; exact hm
        · exact q0 b (by omega)
      · right; simpa using ih
    | true =>
      right
      rcases ih with ⟨q0, q1, q2⟩ | ⟨q1, q2, q3⟩
      · have c2 : st a < 2147483647 := i32_lt.mpr (by have : (2147483647 : Int32).toInt = 2147483647 := rfl; omega)
        rw [q1, q2]
        simp [c1, c2, hs.1, hs.2]
      · rw [q1]
        have c3 : ¬ lsI may st a = -9 := fun e => by rw [e] at q2; exact absurd q2 (by decide)
        by_cases c2 : st a < lsI may st a
        · simp [c1, c2, hs.1, hs.2]
        · simp [c1, c2, c3, q2, q3]
theorem nxI_cg {m1 m2 : Nat → Bool} {s1 s2 : Nat → Int32} {v : Int32} : ∀ n, (∀ a, a < n → m1 a = m2 a ∧ s1 a = s2 a) → nxI m1 s1 v n = nxI m2 s2 v n
  | 0, _ => rfl
  | a + 1, h => by
    show (if v < s1 a ∧ s1 a < nxI m1 s1 v a ∧ m1 a = true then s1 a else nxI m1 s1 v a) = (if v < s2 a ∧ s2 a < nxI m2 s2 v a ∧ m2 a = true then s2 a else nxI m2 s2 v a)
    rw [nxI_cg a (fun b hb => h b (by omega)), (h a (by omega)).1, (h a (by omega)).2]
theorem nx_ab' {may : Nat → Bool} {st : Nat → Int32} {v : Int32} (hb : ∀ a, 0 ≤ (st a).toInt ∧ (st a).toInt ≤ 68000) (n : Nat) : (if nxI may st v n = 10000000 then -9 else nxI may st v n) = abI may st v n := by
  rcases nx_ab (may := may) (v := v) hb n with ⟨q1, q2⟩ | ⟨q1, q2, q3⟩
  · rw [if_pos q1, q2]
  · rw [if_neg (fun e => by rw [e] at q3; exact absurd q3 (by decide)), q1]
