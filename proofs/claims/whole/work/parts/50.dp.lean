/-! the landscape: what a needle adds -/
theorem tm_al (c : Int32) {p q : Prop} [Decidable p] [Decidable q] (hp : p) (hq : ¬ q) : tm c q = tm c p + c := by
  unfold tm
  by_cases h1 : 0 < c
  · have h2 : ¬ c < 0 := Int32.not_lt.mpr (Int32.le_of_lt h1)
    simp [h1, h2, hp, hq]
  · by_cases h2 : c < 0
    · simp [h1, h2, hp, hq]
      grind
    · have h3 : c = 0 := Int32.le_antisymm (Int32.not_lt.mp h1) (Int32.not_lt.mp h2)
      subst h3
      simp [hp, hq]
/-- what turning needle n down adds at joint j, in an arrangement a where it and those ahead are up -/
def dA (R C : Nat) (ws ks : Nat → Int32) (n a j : Nat) : Int32 := if toB R C j n then ct R C ws ks j - (if fs R C j = n ∧ bt (nN R C) a (sn R C j) = 1 then 2 * ct R C ws ks j else 0) else 0
theorem bt_hi {N n a k : Nat} (hn : n < N) (ha : a < 2 ^ (N - 1 - n)) (hk : k ≤ n) : bt N a k = 0 := by
  unfold bt
  rw [Nat.div_eq_of_lt (Nat.lt_of_lt_of_le ha (Nat.pow_le_pow_right (by decide) (by omega)))]
theorem bt_add {N n a k : Nat} (hn : n < N) (ha : a < 2 ^ (N - 1 - n)) (hk : k < N) : bt N (2 ^ (N - 1 - n) + a) k = if k = n then 1 else bt N a k := by
  by_cases h1 : k = n
  · subst h1
    rw [if_pos rfl, bt_tb, Nat.testBit_two_pow_add_eq, Nat.testBit_lt_two_pow ha]; rfl
  · rw [if_neg h1]
    by_cases h2 : k < n
    · rw [bt_hi hn ha (by omega)]
      unfold bt
      rw [Nat.div_eq_of_lt]
      have : 2 ^ (N - 1 - n) + a < 2 ^ (N - 1 - n + 1) := by rw [Nat.pow_succ]; omega
      exact Nat.lt_of_lt_of_le this (Nat.pow_le_pow_right (by decide) (by omega))
    · rw [bt_tb, bt_tb, Nat.testBit_two_pow_add_gt (by omega)]
theorem tm_dA {R C : Nat} {ws ks : Nat → Int32} (hs : sh R C) {n a j : Nat} (hn : n < nN R C) (ha : a < 2 ^ (nN R C - 1 - n)) (hj : j < nJ R C) :
    tm (ct R C ws ks j) (bt (nN R C) (2 ^ (nN R C - 1 - n) + a) (fs R C j) = bt (nN R C) (2 ^ (nN R C - 1 - n) + a) (sn R C j)) = tm (ct R C ws ks j) (bt (nN R C) a (fs R C j) = bt (nN R C) a (sn R C j)) + dA R C ws ks n a j := by
  have hf := fs_b hs hj
  have e1 := bt_add hn ha (k := fs R C j) (by omega)
  have e2 := bt_add hn ha (k := sn R C j) hf.2.1
  generalize hc : ct R C ws ks j = c at *
  unfold dA toB
  rw [hc]
  by_cases h1 : fs R C j = n
  · have h2 : ¬ sn R C j = n := by omega
    rw [if_pos h1] at e1
    rw [if_neg h2] at e2
    have e3 : bt (nN R C) a (fs R C j) = 0 := bt_hi hn ha (by omega)
    rcases bt_b (nN R C) a (sn R C j) with q | q
    · rw [tm_al c (p := bt (nN R C) a (fs R C j) = bt (nN R C) a (sn R C j)) (by rw [e3, q]) (by rw [e1, e2, q]; decide)]
      simp [h1, q]
    · have := tm_al c (p := bt (nN R C) (2 ^ (nN R C - 1 - n) + a) (fs R C j) = bt (nN R C) (2 ^ (nN R C - 1 - n) + a) (sn R C j)) (q := bt (nN R C) a (fs R C j) = bt (nN R C) a (sn R C j)) (by rw [e1, e2, q]) (by rw [e3, q]; decide)
      rw [this]
      simp only [h1, q, true_or, decide_true, if_true, and_self]
      grind
  · rw [if_neg h1] at e1
    by_cases h2 : sn R C j = n
    · rw [if_pos h2] at e2
      have e3 : bt (nN R C) a (fs R C j) = 0 := bt_hi hn ha (by omega)
      have e4 : bt (nN R C) a (sn R C j) = 0 := bt_hi hn ha (by omega)
      rw [tm_al c (p := bt (nN R C) a (fs R C j) = bt (nN R C) a (sn R C j)) (by rw [e3, e4]) (by rw [e1, e2, e3]; decide)]
      simp [h1, h2]
    · rw [if_neg h2] at e2
      simp only [e1, e2, h1, h2, or_self, decide_false, Bool.false_eq_true, if_false, Int32.add_zero]
theorem sum_add {f g h : Nat → Int32} : ∀ n, (∀ j, j < n → f j = g j + h j) → bx_sum f n = bx_sum g n + bx_sum h n
  | 0, _ => by simp [bx_sum]
  | n + 1, hh => by
    show bx_sum f n + f n = (bx_sum g n + g n) + (bx_sum h n + h n)
    rw [sum_add n (fun j hj => hh j (by omega)), hh n (by omega)]
    grind
theorem stA_dA {R C : Nat} {ws ks : Nat → Int32} (hs : sh R C) {n a : Nat} (hn : n < nN R C) (ha : a < 2 ^ (nN R C - 1 - n)) : stA R C ws ks (2 ^ (nN R C - 1 - n) + a) = stA R C ws ks a + bx_sum (dA R C ws ks n a) (nJ R C) := sum_add _ (fun j hj => tm_dA hs hn ha hj)
/-- what the first loop of addNeedle gathers: more, and the last two joints that begin at n -/
def fdS (R C : Nat) (ws ks : Nat → Int32) (n : Nat) : Nat → Int32 × Nat × Int32 × Nat × Int32
  | 0 => (0, 0, 0, 0, 0)
  | j + 1 => if fs R C j = n then (if toB R C j n then (fdS R C ws ks n j).1 + ct R C ws ks j else (fdS R C ws ks n j).1, (fdS R C ws ks n j).2.2.2.1, (fdS R C ws ks n j).2.2.2.2, 2 ^ (nN R C - 1 - sn R C j), 2 * ct R C ws ks j)
    else (if toB R C j n then (fdS R C ws ks n j).1 + ct R C ws ks j else (fdS R C ws ks n j).1, (fdS R C ws ks n j).2)
def fdV (s : Int32 × Nat × Int32 × Nat × Int32) (x : Int32) (a : Nat) : Int32 := if a &&& s.2.2.2.1 = 0 then (if a &&& s.2.1 = 0 then x + s.1 else x + s.1 - s.2.2.1) else (if a &&& s.2.1 = 0 then x + s.1 else x + s.1 - s.2.2.1) - s.2.2.2.2
def cnF (R C n : Nat) : Nat → Nat := nsum (fun j => if fs R C j = n then 1 else 0)
theorem cnF_2 {R C : Nat} (hs : sh R C) {n : Nat} (hn : n < nN R C) : cnF R C n (nJ R C) ≤ 2 := by
  have := sh_all (p := fun R C => (List.range (nN R C)).all (fun n => decide (cnF R C n (nJ R C) ≤ 2))) (by decide +kernel) hs
  exact of_decide_eq_true (List.all_eq_true.mp this n (List.mem_range.mpr hn))
theorem nsum_mono {f : Nat → Nat} : ∀ {a b : Nat}, a ≤ b → nsum f a ≤ nsum f b := by
  intro a b h
  induction h with
  | refl => exact Nat.le_refl _
  | step _ ih => exact Nat.le_trans ih (Nat.le_add_right _ _)
theorem and_p0 (a e : Nat) : (a &&& 2 ^ e = 0) ↔ a.testBit e = false := by
  constructor
  · intro h
    have h2 : (a &&& 2 ^ e).testBit e = false := by rw [h]; exact Nat.zero_testBit e
    rw [Nat.testBit_and, Nat.testBit_two_pow_self] at h2
    simpa using h2
  · intro h
    apply Nat.eq_of_testBit_eq
    intro k
    rw [Nat.testBit_and, Nat.zero_testBit, Nat.testBit_two_pow]
    by_cases hk : e = k
    · subst hk; rw [h]; rfl
    · rw [decide_eq_false hk, Bool.and_false]
theorem fd_ok {R C : Nat} {ws ks : Nat → Int32} (hs : sh R C) {n : Nat} (hn : n < nN R C) (a : Nat) (x : Int32) : ∀ j, j ≤ nJ R C → (fdV (fdS R C ws ks n j) x a = x + bx_sum (dA R C ws ks n a) j) ∧ (cnF R C n j = 0 → (fdS R C ws ks n j).2.2.2 = (0, 0)) ∧ (cnF R C n j ≤ 1 → (fdS R C ws ks n j).2.1 = 0 ∧ (fdS R C ws ks n j).2.2.1 = 0)
  | 0, _ => by
    refine ⟨?_, fun _ => rfl, fun _ => ⟨rfl, rfl⟩⟩
    show (if a &&& 0 = 0 then (if a &&& 0 = 0 then x + 0 else x + 0 - 0) else _) = x + 0
    simp
  | j + 1, hj => by
    obtain ⟨i1, i2, i3⟩ := fd_ok (ws := ws) (ks := ks) hs hn a x j (by omega)
    have c2 : cnF R C n (j + 1) ≤ 2 := Nat.le_trans (nsum_mono hj) (cnF_2 hs hn)
    have ec : cnF R C n (j + 1) = cnF R C n j + (if fs R C j = n then 1 else 0) := rfl
    have es : bx_sum (dA R C ws ks n a) (j + 1) = bx_sum (dA R C ws ks n a) j + dA R C ws ks n a j := rfl
    rw [es]
    generalize hB : bx_sum (dA R C ws ks n a) j = B at *
    generalize hS : fdS R C ws ks n j = S at *
    obtain ⟨m, nb, nt, xb, xt⟩ := S
    have e1 : fdS R C ws ks n (j + 1) = if fs R C j = n then (if toB R C j n then m + ct R C ws ks j else m, xb, xt, 2 ^ (nN R C - 1 - sn R C j), 2 * ct R C ws ks j) else (if toB R C j n then m + ct R C ws ks j else m, nb, nt, xb, xt) := by
      show (if fs R C j = n then _ else _) = _
      rw [hS]
    rw [e1]
    dsimp only at i2 i3
    by_cases h1 : fs R C j = n
    · rw [if_pos h1] at ec ⊢
      have ht : toB R C j n = true := by unfold toB; simp [h1]
      obtain ⟨i4, i5⟩ := i3 (by omega)
      subst i4 i5
      refine ⟨?_, fun q => by omega, fun q => ?_⟩
      · have hf := fs_b hs (show j < nJ R C by omega)
        have hx : (a &&& 2 ^ (nN R C - 1 - sn R C j) = 0) = ¬ (bt (nN R C) a (sn R C j) = 1) := by
          apply propext
          rw [and_p0, bt_tb]
          cases a.testBit (nN R C - 1 - sn R C j) <;> simp
        unfold fdV at i1 ⊢
        unfold dA
        simp only [ht, h1, if_true, Nat.and_zero, true_and] at i1 ⊢
        simp only [hx]
        by_cases b1 : bt (nN R C) a (sn R C j) = 1
        · by_cases b2 : a &&& xb = 0
          · simp only [b1, b2, if_true, not_true_eq_false, if_false] at i1 ⊢; grind
          · simp only [b1, b2, if_true, not_true_eq_false, if_false] at i1 ⊢; grind
        · by_cases b2 : a &&& xb = 0
          · simp only [b1, b2, if_true, not_false_eq_true, if_false] at i1 ⊢; grind
          · simp only [b1, b2, if_true, not_false_eq_true, if_false] at i1 ⊢; grind
      · have := i2 (by omega)
        simp only [Prod.mk.injEq] at this
        exact this
    · rw [if_neg h1] at ec ⊢
      refine ⟨?_, fun q => i2 (by omega), fun q => i3 (by omega)⟩
      unfold fdV at i1 ⊢
      unfold dA
      simp only [h1, false_and, if_false] at i1 ⊢
      cases ht : toB R C j n
      · simp only [Bool.false_eq_true, if_false] at i1 ⊢
        rw [i1]; grind
      · simp only [if_true]
        by_cases b2 : a &&& xb = 0 <;> by_cases b3 : a &&& nb = 0 <;> simp only [b2, b3, if_true, if_false] at i1 ⊢ <;> grind
