/-! bits -/
theorem nx_and (a b : Nat) : nI a &&& nI b = nI (a &&& b) := by
  apply Int32.toBitVec_inj.1
  show BitVec.ofNat 32 a &&& BitVec.ofNat 32 b = BitVec.ofNat 32 (a &&& b)
  apply BitVec.eq_of_getLsbD_eq
  intro i hi
  simp [hi]
theorem nx_xor (a b : Nat) : nI a ^^^ nI b = nI (a ^^^ b) := by
  apply Int32.toBitVec_inj.1
  show BitVec.ofNat 32 a ^^^ BitVec.ofNat 32 b = BitVec.ofNat 32 (a ^^^ b)
  apply BitVec.eq_of_getLsbD_eq
  intro i hi
  simp [hi]
theorem nx_or (a b : Nat) : nI a ||| nI b = nI (a ||| b) := by
  apply Int32.toBitVec_inj.1
  show BitVec.ofNat 32 a ||| BitVec.ofNat 32 b = BitVec.ofNat 32 (a ||| b)
  apply BitVec.eq_of_getLsbD_eq
  intro i hi
  simp [hi]
/-- the complement of b in 32 bits -/
def cpl (b : Nat) : Nat := b ^^^ 4294967295
theorem nx_cpl (b : Nat) : nI b ^^^ (-1) = nI (cpl b) := nx_xor b 4294967295
theorem tb_ones : ∀ k, k < 32 → (4294967295 : Nat).testBit k = true := by decide +kernel
theorem cpl_tb {b k : Nat} (hk : k < 32) : (cpl b).testBit k = !b.testBit k := by
  unfold cpl
  rw [Nat.testBit_xor, tb_ones k hk]
  cases b.testBit k <;> rfl
theorem bt_tb (N A i : Nat) : bt N A i = (A.testBit (N - 1 - i)).toNat := by
  unfold bt
  rw [Nat.testBit_eq_decide_div_mod_eq]
  have := Nat.mod_lt (A / 2 ^ (N - 1 - i)) (y := 2) (by decide)
  rcases (show A / 2 ^ (N - 1 - i) % 2 = 0 ∨ A / 2 ^ (N - 1 - i) % 2 = 1 by omega) with h | h <;> rw [h] <;> rfl
theorem bits_ext {N A B : Nat} (hA : A < 2 ^ N) (hB : B < 2 ^ N) (h : ∀ i, i < N → bt N A i = bt N B i) : A = B := by
  apply Nat.eq_of_testBit_eq
  intro k
  by_cases hk : k < N
  · have := h (N - 1 - k) (by omega)
    rw [bt_tb, bt_tb, show N - 1 - (N - 1 - k) = k by omega] at this
    cases a : A.testBit k <;> cases b : B.testBit k <;> simp [a, b] at this ⊢
  · have e1 : A < 2 ^ k := Nat.lt_of_lt_of_le hA (Nat.pow_le_pow_right (by decide) (by omega))
    have e2 : B < 2 ^ k := Nat.lt_of_lt_of_le hB (Nat.pow_le_pow_right (by decide) (by omega))
    rw [Nat.testBit_lt_two_pow e1, Nat.testBit_lt_two_pow e2]
theorem bt_b (N A i : Nat) : bt N A i = 0 ∨ bt N A i = 1 := by have := bt_lt N A i; omega
/-- bit i set, or not -/
def sb (N B i : Nat) (on : Bool) : Nat := if on then B ||| 2 ^ (N - 1 - i) else B &&& cpl (2 ^ (N - 1 - i))
theorem sb_bt {N B i k : Nat} {on : Bool} (hN : N ≤ 12) (hi : i < N) (hk : k < N) : bt N (sb N B i on) k = if k = i then on.toNat else bt N B k := by
  rw [bt_tb, bt_tb]
  unfold sb
  have e : (2 ^ (N - 1 - i)).testBit (N - 1 - k) = decide (N - 1 - i = N - 1 - k) := Nat.testBit_two_pow
  by_cases hki : k = i
  · subst hki
    rw [if_pos rfl]
    cases on with
    | true => rw [if_pos rfl, Nat.testBit_or, e]; simp
    | false => rw [if_neg (by decide), Nat.testBit_and, cpl_tb (by omega), e]; simp
  · rw [if_neg hki]
    have e2 : decide (N - 1 - i = N - 1 - k) = false := decide_eq_false (by omega)
    rw [e2] at e
    cases on with
    | true => rw [if_pos rfl, Nat.testBit_or, e]; simp
    | false => rw [if_neg (by decide), Nat.testBit_and, cpl_tb (by omega), e]; simp
theorem sb_lt {N B i : Nat} {on : Bool} (hi : i < N) (hB : B < 2 ^ N) : sb N B i on < 2 ^ N := by
  unfold sb
  cases on with
  | true => rw [if_pos rfl]; exact Nat.or_lt_two_pow hB (Nat.pow_lt_pow_right (by decide) (by omega))
  | false => rw [if_neg (by decide)]; exact Nat.lt_of_le_of_lt Nat.and_le_left hB
/-- the bits of those that P holds of -/
def hB (N : Nat) (P : Nat → Bool) : Nat → Nat
  | 0 => 0
  | n + 1 => sb N (hB N P n) n (P n)
theorem hB_lt {N : Nat} {P : Nat → Bool} : ∀ n, n ≤ N → hB N P n < 2 ^ N
  | 0, _ => Nat.two_pow_pos N
  | n + 1, h => sb_lt (by omega) (hB_lt n (by omega))
theorem bt_0 (N i : Nat) : bt N 0 i = 0 := by unfold bt; simp
theorem hB_bt {N : Nat} {P : Nat → Bool} (hN : N ≤ 12) : ∀ n, n ≤ N → ∀ k, k < N → bt N (hB N P n) k = if k < n then (P k).toNat else 0
  | 0, _, k, _ => by rw [if_neg (by omega)]; exact bt_0 N k
  | n + 1, h, k, hk => by
    show bt N (sb N (hB N P n) n (P n)) k = _
    rw [sb_bt hN (by omega) hk, hB_bt hN n (by omega) k hk]
    by_cases h1 : k = n
    · subst h1; rw [if_pos rfl, if_pos (by omega)]
    · rw [if_neg h1]
      by_cases h2 : k < n
      · rw [if_pos h2, if_pos (by omega)]
      · rw [if_neg h2, if_neg (by omega)]
/-- the arrangement out of turns and tolds, by who is held -/
def mx (T O H : Nat) : Nat := (T &&& cpl H) ||| (O &&& H)
theorem mx_bt {N T O H k : Nat} (hN : N ≤ 12) (hk : k < N) : bt N (mx T O H) k = if bt N H k = 1 then bt N O k else bt N T k := by
  rw [bt_tb, bt_tb, bt_tb, bt_tb]
  unfold mx
  rw [Nat.testBit_or, Nat.testBit_and, Nat.testBit_and, cpl_tb (by omega)]
  cases T.testBit (N - 1 - k) <;> cases O.testBit (N - 1 - k) <;> cases H.testBit (N - 1 - k) <;> rfl
theorem mx_lt {N T O H : Nat} (hT : T < 2 ^ N) (hO : O < 2 ^ N) : mx T O H < 2 ^ N := Nat.or_lt_two_pow (Nat.lt_of_le_of_lt Nat.and_le_left hT) (Nat.lt_of_le_of_lt Nat.and_le_left hO)
/-- an arrangement read from the first needle on -/
def nwN (b : Nat → Nat) : Nat → Nat
  | 0 => 0
  | n + 1 => 2 * nwN b n + b n
theorem nwI_N {f : Nat → Int32} {b : Nat → Nat} {N : Nat} (h : ∀ i, i < N → f i = nI (b i)) : ∀ n, n ≤ N → nwI f n = nI (nwN b n)
  | 0, _ => rfl
  | n + 1, hn => by
    show 2 * nwI f n + f n = nI (2 * nwN b n + b n)
    rw [nwI_N h n (by omega), h n (by omega), nI_dbl, nI_add]
theorem nwN_lt {b : Nat → Nat} (hb : ∀ i, b i < 2) : ∀ n, nwN b n < 2 ^ n
  | 0 => Nat.one_pos
  | n + 1 => by
    have h1 := nwN_lt hb n
    have h2 := hb n
    show 2 * nwN b n + b n < 2 ^ (n + 1)
    rw [Nat.pow_succ]
    omega
theorem nwN_bt {b : Nat → Nat} (hb : ∀ i, b i < 2) : ∀ n i, i < n → nwN b n / 2 ^ (n - 1 - i) % 2 = b i
  | 0, _, h => by omega
  | n + 1, i, h => by
    show (2 * nwN b n + b n) / 2 ^ (n + 1 - 1 - i) % 2 = b i
    have h2 := hb n
    by_cases hi : i = n
    · subst hi
      rw [show i + 1 - 1 - i = 0 by omega, Nat.pow_zero, Nat.div_one]
      omega
    · rw [show n + 1 - 1 - i = (n - 1 - i) + 1 by omega, Nat.pow_succ, Nat.mul_comm (2 ^ (n - 1 - i)) 2, ← Nat.div_div_eq_div_mul, show (2 * nwN b n + b n) / 2 = nwN b n by omega]
      exact nwN_bt hb n i (by omega)
/-- the reference's arrangement is the class's -/
theorem now_mx {N T O H : Nat} {b : Nat → Nat} (hN : N ≤ 12) (hT : T < 2 ^ N) (hO : O < 2 ^ N) (hb : ∀ i, b i < 2) (h : ∀ i, i < N → b i = if bt N H i = 1 then bt N O i else bt N T i) : nwN b N = mx T O H := by
  apply bits_ext (nwN_lt hb N) (mx_lt hT hO)
  intro i hi
  rw [mx_bt hN hi, ← h i hi]
  exact nwN_bt hb N i hi
