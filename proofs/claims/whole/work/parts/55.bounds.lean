/-! how large a strain may be -/
theorem mul_sm {a b : Int32} (h1 : -2147483648 ≤ a.toInt * b.toInt) (h2 : a.toInt * b.toInt < 2147483648) : (a * b).toInt = a.toInt * b.toInt := by
  rw [Int32.toInt_mul]
  exact Int.bmod_eq_of_le (by omega) (by omega)
theorem add_sm {a b : Int32} (h1 : -2147483648 ≤ a.toInt + b.toInt) (h2 : a.toInt + b.toInt < 2147483648) : (a + b).toInt = a.toInt + b.toInt := by
  rw [Int32.toInt_add]
  exact Int.bmod_eq_of_le (by omega) (by omega)
theorem neg_sm {a : Int32} (h : -2147483648 < a.toInt) (h2 : a.toInt < 2147483648) : (-a).toInt = -a.toInt := by
  rw [Int32.toInt_neg]
  exact Int.bmod_eq_of_le (by omega) (by omega)
theorem wo_b (k : Int32) : 0 ≤ (wo k).toInt ∧ (wo k).toInt ≤ 2 := by
  unfold wo
  split
  · decide
  · split <;> decide
theorem ct_b {R C : Nat} {ws ks : Nat → Int32} {j : Nat} (h1 : -1000 ≤ ws j) (h2 : ws j ≤ 1000) : -4000 ≤ (ct R C ws ks j).toInt ∧ (ct R C ws ks j).toInt ≤ 4000 := by
  have a1 : -1000 ≤ (ws j).toInt := Int32.le_iff_toInt_le.mp h1
  have a2 : (ws j).toInt ≤ 1000 := Int32.le_iff_toInt_le.mp h2
  unfold ct
  have w1 := wo_b (ks (fs R C j))
  have w2 := wo_b (ks (sn R C j))
  generalize wo (ks (fs R C j)) = p at *
  generalize wo (ks (sn R C j)) = q at *
  have e1 : (ws j * p).toInt = (ws j).toInt * p.toInt := by
    rcases (show p.toInt = 0 ∨ p.toInt = 1 ∨ p.toInt = 2 by omega) with e | e | e <;> apply mul_sm <;> rw [e] <;> omega
  have b1 : -2000 ≤ (ws j * p).toInt ∧ (ws j * p).toInt ≤ 2000 := by
    rw [e1]
    rcases (show p.toInt = 0 ∨ p.toInt = 1 ∨ p.toInt = 2 by omega) with e | e | e <;> rw [e] <;> omega
  have e2 : (ws j * p * q).toInt = (ws j * p).toInt * q.toInt := by
    rcases (show q.toInt = 0 ∨ q.toInt = 1 ∨ q.toInt = 2 by omega) with e | e | e <;> apply mul_sm <;> rw [e] <;> omega
  rw [e2]
  rcases (show q.toInt = 0 ∨ q.toInt = 1 ∨ q.toInt = 2 by omega) with e | e | e <;> rw [e] <;> omega
theorem tm_b {c : Int32} {al : Prop} [Decidable al] (h : -4000 ≤ c.toInt ∧ c.toInt ≤ 4000) : 0 ≤ (tm c al).toInt ∧ (tm c al).toInt ≤ 4000 := by
  unfold tm
  split
  · rename_i q
    have := Int32.lt_iff_toInt_lt.mp q.1
    have e : (0 : Int32).toInt = 0 := rfl
    omega
  · split
    · rename_i q
      have := Int32.lt_iff_toInt_lt.mp q.1
      have e : (0 : Int32).toInt = 0 := rfl
      rw [neg_sm (by omega) (by omega)]
      omega
    · exact ⟨by decide, by decide⟩
theorem sum_b {f : Nat → Int32} : ∀ n, n ≤ 17 → (∀ j, j < n → 0 ≤ (f j).toInt ∧ (f j).toInt ≤ 4000) → 0 ≤ (bx_sum f n).toInt ∧ (bx_sum f n).toInt ≤ 4000 * n
  | 0, _, _ => ⟨by show 0 ≤ (0 : Int32).toInt; decide, by show (0 : Int32).toInt ≤ _; simp⟩
  | n + 1, hn, h => by
    have i := sum_b n (by omega) (fun j hj => h j (by omega))
    have k := h n (by omega)
    have e : (bx_sum f n + f n).toInt = (bx_sum f n).toInt + (f n).toInt := add_sm (by omega) (by omega)
    show 0 ≤ (bx_sum f n + f n).toInt ∧ (bx_sum f n + f n).toInt ≤ 4000 * ((n + 1 : Nat) : Int)
    rw [e]
    omega
/-- a strain: at least 0, below the class's FAR -/
theorem stA_b {R C TB OB LB rim : Nat} {ks ws fi se lo hi : Nat → Int32} (hp : pv R C rim fi se lo hi TB OB LB ks ws) (A : Nat) : 0 ≤ (stA R C ws ks A).toInt ∧ (stA R C ws ks A).toInt ≤ 68000 := by
  have hb1 := sh_b hp.1
  have := sum_b (f := fun j => tm (ct R C ws ks j) (bt (nN R C) A (fs R C j) = bt (nN R C) A (sn R C j))) (nJ R C) (by omega) (fun j hj => by
    have hw := hp.2.2.2.2.2.2.1 j (by omega)
    exact tm_b (ct_b hw.1 hw.2))
  unfold stA
  omega
