/-! pairing: tables over sets -/
/-- the least of acc and those v a, v (a + 1) .. (r of them) that are ok -/
def mnG (ok : Nat → Bool) (v : Nat → Nat) : Nat → Nat → Nat → Nat
  | 0, _, acc => acc
  | r + 1, a, acc => mnG ok v r (a + 1) (if ok a then min acc (v a) else acc)
theorem mnG_cg {ok : Nat → Bool} {v v' : Nat → Nat} : ∀ r a acc, (∀ g, a ≤ g → g < a + r → ok g = true → v g = v' g) → mnG ok v r a acc = mnG ok v' r a acc
  | 0, _, _, _ => rfl
  | r + 1, a, acc, h => by
    show mnG ok v r (a + 1) (if ok a then min acc (v a) else acc) = mnG ok v' r (a + 1) (if ok a then min acc (v' a) else acc)
    have e : (if ok a then min acc (v a) else acc) = (if ok a then min acc (v' a) else acc) := by
      cases c : ok a with
      | true => rw [h a (Nat.le_refl _) (by omega) c]
      | false => rfl
    rw [e]
    exact mnG_cg r (a + 1) _ (fun g h1 h2 h3 => h g (by omega) (by omega) h3)
theorem mnG_no {ok : Nat → Bool} {v : Nat → Nat} : ∀ r a acc, (∀ g, a ≤ g → g < a + r → ok g = false) → mnG ok v r a acc = acc
  | 0, _, _, _ => rfl
  | r + 1, a, acc, h => by
    show mnG ok v r (a + 1) (if ok a then min acc (v a) else acc) = acc
    rw [h a (Nat.le_refl _) (by omega), if_neg (by decide)]
    exact mnG_no r (a + 1) acc (fun g h1 h2 => h g (by omega) (by omega))
theorem mnG_tl {ok : Nat → Bool} {v : Nat → Nat} : ∀ r r' a acc, r ≤ r' → (∀ g, a + r ≤ g → g < a + r' → ok g = false) → mnG ok v r' a acc = mnG ok v r a acc
  | 0, r', a, acc, _, h => mnG_no r' a acc (fun g h1 h2 => h g (by omega) h2)
  | r + 1, 0, _, _, hr, _ => by omega
  | r + 1, r' + 1, a, acc, hr, h => mnG_tl r r' (a + 1) _ (by omega) (fun g h1 h2 => h g (by omega) (by omega))
theorem mnG_ac {ok : Nat → Bool} {v : Nat → Nat} : ∀ r a x y, x ≤ y → (∃ g, a ≤ g ∧ g < a + r ∧ ok g = true ∧ v g ≤ x) → mnG ok v r a x = mnG ok v r a y
  | 0, a, _, _, _, ⟨g, h1, h2, _⟩ => by omega
  | r + 1, a, x, y, hxy, ⟨g, h1, h2, h3, h4⟩ => by
    show mnG ok v r (a + 1) (if ok a then min x (v a) else x) = mnG ok v r (a + 1) (if ok a then min y (v a) else y)
    by_cases c : a = g
    · subst c
      rw [h3, if_pos rfl, if_pos rfl, Nat.min_eq_right h4, Nat.min_eq_right (by omega)]
    · cases c2 : ok a with
      | false => exact mnG_ac r (a + 1) x y hxy ⟨g, by omega, by omega, h3, h4⟩
      | true =>
        rw [if_pos rfl, if_pos rfl]
        by_cases c3 : v a ≤ x
        · rw [Nat.min_eq_right c3, Nat.min_eq_right (by omega)]
        · rw [Nat.min_eq_left (by omega)]
          exact mnG_ac r (a + 1) x (min y (v a)) (by omega) ⟨g, by omega, by omega, h3, h4⟩
theorem mnG_le {ok : Nat → Bool} {v : Nat → Nat} : ∀ r a acc, mnG ok v r a acc ≤ acc ∧ ∀ g, a ≤ g → g < a + r → ok g = true → mnG ok v r a acc ≤ v g
  | 0, _, acc => ⟨Nat.le_refl acc, fun g h1 h2 => by omega⟩
  | r + 1, a, acc => by
    have ih := mnG_le (ok := ok) (v := v) r (a + 1) (if ok a then min acc (v a) else acc)
    show mnG ok v r (a + 1) (if ok a then min acc (v a) else acc) ≤ acc ∧ ∀ g, a ≤ g → g < a + (r + 1) → ok g = true → mnG ok v r (a + 1) (if ok a then min acc (v a) else acc) ≤ v g
    have h1 : (if ok a then min acc (v a) else acc) ≤ acc := by split <;> omega
    refine ⟨by omega, fun g a1 a2 a3 => ?_⟩
    by_cases c : g = a
    · subst c
      have : (if ok g then min acc (v g) else acc) ≤ v g := by rw [if_pos a3]; omega
      omega
    · exact ih.2 g (by omega) (by omega) a3
/-- the same over Int32 -/
def mI (ok : Nat → Bool) (v : Nat → Int32) : Nat → Nat → Int32 → Int32
  | 0, _, acc => acc
  | r + 1, a, acc => mI ok v r (a + 1) (if ok a then (if v a < acc then v a else acc) else acc)
theorem mI_n {ok : Nat → Bool} {v : Nat → Int32} {u : Nat → Nat} : ∀ r a acc, acc < 2 ^ 31 → (∀ g, a ≤ g → g < a + r → ok g = true → v g = nI (u g) ∧ u g < 2 ^ 31) → mI ok v r a (nI acc) = nI (mnG ok u r a acc)
  | 0, _, _, _, _ => rfl
  | r + 1, a, acc, hb, h => by
    show mI ok v r (a + 1) (if ok a then (if v a < nI acc then v a else nI acc) else nI acc) = nI (mnG ok u r (a + 1) (if ok a then min acc (u a) else acc))
    cases c : ok a with
    | false => exact mI_n r (a + 1) acc hb (fun g h1 h2 h3 => h g (by omega) (by omega) h3)
    | true =>
      obtain ⟨h1, h2⟩ := h a (Nat.le_refl _) (by omega) c
      rw [if_pos rfl, if_pos rfl, h1, mn_n h2 hb, Nat.min_comm]
      exact mI_n r (a + 1) (min acc (u a)) (by omega) (fun g h1 h2 h3 => h g (by omega) (by omega) h3)
/-- the lowest field of a set -/
def lowF (s : Nat) : Nat → Nat → Nat
  | 0, k => k
  | n + 1, k => if s / 2 ^ k % 2 = 0 then lowF s n (k + 1) else k
def low (s : Nat) : Nat := lowF s 6 0
def bit (s g : Nat) : Bool := decide (s / 2 ^ g % 2 = 1)
/-- without its lowest field and g -/
def rst (s g : Nat) : Nat := (s ^^^ 2 ^ low s) ^^^ 2 ^ g
theorem low_ok : ∀ s, s < 128 → 0 < s → low s < 7 ∧ s / 2 ^ low s % 2 = 1 ∧ ∀ k, k < 7 → k < low s → s / 2 ^ k % 2 = 0 := by decide +kernel
theorem rst_o1 : ∀ s, s < 128 → 0 < s → ∀ g, g < 7 → low s < g → bit s g = true → rst s g < s := by decide +kernel
theorem rst_o2 : ∀ s, s < 128 → 0 < s → ∀ g, g < 7 → low s < g → bit s g = true → pop (rst s g) 12 % 2 = pop s 12 % 2 := by decide +kernel
theorem rst_o3 : ∀ s, s < 128 → 0 < s → ∀ g, g < 7 → low s < g → bit s g = true → rst s g &&& s = rst s g := by decide +kernel
theorem rst_ok (s : Nat) (h1 : s < 128) (h2 : 0 < s) (g : Nat) (h3 : g < 7) (h4 : low s < g) (h5 : bit s g = true) : rst s g < s ∧ pop (rst s g) 12 % 2 = pop s 12 % 2 ∧ rst s g &&& s = rst s g := ⟨rst_o1 s h1 h2 g h3 h4 h5, rst_o2 s h1 h2 g h3 h4 h5, rst_o3 s h1 h2 g h3 h4 h5⟩
theorem rst_cp : ∀ s, s < 128 → 0 < s → ∀ g, g < 7 → low s < g → bit s g = true → (s &&& cpl (2 ^ low s)) &&& cpl (2 ^ g) = rst s g := by decide +kernel
theorem ev_two : ∀ s, s < 128 → 0 < s → pop s 12 % 2 = 0 → (List.range 7).any (fun g => decide (low s < g) && bit s g) = true := by decide +kernel
theorem pop_x : ∀ s, s < 128 → ∀ a, a < 7 → pop (s ^^^ 2 ^ a) 12 % 2 = (pop s 12 + 1) % 2 := by decide +kernel
/-- a set of an even number of S's fields -/
def gd (S s : Nat) : Prop := s &&& cpl S = 0 ∧ pop s 12 % 2 = 0
theorem gd_r {S s g : Nat} (hs : s < 128) (h0 : 0 < s) (h : gd S s) (hg : g < 7) (hl : low s < g) (hb : bit s g = true) : gd S (rst s g) ∧ rst s g < s := by
  obtain ⟨r1, r2, r3⟩ := rst_ok s hs h0 g hg hl hb
  refine ⟨⟨?_, by rw [r2]; exact h.2⟩, r1⟩
  rw [← r3, Nat.and_assoc, h.1, Nat.and_zero]
theorem gd_f {S s g n : Nat} (hS : S < 2 ^ n) (h : s &&& cpl S = 0) (hg : g < 7) (hb : bit s g = true) : g < n := by
  have h1 : (s &&& cpl S).testBit g = false := by rw [h, Nat.zero_testBit]
  rw [Nat.testBit_and, cpl_tb (by omega)] at h1
  have h2 : s.testBit g = true := by
    rw [Nat.testBit_eq_decide_div_mod_eq]
    exact hb
  rw [h2, Bool.true_and] at h1
  rcases Nat.lt_or_ge g n with q | q
  · exact q
  · rw [Nat.testBit_lt_two_pow (Nat.lt_of_lt_of_le hS (Nat.pow_le_pow_right (by decide) q))] at h1
    cases h1
/-- tables c of the class and q of the reference are the same -/
theorem tb_eq {S n : Nat} {d : Nat → Nat → Nat} {c q : Nat → Nat} (hS : S < 128) (hn : S < 2 ^ n) (hn7 : n ≤ 7) (hd : ∀ a b, a < n → b < n → d a b ≤ 60000) (c0 : c 0 = 0) (q0 : q 0 = 0) (hc : ∀ s, 0 < s → s ≤ S → gd S s → c s = mnG (bit s) (fun g => d (low s) g + c (rst s g)) (6 - low s) (low s + 1) 10000000) (hq : ∀ s, 0 < s → s ≤ S → gd S s → q s = mnG (bit s) (fun g => q (rst s g) + d (low s) g) (n - 1 - low s) (low s + 1) 1000000000) : ∀ s, s ≤ S → gd S s → c s = q s ∧ c s ≤ 60000 * s := by
  intro s
  induction s using Nat.strongRecOn with
  | ind s ih =>
  intro hs hg
  rcases Nat.eq_zero_or_pos s with h0 | h0
  · subst h0; rw [c0, q0]; exact ⟨rfl, Nat.zero_le _⟩
  obtain ⟨l1, l2, l3⟩ := low_ok s (by omega) h0
  have hlb : bit s (low s) = true := decide_eq_true l2
  have hln := gd_f hn hg.1 l1 hlb
  obtain ⟨g, hgm, hgb⟩ := List.any_eq_true.mp (ev_two s (by omega) h0 hg.2)
  have hg7 := List.mem_range.mp hgm
  rw [Bool.and_eq_true] at hgb
  have hgl := of_decide_eq_true hgb.1
  have hgn := gd_f hn hg.1 hg7 hgb.2
  obtain ⟨gr1, gr2⟩ := gd_r (by omega) h0 hg hg7 hgl hgb.2
  have ihg := ih _ gr2 (by omega) gr1
  have hdg := hd (low s) g hln hgn
  have e1 : mnG (bit s) (fun g => d (low s) g + c (rst s g)) (6 - low s) (low s + 1) 10000000 = mnG (bit s) (fun g => d (low s) g + c (rst s g)) (n - 1 - low s) (low s + 1) 10000000 := by
    apply mnG_tl
    · omega
    · intro k k1 k2
      cases hb : bit s k with
      | false => rfl
      | true => have := gd_f hn hg.1 (show k < 7 by omega) hb; omega
  have e2 : mnG (bit s) (fun g => d (low s) g + c (rst s g)) (n - 1 - low s) (low s + 1) 10000000 = mnG (bit s) (fun g => d (low s) g + c (rst s g)) (n - 1 - low s) (low s + 1) 1000000000 := by
    apply mnG_ac
    · omega
    · refine ⟨g, by omega, by omega, hgb.2, ?_⟩
      show d (low s) g + c (rst s g) ≤ 10000000
      omega
  have e3 : mnG (bit s) (fun g => d (low s) g + c (rst s g)) (n - 1 - low s) (low s + 1) 1000000000 = mnG (bit s) (fun g => q (rst s g) + d (low s) g) (n - 1 - low s) (low s + 1) 1000000000 := by
    apply mnG_cg
    intro k k1 k2 k3
    obtain ⟨z1, z2⟩ := gd_r (by omega) h0 hg (show k < 7 by omega) (by omega) k3
    show d (low s) k + c (rst s k) = q (rst s k) + d (low s) k
    rw [(ih _ z2 (by omega) z1).1]
    omega
  have hcs := hc s h0 hs hg
  refine ⟨by rw [hcs, hq s h0 hs hg, e1, e2, e3], ?_⟩
  have := (mnG_le (ok := bit s) (v := fun g => d (low s) g + c (rst s g)) (6 - low s) (low s + 1) 10000000).2 g (by omega) (by omega) hgb.2
  rw [← hcs] at this
  have h2 : c s ≤ d (low s) g + c (rst s g) := this
  omega
theorem tf_ev {R C : Nat} {ws ks : Nat → Int32} (hs : sh R C) : ∀ n, n ≤ nJ R C → pop (tfN R C ws ks n) 12 % 2 = 0
  | 0, _ => by show pop 0 12 % 2 = 0; decide
  | j + 1, h => by
    have ih := tf_ev (ws := ws) (ks := ks) hs j (by omega)
    have hl := tf_lt (ws := ws) (ks := ks) hs j (by omega)
    have hf := fs_b hs (show j < nJ R C by omega)
    have hb := sh_b hs
    show pop (if ct R C ws ks j < 0 then (tfN R C ws ks j ^^^ 2 ^ min (s1 R C j) (s2 R C j)) ^^^ 2 ^ max (s1 R C j) (s2 R C j) else tfN R C ws ks j) 12 % 2 = 0
    split
    · have h1 : tfN R C ws ks j ^^^ 2 ^ min (s1 R C j) (s2 R C j) < 2 ^ 7 := Nat.xor_lt_two_pow hl (Nat.pow_lt_pow_right (by decide) (by omega))
      have e1 := pop_x _ h1 (max (s1 R C j) (s2 R C j)) (by omega)
      have e2 := pop_x _ hl (min (s1 R C j) (s2 R C j)) (by omega)
      omega
    · exact ih
theorem tf_ltF {R C : Nat} {ws ks : Nat → Int32} (hs : sh R C) : tfN R C ws ks (nJ R C) < 2 ^ nF R C := by
  have hl := tf_lt (ws := ws) (ks := ks) hs (nJ R C) (Nat.le_refl _)
  have hb := sh_b hs
  apply Nat.lt_pow_two_of_testBit
  intro k hk
  have := tf_tr R C ws ks k
  rw [trB_out hs hk] at this
  rw [Nat.testBit_eq_decide_div_mod_eq]
  apply decide_eq_false
  rw [this]
  decide
section CLS
variable {X : mc_X} {G : mc_H} {di ch : Nat → Int32} {d : Nat → Nat → Nat}
theorem c_lowestIn {s : Nat} (hs : s < 128) : mc_ev X 25 0 [.int (nI s), .null] [] G = some (some (.int (nI (low s))), G) := by
  have h0 : mc_ev X 25 0 [.int (nI s), .null] [] G = mc_ev X 25 2 [.int (nI s), .int (nI 0)] [] G := by
    simp only [e_25, show nI 0 = (0 : Int32) from rfl, Option.bind_some, Option.toList_some, Option.toList_none, List.cons_append, List.nil_append, List.append_nil, List.length_cons, List.length_nil, true_or, or_true, eq_self, b01_0, b01_1, b01_2, b01_3, b01_4, Nat.zero_le, Nat.reduceAdd, Nat.reduceLeDiff, ↓reduceIte, not_true_eq_false, not_false_eq_true, Bool.false_eq_true]
  have key : ∀ n k, k + n = 6 → mc_ev X 25 2 [.int (nI s), .int (nI k)] [] G = some (some (.int (nI (lowF s n k))), G) := by
    intro n
    induction n with
    | zero =>
      intro k hk
      have k2 : ¬ nI k < 6 := nI_nlt (b := 6) (by omega) (by omega)
      rw [h_25_2]
      simp only [e_25, k2, Option.bind_some, Option.toList_some, Option.toList_none, List.cons_append, List.nil_append, List.append_nil, List.length_cons, List.length_nil, true_or, or_true, eq_self, b01_0, b01_1, b01_2, b01_3, b01_4, Nat.zero_le, Nat.reduceAdd, Nat.reduceLeDiff, ↓reduceIte, not_true_eq_false, not_false_eq_true, Bool.false_eq_true]
      rfl
    | succ n ih =>
      intro k hk
      have k1 : nI k < 6 := nI_lt (b := 6) (by omega) (by decide)
      have hb := bit_n (A := s) (d := k) (by omega) (by omega)
      have z : (nI (s / 2 ^ k % 2) = 0) = (s / 2 ^ k % 2 = 0) := nI_is0 (by have := Nat.mod_lt (s / 2 ^ k) (y := 2) (by decide); omega)
      rw [h_25_2]
      show _ = some (some (Value.int (nI (if s / 2 ^ k % 2 = 0 then lowF s n (k + 1) else k))), G)
      by_cases c : s / 2 ^ k % 2 = 0
      · rw [if_pos c, ← ih (k + 1) (by omega)]
        simp only [e_25, k1, hb, z, eq_true c, nI_1, Option.bind_some, Option.toList_some, Option.toList_none, List.cons_append, List.nil_append, List.append_nil, List.length_cons, List.length_nil, true_or, or_true, eq_self, b01_0, b01_1, b01_2, b01_3, b01_4, Nat.zero_le, Nat.reduceAdd, Nat.reduceLeDiff, ↓reduceIte, not_true_eq_false, not_false_eq_true, Bool.false_eq_true]
      · rw [if_neg c]
        simp only [e_25, k1, hb, z, c, Option.bind_some, Option.toList_some, Option.toList_none, List.cons_append, List.nil_append, List.append_nil, List.length_cons, List.length_nil, true_or, or_true, eq_self, b01_0, b01_1, b01_2, b01_3, b01_4, Nat.zero_le, Nat.reduceAdd, Nat.reduceLeDiff, ↓reduceIte, not_true_eq_false, not_false_eq_true, Bool.false_eq_true]
  rw [h0]
  exact key 6 0 rfl
theorem c_ofSet (h : pr G di ch) (hd : rp di d) {s : Nat} {c : Nat → Nat} (hs : s < 128) (h0 : 0 < s) (hc : ∀ g, g < 7 → low s < g → bit s g = true → ch (rst s g) = nI (c (rst s g)) ∧ c (rst s g) ≤ 10000000) : mc_ev X 24 0 [.ref 74, .int (nI s), .null, .null, .null, .null] [] G = some (some (.int (nI (mnG (bit s) (fun g => d (low s) g + c (rst s g)) (6 - low s) (low s + 1) 10000000))), G) := by
  obtain ⟨l1, l2, l3⟩ := low_ok s hs h0
  have hst : mc_ev X 24 0 [.ref 74, .int (nI s), .null, .null, .null, .null] [] G = mc_ev X 24 13 [.ref 74, .int (nI s), .int (nI (low s)), .int (nI 10000000), .int (nI (low s + 1)), .null] [] G := by
    simp only [e_24, c_lowestIn hs, nI_1, show nI 10000000 = (10000000 : Int32) from rfl, Option.bind_some, Option.toList_some, Option.toList_none, List.cons_append, List.nil_append, List.append_nil, List.length_cons, List.length_nil, true_or, or_true, eq_self, b01_0, b01_1, b01_2, b01_3, b01_4, Nat.zero_le, Nat.reduceAdd, Nat.reduceLeDiff, ↓reduceIte, not_true_eq_false, not_false_eq_true, Bool.false_eq_true]
  have key : ∀ r a acc v, a + r = 7 → low s < a → acc ≤ 10000000 → mc_ev X 24 13 [.ref 74, .int (nI s), .int (nI (low s)), .int (nI acc), .int (nI a), v] [] G = some (some (.int (nI (mnG (bit s) (fun g => d (low s) g + c (rst s g)) r a acc))), G) := by
    intro r
    induction r with
    | zero =>
      intro a acc v ha hl hac
      have k2 : ¬ nI a < 7 := nI_nlt (b := 7) (by omega) (by omega)
      rw [h_24_13]
      simp only [e_24, k2, Option.bind_some, Option.toList_some, Option.toList_none, List.cons_append, List.nil_append, List.append_nil, List.length_cons, List.length_nil, true_or, or_true, eq_self, b01_0, b01_1, b01_2, b01_3, b01_4, Nat.zero_le, Nat.reduceAdd, Nat.reduceLeDiff, ↓reduceIte, not_true_eq_false, not_false_eq_true, Bool.false_eq_true]
      rfl
    | succ r ih =>
      intro a acc v ha hl hac
      have k1 : nI a < 7 := nI_lt (b := 7) (by omega) (by decide)
      have hb := bit_n (A := s) (d := a) (by omega) (by omega)
      have z : (nI (s / 2 ^ a % 2) = 1) = (s / 2 ^ a % 2 = 1) := nI_is1 (by have := Nat.mod_lt (s / 2 ^ a) (y := 2) (by decide); omega)
      show _ = some (some (Value.int (nI (mnG (bit s) (fun g => d (low s) g + c (rst s g)) r (a + 1) (if bit s a then min acc (d (low s) a + c (rst s a)) else acc)))), G)
      rw [h_24_13]
      by_cases cc : s / 2 ^ a % 2 = 1
      · have hba : bit s a = true := decide_eq_true cc
        obtain ⟨c1, c2⟩ := hc a (by omega) hl hba
        obtain ⟨r1, -, -⟩ := rst_ok s hs h0 a (by omega) hl hba
        have hdd := (hd (low s) a l1 (by omega)).2
        have mn : (if nI (d (low s) a + c (rst s a)) < nI acc then nI (d (low s) a + c (rst s a)) else nI acc) = nI (min acc (d (low s) a + c (rst s a))) := by rw [mn_n (by omega) (by omega), Nat.min_comm]
        have gch := (pr_f (X := X) h).2.2.2.2 (rst s a) (by omega)
        rw [c1] at gch
        have er : (s ^^^ 2 ^ low s) ^^^ 2 ^ a = rst s a := rfl
        rw [hba, if_pos rfl, ← ih (a + 1) _ (.int (nI (rst s a))) (by omega) (by omega) (by omega)]
        simp only [e_24, k1, hb, z, eq_true cc, shl1 (l := low s) (by omega), shl1 (l := a) (by omega), nx_xor, er, pr_f (X := X) h, c_between h hd l1 (show a < 7 by omega), gch, nI_add, mn, nI_1, Option.bind_some, Option.toList_some, Option.toList_none, List.cons_append, List.nil_append, List.append_nil, List.length_cons, List.length_nil, true_or, or_true, eq_self, b01_0, b01_1, b01_2, b01_3, b01_4, Nat.zero_le, Nat.reduceAdd, Nat.reduceLeDiff, ↓reduceIte, not_true_eq_false, not_false_eq_true, Bool.false_eq_true]
      · have hba : bit s a = false := decide_eq_false cc
        rw [hba, if_neg (by decide), ← ih (a + 1) acc v (by omega) (by omega) hac]
        simp only [e_24, k1, hb, z, cc, nI_1, Option.bind_some, Option.toList_some, Option.toList_none, List.cons_append, List.nil_append, List.append_nil, List.length_cons, List.length_nil, true_or, or_true, eq_self, b01_0, b01_1, b01_2, b01_3, b01_4, Nat.zero_le, Nat.reduceAdd, Nat.reduceLeDiff, ↓reduceIte, not_true_eq_false, not_false_eq_true, Bool.false_eq_true]
  rw [hst]
  exact key (6 - low s) (low s + 1) _ _ (by omega) (by omega) (by omega)
theorem r2_n {n : Nat} (h : n < 2 ^ 31) : nI n - nI n / 2 * 2 = nI (n % 2) := pk_rem (d := 2) h (by decide) (by decide)
theorem pop_le (B : Nat) : pop B 12 ≤ 12 := by
  have := nsum_le (f := fun k => B / 2 ^ k % 2) (b := 1) (fun j => by have := Nat.mod_lt (B / 2 ^ j) (y := 2) (by decide); omega) 12
  unfold pop
  omega
theorem c_cheapestOf (h : pr G di ch) (hd : rp di d) {S : Nat} (hS : S < 128) (hg : gd S S) : ∃ (ch' : Nat → Int32) (c : Nat → Nat), mc_ev X 23 0 [.ref 74, .int (nI S), .null] [] G = some (some (.int (nI (c S))), G.set 76 (.inl (0, 128, ch'))) ∧ c 0 = 0 ∧ ∀ s, 0 < s → s ≤ S → gd S s → c s = mnG (bit s) (fun g => d (low s) g + c (rst s g)) (6 - low s) (low s + 1) 10000000 := by
  have hps : ∀ f, pr (G.set 76 (.inl (0, 128, f))) di f := fun f => ⟨(gs_ne (by decide)).trans h.1, (gs_ne (by decide)).trans h.2.1, gs_self h.2.2⟩
  have w0 : mc_setA G 0 76 0 0 = some (G.set 76 (.inl (0, 128, upd ch 0 0))) := sa_n h.2.2 (by decide) 0 0 (by decide)
  have hst : mc_ev X 23 0 [.ref 74, .int (nI S), .null] [] G = mc_ev X 23 9 [.ref 74, .int (nI S), .int 1] [] (G.set 76 (.inl (0, 128, upd ch 0 0))) := by
    simp only [e_23, pr_f (X := X) h, w0, Option.bind_some, Option.toList_some, Option.toList_none, List.cons_append, List.nil_append, List.append_nil, List.length_cons, List.length_nil, true_or, or_true, eq_self, b01_0, b01_1, b01_2, b01_3, b01_4, Nat.zero_le, Nat.reduceAdd, Nat.reduceLeDiff, ↓reduceIte, not_true_eq_false, not_false_eq_true, Bool.false_eq_true]
  obtain ⟨ls, G', ⟨hls, ch', c, hG', t0, t1, t2⟩, hev⟩ := ev_inv (X := X) (k := 23) (pc := 9) (fun n ls G' => ls = [.ref 74, .int (nI S), .int (nI (n + 1))] ∧ ∃ (ch' : Nat → Int32) (c : Nat → Nat), G' = G.set 76 (.inl (0, 128, ch')) ∧ c 0 = 0 ∧ (∀ s, s ≤ n → gd S s → ch' s = nI (c s) ∧ c s ≤ 10000000) ∧ ∀ s, 0 < s → s ≤ n → gd S s → c s = mnG (bit s) (fun g => d (low s) g + c (rst s g)) (6 - low s) (low s + 1) 10000000) S (by
    intro n hn ls G' ⟨hls, ch1, c, hG', t0, t1, t2⟩
    subst hls
    subst hG'
    have k1 : ¬ nI S < nI (n + 1) := nI_nlt (by omega) (by omega)
    have hp := hps ch1
    have hcp : n + 1 &&& cpl S ≤ n + 1 := Nat.and_le_left
    have z1 : (nI (n + 1 &&& cpl S) = 0) = (n + 1 &&& cpl S = 0) := nI_is0 (by omega)
    have hpl := pop_le (n + 1)
    have z2 : (nI (pop (n + 1) 12 % 2) = 0) = (pop (n + 1) 12 % 2 = 0) := nI_is0 (by omega)
    have kz : ((2 : Int32) = 0) = False := b01_5
    by_cases c1 : n + 1 &&& cpl S = 0
    · by_cases c2 : pop (n + 1) 12 % 2 = 0
      · have hgd : gd S (n + 1) := ⟨c1, c2⟩
        have os := c_ofSet (X := X) hp hd (s := n + 1) (c := c) (by omega) (by omega) (fun g hg hl hb => by
          obtain ⟨z1, z2⟩ := gd_r (by omega) (by omega) hgd hg hl hb
          exact t1 _ (by omega) z1)
        have w := sa_n hp.2.2 (by decide) (n + 1) (nI (mnG (bit (n + 1)) (fun g => d (low (n + 1)) g + c (rst (n + 1) g)) (6 - low (n + 1)) (low (n + 1) + 1) 10000000)) (by omega)
        rw [List.set_set] at w
        have hle := (mnG_le (ok := bit (n + 1)) (v := fun g => d (low (n + 1)) g + c (rst (n + 1) g)) (6 - low (n + 1)) (low (n + 1) + 1) 10000000).1
        refine ⟨[.ref 74, .int (nI S), .int (nI (n + 1 + 1))], G.set 76 (.inl (0, 128, upd ch1 (n + 1) (nI (mnG (bit (n + 1)) (fun g => d (low (n + 1)) g + c (rst (n + 1) g)) (6 - low (n + 1)) (low (n + 1) + 1) 10000000)))), ⟨rfl, _, va_up c (n + 1) (mnG (bit (n + 1)) (fun g => d (low (n + 1)) g + c (rst (n + 1) g)) (6 - low (n + 1)) (low (n + 1) + 1) 10000000), rfl, ?_, ?_, ?_⟩, ?_⟩
        rotate_right
        · rw [h_23_9]
          simp only [e_23, k1, nx_cpl, nx_and, z1, eq_true c1, j_bitCount, bc_ok (B := n + 1) (by omega), kz, r2_n (n := pop (n + 1) 12) (by omega), z2, eq_true c2, pr_f (X := X) hp, os, w, nI_1, Option.bind_some, Option.toList_some, Option.toList_none, List.cons_append, List.nil_append, List.append_nil, List.length_cons, List.length_nil, true_or, or_true, eq_self, b01_0, b01_1, b01_2, b01_3, b01_4, Nat.zero_le, Nat.reduceAdd, Nat.reduceLeDiff, ↓reduceIte, not_true_eq_false, not_false_eq_true, Bool.false_eq_true]
        · rw [va_up_ne _ _ (by omega)]; exact t0
        · intro s hs hgs
          by_cases cc : s = n + 1
          · subst cc; rw [pk_us, va_up_self]; exact ⟨rfl, hle⟩
          · rw [pk_un cc, va_up_ne _ _ cc]; exact t1 s (by omega) hgs
        · intro s hs0 hs hgs
          have e : mnG (bit s) (fun g => d (low s) g + va_up c (n + 1) (mnG (bit (n + 1)) (fun g => d (low (n + 1)) g + c (rst (n + 1) g)) (6 - low (n + 1)) (low (n + 1) + 1) 10000000) (rst s g)) (6 - low s) (low s + 1) 10000000 = mnG (bit s) (fun g => d (low s) g + c (rst s g)) (6 - low s) (low s + 1) 10000000 := by
            apply mnG_cg
            intro g g1 g2 g3
            obtain ⟨z1, z2⟩ := gd_r (by omega) hs0 hgs (show g < 7 by omega) (by omega) g3
            show d (low s) g + _ = d (low s) g + _
            rw [va_up_ne _ _ (by omega)]
          rw [e]
          by_cases cc : s = n + 1
          · subst cc; rw [va_up_self]
          · rw [va_up_ne _ _ cc]; exact t2 s hs0 (by omega) hgs
      · refine ⟨[.ref 74, .int (nI S), .int (nI (n + 1 + 1))], _, ⟨rfl, ch1, c, rfl, t0, fun s hs hgs => ?_, fun s hs0 hs hgs => ?_⟩, ?_⟩
        · by_cases cc : s = n + 1
          · subst cc; exact absurd hgs.2 c2
          · exact t1 s (by omega) hgs
        · by_cases cc : s = n + 1
          · subst cc; exact absurd hgs.2 c2
          · exact t2 s hs0 (by omega) hgs
        · rw [h_23_9]
          simp only [e_23, k1, nx_cpl, nx_and, z1, eq_true c1, j_bitCount, bc_ok (B := n + 1) (by omega), kz, r2_n (n := pop (n + 1) 12) (by omega), z2, c2, nI_1, Option.bind_some, Option.toList_some, Option.toList_none, List.cons_append, List.nil_append, List.append_nil, List.length_cons, List.length_nil, true_or, or_true, eq_self, b01_0, b01_1, b01_2, b01_3, b01_4, Nat.zero_le, Nat.reduceAdd, Nat.reduceLeDiff, ↓reduceIte, not_true_eq_false, not_false_eq_true, Bool.false_eq_true]
    · refine ⟨[.ref 74, .int (nI S), .int (nI (n + 1 + 1))], _, ⟨rfl, ch1, c, rfl, t0, fun s hs hgs => ?_, fun s hs0 hs hgs => ?_⟩, ?_⟩
      · by_cases cc : s = n + 1
        · subst cc; exact absurd hgs.1 c1
        · exact t1 s (by omega) hgs
      · by_cases cc : s = n + 1
        · subst cc; exact absurd hgs.1 c1
        · exact t2 s hs0 (by omega) hgs
      · rw [h_23_9]
        simp only [e_23, k1, nx_cpl, nx_and, z1, c1, nI_1, Option.bind_some, Option.toList_some, Option.toList_none, List.cons_append, List.nil_append, List.append_nil, List.length_cons, List.length_nil, true_or, or_true, eq_self, b01_0, b01_1, b01_2, b01_3, b01_4, Nat.zero_le, Nat.reduceAdd, Nat.reduceLeDiff, ↓reduceIte, not_true_eq_false, not_false_eq_true, Bool.false_eq_true]) [.ref 74, .int (nI S), .int 1] (G.set 76 (.inl (0, 128, upd ch 0 0))) ⟨rfl, upd ch 0 0, fun _ => 0, rfl, rfl, fun s hs _ => by
      have e : s = 0 := by omega
      subst e
      rw [pk_us]; exact ⟨rfl, by decide⟩, fun s hs0 hs => absurd hs (by omega)⟩
  subst hls
  subst hG'
  have k2 : nI S < nI (S + 1) := nI_lt (by omega) (by omega)
  have gch := (pr_f (X := X) (hps ch')).2.2.2.2 S hS
  rw [(t1 S (Nat.le_refl _) hg).1] at gch
  refine ⟨ch', c, ?_, t0, t2⟩
  rw [hst, hev, h_23_9]
  simp only [e_23, k2, pr_f (X := X) (hps ch'), gch, Option.bind_some, Option.toList_some, Option.toList_none, List.cons_append, List.nil_append, List.append_nil, List.length_cons, List.length_nil, true_or, or_true, eq_self, b01_0, b01_1, b01_2, b01_3, b01_4, Nat.zero_le, Nat.reduceAdd, Nat.reduceLeDiff, ↓reduceIte, not_true_eq_false, not_false_eq_true, Bool.false_eq_true]
end CLS
