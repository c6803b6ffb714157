/-! rows: paired -/
theorem upd_upd (f : Nat → Int32) (k : Nat) (x y : Int32) : upd (upd f k x) k y = upd f k y := by
  funext j
  by_cases c : j = k
  · subst c; rw [pk_us, pk_us]
  · rw [pk_un c, pk_un c, pk_un c]
def stN (ok : Nat → Bool) : Nat → Nat
  | 0 => 0
  | f + 1 => stN ok f ||| (if ok f then 2 ^ f else 0)
theorem stN_tb (ok : Nat → Bool) (k : Nat) : ∀ n, (stN ok n).testBit k = (decide (k < n) && ok k)
  | 0 => by show (0 : Nat).testBit k = _; rw [Nat.zero_testBit, decide_eq_false (by omega)]; rfl
  | n + 1 => by
    show (stN ok n ||| (if ok n then 2 ^ n else 0)).testBit k = _
    rw [Nat.testBit_or, stN_tb ok k n]
    by_cases c : k = n
    · subst c
      rw [decide_eq_false (show ¬ k < k by omega), decide_eq_true (show k < k + 1 by omega)]
      cases h : ok k with
      | true => rw [if_pos rfl, Nat.testBit_two_pow, decide_eq_true rfl]; rfl
      | false => rw [if_neg (by decide), Nat.zero_testBit]; rfl
    · have e : decide (k < n) = decide (k < n + 1) := by by_cases q : k < n; rw [decide_eq_true q, decide_eq_true (by omega)]; rw [decide_eq_false q, decide_eq_false (by omega)]
      rw [e]
      cases h : ok n with
      | true => rw [if_pos rfl, Nat.testBit_two_pow, decide_eq_false (show ¬ n = k by omega), Bool.or_false]
      | false => rw [if_neg (by decide), Nat.zero_testBit, Bool.or_false]
theorem stN_tf {R C : Nat} {ws ks : Nat → Int32} (hs : sh R C) : stN (trB R C ws ks) (nF R C) = tfN R C ws ks (nJ R C) := by
  apply Nat.eq_of_testBit_eq
  intro k
  rw [stN_tb, tf_bit]
  show (decide (k < nF R C) && trB R C ws ks k) = trB R C ws ks k
  by_cases c : k < nF R C
  · rw [decide_eq_true c, Bool.true_and]
  · rw [trB_out hs (by omega), Bool.and_false]
theorem stN_lt {ok : Nat → Bool} : ∀ n, n ≤ 7 → stN ok n < 128
  | 0, _ => by show 0 < 128; decide
  | n + 1, h => by
    show (stN ok n ||| (if ok n then 2 ^ n else 0)) < 2 ^ 7
    refine Nat.or_lt_two_pow (stN_lt n (by omega)) ?_
    split
    · exact Nat.pow_lt_pow_right (by decide) (by omega)
    · decide
theorem stN_cg {ok ok' : Nat → Bool} : ∀ n, (∀ f, f < n → ok f = ok' f) → stN ok n = stN ok' n
  | 0, _ => rfl
  | n + 1, h => by
    show (stN ok n ||| (if ok n then 2 ^ n else 0)) = (stN ok' n ||| (if ok' n then 2 ^ n else 0))
    rw [stN_cg n (fun f hf => h f (by omega)), h n (by omega)]
section REF
variable {X : mc_X} {H : mc_H} {su : Int32} {tr : Int64} {R C U : Nat} {tu tl ki go wa ol hs so sr rs ce cp fa pa : Nat → Int32}
theorem r_pairH (h : rm H su tr R C U tu tl ki go wa ol hs so sr rs ce cp fa pa) (hs' : sh R C) : ((∀ i, i < nN R C → hb ki go i = false) → mc_ev X 152 0 [.ref 90, .null, .null, .null, .null, .null] [] H = mc_ev X 152 36 [.ref 90, .int 0, .int 0, .null, .null, .null] [] H) ∧ ((∃ i, i < nN R C ∧ hb ki go i = true) → mc_ev X 152 0 [.ref 90, .null, .null, .null, .null, .null] [] H = some (some (.int (-2)), H)) := by
  have hb1 := sh_b hs'
  have h0 : mc_ev X 152 0 [.ref 90, .null, .null, .null, .null, .null] [] H = mc_ev X 152 7 [.ref 90, .int 0, .null, .null, .null, .null] [] H := by
    simp only [e_152, rm_t h, Option.bind_some, Option.toList_some, Option.toList_none, List.cons_append, List.nil_append, List.append_nil, List.length_cons, List.length_nil, true_or, or_true, eq_self, b01_0, b01_1, b01_2, b01_3, b01_4, Nat.zero_le, Nat.reduceAdd, Nat.reduceLeDiff, ↓reduceIte, not_true_eq_false, not_false_eq_true, Bool.false_eq_true]
  have hl : ∀ e, e ≤ nN R C → (∀ i, i < e → hb ki go i = false) → mc_ev X 152 7 [.ref 90, .int 0, .null, .null, .null, .null] [] H = mc_ev X 152 7 [.ref 90, .int (nI e), .null, .null, .null, .null] [] H := by
    intro e he hf
    exact ev_loop (X := X) (k := 152) (pc := 7) (fun i => [.ref 90, .int (nI i), .null, .null, .null, .null]) (fun _ => H) e (by
      intro i hi
      have k1 : nI i < nI (nN R C) := nI_lt (by omega) (by omega)
      rw [h_152_7]
      simp only [e_152, rm_f h, r_needles h, k1, r_isHeld h (i := i) (by omega), hf i hi, nI_1, Option.bind_some, Option.toList_some, Option.toList_none, List.cons_append, List.nil_append, List.append_nil, List.length_cons, List.length_nil, true_or, or_true, eq_self, b01_0, b01_1, b01_2, b01_3, b01_4, Nat.zero_le, Nat.reduceAdd, Nat.reduceLeDiff, ↓reduceIte, not_true_eq_false, not_false_eq_true, Bool.false_eq_true])
  constructor
  · intro hf
    have k2 : ¬ nI (nN R C) < nI (nN R C) := nI_nlt (Nat.le_refl _) (by omega)
    rw [h0, hl (nN R C) (Nat.le_refl _) hf, h_152_7]
    simp only [e_152, rm_f h, r_needles h, k2, Option.bind_some, Option.toList_some, Option.toList_none, List.cons_append, List.nil_append, List.append_nil, List.length_cons, List.length_nil, true_or, or_true, eq_self, b01_0, b01_1, b01_2, b01_3, b01_4, Nat.zero_le, Nat.reduceAdd, Nat.reduceLeDiff, ↓reduceIte, not_true_eq_false, not_false_eq_true, Bool.false_eq_true]
  · intro hex
    obtain ⟨i, ⟨h1, h2⟩, h3⟩ := pk_least (fun i => i < nN R C ∧ hb ki go i = true) hex
    have k1 : nI i < nI (nN R C) := nI_lt h1 (by omega)
    rw [h0, hl i (by omega) (fun j hj => by
      cases hh : hb ki go j with
      | false => rfl
      | true => exact absurd ⟨by omega, hh⟩ (h3 j hj)), h_152_7]
    simp only [e_152, rm_f h, r_needles h, k1, r_isHeld h (i := i) (by omega), h2, Option.bind_some, Option.toList_some, Option.toList_none, List.cons_append, List.nil_append, List.append_nil, List.length_cons, List.length_nil, true_or, or_true, eq_self, b01_0, b01_1, b01_2, b01_3, b01_4, Nat.zero_le, Nat.reduceAdd, Nat.reduceLeDiff, ↓reduceIte, not_true_eq_false, not_false_eq_true, Bool.false_eq_true]
theorem r_pairS (h : rm H su tr R C U tu tl ki go wa ol hs so sr rs ce cp fa pa) (hs' : sh R C) : mc_ev X 152 36 [.ref 90, .int 0, .int 0, .null, .null, .null] [] H = mc_ev X 152 77 [.ref 90, .int (nI (stN (trB R C wa ki) (nF R C))), .int 1, .null, .null, .null] [] (H.set 104 (.inl (0, 4096, upd pa 0 0))) := by
  have hb1 := sh_b hs'
  have hl := ev_loop (X := X) (k := 152) (pc := 36) (fun f => [.ref 90, .int (nI (stN (trB R C wa ki) f)), .int (nI f), .null, .null, .null]) (fun _ => H) (nF R C) (by
    intro f hf
    have k1 : nI f < nI (nF R C) := nI_lt hf (by omega)
    have e : stN (trB R C wa ki) (f + 1) = stN (trB R C wa ki) f ||| (if trB R C wa ki f then 2 ^ f else 0) := rfl
    rw [h_152_36, e]
    cases ht : trB R C wa ki f with
    | true =>
      simp only [e_152, rm_f h, r_fields h hs', k1, r_isTroubled h hs' (f := f) (by omega), ht, shl1 (l := f) (by omega), nx_or, nI_1, Option.bind_some, Option.toList_some, Option.toList_none, List.cons_append, List.nil_append, List.append_nil, List.length_cons, List.length_nil, true_or, or_true, eq_self, b01_0, b01_1, b01_2, b01_3, b01_4, Nat.zero_le, Nat.reduceAdd, Nat.reduceLeDiff, ↓reduceIte, not_true_eq_false, not_false_eq_true, Bool.false_eq_true]
    | false =>
      have o0 : nI (stN (trB R C wa ki) f) ||| 0 = nI (stN (trB R C wa ki) f ||| 0) := nx_or _ 0
      simp only [e_152, rm_f h, r_fields h hs', k1, r_isTroubled h hs' (f := f) (by omega), ht, o0, nI_1, Option.bind_some, Option.toList_some, Option.toList_none, List.cons_append, List.nil_append, List.append_nil, List.length_cons, List.length_nil, true_or, or_true, eq_self, b01_0, b01_1, b01_2, b01_3, b01_4, Nat.zero_le, Nat.reduceAdd, Nat.reduceLeDiff, ↓reduceIte, not_true_eq_false, not_false_eq_true, Bool.false_eq_true])
  have k2 : ¬ nI (nF R C) < nI (nF R C) := nI_nlt (Nat.le_refl _) (by omega)
  have w : mc_setA H 0 104 0 0 = some (H.set 104 (.inl (0, 4096, upd pa 0 0))) := rm_w104a h (j := 0) (by decide) 0
  refine Eq.trans hl ?_
  rw [h_152_36]
  simp only [e_152, rm_f h, r_fields h hs', k2, w, Option.bind_some, Option.toList_some, Option.toList_none, List.cons_append, List.nil_append, List.append_nil, List.length_cons, List.length_nil, true_or, or_true, eq_self, b01_0, b01_1, b01_2, b01_3, b01_4, Nat.zero_le, Nat.reduceAdd, Nat.reduceLeDiff, ↓reduceIte, not_true_eq_false, not_false_eq_true, Bool.false_eq_true]
theorem r_pairG (h : rm H su tr R C U tu tl ki go wa ol hs so sr rs ce cp fa pa) (hs' : sh R C) {S s : Nat} (hs : s < 128) (h0 : 0 < s) : ∀ (r a : Nat) (acc : Int32) (v : Value), a + r = nF R C → low s < a → ∃ v' : Value, mc_ev X 152 124 [.ref 90, .int (nI S), .int (nI s), .int (nI (low s)), .int (nI a), v] [] (H.set 104 (.inl (0, 4096, upd pa s acc))) = mc_ev X 152 77 [.ref 90, .int (nI S), .int (nI (s + 1)), .int (nI (low s)), .int (nI (nF R C)), v'] [] (H.set 104 (.inl (0, 4096, upd pa s (mI (bit s) (fun g => pa (rst s g) + fa g) r a acc)))) := by
  have hb1 := sh_b hs'
  obtain ⟨l1, l2, l3⟩ := low_ok s hs h0
  intro r
  induction r with
  | zero =>
    intro a acc v ha hl
    have ea : a = nF R C := by omega
    subst ea
    have k2 : ¬ nI (nF R C) < nI (nF R C) := nI_nlt (Nat.le_refl _) (by omega)
    have p1 := rm_s104 h (upd pa s acc)
    refine ⟨v, ?_⟩
    rw [h_152_124]
    simp only [e_152, rm_f p1, r_fields p1 hs', k2, nI_1, Option.bind_some, Option.toList_some, Option.toList_none, List.cons_append, List.nil_append, List.append_nil, List.length_cons, List.length_nil, true_or, or_true, eq_self, b01_0, b01_1, b01_2, b01_3, b01_4, Nat.zero_le, Nat.reduceAdd, Nat.reduceLeDiff, ↓reduceIte, not_true_eq_false, not_false_eq_true, Bool.false_eq_true]
    rfl
  | succ r ih =>
    intro a acc v ha hl
    have k1 : nI a < nI (nF R C) := nI_lt (by omega) (by omega)
    have hbn := bit_n (A := s) (d := a) (by omega) (by omega)
    have z : (nI (s / 2 ^ a % 2) = 1) = (s / 2 ^ a % 2 = 1) := nI_is1 (by have := Nat.mod_lt (s / 2 ^ a) (y := 2) (by decide); omega)
    have p1 := rm_s104 h (upd pa s acc)
    show ∃ v', _ = mc_ev X 152 77 _ [] (H.set 104 (.inl (0, 4096, upd pa s (mI (bit s) (fun g => pa (rst s g) + fa g) r (a + 1) (if bit s a then (if pa (rst s a) + fa a < acc then pa (rst s a) + fa a else acc) else acc)))))
    by_cases cc : s / 2 ^ a % 2 = 1
    · have hba : bit s a = true := decide_eq_true cc
      obtain ⟨r1, -, -⟩ := rst_ok s hs h0 a (by omega) hl hba
      have er := rst_cp s hs h0 a (by omega) hl hba
      have a1 := (rm_a (X := X) p1).2.2.2.2.2.2.2.2.2.2.2.2.2 (rst s a) (by omega)
      have a2 := (rm_a (X := X) p1).2.2.2.2.2.2.2.2.2.2.2.2.2 s (by omega)
      have a3 := (rm_a (X := X) p1).2.2.2.2.2.2.2.2.2.2.2.2.1 a (by omega)
      rw [pk_un (show rst s a ≠ s by omega)] at a1
      rw [pk_us] at a2
      have w := fun z => rm_w104s h (upd pa s acc) (j := s) (by omega) z
      obtain ⟨v', e'⟩ := ih (a + 1) (if pa (rst s a) + fa a < acc then pa (rst s a) + fa a else acc) (.int (pa (rst s a) + fa a)) (by omega) (by omega)
      refine ⟨v', ?_⟩
      rw [hba, if_pos rfl, ← e', h_152_124]
      simp only [e_152, rm_f p1, r_fields p1 hs', k1, hbn, z, eq_true cc, shl1 (l := low s) (by omega), shl1 (l := a) (by omega), nx_cpl, nx_and, er, a1, a2, a3, Option.bind_some, Option.toList_some, Option.toList_none, List.cons_append, List.nil_append, List.append_nil, List.length_cons, List.length_nil, true_or, or_true, eq_self, b01_0, b01_1, b01_2, b01_3, b01_4, Nat.zero_le, Nat.reduceAdd, Nat.reduceLeDiff, ↓reduceIte, not_true_eq_false, not_false_eq_true, Bool.false_eq_true]
      by_cases c2 : pa (rst s a) + fa a < acc
      · simp only [e_152, c2, rm_f p1, a2, w, upd_upd, nI_1, Option.bind_some, Option.toList_some, Option.toList_none, List.cons_append, List.nil_append, List.append_nil, List.length_cons, List.length_nil, true_or, or_true, eq_self, b01_0, b01_1, b01_2, b01_3, b01_4, Nat.zero_le, Nat.reduceAdd, Nat.reduceLeDiff, ↓reduceIte, not_true_eq_false, not_false_eq_true, Bool.false_eq_true]
      · simp only [e_152, c2, rm_f p1, a2, w, upd_upd, nI_1, Option.bind_some, Option.toList_some, Option.toList_none, List.cons_append, List.nil_append, List.append_nil, List.length_cons, List.length_nil, true_or, or_true, eq_self, b01_0, b01_1, b01_2, b01_3, b01_4, Nat.zero_le, Nat.reduceAdd, Nat.reduceLeDiff, ↓reduceIte, not_true_eq_false, not_false_eq_true, Bool.false_eq_true]
    · have hba : bit s a = false := decide_eq_false cc
      obtain ⟨v', e'⟩ := ih (a + 1) acc v (by omega) (by omega)
      refine ⟨v', ?_⟩
      rw [hba, if_neg (by decide), ← e', h_152_124]
      simp only [e_152, rm_f p1, r_fields p1 hs', k1, hbn, z, cc, nI_1, Option.bind_some, Option.toList_some, Option.toList_none, List.cons_append, List.nil_append, List.append_nil, List.length_cons, List.length_nil, true_or, or_true, eq_self, b01_0, b01_1, b01_2, b01_3, b01_4, Nat.zero_le, Nat.reduceAdd, Nat.reduceLeDiff, ↓reduceIte, not_true_eq_false, not_false_eq_true, Bool.false_eq_true]
set_option maxHeartbeats 1000000 in
theorem r_pairL (h : rm H su tr R C U tu tl ki go wa ol hs so sr rs ce cp fa pa) (hs' : sh R C) {w : Nat → Nat} (hA : ∀ j, j < nJ R C → am (ct R C wa ki j) = nI (w j) ∧ w j ≤ 4000) {d : Nat → Nat → Nat} (hd : dOK R C w d) (hd6 : ∀ a b, a < nF R C → b < nF R C → d a b ≤ 60000) {S : Nat} (hS : S < 128) (hSF : S < 2 ^ nF R C) (hg : gd S S) (hp0 : pa 0 = 0) : ∃ (H' : mc_H) (fa' pa' : Nat → Int32) (q : Nat → Nat), mc_ev X 152 77 [.ref 90, .int (nI S), .int 1, .null, .null, .null] [] H = some (some (.int (nI (q S))), H') ∧ (∀ k, k < 90 → H'[k]? = H[k]?) ∧ rm H' su tr R C U tu tl ki go wa ol hs so sr rs ce cp fa' pa' ∧ q 0 = 0 ∧ ∀ s, 0 < s → s ≤ S → gd S s → q s = mnG (bit s) (fun g => q (rst s g) + d (low s) g) (nF R C - 1 - low s) (low s + 1) 1000000000 := by
  have hb1 := sh_b hs'
  obtain ⟨ls, G', ⟨x3, x4, x5, fa', pa', q, hls, hag, hr, t0, t1, t2⟩, hev⟩ := ev_inv (X := X) (k := 152) (pc := 77) (fun n ls G' => ∃ (x3 x4 x5 : Value) (fa' pa' : Nat → Int32) (q : Nat → Nat), ls = [.ref 90, .int (nI S), .int (nI (n + 1)), x3, x4, x5] ∧ (∀ k, k < 90 → G'[k]? = H[k]?) ∧ rm G' su tr R C U tu tl ki go wa ol hs so sr rs ce cp fa' pa' ∧ q 0 = 0 ∧ (∀ s, s ≤ n → gd S s → pa' s = nI (q s) ∧ q s ≤ 1000000000) ∧ ∀ s, 0 < s → s ≤ n → gd S s → q s = mnG (bit s) (fun g => q (rst s g) + d (low s) g) (nF R C - 1 - low s) (low s + 1) 1000000000) S (by
    intro n hn ls G' ⟨x3, x4, x5, fa1, pa1, q, hls, hag, hr, t0, t1, t2⟩
    subst hls
    have k1 : ¬ nI S < nI (n + 1) := nI_nlt (by omega) (by omega)
    have hcp : n + 1 &&& cpl S ≤ n + 1 := Nat.and_le_left
    have z1 : (nI (n + 1 &&& cpl S) = 0) = (n + 1 &&& cpl S = 0) := nI_is0 (by omega)
    have w1 := rm_w104a hr (j := n + 1) (by omega) 1000000000
    have p1 := rm_s104 hr (upd pa1 (n + 1) 1000000000)
    by_cases c1 : n + 1 &&& cpl S = 0
    · obtain ⟨l1, l2, l3⟩ := low_ok (n + 1) (by omega) (by omega)
      have hlb : bit (n + 1) (low (n + 1)) = true := decide_eq_true l2
      have hln := gd_f hSF c1 l1 hlb
      have st : mc_ev X 152 77 [.ref 90, .int (nI S), .int (nI (n + 1)), x3, x4, x5] [] G' = mc_ev X 152 100 [.ref 90, .int (nI S), .int (nI (n + 1)), .int (nI 0), x4, x5] [] (G'.set 104 (.inl (0, 4096, upd pa1 (n + 1) 1000000000))) := by
        rw [h_152_77]
        simp only [e_152, k1, rm_f hr, w1, nx_cpl, nx_and, z1, eq_true c1, show nI 0 = (0 : Int32) from rfl, Option.bind_some, Option.toList_some, Option.toList_none, List.cons_append, List.nil_append, List.append_nil, List.length_cons, List.length_nil, true_or, or_true, eq_self, b01_0, b01_1, b01_2, b01_3, b01_4, Nat.zero_le, Nat.reduceAdd, Nat.reduceLeDiff, ↓reduceIte, not_true_eq_false, not_false_eq_true, Bool.false_eq_true]
      have hl := ev_loop (X := X) (k := 152) (pc := 100) (fun k => [.ref 90, .int (nI S), .int (nI (n + 1)), .int (nI k), x4, x5]) (fun _ => G'.set 104 (.inl (0, 4096, upd pa1 (n + 1) 1000000000))) (low (n + 1)) (by
        intro k hk
        have hbn := bit_n (A := n + 1) (d := k) (by omega) (by omega)
        rw [l3 k (by omega) hk] at hbn
        rw [h_152_100]
        simp only [e_152, hbn, show (nI 0 = (0 : Int32)) = True from eq_true rfl, nI_1, Option.bind_some, Option.toList_some, Option.toList_none, List.cons_append, List.nil_append, List.append_nil, List.length_cons, List.length_nil, true_or, or_true, eq_self, b01_0, b01_1, b01_2, b01_3, b01_4, Nat.zero_le, Nat.reduceAdd, Nat.reduceLeDiff, ↓reduceIte, not_true_eq_false, not_false_eq_true, Bool.false_eq_true])
      obtain ⟨f', s1, s2⟩ := r_spreads (X := X) p1 hs' hA hd hln
      have p2 := rm_s103 p1 f'
      have st2 : mc_ev X 152 100 [.ref 90, .int (nI S), .int (nI (n + 1)), .int (nI (low (n + 1))), x4, x5] [] (G'.set 104 (.inl (0, 4096, upd pa1 (n + 1) 1000000000))) = mc_ev X 152 124 [.ref 90, .int (nI S), .int (nI (n + 1)), .int (nI (low (n + 1))), .int (nI (low (n + 1) + 1)), x5] [] ((G'.set 104 (.inl (0, 4096, upd pa1 (n + 1) 1000000000))).set 103 (.inl (0, 64, f'))) := by
        have hbn := bit_n (A := n + 1) (d := low (n + 1)) (by omega) (by omega)
        rw [l2] at hbn
        rw [h_152_100]
        simp only [e_152, hbn, show (nI 1 = (0 : Int32)) = False from eq_false (by decide), rm_f p1, s1, nI_1, Option.bind_some, Option.toList_some, Option.toList_none, List.cons_append, List.nil_append, List.append_nil, List.length_cons, List.length_nil, true_or, or_true, eq_self, b01_0, b01_1, b01_2, b01_3, b01_4, Nat.zero_le, Nat.reduceAdd, Nat.reduceLeDiff, ↓reduceIte, not_true_eq_false, not_false_eq_true, Bool.false_eq_true]
      obtain ⟨v', e'⟩ := r_pairG (X := X) p2 hs' (S := S) (s := n + 1) (by omega) (by omega) (nF R C - 1 - low (n + 1)) (low (n + 1) + 1) 1000000000 x5 (by omega) (by omega)
      rw [upd_upd] at e'
      have hsm : ((G'.set 104 (.inl (0, 4096, upd pa1 (n + 1) 1000000000))).set 103 (.inl (0, 64, f'))).set 104 (.inl (0, 4096, upd pa1 (n + 1) 1000000000)) = (G'.set 104 (.inl (0, 4096, upd pa1 (n + 1) 1000000000))).set 103 (.inl (0, 64, f')) := set_same p2.2.2.2.2.2.2.2.2.2.2.2.2.2.2
      rw [hsm] at e'
      have eP : (fun g => upd pa1 (n + 1) 1000000000 (rst (n + 1) g) + f' g) = (fun g => upd pa1 (n + 1) 1000000000 (rst (n + 1) g) + f' g) := rfl
      have p3 := rm_s104 p2 (upd (upd pa1 (n + 1) 1000000000) (n + 1) (mI (bit (n + 1)) (fun g => upd pa1 (n + 1) 1000000000 (rst (n + 1) g) + f' g) (nF R C - 1 - low (n + 1)) (low (n + 1) + 1) 1000000000))
      have hall := ((st.trans hl).trans st2).trans e'
      have hmI : gd S (n + 1) → mI (bit (n + 1)) (fun g => upd pa1 (n + 1) 1000000000 (rst (n + 1) g) + f' g) (nF R C - 1 - low (n + 1)) (low (n + 1) + 1) 1000000000 = nI (mnG (bit (n + 1)) (fun g => q (rst (n + 1) g) + d (low (n + 1)) g) (nF R C - 1 - low (n + 1)) (low (n + 1) + 1) 1000000000) := by
        intro hgd
        refine mI_n (nF R C - 1 - low (n + 1)) (low (n + 1) + 1) 1000000000 (by decide) (fun g g1 g2 g3 => ?_)
        obtain ⟨y1, y2⟩ := gd_r (by omega) (by omega) hgd (show g < 7 by omega) (by omega) g3
        obtain ⟨u1, u2⟩ := t1 _ (by omega) y1
        have u3 := hd6 (low (n + 1)) g hln (by omega)
        refine ⟨?_, by omega⟩
        rw [pk_un (by omega), u1, s2 g (by omega), nI_add]
      refine ⟨_, _, ⟨_, _, v', f', _, va_up q (n + 1) (mnG (bit (n + 1)) (fun g => q (rst (n + 1) g) + d (low (n + 1)) g) (nF R C - 1 - low (n + 1)) (low (n + 1) + 1) 1000000000), rfl, fun k hk => ?_, p3, ?_, fun s hs hgs => ?_, fun s hs0 hs hgs => ?_⟩, hall⟩
      · rw [gs_ne (by omega), gs_ne (by omega), gs_ne (by omega)]; exact hag k hk
      · rw [va_up_ne _ _ (by omega)]; exact t0
      · rw [upd_upd]
        by_cases cc : s = n + 1
        · subst cc
          rw [pk_us, va_up_self, hmI hgs]
          exact ⟨rfl, (mnG_le _ _ _).1⟩
        · rw [pk_un cc, va_up_ne _ _ cc]; exact t1 s (by omega) hgs
      · have e : mnG (bit s) (fun g => va_up q (n + 1) (mnG (bit (n + 1)) (fun g => q (rst (n + 1) g) + d (low (n + 1)) g) (nF R C - 1 - low (n + 1)) (low (n + 1) + 1) 1000000000) (rst s g) + d (low s) g) (nF R C - 1 - low s) (low s + 1) 1000000000 = mnG (bit s) (fun g => q (rst s g) + d (low s) g) (nF R C - 1 - low s) (low s + 1) 1000000000 := by
          apply mnG_cg
          intro g g1 g2 g3
          obtain ⟨z1, z2⟩ := gd_r (by omega) hs0 hgs (show g < 7 by omega) (by omega) g3
          show _ + d (low s) g = _ + d (low s) g
          rw [va_up_ne _ _ (by omega)]
        rw [e]
        by_cases cc : s = n + 1
        · subst cc; rw [va_up_self]
        · rw [va_up_ne _ _ cc]; exact t2 s hs0 (by omega) hgs
    · refine ⟨[.ref 90, .int (nI S), .int (nI (n + 1 + 1)), x3, x4, x5], _, ⟨x3, x4, x5, fa1, _, q, rfl, fun k hk => ?_, p1, t0, fun s hs hgs => ?_, fun s hs0 hs hgs => ?_⟩, ?_⟩
      · rw [gs_ne (by omega)]; exact hag k hk
      · by_cases cc : s = n + 1
        · subst cc; exact absurd hgs.1 c1
        · rw [pk_un cc]; exact t1 s (by omega) hgs
      · by_cases cc : s = n + 1
        · subst cc; exact absurd hgs.1 c1
        · exact t2 s hs0 (by omega) hgs
      · rw [h_152_77]
        simp only [e_152, k1, rm_f hr, w1, nx_cpl, nx_and, z1, c1, nI_1, Option.bind_some, Option.toList_some, Option.toList_none, List.cons_append, List.nil_append, List.append_nil, List.length_cons, List.length_nil, true_or, or_true, eq_self, b01_0, b01_1, b01_2, b01_3, b01_4, Nat.zero_le, Nat.reduceAdd, Nat.reduceLeDiff, ↓reduceIte, not_true_eq_false, not_false_eq_true, Bool.false_eq_true]) [.ref 90, .int (nI S), .int 1, .null, .null, .null] H ⟨.null, .null, .null, fa, pa, fun _ => 0, rfl, fun k _ => rfl, h, rfl, fun s hs _ => by
      have e : s = 0 := by omega
      subst e
      exact ⟨hp0, by decide⟩, fun s hs0 hs => absurd hs (by omega)⟩
  subst hls
  have k2 : nI S < nI (S + 1) := nI_lt (by omega) (by omega)
  have gpa := (rm_a (X := X) hr).2.2.2.2.2.2.2.2.2.2.2.2.2 S (by omega)
  rw [(t1 S (Nat.le_refl _) hg).1] at gpa
  refine ⟨G', fa', pa', q, ?_, hag, hr, t0, t2⟩
  rw [hev, h_152_77]
  simp only [e_152, k2, rm_f hr, gpa, Option.bind_some, Option.toList_some, Option.toList_none, List.cons_append, List.nil_append, List.append_nil, List.length_cons, List.length_nil, true_or, or_true, eq_self, b01_0, b01_1, b01_2, b01_3, b01_4, Nat.zero_le, Nat.reduceAdd, Nat.reduceLeDiff, ↓reduceIte, not_true_eq_false, not_false_eq_true, Bool.false_eq_true]
end REF
section ROWS
variable {L : Nat} {xs : Nat → Int32}
set_option maxHeartbeats 1000000 in
theorem R17 : lw_R17 L xs Inv := by
  intro G hG
  refine inv_elim hG ?_
  intro R C rim fi se lo hi TB OB LB ks ws stale lw SZ HD HP sts nx sz kq hT hO hL hK hW sq sv rv le nu di ch tr su U tu tl ki go wa ol hs so sr rs ce cp fa pa hpl hpv hld hhs hsp htp hpr hrm hr1 hr2 hr3 hr4
  have hb1 := sh_b hpv.1
  have hh31 := lt31 hb1.2.1 (hH_lt (R := R) (C := C) (LB := LB) (ks := ks))
  have z0 : (nI (hH R C LB ks) = 0) = (hH R C LB ks = 0) := nI_is0 hh31
  by_cases c0 : hH R C LB ks = 0
  case neg =>
    have hex : ∃ i, i < nN R C ∧ hb ki go i = true := by
      refine Classical.byContradiction (fun hne => c0 ?_)
      refine bits_ext hH_lt (Nat.two_pow_pos _) (fun i hi => ?_)
      rw [hH_bt hpv.1 hi, bt_0]
      obtain ⟨q1, q2, q3, q4⟩ := hr1.1 i hi
      have e5 : hb ki go i = hb ks (gB (nN R C) LB) i := hb_cg q4 q3
      rw [← e5]
      cases hh : hb ki go i with
      | false => rfl
      | true => exact absurd ⟨i, hi, hh⟩ hne
    refine rd hG (v := -2) ?_ ((r_pairH hrm hpv.1).2 hex)
    simp only [e_78, tp_f htp, pl_f hpl, c_heldBits hpl hpv, z0, c0, Option.bind_some, Option.toList_some, Option.toList_none, List.cons_append, List.nil_append, List.append_nil, List.length_cons, List.length_nil, true_or, or_true, eq_self, b01_0, b01_1, b01_2, b01_3, b01_4, Nat.zero_le, Nat.reduceAdd, Nat.reduceLeDiff, ↓reduceIte, not_true_eq_false, not_false_eq_true, Bool.false_eq_true]
  have hno : ∀ i, i < nN R C → hb ki go i = false := by
    intro i hi
    obtain ⟨q1, q2, q3, q4⟩ := hr1.1 i hi
    have e5 : hb ki go i = hb ks (gB (nN R C) LB) i := hb_cg q4 q3
    have := hH_bt (LB := LB) (ks := ks) hpv.1 hi
    rw [c0, bt_0, ← e5] at this
    cases hh : hb ki go i with
    | false => rfl
    | true => rw [hh] at this; cases this
  obtain ⟨di', d, m1, m2, m3⟩ := c_measure (L := L) (xs := xs) hpl hpv hpr
  have p1 := pr_s5 hpr di'
  have t1 := tp_ag htp (G' := G.set 75 (.inl (0, 49, di'))) (gs_ne (by decide))
  have pl1 := pl_ag hpl (G' := G.set 75 (.inl (0, 49, di'))) (fun k a b => gs_ne (by omega))
  have hS := tf_lt (ws := ws) (ks := ks) hpv.1 (nJ R C) (Nat.le_refl _)
  have hSF := tf_ltF (ws := ws) (ks := ks) hpv.1
  have hSe := tf_ev (ws := ws) (ks := ks) hpv.1 (nJ R C) (Nat.le_refl _)
  have hgd : gd (tfN R C ws ks (nJ R C)) (tfN R C ws ks (nJ R C)) := by
    refine ⟨?_, hSe⟩
    apply Nat.eq_of_testBit_eq
    intro k
    rw [Nat.zero_testBit, Nat.testBit_and]
    by_cases ck : k < 32
    · rw [cpl_tb ck]; cases (tfN R C ws ks (nJ R C)).testBit k <;> rfl
    · rw [Nat.testBit_lt_two_pow (Nat.lt_of_lt_of_le hS (Nat.pow_le_pow_right (by decide) (by omega))), Bool.false_and]
  have hset : stN (trB R C wa ki) (nF R C) = tfN R C ws ks (nJ R C) := by
    rw [stN_cg (ok' := trB R C ws ks) _ (fun f _ => trB_cg (wa := wa) (ki := ki) (ws := ws) (ks := ks) hpv.1 (fun i hi => (hr1.1 i hi).2.2.2) hr1.2 f)]
    exact stN_tf hpv.1
  have ctf := c_troubledFields (L := L) (xs := xs) pl1 hpv
  revert ctf hset hgd hSF hS
  generalize tfN R C ws ks (nJ R C) = S
  intro hS hSF hgd hset ctf
  obtain ⟨ch', c, n1, n2, n3⟩ := c_cheapestOf (X := mc_X0 L xs) p1 m2 hS hgd
  have p2 : pr ((G.set 75 (.inl (0, 49, di'))).set 76 (.inl (0, 128, ch'))) di' ch' := ⟨(gs_ne (by decide)).trans p1.1, (gs_ne (by decide)).trans p1.2.1, gs_self p1.2.2⟩
  have ag1 : ∀ k, k ≠ 75 → k ≠ 76 → ((G.set 75 (.inl (0, 49, di'))).set 76 (.inl (0, 128, ch')))[k]? = G[k]? := fun k a b => by rw [gs_ne (Ne.symm b), gs_ne (Ne.symm a)]
  have hx : mc_ev (mc_X0 L xs) 78 0 [.ref 0] [] G = some (some (.int (nI (c S))), (G.set 75 (.inl (0, 49, di'))).set 76 (.inl (0, 128, ch'))) := by
    simp only [e_78, tp_f htp, pl_f hpl, c_heldBits hpl hpv, z0, eq_true c0, pr_f (X := mc_X0 L xs) hpr, m1, tp_f t1, pl_f pl1, ctf, pr_f (X := mc_X0 L xs) p1, n1, Option.bind_some, Option.toList_some, Option.toList_none, List.cons_append, List.nil_append, List.append_nil, List.length_cons, List.length_nil, true_or, or_true, eq_self, b01_0, b01_1, b01_2, b01_3, b01_4, Nat.zero_le, Nat.reduceAdd, Nat.reduceLeDiff, ↓reduceIte, not_true_eq_false, not_false_eq_true, Bool.false_eq_true]
  have rA := rm_ag hrm (G' := (G.set 75 (.inl (0, 49, di'))).set 76 (.inl (0, 128, ch'))) (fun k a b => ag1 k (by omega) (by omega))
  have hw : ∀ j, j < nJ R C → wN R C ws ks j ≤ 4000 := fun j hj => (am_w hpv hj).2
  have hA : ∀ j, j < nJ R C → am (ct R C wa ki j) = nI (wN R C ws ks j) ∧ wN R C ws ks j ≤ 4000 := fun j hj => by
    rw [ct_cg (wa := wa) (ki := ki) (ws := ws) (ks := ks) hpv.1 (fun i hi => (hr1.1 i hi).2.2.2) hr1.2 hj]
    exact am_w hpv hj
  have hd6 : ∀ a b, a < nF R C → b < nF R C → d a b ≤ 60000 := fun a b ha hb => by
    have := fea_b hpv.1 hw (m3.2.1 a ha) ha hb
    rw [m3.1 a ha] at this
    omega
  have rB := rm_s104 rA (upd pa 0 0)
  obtain ⟨H', fa', pa', q, k1, k2, k3, k4, k5⟩ := r_pairL (X := mc_X0 L xs) rB hpv.1 hA m3 hd6 hS hSF hgd pk_us
  have heq := (tb_eq hS hSF hb1.2.2.2.2.2 hd6 n2 k4 n3 k5 S (Nat.le_refl _) hgd).1
  have hm : mc_ev (mc_X0 L xs) 152 0 [.ref 90, .null, .null, .null, .null, .null] [] ((G.set 75 (.inl (0, 49, di'))).set 76 (.inl (0, 128, ch'))) = some (some (.int (nI (c S))), H') := by
    rw [(r_pairH rA hpv.1).1 hno, r_pairS rA hpv.1, hset, heq]
    exact k1
  exact ⟨nI (c S), _, H', hx, (rm_f rA).1, hm, inv_dd hpl hpv hld hhs hsp htp p2 k3 ag1 (fun k a => (k2 k a).trans (gs_ne (by omega))) hr1 hr2 hr3 hr4⟩
end ROWS
