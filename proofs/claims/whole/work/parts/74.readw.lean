/-! rows: read -/
theorem sub_sm {a b : Int32} (h1 : -2147483648 ≤ a.toInt - b.toInt) (h2 : a.toInt - b.toInt < 2147483648) : (a - b).toInt = a.toInt - b.toInt := by
  rw [Int32.toInt_sub]
  exact Int.bmod_eq_of_le (by omega) (by omega)
theorem rj_cases {J : Nat} (hJ : J ≤ 17) (j n : Int32) : (j < 0 ∨ n < 0 ∨ (¬ j < 0 ∧ ¬ n < 0 ∧ nI J - j < n ∧ 0 < lg_cmp (j.toInt64 + n.toInt64) (nI J).toInt64)) ∨ ∃ p t : Nat, p + t ≤ J ∧ j = nI p ∧ n = nI t ∧ ¬ j < 0 ∧ ¬ n < 0 ∧ ¬ nI J - j < n ∧ ¬ 0 < lg_cmp (j.toInt64 + n.toInt64) (nI J).toInt64 := by
  by_cases c1 : j < 0
  · exact Or.inl (Or.inl c1)
  by_cases c2 : n < 0
  · exact Or.inl (Or.inr (Or.inl c2))
  obtain ⟨p, hp, rfl⟩ := nI_of c1
  obtain ⟨t, ht, rfl⟩ := nI_of c2
  have lc : (0 < lg_cmp (lN (p + t)) (lN J)) = (J < p + t) := propext ((lg_cmp_gt _ _).trans (pk_lLT (by omega) (by omega)))
  have e1 := nI_toInt (n := J) (by omega)
  have e2 := nI_toInt hp
  have e3 := nI_toInt ht
  have es : (nI J - nI p).toInt = (J : Int) - p := by rw [sub_sm (by omega) (by omega), e1, e2]
  have ec : (nI J - nI p < nI t) = (J < p + t) := by
    apply propext
    rw [Int32.lt_iff_toInt_lt, es, e3]
    omega
  rw [nI_l hp, nI_l ht, nI_l (n := J) (by omega), lN_add, lc, ec]
  by_cases c3 : J < p + t
  · exact Or.inl (Or.inr (Or.inr ⟨c1, c2, c3, c3⟩))
  · exact Or.inr ⟨p, t, by omega, rfl, rfl, c1, c2, c3, c3⟩
/-- what is wrong with numbers k, k + 1 .. (d of them) of a row of q -/
def rdF (q : Nat) (v : Nat → Int32) : Nat → Nat → Int32
  | 0, _ => 0
  | d + 1, k => if q ≤ k then -12 else if v k < -1000 ∨ 1000 < v k then -1 else rdF q v d (k + 1)
theorem rdF_cg {q : Nat} {v v' : Nat → Int32} (h : ∀ k, k < q → v k = v' k) : ∀ d k, rdF q v d k = rdF q v' d k
  | 0, _ => rfl
  | d + 1, k => by
    show (if q ≤ k then -12 else if v k < -1000 ∨ 1000 < v k then -1 else rdF q v d (k + 1)) = (if q ≤ k then -12 else if v' k < -1000 ∨ 1000 < v' k then -1 else rdF q v' d (k + 1))
    by_cases c : q ≤ k
    · rw [if_pos c, if_pos c]
    · rw [if_neg c, if_neg c, h k (by omega), rdF_cg h d (k + 1)]
theorem rdF_0 {q : Nat} {v : Nat → Int32} : ∀ d k, rdF q v d k = 0 → ∀ t, k ≤ t → t < k + d → t < q ∧ -1000 ≤ v t ∧ v t ≤ 1000
  | 0, _, _, _, _, _ => by omega
  | d + 1, k, h, t, h1, h2 => by
    have h' : (if q ≤ k then -12 else if v k < -1000 ∨ 1000 < v k then -1 else rdF q v d (k + 1)) = 0 := h
    by_cases c : q ≤ k
    · rw [if_pos c] at h'; exact absurd h' (by decide)
    · rw [if_neg c] at h'
      by_cases c2 : v k < -1000 ∨ 1000 < v k
      · rw [if_pos c2] at h'; exact absurd h' (by decide)
      · rw [if_neg c2] at h'
        by_cases c3 : t = k
        · subst c3
          exact ⟨by omega, Int32.not_lt.mp (fun q => c2 (Or.inl q)), Int32.not_lt.mp (fun q => c2 (Or.inr q))⟩
        · exact rdF_0 d (k + 1) h' t (by omega) (by omega)
theorem rdF_v {q : Nat} {v : Nat → Int32} : ∀ d k, rdF q v d k = 0 ∨ rdF q v d k = -12 ∨ rdF q v d k = -1
  | 0, _ => Or.inl rfl
  | d + 1, k => by
    show (if q ≤ k then -12 else if v k < -1000 ∨ 1000 < v k then -1 else rdF q v d (k + 1)) = 0 ∨ (if q ≤ k then -12 else if v k < -1000 ∨ 1000 < v k then -1 else rdF q v d (k + 1)) = -12 ∨ (if q ≤ k then -12 else if v k < -1000 ∨ 1000 < v k then -1 else rdF q v d (k + 1)) = -1
    by_cases c : q ≤ k
    · rw [if_pos c]; exact Or.inr (Or.inl rfl)
    · rw [if_neg c]
      by_cases c2 : v k < -1000 ∨ 1000 < v k
      · rw [if_pos c2]; exact Or.inr (Or.inr rfl)
      · rw [if_neg c2]; exact rdF_v d (k + 1)
section SK
variable {X : mc_X} {G : mc_H} {b c d : Nat} {s r : Int32} {l n : Nat → Int32}
theorem k_wants (h : sk G b c d s r l n) {N j q m : Nat} (hr : r = nI N) (hN : N ≤ 4) (hj : j < N) (hl : l j = nI q) (hq : q ≤ 12) (hm : m ≤ 17) : mc_ev X 108 0 [.ref b, .int (nI j), .int (nI m), .null, .null] [] G = some (some (.int (rdF q (fun k => n (12 * j + k)) m 0)), G) := by
  have h0 : mc_ev X 108 0 [.ref b, .int (nI j), .int (nI m), .null, .null] [] G = mc_ev X 108 2 [.ref b, .int (nI j), .int (nI m), .int (nI 0), .null] [] G := by
    simp only [e_108, show nI 0 = (0 : Int32) from rfl, Option.bind_some, Option.toList_some, Option.toList_none, List.cons_append, List.nil_append, List.append_nil, List.length_cons, List.length_nil, true_or, or_true, eq_self, b01_0, b01_1, b01_2, b01_3, b01_4, Nat.zero_le, Nat.reduceAdd, Nat.reduceLeDiff, ↓reduceIte, not_true_eq_false, not_false_eq_true, Bool.false_eq_true]
  have ea : (r = -1) = False := by rw [hr]; exact n_m1 (by omega)
  have key : ∀ e k v, k + e = m → mc_ev X 108 2 [.ref b, .int (nI j), .int (nI m), .int (nI k), v] [] G = some (some (.int (rdF q (fun k => n (12 * j + k)) e k)), G) := by
    intro e
    induction e with
    | zero =>
      intro k v hk
      have k2 : ¬ nI k < nI m := nI_nlt (by omega) (by omega)
      rw [h_108_2]
      simp only [e_108, k2, Option.bind_some, Option.toList_some, Option.toList_none, List.cons_append, List.nil_append, List.append_nil, List.length_cons, List.length_nil, true_or, or_true, eq_self, b01_0, b01_1, b01_2, b01_3, b01_4, Nat.zero_le, Nat.reduceAdd, Nat.reduceLeDiff, ↓reduceIte, not_true_eq_false, not_false_eq_true, Bool.false_eq_true]
      rfl
    | succ e ih =>
      intro k v hk
      have k1 : nI k < nI m := nI_lt (by omega) (by omega)
      have kf := k_find2 (X := X) h (nI k) (j := j) (by omega) (by rw [hr, no_yes hj (by omega)]; exact id)
      rw [hl, if_neg (of_eq_false (n_m1 (n := q) (by omega)))] at kf
      rw [h_108_2]
      show _ = some (some (Value.int (if q ≤ k then -12 else if n (12 * j + k) < -1000 ∨ 1000 < n (12 * j + k) then -1 else rdF q (fun k => n (12 * j + k)) e (k + 1))), G)
      by_cases c1 : q ≤ k
      · rw [if_pos (Or.inr (nI_nlt c1 (by omega)))] at kf
        rw [if_pos c1]
        simp only [e_108, k1, sk_f (X := X) h, k_isAbsent h, ea, kf, klit, Option.bind_some, Option.toList_some, Option.toList_none, List.cons_append, List.nil_append, List.append_nil, List.length_cons, List.length_nil, true_or, or_true, eq_self, b01_0, b01_1, b01_2, b01_3, b01_4, Nat.zero_le, Nat.reduceAdd, Nat.reduceLeDiff, ↓reduceIte, not_true_eq_false, not_false_eq_true, Bool.false_eq_true]
      · rw [if_neg (of_eq_false (no_yes (N := q) (i := k) (by omega) (by omega)))] at kf
        rw [if_neg c1]
        have kn := k_numberAt (X := X) h (j := j) (p := k) (by omega) (by omega)
        by_cases c2 : n (12 * j + k) < -1000 ∨ 1000 < n (12 * j + k)
        · rw [if_pos c2]
          simp only [e_108, k1, sk_f (X := X) h, k_isAbsent h, ea, kf, kn, c_isNoWant, c2, Option.bind_some, Option.toList_some, Option.toList_none, List.cons_append, List.nil_append, List.append_nil, List.length_cons, List.length_nil, true_or, or_true, eq_self, b01_0, b01_1, b01_2, b01_3, b01_4, Nat.zero_le, Nat.reduceAdd, Nat.reduceLeDiff, ↓reduceIte, not_true_eq_false, not_false_eq_true, Bool.false_eq_true]
        · rw [if_neg c2]
          simp only [e_108, k1, sk_f (X := X) h, k_isAbsent h, ea, kf, kn, c_isNoWant, c2, nI_1, Option.bind_some, Option.toList_some, Option.toList_none, List.cons_append, List.nil_append, List.append_nil, List.length_cons, List.length_nil, true_or, or_true, eq_self, b01_0, b01_1, b01_2, b01_3, b01_4, Nat.zero_le, Nat.reduceAdd, Nat.reduceLeDiff, ↓reduceIte, not_true_eq_false, not_false_eq_true, Bool.false_eq_true]
          exact ih (k + 1) _ (by omega)
  rw [h0]
  exact key m 0 _ (by omega)
end SK
section REF
variable {X : mc_X} {G : mc_H} {su : Int32} {tr : Int64} {R C U : Nat} {tu tl ki go wa ol hs so sr rs ce cp fa pa : Nat → Int32}
theorem r_readF (h : rm G su tr R C U tu tl ki go wa ol hs so sr rs ce cp fa pa) {i r j n q : Nat} (hi : i < 4) (hr : r < 4) (hq : q ≤ 12) (hn : n ≤ 17) (hs : rs (4 * i + r) = nI q) : ∀ d k, k + d = n → mc_ev X 171 128 [.ref 90, .int (nI i), .int (nI r), .int (nI j), .int (nI n), .int (nI k)] [] G = if rdF q (fun k => ce (48 * i + 12 * r + k)) d k = 0 then mc_ev X 171 198 [.ref 90, .int (nI i), .int (nI r), .int (nI j), .int (nI n), .int (nI n)] [] G else some (some (.int (rdF q (fun k => ce (48 * i + 12 * r + k)) d k)), G.set 90 (rmc (rdF q (fun k => ce (48 * i + 12 * r + k)) d k) tr R C U)) := by
  have a16 := (rm_a (X := X) h).2.2.2.2.2.2.2.2.2.1 (4 * i + r) (by omega)
  intro d
  induction d with
  | zero =>
    intro k hk
    have k2 : ¬ nI k < nI n := nI_nlt (by omega) (by omega)
    have ek : k = n := by omega
    subst ek
    show _ = if (0 : Int32) = 0 then _ else _
    rw [if_pos rfl, h_171_128]
    simp only [e_171, k2, Option.bind_some, Option.toList_some, Option.toList_none, List.cons_append, List.nil_append, List.append_nil, List.length_cons, List.length_nil, true_or, or_true, eq_self, b01_0, b01_1, b01_2, b01_3, b01_4, Nat.zero_le, Nat.reduceAdd, Nat.reduceLeDiff, ↓reduceIte, not_true_eq_false, not_false_eq_true, Bool.false_eq_true]
  | succ d ih =>
    intro k hk
    have k1 : nI k < nI n := nI_lt (by omega) (by omega)
    have e : rdF q (fun k => ce (48 * i + 12 * r + k)) (d + 1) k = if q ≤ k then -12 else if ce (48 * i + 12 * r + k) < -1000 ∨ 1000 < ce (48 * i + 12 * r + k) then -1 else rdF q (fun k => ce (48 * i + 12 * r + k)) d (k + 1) := rfl
    rw [e, h_171_128]
    by_cases c1 : q ≤ k
    · have k3 : ¬ nI k < nI q := nI_nlt c1 (by omega)
      rw [if_pos c1, if_neg (of_eq_false klit.2.2.1)]
      simp only [e_171, k1, rm_f h, cc4, nI_add, a16, hs, k3, r_no h, Option.bind_some, Option.toList_some, Option.toList_none, List.cons_append, List.nil_append, List.append_nil, List.length_cons, List.length_nil, true_or, or_true, eq_self, b01_0, b01_1, b01_2, b01_3, b01_4, Nat.zero_le, Nat.reduceAdd, Nat.reduceLeDiff, ↓reduceIte, not_true_eq_false, not_false_eq_true, Bool.false_eq_true]
    · have k3 : nI k < nI q := nI_lt (by omega) (by omega)
      have a1 := (rm_a (X := X) h).2.2.2.2.2.2.2.2.2.2.1 (48 * i + 12 * r + k) (by omega)
      rw [if_neg c1]
      by_cases c2 : ce (48 * i + 12 * r + k) < -1000 ∨ 1000 < ce (48 * i + 12 * r + k)
      · have hv2 : (-1000 ≤ ce (48 * i + 12 * r + k) ∧ ce (48 * i + 12 * r + k) ≤ 1000) = False := eq_false (by
          rintro ⟨a, b⟩
          rcases c2 with q | q
          · exact absurd a (Int32.not_le.mpr q)
          · exact absurd b (Int32.not_le.mpr q))
        rw [if_pos c2, if_neg (of_eq_false klit.1)]
        simp only [e_171, k1, rm_f h, cc4, cc48, cc12, nI_add, a16, hs, k3, a1, r_in, hv2, r_no h, Option.bind_some, Option.toList_some, Option.toList_none, List.cons_append, List.nil_append, List.append_nil, List.length_cons, List.length_nil, true_or, or_true, eq_self, b01_0, b01_1, b01_2, b01_3, b01_4, Nat.zero_le, Nat.reduceAdd, Nat.reduceLeDiff, ↓reduceIte, not_true_eq_false, not_false_eq_true, Bool.false_eq_true]
      · have hv2 : (-1000 ≤ ce (48 * i + 12 * r + k) ∧ ce (48 * i + 12 * r + k) ≤ 1000) = True := eq_true ⟨Int32.not_lt.mp (fun q => c2 (Or.inl q)), Int32.not_lt.mp (fun q => c2 (Or.inr q))⟩
        rw [if_neg c2, ← ih (k + 1) (by omega)]
        simp only [e_171, k1, rm_f h, cc4, cc48, cc12, nI_add, a16, hs, k3, a1, r_in, hv2, nI_1, Option.bind_some, Option.toList_some, Option.toList_none, List.cons_append, List.nil_append, List.append_nil, List.length_cons, List.length_nil, true_or, or_true, eq_self, b01_0, b01_1, b01_2, b01_3, b01_4, Nat.zero_le, Nat.reduceAdd, Nat.reduceLeDiff, ↓reduceIte, not_true_eq_false, not_false_eq_true, Bool.false_eq_true]
theorem r_readL (h : rm G su tr R C U tu tl ki go wa ol hs so sr rs ce cp fa pa) {i r j n : Nat} {x : Int32} (hi : i < 4) (hx : 0 < n → x = nI r ∧ r < 4 ∧ n ≤ 12) (hj : j + n ≤ 17) : ∃ f : Nat → Int32, mc_ev X 171 205 [.ref 90, .int (nI i), .int x, .int (nI j), .int (nI n), .int 0] [] G = some (some (.int (nI n)), G.set 95 (.inl (0, 24, f))) ∧ (∀ k, k < n → f (j + k) = ce (48 * i + 12 * r + k)) ∧ ∀ p, p < j ∨ j + n ≤ p → f p = wa p := by
  obtain ⟨ls, G', ⟨hls, f, hG', hf1, hf2⟩, hev⟩ := ev_inv (X := X) (k := 171) (pc := 205) (fun t ls G' => ls = [.ref 90, .int (nI i), .int x, .int (nI j), .int (nI n), .int (nI t)] ∧ ∃ f : Nat → Int32, G' = G.set 95 (.inl (0, 24, f)) ∧ (∀ k, k < t → f (j + k) = ce (48 * i + 12 * r + k)) ∧ ∀ p, p < j ∨ j + n ≤ p → f p = wa p) n (by
    intro t ht ls G' ⟨hls, f, hG', hf1, hf2⟩
    obtain ⟨rfl, hr, h12⟩ := hx (by omega)
    subst hls
    subst hG'
    have k1 : nI t < nI n := nI_lt ht (by omega)
    have p1 := rm_s95 h f
    have a1 := (rm_a (X := X) p1).2.2.2.2.2.2.2.2.2.2.1 (48 * i + 12 * r + t) (by omega)
    have w := fun z => rm_w95s h f (j := j + t) (by omega) z
    refine ⟨[.ref 90, .int (nI i), .int (nI r), .int (nI j), .int (nI n), .int (nI (t + 1))], G.set 95 (.inl (0, 24, upd f (j + t) (ce (48 * i + 12 * r + t)))), ⟨rfl, _, rfl, ?_, ?_⟩, ?_⟩
    · intro k hk
      by_cases cc : k = t
      · subst cc; rw [pk_us]
      · rw [pk_un (by omega)]; exact hf1 k (by omega)
    · intro p hp
      rw [pk_un (by omega)]; exact hf2 p hp
    · rw [h_171_205]
      simp only [e_171, k1, rm_f p1, cc48, cc12, nI_add, a1, w, nI_1, Option.bind_some, Option.toList_some, Option.toList_none, List.cons_append, List.nil_append, List.append_nil, List.length_cons, List.length_nil, true_or, or_true, eq_self, b01_0, b01_1, b01_2, b01_3, b01_4, Nat.zero_le, Nat.reduceAdd, Nat.reduceLeDiff, ↓reduceIte, not_true_eq_false, not_false_eq_true, Bool.false_eq_true]) [.ref 90, .int (nI i), .int x, .int (nI j), .int (nI n), .int 0] G ⟨rfl, wa, (set_same h.2.2.2.2.2.1).symm, fun k hk => absurd hk (by omega), fun p _ => rfl⟩
  subst hls
  subst hG'
  refine ⟨f, ?_, hf1, hf2⟩
  have k2 : ¬ nI n < nI n := nI_nlt (Nat.le_refl _) (by omega)
  rw [hev, h_171_205]
  simp only [e_171, k2, Option.bind_some, Option.toList_some, Option.toList_none, List.cons_append, List.nil_append, List.append_nil, List.length_cons, List.length_nil, true_or, or_true, eq_self, b01_0, b01_1, b01_2, b01_3, b01_4, Nat.zero_le, Nat.reduceAdd, Nat.reduceLeDiff, ↓reduceIte, not_true_eq_false, not_false_eq_true, Bool.false_eq_true]
end REF
section CLS
variable {L : Nat} {xs : Nat → Int32} {G : mc_H} {tr : Int64} {su : Int32} {sq : Nat → Option Nat} {sv rv : Nat → Int32} {le nu : Nat → Nat → Int32} {R C rim TB OB LB : Nat} {fi se lo hi ks ws : Nat → Int32}
theorem c_readL (h0 : tp G tr su) (h : pl G R C rim fi se lo hi TB OB LB ks ws) (hp : pv R C rim fi se lo hi TB OB LB ks ws) (h4 : sp G sq sv rv le nu) {i r j n : Nat} {x v : Int32} (hin : i < 4) (hx : 0 < n → x = nI r ∧ r < 4 ∧ n ≤ 12) (hj : j + n ≤ 17) (hv : ∀ k, k < n → -1000 ≤ nu i (12 * r + k) ∧ nu i (12 * r + k) ≤ 1000) : ∃ f : Nat → Int32, mc_ev (mc_X0 L xs) 92 72 [.ref 0, .int (nI i), .int x, .int (nI j), .int (nI n), .int v, .int 0] [] G = some (some (.int (nI n)), (G.set 9 (.inl (0, 17, f))).set 0 (top tr 0)) ∧ pv R C rim fi se lo hi TB OB LB ks f ∧ (∀ k, k < n → f (j + k) = nu i (12 * r + k)) ∧ ∀ p, p < j ∨ j + n ≤ p → f p = ws p := by
  obtain ⟨ls, G', ⟨hls, f, hG', hf0, hf1, hf2⟩, hev⟩ := ev_inv (X := mc_X0 L xs) (k := 92) (pc := 72) (fun t ls G' => ls = [.ref 0, .int (nI i), .int x, .int (nI j), .int (nI n), .int v, .int (nI t)] ∧ ∃ f : Nat → Int32, G' = G.set 9 (.inl (0, 17, f)) ∧ pv R C rim fi se lo hi TB OB LB ks f ∧ (∀ k, k < t → f (j + k) = nu i (12 * r + k)) ∧ ∀ p, p < j ∨ j + n ≤ p → f p = ws p) n (by
    intro t ht ls G' ⟨hls, f, hG', hf0, hf1, hf2⟩
    obtain ⟨rfl, hr, h12⟩ := hx (by omega)
    subst hls
    subst hG'
    have k1 : nI t < nI n := nI_lt ht (by omega)
    have p1 := pl_s9 h f
    have t1 : tp (G.set 9 (.inl (0, 17, f))) tr su := tp_ag h0 (gs_ne (by decide))
    have s1 := sp_ag h4 (G' := G.set 9 (.inl (0, 17, f))) (fun k a b => gs_ne (by omega))
    have hk := sp_k s1 hin
    have kn := k_numberAt (X := mc_X0 L xs) hk hr (p := t) (by omega)
    have w := fun z => pl_w9 p1 (j := j + t) (by omega) z
    simp only [List.set_set] at w
    refine ⟨[.ref 0, .int (nI i), .int (nI r), .int (nI j), .int (nI n), .int v, .int (nI (t + 1))], G.set 9 (.inl (0, 17, upd f (j + t) (nu i (12 * r + t)))), ⟨rfl, _, rfl, ?_, ?_, ?_⟩, ?_⟩
    · obtain ⟨y1, y2, y3, y4, y5, y6, y7, y8, y9, y10⟩ := hf0
      refine ⟨y1, y2, y3, y4, y5, y6, fun k hk => ?_, y8, y9, y10⟩
      by_cases c : k = j + t
      · subst c; rw [pk_us]; exact hv t ht
      · rw [pk_un c]; exact y7 k hk
    · intro k hk
      by_cases cc : k = t
      · subst cc; rw [pk_us]
      · rw [pk_un (by omega)]; exact hf1 k (by omega)
    · intro p hp
      rw [pk_un (by omega)]; exact hf2 p hp
    · rw [h_92_72]
      simp only [e_92, k1, tp_f t1, pl_f p1, sp_q s1 hin, sk_f (X := mc_X0 L xs) hk, kn, nI_add, w, nI_1, Option.bind_some, Option.toList_some, Option.toList_none, List.cons_append, List.nil_append, List.append_nil, List.length_cons, List.length_nil, true_or, or_true, eq_self, b01_0, b01_1, b01_2, b01_3, b01_4, Nat.zero_le, Nat.reduceAdd, Nat.reduceLeDiff, ↓reduceIte, not_true_eq_false, not_false_eq_true, Bool.false_eq_true]) [.ref 0, .int (nI i), .int x, .int (nI j), .int (nI n), .int v, .int 0] G ⟨rfl, ws, (set_same h.2.2.2.2.2.2.2.2).symm, hp, fun k hk => absurd hk (by omega), fun p _ => rfl⟩
  subst hls
  subst hG'
  refine ⟨f, ?_, hf0, hf1, hf2⟩
  have k2 : ¬ nI n < nI n := nI_nlt (Nat.le_refl _) (by omega)
  have t1 : tp (G.set 9 (.inl (0, 17, f))) tr su := tp_ag h0 (gs_ne (by decide))
  rw [hev, h_92_72]
  simp only [e_92, k2, tp_f t1, c_accept (X := mc_X0 L xs) t1, Option.bind_some, Option.toList_some, Option.toList_none, List.cons_append, List.nil_append, List.append_nil, List.length_cons, List.length_nil, true_or, or_true, eq_self, b01_0, b01_1, b01_2, b01_3, b01_4, Nat.zero_le, Nat.reduceAdd, Nat.reduceLeDiff, ↓reduceIte, not_true_eq_false, not_false_eq_true, Bool.false_eq_true]
end CLS
section ROWS
variable {L : Nat} {xs : Nat → Int32}
set_option maxHeartbeats 4000000 in
theorem R31 : lw_R31 L xs Inv := by
  intro a x j n G hG
  refine inv_elim hG ?_
  intro R C rim fi se lo hi TB OB LB ks ws stale lw SZ HD HP sts nx sz kq hT hO hL hK hW sq sv rv le nu di ch tr su U tu tl ki go wa ol hs so sr rs ce cp fa pa hpl hpv hld hhs hsp htp hpr hrm hr1 hr2 hr3 hr4
  have hC := (rm_f hrm).1
  have hTT := fun s => inv_tt hpl hpv hld hhs hsp htp hpr hrm hr1 hr2 hr3 hr4 tr s
  have r1 : ∀ s, rm (G.set 0 (top tr s)) su tr R C U tu tl ki go wa ol hs so sr rs ce cp fa pa := fun s => rm_ag hrm (fun k a b => gs_ne (by omega))
  have f1 := fun s => rm_f (r1 s)
  have g1 := fun s => rm_t (r1 s)
  have w1 := fun s => rm_w1 (r1 s) 0
  have r2 := fun s => rm_set (r1 s) 0 tr R C U
  have f2 := fun s => rm_f (r2 s)
  have a2 := fun s => rm_a (X := mc_X0 L xs) (r2 s)
  have n2 : ∀ s w, mc_ev (mc_X0 L xs) 163 0 [.ref 90, .int w] [] ((G.set 0 (top tr s)).set 90 (rmc 0 tr R C U)) = some (some (.int w), (G.set 0 (top tr s)).set 90 (rmc w tr R C U)) := fun s w => by rw [r_no (r2 s) w, List.set_set]
  have hb1 := sh_b hpv.1
  have hU : U ≤ 20 := by rw [hr3.1]; exact hhs.2.2.2.2.2
  have jt := fun s => r_joints (X := mc_X0 L xs) (r2 s) hpv.1
  rcases ix_of a (N := 4) (by decide) with hb | ⟨i, hin, rfl⟩
  · have hx : (0 ≤ a ∧ a ≤ 3) = False := ix_no (N := 4) (by decide) (by decide) hb
    refine rfu hC (s := -1) ?_ ?_ (hTT _)
    · simp only [e_92, tp_f htp, c_isNoStrip, no_no hb, c_refuse htp, Option.bind_some, Option.toList_some, Option.toList_none, List.cons_append, List.nil_append, List.append_nil, List.length_cons, List.length_nil, true_or, or_true, eq_self, b01_0, b01_1, b01_2, b01_3, b01_4, Nat.zero_le, Nat.reduceAdd, Nat.reduceLeDiff, ↓reduceIte, not_true_eq_false, not_false_eq_true, Bool.false_eq_true]
    · simp only [e_171, f1, g1, w1, f2, r_in, hx, n2, Option.bind_some, Option.toList_some, Option.toList_none, List.cons_append, List.nil_append, List.append_nil, List.length_cons, List.length_nil, true_or, or_true, eq_self, b01_0, b01_1, b01_2, b01_3, b01_4, Nat.zero_le, Nat.reduceAdd, Nat.reduceLeDiff, ↓reduceIte, not_true_eq_false, not_false_eq_true, Bool.false_eq_true]
  have hno := no_yes (N := 4) hin (by decide)
  have hye : (0 ≤ nI i ∧ nI i ≤ 3) = True := ix_yes (N := 4) hin (by decide)
  rcases rj_cases (J := nJ R C) (by omega) j n with (c1 | c1 | ⟨c1, c2, c3, c4⟩) | ⟨p, t, hpt, rfl, rfl, c1, c2, c3, c4⟩
  · refine rfu hC (s := -1) ?_ ?_ (hTT _)
    · simp only [e_92, tp_f htp, c_isNoStrip, hno, c1, c_refuse htp, Option.bind_some, Option.toList_some, Option.toList_none, List.cons_append, List.nil_append, List.append_nil, List.length_cons, List.length_nil, true_or, or_true, eq_self, b01_0, b01_1, b01_2, b01_3, b01_4, Nat.zero_le, Nat.reduceAdd, Nat.reduceLeDiff, ↓reduceIte, not_true_eq_false, not_false_eq_true, Bool.false_eq_true]
    · simp only [e_171, f1, g1, w1, f2, r_in, hye, c1, n2, Option.bind_some, Option.toList_some, Option.toList_none, List.cons_append, List.nil_append, List.append_nil, List.length_cons, List.length_nil, true_or, or_true, eq_self, b01_0, b01_1, b01_2, b01_3, b01_4, Nat.zero_le, Nat.reduceAdd, Nat.reduceLeDiff, ↓reduceIte, not_true_eq_false, not_false_eq_true, Bool.false_eq_true]
  · by_cases c0 : j < 0
    · refine rfu hC (s := -1) ?_ ?_ (hTT _)
      · simp only [e_92, tp_f htp, c_isNoStrip, hno, c0, c_refuse htp, Option.bind_some, Option.toList_some, Option.toList_none, List.cons_append, List.nil_append, List.append_nil, List.length_cons, List.length_nil, true_or, or_true, eq_self, b01_0, b01_1, b01_2, b01_3, b01_4, Nat.zero_le, Nat.reduceAdd, Nat.reduceLeDiff, ↓reduceIte, not_true_eq_false, not_false_eq_true, Bool.false_eq_true]
      · simp only [e_171, f1, g1, w1, f2, r_in, hye, c0, n2, Option.bind_some, Option.toList_some, Option.toList_none, List.cons_append, List.nil_append, List.append_nil, List.length_cons, List.length_nil, true_or, or_true, eq_self, b01_0, b01_1, b01_2, b01_3, b01_4, Nat.zero_le, Nat.reduceAdd, Nat.reduceLeDiff, ↓reduceIte, not_true_eq_false, not_false_eq_true, Bool.false_eq_true]
    · refine rfu hC (s := -1) ?_ ?_ (hTT _)
      · simp only [e_92, tp_f htp, c_isNoStrip, hno, c0, c1, c_refuse htp, Option.bind_some, Option.toList_some, Option.toList_none, List.cons_append, List.nil_append, List.append_nil, List.length_cons, List.length_nil, true_or, or_true, eq_self, b01_0, b01_1, b01_2, b01_3, b01_4, Nat.zero_le, Nat.reduceAdd, Nat.reduceLeDiff, ↓reduceIte, not_true_eq_false, not_false_eq_true, Bool.false_eq_true]
      · simp only [e_171, f1, g1, w1, f2, r_in, hye, c0, c1, n2, Option.bind_some, Option.toList_some, Option.toList_none, List.cons_append, List.nil_append, List.append_nil, List.length_cons, List.length_nil, true_or, or_true, eq_self, b01_0, b01_1, b01_2, b01_3, b01_4, Nat.zero_le, Nat.reduceAdd, Nat.reduceLeDiff, ↓reduceIte, not_true_eq_false, not_false_eq_true, Bool.false_eq_true]
  · refine rfu hC (s := -1) ?_ ?_ (hTT _)
    · simp only [e_92, tp_f htp, pl_f hpl, c_isNoStrip, hno, c1, c2, c3, c_refuse htp, Option.bind_some, Option.toList_some, Option.toList_none, List.cons_append, List.nil_append, List.append_nil, List.length_cons, List.length_nil, true_or, or_true, eq_self, b01_0, b01_1, b01_2, b01_3, b01_4, Nat.zero_le, Nat.reduceAdd, Nat.reduceLeDiff, ↓reduceIte, not_true_eq_false, not_false_eq_true, Bool.false_eq_true]
    · simp only [e_171, f1, g1, w1, f2, r_in, hye, c1, c2, jt, c4, n2, Option.bind_some, Option.toList_some, Option.toList_none, List.cons_append, List.nil_append, List.append_nil, List.length_cons, List.length_nil, true_or, or_true, eq_self, b01_0, b01_1, b01_2, b01_3, b01_4, Nat.zero_le, Nat.reduceAdd, Nat.reduceLeDiff, ↓reduceIte, not_true_eq_false, not_false_eq_true, Bool.false_eq_true]
  have hk := sp_k hsp hin
  have hkf := sk_f (X := mc_X0 L xs) hk
  -- what comes after the look at the row
  have fin : ∀ r : Nat, (0 < t → x = nI r ∧ r < 4 ∧ t ≤ 12) → (∀ k, k < t → nu i (12 * r + k) = ce (48 * i + 12 * r + k)) → (∀ k, k < t → -1000 ≤ nu i (12 * r + k) ∧ nu i (12 * r + k) ≤ 1000) → mc_ev (mc_X0 L xs) 108 0 [.ref (78 + 3 * i), .int x, .int (nI t), .null, .null] [] G = some (some (.int 0), G) → (∀ G' : mc_H, rm G' su tr R C U tu tl ki go wa ol hs so sr rs ce cp fa pa → mc_ev (mc_X0 L xs) 171 0 [.ref 90, .int (nI i), .int x, .int (nI p), .int (nI t), .null] [] G' = mc_ev (mc_X0 L xs) 171 198 [.ref 90, .int (nI i), .int x, .int (nI p), .int (nI t), .int (nI t)] [] (G'.set 90 (rmc 0 tr R C U))) → ∃ (v : Int32) (G1 G2 : mc_H), mc_ev (mc_X0 L xs) 92 0 [.ref 0, .int (nI i), .int x, .int (nI p), .int (nI t), .null, .null] [] G = some (some (.int v), G1) ∧ mc_cls G1 90 = some 8 ∧ mc_ev (mc_X0 L xs) 171 0 [.ref 90, .int (nI i), .int x, .int (nI p), .int (nI t), .null] [] G1 = some (some (.int v), G2) ∧ Inv G2 := by
    intro r hx hnu hbd h108 hre
    obtain ⟨G1, q1, q2, q3, q4⟩ := c_keepAndReshape (X := mc_X0 L xs) htp hld hhs hpl
    have p1 := pl_ag hpl (G' := G1) (fun k a b => q2 k (by omega))
    have t1 := tp_ag htp (q2 0 (by omega))
    have s1 := sp_ag hsp (G' := G1) (fun k a b => q2 k (by omega))
    obtain ⟨f, z1, z2, z3, z4⟩ := c_readL (L := L) (xs := xs) t1 p1 hpv s1 (x := x) (v := 0) hin hx (j := p) (by omega) hbd
    have agX : ∀ k, k ≠ 0 → k ≠ 9 → (((G1.set 9 (.inl (0, 17, f))).set 0 (top tr 0)))[k]? = G1[k]? := fun k a b => by rw [gs_ne (Ne.symm a), gs_ne (Ne.symm b)]
    have hcx : mc_ev (mc_X0 L xs) 92 0 [.ref 0, .int (nI i), .int x, .int (nI p), .int (nI t), .null, .null] [] G = some (some (.int (nI t)), (G1.set 9 (.inl (0, 17, f))).set 0 (top tr 0)) := by
      simp only [e_92, tp_f htp, pl_f hpl, c_isNoStrip, hno, c1, c2, c3, sp_q hsp hin, h108, q1, Option.bind_some, Option.toList_some, Option.toList_none, List.cons_append, List.nil_append, List.append_nil, List.length_cons, List.length_nil, true_or, or_true, eq_self, b01_0, b01_1, b01_2, b01_3, b01_4, Nat.zero_le, Nat.reduceAdd, Nat.reduceLeDiff, ↓reduceIte, not_true_eq_false, not_false_eq_true, Bool.false_eq_true]
      exact z1
    have rA := rm_ag hrm (G' := (G1.set 9 (.inl (0, 17, f))).set 0 (top tr 0)) (fun k a b => (agX k (by omega) (by omega)).trans (q2 k (by omega)))
    have tA : tp ((G1.set 9 (.inl (0, 17, f))).set 0 (top tr 0)) tr 0 := gs_self ((gs_ne (by decide)).trans t1)
    have plA := pl_ag (pl_s9 p1 f) (G' := (G1.set 9 (.inl (0, 17, f))).set 0 (top tr 0)) (fun k a b => gs_ne (by omega))
    revert hcx rA tA plA agX
    generalize (G1.set 9 (.inl (0, 17, f))).set 0 (top tr 0) = GA
    intro agX hcx rA tA plA
    have rB := rm_set rA 0 tr R C U
    obtain ⟨G3, ol', k1, k2, k3, k4, k5, k6⟩ := r_keeps (X := mc_X0 L xs) rB hU
    obtain ⟨g, m1, m2, m3⟩ := r_readL (X := mc_X0 L xs) k3 (x := x) hin hx (j := p) (n := t) (by omega)
    have hmm : mc_ev (mc_X0 L xs) 171 0 [.ref 90, .int (nI i), .int x, .int (nI p), .int (nI t), .null] [] GA = some (some (.int (nI t)), G3.set 95 (.inl (0, 24, g))) := by
      rw [hre GA rA]
      simp only [e_171, rm_f rB, k1, Option.bind_some, Option.toList_some, Option.toList_none, List.cons_append, List.nil_append, List.append_nil, List.length_cons, List.length_nil, true_or, or_true, eq_self, b01_0, b01_1, b01_2, b01_3, b01_4, Nat.zero_le, Nat.reduceAdd, Nat.reduceLeDiff, ↓reduceIte, not_true_eq_false, not_false_eq_true, Bool.false_eq_true]
      exact m1
    have ag3 : ∀ k, k < 90 → (G3.set 95 (.inl (0, 24, g)))[k]? = GA[k]? := fun k a => by
      rw [gs_ne (by omega), k2 k (by omega) (by omega), gs_ne (by omega)]
    have ag4 : ∀ k, k < 90 → k ≠ 0 → k ≠ 9 → (G3.set 95 (.inl (0, 24, g)))[k]? = G1[k]? := fun k a b c => (ag3 k a).trans (agX k b c)
    have ag5 : ∀ k, k < 90 → k ≠ 0 → k ≠ 9 → (k < 10 ∨ 73 ≤ k) → (G3.set 95 (.inl (0, 24, g)))[k]? = G[k]? := fun k a b c d => (ag4 k a b c).trans (q2 k d)
    refine ⟨nI t, GA, _, hcx, (rm_f rA).1, hmm, ?_⟩
    refine inv_mk (pl_ag plA (fun k a b => ag3 k (by omega))) z2 (ld_ag q3 (fun k a b => ag4 k (by omega) (by omega) (by omega))) (hy_ag q4 (fun k a b => ag4 k (by omega) (by omega) (by omega))) (sp_ag hsp (fun k a b => ag5 k (by omega) (by omega) (by omega) (by omega))) (tp_ag tA (ag3 0 (by omega))) (pr_ag hpr (fun k a b => ag5 k (by omega) (by omega) (by omega) (by omega))) (rm_s95 k3 g) ⟨hr1.1, fun w hw => ?_⟩ ⟨Or.inl rfl, hr2.2⟩ (rel3_keep hpv hr1 hr3 hhs.2.2.2.2.1 hhs.2.2.2.2.2 k4 k5 k6) hr4
    by_cases c : p ≤ w ∧ w < p + t
    · have e1 := z3 (w - p) (by omega)
      have e2 := m2 (w - p) (by omega)
      rw [show p + (w - p) = w by omega] at e1 e2
      rw [e1, e2, hnu _ (by omega)]
    · rw [z4 w (by omega), m3 w (by omega)]
      exact hr1.2 w hw
  have f1' : ∀ G' : mc_H, rm G' su tr R C U tu tl ki go wa ol hs so sr rs ce cp fa pa → rm (G'.set 90 (rmc 0 tr R C U)) 0 tr R C U tu tl ki go wa ol hs so sr rs ce cp fa pa := fun G' h => rm_set h 0 tr R C U
  rcases Nat.eq_zero_or_pos t with ht0 | ht1
  · subst ht0
    refine fin 0 (fun h => absurd h (by omega)) (fun k hk => absurd hk (by omega)) (fun k hk => absurd hk (by omega)) ?_ ?_
    · have k0 : ¬ (0 : Int32) < nI 0 := by decide
      simp only [e_108, Option.bind_some, Option.toList_some, Option.toList_none, List.cons_append, List.nil_append, List.append_nil, List.length_cons, List.length_nil, true_or, or_true, eq_self, b01_0, b01_1, b01_2, b01_3, b01_4, Nat.zero_le, Nat.reduceAdd, Nat.reduceLeDiff, ↓reduceIte, not_true_eq_false, not_false_eq_true, Bool.false_eq_true]
      rw [h_108_2]
      simp only [e_108, k0, Option.bind_some, Option.toList_some, Option.toList_none, List.cons_append, List.nil_append, List.append_nil, List.length_cons, List.length_nil, true_or, or_true, eq_self, b01_0, b01_1, b01_2, b01_3, b01_4, Nat.zero_le, Nat.reduceAdd, Nat.reduceLeDiff, ↓reduceIte, not_true_eq_false, not_false_eq_true, Bool.false_eq_true]
    · intro G' h
      have rB := f1' G' h
      have k0 : ¬ (0 : Int32) < nI 0 := by decide
      simp only [e_171, rm_f h, rm_t h, rm_w1 h 0, rm_f rB, r_in, hye, c1, c2, r_joints rB hpv.1, c4, k0, Option.bind_some, Option.toList_some, Option.toList_none, List.cons_append, List.nil_append, List.append_nil, List.length_cons, List.length_nil, true_or, or_true, eq_self, b01_0, b01_1, b01_2, b01_3, b01_4, Nat.zero_le, Nat.reduceAdd, Nat.reduceLeDiff, ↓reduceIte, not_true_eq_false, not_false_eq_true, Bool.false_eq_true]
      rw [h_171_128]
      simp only [e_171, k00, rm_f rB, show nI 0 = (0 : Int32) from rfl, Option.bind_some, Option.toList_some, Option.toList_none, List.cons_append, List.nil_append, List.append_nil, List.length_cons, List.length_nil, true_or, or_true, eq_self, b01_0, b01_1, b01_2, b01_3, b01_4, Nat.zero_le, Nat.reduceAdd, Nat.reduceLeDiff, ↓reduceIte, not_true_eq_false, not_false_eq_true, Bool.false_eq_true]
  have kt : (0 : Int32) < nI t := nI_lt (a := 0) (by omega) (by omega)
  rcases hr4 i hin with ⟨ab, h0⟩ | ⟨h1, N, hN, e1, e2, ⟨m, hm, e3, e4⟩, hrow⟩
  · have c108 : mc_ev (mc_X0 L xs) 108 0 [.ref (78 + 3 * i), .int x, .int (nI t), .null, .null] [] G = some (some (.int (-11)), G) := by
      simp only [e_108, Option.bind_some, Option.toList_some, Option.toList_none, List.cons_append, List.nil_append, List.append_nil, List.length_cons, List.length_nil, true_or, or_true, eq_self, b01_0, b01_1, b01_2, b01_3, b01_4, Nat.zero_le, Nat.reduceAdd, Nat.reduceLeDiff, ↓reduceIte, not_true_eq_false, not_false_eq_true, Bool.false_eq_true]
      rw [h_108_2]
      simp only [e_108, kt, hkf, k_isAbsent hk, ab, klit, Option.bind_some, Option.toList_some, Option.toList_none, List.cons_append, List.nil_append, List.append_nil, List.length_cons, List.length_nil, true_or, or_true, eq_self, b01_0, b01_1, b01_2, b01_3, b01_4, Nat.zero_le, Nat.reduceAdd, Nat.reduceLeDiff, ↓reduceIte, not_true_eq_false, not_false_eq_true, Bool.false_eq_true]
    refine rfu hC (s := -11) ?_ ?_ (hTT _)
    · simp only [e_92, tp_f htp, pl_f hpl, c_isNoStrip, hno, c1, c2, c3, sp_q hsp hin, c108, klit, c_refuse htp, Option.bind_some, Option.toList_some, Option.toList_none, List.cons_append, List.nil_append, List.append_nil, List.length_cons, List.length_nil, true_or, or_true, eq_self, b01_0, b01_1, b01_2, b01_3, b01_4, Nat.zero_le, Nat.reduceAdd, Nat.reduceLeDiff, ↓reduceIte, not_true_eq_false, not_false_eq_true, Bool.false_eq_true]
    · simp only [e_171, f1, g1, w1, f2, r_in, hye, c1, c2, jt, c4, kt, a2, hin, h0, n2, Option.bind_some, Option.toList_some, Option.toList_none, List.cons_append, List.nil_append, List.append_nil, List.length_cons, List.length_nil, true_or, or_true, eq_self, b01_0, b01_1, b01_2, b01_3, b01_4, Nat.zero_le, Nat.reduceAdd, Nat.reduceLeDiff, ↓reduceIte, not_true_eq_false, not_false_eq_true, Bool.false_eq_true]
  have ea := n_m1 (n := N) (by omega)
  rcases jx_of x (N := N) (by omega) with ⟨cx, cm⟩ | ⟨r, hr, rfl⟩
  · have kf := k_find1 (X := mc_X0 L xs) hk 0 (x := x) (by rw [e1]; exact of_eq_true cx)
    have c108 : mc_ev (mc_X0 L xs) 108 0 [.ref (78 + 3 * i), .int x, .int (nI t), .null, .null] [] G = some (some (.int (-12)), G) := by
      simp only [e_108, Option.bind_some, Option.toList_some, Option.toList_none, List.cons_append, List.nil_append, List.append_nil, List.length_cons, List.length_nil, true_or, or_true, eq_self, b01_0, b01_1, b01_2, b01_3, b01_4, Nat.zero_le, Nat.reduceAdd, Nat.reduceLeDiff, ↓reduceIte, not_true_eq_false, not_false_eq_true, Bool.false_eq_true]
      rw [h_108_2]
      simp only [e_108, kt, hkf, k_isAbsent hk, e1, ea, kf, klit, Option.bind_some, Option.toList_some, Option.toList_none, List.cons_append, List.nil_append, List.append_nil, List.length_cons, List.length_nil, true_or, or_true, eq_self, b01_0, b01_1, b01_2, b01_3, b01_4, Nat.zero_le, Nat.reduceAdd, Nat.reduceLeDiff, ↓reduceIte, not_true_eq_false, not_false_eq_true, Bool.false_eq_true]
    refine rfu hC (s := -12) ?_ ?_ (hTT _)
    · simp only [e_92, tp_f htp, pl_f hpl, c_isNoStrip, hno, c1, c2, c3, sp_q hsp hin, c108, klit, c_refuse htp, Option.bind_some, Option.toList_some, Option.toList_none, List.cons_append, List.nil_append, List.append_nil, List.length_cons, List.length_nil, true_or, or_true, eq_self, b01_0, b01_1, b01_2, b01_3, b01_4, Nat.zero_le, Nat.reduceAdd, Nat.reduceLeDiff, ↓reduceIte, not_true_eq_false, not_false_eq_true, Bool.false_eq_true]
    · simp only [e_171, f1, g1, w1, f2, r_in, hye, c1, c2, jt, c4, kt, a2, hin, h1, e2, cm, n2, Option.bind_some, Option.toList_some, Option.toList_none, List.cons_append, List.nil_append, List.append_nil, List.length_cons, List.length_nil, true_or, or_true, eq_self, b01_0, b01_1, b01_2, b01_3, b01_4, Nat.zero_le, Nat.reduceAdd, Nat.reduceLeDiff, ↓reduceIte, not_true_eq_false, not_false_eq_true, Bool.false_eq_true]
  have cx := no_yes (N := N) hr (by omega)
  have cm := ix_yes (N := N) hr (by omega)
  rcases hrow r hr with ⟨g1', g2⟩ | ⟨q, y1, y2, y3, y4⟩
  · have kf := k_find2 (X := mc_X0 L xs) hk 0 (j := r) (by omega) (by rw [e1, cx]; exact id)
    rw [if_pos g1'] at kf
    have c108 : mc_ev (mc_X0 L xs) 108 0 [.ref (78 + 3 * i), .int (nI r), .int (nI t), .null, .null] [] G = some (some (.int (-11)), G) := by
      simp only [e_108, Option.bind_some, Option.toList_some, Option.toList_none, List.cons_append, List.nil_append, List.append_nil, List.length_cons, List.length_nil, true_or, or_true, eq_self, b01_0, b01_1, b01_2, b01_3, b01_4, Nat.zero_le, Nat.reduceAdd, Nat.reduceLeDiff, ↓reduceIte, not_true_eq_false, not_false_eq_true, Bool.false_eq_true]
      rw [h_108_2]
      simp only [e_108, kt, hkf, k_isAbsent hk, e1, ea, kf, klit, Option.bind_some, Option.toList_some, Option.toList_none, List.cons_append, List.nil_append, List.append_nil, List.length_cons, List.length_nil, true_or, or_true, eq_self, b01_0, b01_1, b01_2, b01_3, b01_4, Nat.zero_le, Nat.reduceAdd, Nat.reduceLeDiff, ↓reduceIte, not_true_eq_false, not_false_eq_true, Bool.false_eq_true]
    have a16 := fun s => (a2 s).2.2.2.2.2.2.2.2.2.1 (4 * i + r) (by omega)
    refine rfu hC (s := -11) ?_ ?_ (hTT _)
    · simp only [e_92, tp_f htp, pl_f hpl, c_isNoStrip, hno, c1, c2, c3, sp_q hsp hin, c108, klit, c_refuse htp, Option.bind_some, Option.toList_some, Option.toList_none, List.cons_append, List.nil_append, List.append_nil, List.length_cons, List.length_nil, true_or, or_true, eq_self, b01_0, b01_1, b01_2, b01_3, b01_4, Nat.zero_le, Nat.reduceAdd, Nat.reduceLeDiff, ↓reduceIte, not_true_eq_false, not_false_eq_true, Bool.false_eq_true]
    · simp only [e_171, f1, g1, w1, f2, r_in, hye, c1, c2, jt, c4, kt, a2, hin, h1, e2, cm, cc4, nI_add, a16, g2, n2, Option.bind_some, Option.toList_some, Option.toList_none, List.cons_append, List.nil_append, List.append_nil, List.length_cons, List.length_nil, true_or, or_true, eq_self, b01_0, b01_1, b01_2, b01_3, b01_4, Nat.zero_le, Nat.reduceAdd, Nat.reduceLeDiff, ↓reduceIte, not_true_eq_false, not_false_eq_true, Bool.false_eq_true]
  have c108 := k_wants (X := mc_X0 L xs) hk e1 hN hr y2 y1 (m := t) (by omega)
  have ecg := rdF_cg (q := q) (v := fun k => nu i (12 * r + k)) (v' := fun k => ce (48 * i + 12 * r + k)) y4 t 0
  have hre : ∀ G' : mc_H, rm G' su tr R C U tu tl ki go wa ol hs so sr rs ce cp fa pa → mc_ev (mc_X0 L xs) 171 0 [.ref 90, .int (nI i), .int (nI r), .int (nI p), .int (nI t), .null] [] G' = mc_ev (mc_X0 L xs) 171 128 [.ref 90, .int (nI i), .int (nI r), .int (nI p), .int (nI t), .int (nI 0)] [] (G'.set 90 (rmc 0 tr R C U)) := by
    intro G' h
    have rB := f1' G' h
    have a16 := (rm_a (X := mc_X0 L xs) rB).2.2.2.2.2.2.2.2.2.1 (4 * i + r) (by omega)
    simp only [e_171, rm_f h, rm_t h, rm_w1 h 0, rm_f rB, r_in, hye, c1, c2, r_joints rB hpv.1, c4, kt, rm_a (X := mc_X0 L xs) rB, hin, h1, e2, cm, cc4, nI_add, a16, y3, n_m9 (n := q) (by omega), show nI 0 = (0 : Int32) from rfl, Option.bind_some, Option.toList_some, Option.toList_none, List.cons_append, List.nil_append, List.append_nil, List.length_cons, List.length_nil, true_or, or_true, eq_self, b01_0, b01_1, b01_2, b01_3, b01_4, Nat.zero_le, Nat.reduceAdd, Nat.reduceLeDiff, ↓reduceIte, not_true_eq_false, not_false_eq_true, Bool.false_eq_true]
  by_cases cw : rdF q (fun k => nu i (12 * r + k)) t 0 = 0
  · rw [cw] at c108
    refine fin r (fun _ => ⟨rfl, by omega, ?_⟩) (fun k hk => ?_) (fun k hk => ?_) c108 ?_
    · have := (rdF_0 t 0 cw (t - 1) (by omega) (by omega)).1
      omega
    · exact y4 k (rdF_0 t 0 cw k (by omega) (by omega)).1
    · exact (rdF_0 t 0 cw k (by omega) (by omega)).2
    · intro G' h
      rw [hre G' h, r_readF (f1' G' h) hin (by omega) y1 (by omega) y3 t 0 (by omega), ← ecg, if_pos cw]
  · have kz : (rdF q (fun k => nu i (12 * r + k)) t 0 = 0) = False := eq_false cw
    refine rfu hC (s := rdF q (fun k => nu i (12 * r + k)) t 0) ?_ ?_ (hTT _)
    · simp only [e_92, tp_f htp, pl_f hpl, c_isNoStrip, hno, c1, c2, c3, sp_q hsp hin, c108, kz, c_refuse htp, Option.bind_some, Option.toList_some, Option.toList_none, List.cons_append, List.nil_append, List.append_nil, List.length_cons, List.length_nil, true_or, or_true, eq_self, b01_0, b01_1, b01_2, b01_3, b01_4, Nat.zero_le, Nat.reduceAdd, Nat.reduceLeDiff, ↓reduceIte, not_true_eq_false, not_false_eq_true, Bool.false_eq_true]
    · rw [hre _ (r1 _), r_readF (f1' _ (r1 _)) hin (by omega) y1 (by omega) y3 t 0 (by omega), ← ecg, if_neg cw, List.set_set]
end ROWS
