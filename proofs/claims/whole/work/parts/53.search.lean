/-! the class: searches, over a landscape that is up to date -/
section CLS
variable {L : Nat} {xs : Nat → Int32} {G : mc_H} {R C rim TB OB LB : Nat} {fi se lo hi ks ws : Nat → Int32} {stale lw : Int32} {SZ HD HP : Nat} {sts : Nat → Int32} {tr : Int64} {su : Int32}
theorem c_surveyed (ht : tp G tr su) (h : pl G R C rim fi se lo hi TB OB LB ks ws) (hp : pv R C rim fi se lo hi TB OB LB ks ws) (hl : ld G stale SZ HD HP lw sts) (h2 : rel2 R C OB LB ks ws stale lw SZ HD HP sts) : ∃ (G' : mc_H) (F : Nat → Int32) (l' : Int32), mc_ev (mc_X0 L xs) 110 0 [.ref 0] [] G = some (some (.ref 72), G') ∧ (∀ k, k ≠ 72 → k ≠ 73 → G'[k]? = G[k]?) ∧ ld G' 0 (2 ^ nN R C) (hH R C LB ks) (OB &&& hH R C LB ks) l' F ∧ (∀ a, a < 2 ^ nN R C → F a = stA R C ws ks a) ∧ l' = (if nxI (mbB (hH R C LB ks) (OB &&& hH R C LB ks)) F (-1) (2 ^ nN R C) = 10000000 then -9 else nxI (mbB (hH R C LB ks) (OB &&& hH R C LB ks)) F (-1) (2 ^ nN R C)) := by
  rcases h2.1 with hs | ⟨hs, e1, e2, e3, e4, e5⟩
  · subst hs
    obtain ⟨G', F, l', q1, q2, q3, q4, q5⟩ := c_survey (L := L) (xs := xs) h hp hl
    refine ⟨G', F, l', ?_, q2, q3, q4, q5⟩
    have ht2 : tp G' tr su := tp_ag ht (q2 0 (by decide) (by decide))
    simp only [e_110, tp_f ht, ld_f (X := mc_X0 L xs) hl, q1, tp_f ht2, Option.bind_some, Option.toList_some, Option.toList_none, List.cons_append, List.nil_append, List.append_nil, List.length_cons, List.length_nil, true_or, or_true, eq_self, b01_0, b01_1, b01_2, b01_3, b01_4, Nat.zero_le, Nat.reduceAdd, Nat.reduceLeDiff, ↓reduceIte, not_true_eq_false, not_false_eq_true, Bool.false_eq_true]
  · subst hs e1 e2 e3
    refine ⟨G, sts, lw, ?_, fun _ _ _ => rfl, hl, e4, e5⟩
    simp only [e_110, tp_f ht, ld_f (X := mc_X0 L xs) hl, Option.bind_some, Option.toList_some, Option.toList_none, List.cons_append, List.nil_append, List.append_nil, List.length_cons, List.length_nil, true_or, or_true, eq_self, b01_0, b01_1, b01_2, b01_3, b01_4, Nat.zero_le, Nat.reduceAdd, Nat.reduceLeDiff, ↓reduceIte, not_true_eq_false, not_false_eq_true, Bool.false_eq_true]
end CLS
theorem allB_iff {ok : Nat → Bool} : ∀ n, allB ok n = true ↔ ∀ i, i < n → ok i = true
  | 0 => ⟨fun _ i h => absurd h (Nat.not_lt_zero i), fun _ => rfl⟩
  | n + 1 => by
    show (allB ok n && ok n) = true ↔ _
    rw [Bool.and_eq_true, allB_iff n]
    constructor
    · rintro ⟨h1, h2⟩ i hi
      by_cases c : i = n
      · subst c; exact h2
      · exact h1 i (by omega)
    · intro h
      exact ⟨fun i hi => h i (by omega), h n (by omega)⟩
theorem bt_and {N A B i : Nat} : bt N (A &&& B) i = if bt N B i = 1 then bt N A i else 0 := by
  rw [bt_tb, bt_tb, bt_tb, Nat.testBit_and]
  cases A.testBit (N - 1 - i) <;> cases B.testBit (N - 1 - i) <;> rfl
/-- who may be, in the class and in the reference -/
theorem mb_may {R C TB OB LB rim : Nat} {ks ws tu tl ki go wa fi se lo hi : Nat → Int32} (hp : pv R C rim fi se lo hi TB OB LB ks ws) (h1 : rel1 R C TB OB LB ks ws tu tl ki go wa) {a : Nat} (ha : a < 2 ^ nN R C) : mbB (hH R C LB ks) (OB &&& hH R C LB ks) a = mayB (nN R C) ki go tl a := by
  have hb1 := sh_b hp.1
  apply Bool.eq_iff_iff.mpr
  unfold mayB mbB
  rw [allB_iff, decide_eq_true_iff]
  have key : ∀ i, i < nN R C → (((!hb ki go i || decide (nI (bt (nN R C) a i) = tl i)) = true) ↔ (hb ks (gB (nN R C) LB) i = true → bt (nN R C) a i = bt (nN R C) OB i)) := by
    intro i hi2
    obtain ⟨e1, e2, e3, e4⟩ := h1.1 i hi2
    rw [hb_cg e4 e3, e2]
    have b1 := bt_lt (nN R C) a i
    have b2 := bt_lt (nN R C) OB i
    have e5 : (nI (bt (nN R C) a i) = gB (nN R C) OB i) ↔ (bt (nN R C) a i = bt (nN R C) OB i) := nI_eq (by omega) (by omega)
    cases hb ks (gB (nN R C) LB) i <;> simp [e5]
  constructor
  · intro h i hi2
    rw [key i hi2]
    intro hh
    have := congrArg (fun q => bt (nN R C) q i) h
    rw [bt_and, bt_and, hH_bt hp.1 hi2, hh] at this
    simpa using this
  · intro h
    apply bits_ext (N := nN R C) (Nat.lt_of_le_of_lt Nat.and_le_left ha) (Nat.lt_of_le_of_lt Nat.and_le_left hp.2.2.1)
    intro i hi2
    rw [bt_and, bt_and, hH_bt hp.1 hi2]
    cases hh : hb ks (gB (nN R C) LB) i with
    | false => simp
    | true => simp [((key i hi2).mp (h i hi2)) hh]
theorem scan_cg {f g : Nat → Bool} {i : Int32} : ∀ r a n, (∀ b, a ≤ b → b < a + r → f b = g b) → scan f i r a n = scan g i r a n
  | 0, _, _, _ => rfl
  | r + 1, a, n, h => by
    show (if f a then (if nI n = i then (some a, n) else scan f i r (a + 1) (n + 1)) else scan f i r (a + 1) n) = (if g a then (if nI n = i then (some a, n) else scan g i r (a + 1) (n + 1)) else scan g i r (a + 1) n)
    rw [h a (Nat.le_refl _) (by omega), scan_cg r (a + 1) (n + 1) (fun b h1 h2 => h b (by omega) (by omega)), scan_cg r (a + 1) n (fun b h1 h2 => h b (by omega) (by omega))]
/-- with a number below 0 the scan counts -/
theorem scan_neg {f : Nat → Bool} {i : Int32} (hi : i < 0) : ∀ r a n, n ≤ a → a + r ≤ 4096 → ∃ m, scan f i r a n = (none, m) ∧ m + cntB f a = n + cntB f (a + r)
  | 0, a, n, _, _ => ⟨n, rfl, rfl⟩
  | r + 1, a, n, hn, ha => by
    have hne : ¬ nI n = i := fun e => absurd (e ▸ hi) (nI_pos (by omega))
    have ec : cntB f (a + 1) = if f a then cntB f a + 1 else cntB f a := rfl
    cases hf : f a with
    | true =>
      obtain ⟨m, e1, e2⟩ := scan_neg (f := f) hi r (a + 1) (n + 1) (by omega) (by omega)
      refine ⟨m, ?_, ?_⟩
      · show (if f a then (if nI n = i then (some a, n) else scan f i r (a + 1) (n + 1)) else scan f i r (a + 1) n) = _
        rw [hf, if_pos rfl, if_neg hne, e1]
      · rw [ec, hf, if_pos rfl, show a + 1 + r = a + (r + 1) by omega] at e2; omega
    | false =>
      obtain ⟨m, e1, e2⟩ := scan_neg (f := f) hi r (a + 1) n (by omega) (by omega)
      refine ⟨m, ?_, ?_⟩
      · show (if f a then (if nI n = i then (some a, n) else scan f i r (a + 1) (n + 1)) else scan f i r (a + 1) n) = _
        rw [hf, if_neg (by decide), e1]
      · rw [ec, hf, if_neg (by decide), show a + 1 + r = a + (r + 1) by omega] at e2; omega
theorem fdR_neg {f : Nat → Bool} {i : Int32} (hi : i < 0) {e : Nat} (he : e ≤ 4096) : fdR i (scan f i e 0 0) = nI (cntB f e) := by
  obtain ⟨m, e1, e2⟩ := scan_neg (f := f) hi e 0 0 (Nat.le_refl _) (by omega)
  rw [e1]
  show (if i < 0 then nI m else -9) = _
  rw [if_pos hi]
  congr 1
  have : cntB f 0 = 0 := rfl
  rw [show 0 + e = e from Nat.zero_add e] at e2
  omega
theorem fdR_pos {q : Option Nat × Nat} {i : Int32} (hi : ¬ i < 0) : fdR i q = pkR q := by
  unfold fdR pkR
  rw [if_neg hi]
  cases q.1 <;> rfl
theorem cntB_cg {f g : Nat → Bool} : ∀ n, (∀ b, b < n → f b = g b) → cntB f n = cntB g n
  | 0, _ => rfl
  | n + 1, h => by
    show (if f n then cntB f n + 1 else cntB f n) = (if g n then cntB g n + 1 else cntB g n)
    rw [h n (by omega), cntB_cg n (fun b hb => h b (by omega))]
