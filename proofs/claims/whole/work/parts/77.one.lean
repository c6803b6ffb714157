/-! rows: one -/
theorem cntB_lt {f g : Nat → Bool} : ∀ n, (∀ a, a < n → f a = true → g a = true) → (∃ a, a < n ∧ f a = false ∧ g a = true) → cntB f n < cntB g n
  | 0, _, ⟨_, h, _⟩ => absurd h (by omega)
  | n + 1, h, ⟨a, h1, h2, h3⟩ => by
    have le : ∀ m, m ≤ n → cntB f m ≤ cntB g m := by
      intro m
      induction m with
      | zero => intro _; exact Nat.le_refl 0
      | succ m ih =>
        intro hm
        have := ih (by omega)
        have hh := h m (by omega)
        show (if f m then cntB f m + 1 else cntB f m) ≤ (if g m then cntB g m + 1 else cntB g m)
        cases hf : f m with
        | true => rw [hh hf]; simpa using this
        | false => cases g m <;> simp <;> omega
    show (if f n then cntB f n + 1 else cntB f n) < (if g n then cntB g n + 1 else cntB g n)
    by_cases c : a = n
    · subst c
      have := le a (Nat.le_refl _)
      rw [h2, h3]
      simp
      omega
    · have ih := cntB_lt n (fun b hb => h b (by omega)) ⟨a, by omega, h2, h3⟩
      have hh := h n (by omega)
      cases hf : f n with
      | true => rw [hh hf]; simpa using ih
      | false => cases g n <;> simp <;> omega
theorem cntB_all : ∀ n, cntB (fun _ => true) n = n
  | 0 => rfl
  | n + 1 => by show cntB (fun _ => true) n + 1 = n + 1; rw [cntB_all n]
/-- how many arrangements have less strain than A -/
def bel (R C : Nat) (ws ks : Nat → Int32) (A : Nat) : Nat := cntB (fun a => decide ((stA R C ws ks a).toInt < (stA R C ws ks A).toInt)) (2 ^ nN R C)
theorem bel_lt {R C : Nat} {ws ks : Nat → Int32} {A A' : Nat} (hA : A' < 2 ^ nN R C) (h : (stA R C ws ks A').toInt < (stA R C ws ks A).toInt) : bel R C ws ks A' < bel R C ws ks A := by
  apply cntB_lt
  · intro a _ ha
    have := of_decide_eq_true ha
    exact decide_eq_true (by omega)
  · exact ⟨A', hA, decide_eq_false (by omega), decide_eq_true h⟩
theorem bel_top {R C : Nat} {ws ks : Nat → Int32} {A : Nat} (hA : A < 2 ^ nN R C) : bel R C ws ks A < 2 ^ nN R C := by
  have := cntB_lt (f := fun a => decide ((stA R C ws ks a).toInt < (stA R C ws ks A).toInt)) (g := fun _ => true) (2 ^ nN R C) (fun _ _ _ => rfl) ⟨A, hA, decide_eq_false (by omega), rfl⟩
  rw [cntB_all] at this
  exact this
theorem ffst_c (ok : Nat → Bool) : ∀ r a, (ffst ok r a = -9 ∧ ∀ n, a ≤ n → n < a + r → ok n = false) ∨ ∃ n, a ≤ n ∧ n < a + r ∧ ok n = true ∧ (∀ m, a ≤ m → m < n → ok m = false) ∧ ffst ok r a = nI n
  | 0, a => Or.inl ⟨rfl, fun n h1 h2 => by omega⟩
  | r + 1, a => by
    show ((if ok a then nI a else ffst ok r (a + 1)) = -9 ∧ _) ∨ ∃ n, a ≤ n ∧ n < a + (r + 1) ∧ ok n = true ∧ (∀ m, a ≤ m → m < n → ok m = false) ∧ (if ok a then nI a else ffst ok r (a + 1)) = nI n
    cases h : ok a with
    | true => exact Or.inr ⟨a, Nat.le_refl _, by omega, h, fun m h1 h2 => by omega, rfl⟩
    | false =>
      rcases ffst_c ok r (a + 1) with ⟨h1, h2⟩ | ⟨n, h1, h2, h3, h4, h5⟩
      · refine Or.inl ⟨h1, fun n a1 a2 => ?_⟩
        by_cases c : n = a
        · subst c; exact h
        · exact h2 n (by omega) (by omega)
      · refine Or.inr ⟨n, by omega, by omega, h3, fun m a1 a2 => ?_, h5⟩
        by_cases c : m = a
        · subst c; exact h
        · exact h4 m (by omega) a2
section RS
variable {R C OB LB rim : Nat} {ks ws fi se lo hi : Nat → Int32}
theorem more_lt {TB : Nat} (hp : pv R C rim fi se lo hi TB OB LB ks ws) {n : Nat} (hn : n < nN R C) : (stA R C ws ks (pN1 R C (fl (nN R C) TB n) OB LB ks) < stA R C ws ks (pN1 R C TB OB LB ks)) = (mrI R C TB OB LB ks ws n < 0) := by
  have e := turn_more hp hn
  have b1 := stA_b hp (pN1 R C TB OB LB ks)
  have b2 := stA_b hp (pN1 R C (fl (nN R C) TB n) OB LB ks)
  have e2 : mrI R C TB OB LB ks ws n = stA R C ws ks (pN1 R C (fl (nN R C) TB n) OB LB ks) - stA R C ws ks (pN1 R C TB OB LB ks) := by rw [e]; grind
  apply propext
  rw [e2, Int32.lt_iff_toInt_lt, Int32.lt_iff_toInt_lt, sub_sm (by omega) (by omega)]
  show _ ↔ _ < (0 : Int)
  omega
end RS
section REF
variable {X : mc_X} {H : mc_H} {R C OB LB rim T : Nat} {ks ws fi se lo hi : Nat → Int32} {su : Int32} {tr : Int64} {U : Nat} {tu tl ki go wa ol hs so sr rs ce cp fa pa : Nat → Int32}
theorem r_oneS (h : rm H su tr R C U tu tl ki go wa ol hs so sr rs ce cp fa pa) (hp : pv R C rim fi se lo hi T OB LB ks ws) (h1 : rel1 R C T OB LB ks ws tu tl ki go wa) {n : Nat} (hn : n < nN R C) (t : Int32) (v : Value) : mc_ev X 141 22 [.ref 90, .int t, .int (nI n), .int (stA R C ws ks (pN1 R C T OB LB ks)), v] [] H = if mrI R C T OB LB ks ws n < 0 then mc_ev X 141 22 [.ref 90, .int (t + 1), .int 0, .int (stA R C ws ks (pN1 R C (fl (nN R C) T n) OB LB ks)), .int (stA R C ws ks (pN1 R C (fl (nN R C) T n) OB LB ks))] [] (H.set 91 (.inl (0, 12, upd tu n (1 - tu n)))) else mc_ev X 141 22 [.ref 90, .int t, .int (nI (n + 1)), .int (stA R C ws ks (pN1 R C T OB LB ks)), .int (stA R C ws ks (pN1 R C (fl (nN R C) T n) OB LB ks))] [] H := by
  have hb1 := sh_b hp.1
  have h12 : n < 12 := by omega
  have k1 : nI n < nI (nN R C) := nI_lt hn (by omega)
  have p1 := rm_s91 h (upd tu n (1 - tu n))
  have hr1' := rel1_turn hp.1 h1 hn
  have hp' := pv_T hp (fl_lt hn hp.2.1)
  have ns := r_nowS (X := X) p1 hp' hr1'
  have ml := more_lt hp hn
  have w2 := fun x => rm_w91s h (upd tu n (1 - tu n)) h12 x
  have ee : upd (upd tu n (1 - tu n)) n (1 - upd tu n (1 - tu n) n) = tu := by
    funext j
    by_cases c : j = n
    · subst c; rw [pk_us, pk_us]; grind
    · rw [pk_un c, pk_un c]
  rw [h_141_22]
  by_cases c : mrI R C T OB LB ks ws n < 0
  · rw [if_pos c]
    simp only [e_141, rm_f h, r_needles h, k1, rm_a (X := X) h, h12, rm_w91a h h12, rm_f p1, ns, ml, c, Option.bind_some, Option.toList_some, Option.toList_none, List.cons_append, List.nil_append, List.append_nil, List.length_cons, List.length_nil, true_or, or_true, eq_self, b01_0, b01_1, b01_2, b01_3, b01_4, Nat.zero_le, Nat.reduceAdd, Nat.reduceLeDiff, ↓reduceIte, not_true_eq_false, not_false_eq_true, Bool.false_eq_true]
  · rw [if_neg c]
    simp only [e_141, rm_f h, r_needles h, k1, rm_a (X := X) h, h12, rm_w91a h h12, rm_f p1, ns, ml, c, rm_a (X := X) p1, w2, ee, set_same h.2.1, nI_1, Option.bind_some, Option.toList_some, Option.toList_none, List.cons_append, List.nil_append, List.append_nil, List.length_cons, List.length_nil, true_or, or_true, eq_self, b01_0, b01_1, b01_2, b01_3, b01_4, Nat.zero_le, Nat.reduceAdd, Nat.reduceLeDiff, ↓reduceIte, not_true_eq_false, not_false_eq_true, Bool.false_eq_true]
theorem r_oneN (h : rm H su tr R C U tu tl ki go wa ol hs so sr rs ce cp fa pa) (hp : pv R C rim fi se lo hi T OB LB ks ws) (h1 : rel1 R C T OB LB ks ws tu tl ki go wa) (t : Int32) : ∀ n, n ≤ nN R C → (∀ m, m < n → ¬ mrI R C T OB LB ks ws m < 0) → ∀ v : Value, ∃ v' : Value, mc_ev X 141 22 [.ref 90, .int t, .int 0, .int (stA R C ws ks (pN1 R C T OB LB ks)), v] [] H = mc_ev X 141 22 [.ref 90, .int t, .int (nI n), .int (stA R C ws ks (pN1 R C T OB LB ks)), v'] [] H
  | 0, _, _, v => ⟨v, rfl⟩
  | n + 1, hn, hm, v => by
    obtain ⟨v', e⟩ := r_oneN h hp h1 t n (by omega) (fun m hm' => hm m (by omega)) v
    have e2 := r_oneS (X := X) h hp h1 (n := n) (by omega) t v'
    rw [if_neg (hm n (by omega))] at e2
    exact ⟨_, e.trans e2⟩
end REF
section RUN
variable {L : Nat} {xs : Nat → Int32} {R C OB LB rim : Nat} {ks ws fi se lo hi : Nat → Int32}
theorem one_run : ∀ (k T : Nat), pv R C rim fi se lo hi T OB LB ks ws → bel R C ws ks (pN1 R C T OB LB ks) = k → ∃ s T' : Nat, pv R C rim fi se lo hi T' OB LB ks ws ∧
    (∀ (t : Nat) (G : mc_H) (v : Value) (tr : Int64) (su : Int32), t + k ≤ 4095 → tp G tr su → pl G R C rim fi se lo hi T OB LB ks ws → mc_ev (mc_X0 L xs) 69 16 [.ref 0, .int (nI t), v] [] G = some (some (.int (nI (t + s))), G.set 7 (sc T' OB LB 8 9))) ∧
    (∀ (t : Nat) (H : mc_H) (v : Value) (su : Int32) (tr : Int64) (U : Nat) (tu tl ki go wa ol hs so sr rs ce cp fa pa : Nat → Int32), rm H su tr R C U tu tl ki go wa ol hs so sr rs ce cp fa pa → rel1 R C T OB LB ks ws tu tl ki go wa → ∃ (H' : mc_H) (tu' : Nat → Int32), mc_ev (mc_X0 L xs) 141 22 [.ref 90, .int (nI t), .int 0, .int (stA R C ws ks (pN1 R C T OB LB ks)), v] [] H = some (some (.int (nI (t + s))), H') ∧ (∀ k, k ≠ 91 → H'[k]? = H[k]?) ∧ rm H' su tr R C U tu' tl ki go wa ol hs so sr rs ce cp fa pa ∧ rel1 R C T' OB LB ks ws tu' tl ki go wa) := by
  intro k
  induction k using Nat.strongRecOn with
  | ind k ih =>
  intro T hp hk
  have hb1 := sh_b hp.1
  rcases ffst_c (fun n => decide (mrI R C T OB LB ks ws n < 0)) (nN R C) 0 with ⟨h1, h2⟩ | ⟨n, -, h2, h3, h4, h5⟩
  · refine ⟨0, T, hp, ?_, ?_⟩
    · intro t G v tr su ht htp hpl
      have k1 : nI t < 4096 := nI_lt (b := 4096) (by omega) (by decide)
      have k2 : ((-9 : Int32) < 0) = True := eq_true (by decide)
      have fr := c_firstToRelax (L := L) (xs := xs) hpl hp
      rw [h1] at fr
      have es : G.set 7 (sc T OB LB 8 9) = G := set_same hpl.2.2.2.2.2.2.1
      rw [es, h_69_16]
      simp only [e_69, k1, tp_f htp, pl_f hpl, fr, k2, Nat.add_zero, Option.bind_some, Option.toList_some, Option.toList_none, List.cons_append, List.nil_append, List.append_nil, List.length_cons, List.length_nil, true_or, or_true, eq_self, b01_0, b01_1, b01_2, b01_3, b01_4, Nat.zero_le, Nat.reduceAdd, Nat.reduceLeDiff, ↓reduceIte, not_true_eq_false, not_false_eq_true, Bool.false_eq_true]
    · intro t H v su tr U tu tl ki go wa ol hs so sr rs ce cp fa pa hrm hr1
      obtain ⟨v', e⟩ := r_oneN (X := mc_X0 L xs) hrm hp hr1 (nI t) (nN R C) (Nat.le_refl _) (fun m hm => of_decide_eq_false (h2 m (by omega) (by omega))) v
      refine ⟨H, tu, ?_, fun _ _ => rfl, hrm, hr1⟩
      have k3 : ¬ nI (nN R C) < nI (nN R C) := nI_nlt (Nat.le_refl _) (by omega)
      rw [e, h_141_22]
      simp only [e_141, rm_f hrm, r_needles hrm, k3, Nat.add_zero, Option.bind_some, Option.toList_some, Option.toList_none, List.cons_append, List.nil_append, List.append_nil, List.length_cons, List.length_nil, true_or, or_true, eq_self, b01_0, b01_1, b01_2, b01_3, b01_4, Nat.zero_le, Nat.reduceAdd, Nat.reduceLeDiff, ↓reduceIte, not_true_eq_false, not_false_eq_true, Bool.false_eq_true]
  · have hn : n < nN R C := by omega
    have hm : mrI R C T OB LB ks ws n < 0 := of_decide_eq_true h3
    have hp' := pv_T hp (fl_lt hn hp.2.1)
    have hlt : stA R C ws ks (pN1 R C (fl (nN R C) T n) OB LB ks) < stA R C ws ks (pN1 R C T OB LB ks) := by rw [more_lt hp hn]; exact hm
    have hbl := bel_lt (ws := ws) (ks := ks) (pN1_lt hp') (Int32.lt_iff_toInt_lt.mp hlt)
    obtain ⟨s, T', g1, g2, g3⟩ := ih _ (by rw [← hk]; exact hbl) (fl (nN R C) T n) hp' rfl
    refine ⟨s + 1, T', g1, ?_, ?_⟩
    · intro t G v tr su ht htp hpl
      have k1 : nI t < 4096 := nI_lt (b := 4096) (by omega) (by decide)
      have k2 : (nI n < 0) = False := eq_false (nI_pos (by omega))
      have fr := c_firstToRelax (L := L) (xs := xs) hpl hp
      rw [h5] at fr
      have := g2 (t + 1) (G.set 7 (sc (fl (nN R C) T n) OB LB 8 9)) (.int (nI n)) tr su (by omega) (tp_ag htp (gs_ne (by decide))) (pl_s7 hpl _ OB LB)
      rw [List.set_set, show t + 1 + s = t + (s + 1) by omega] at this
      rw [← this, h_69_16]
      simp only [e_69, k1, tp_f htp, pl_f hpl, fr, k2, c_turnOver hpl hp.1 hn, nI_1, Option.bind_some, Option.toList_some, Option.toList_none, List.cons_append, List.nil_append, List.append_nil, List.length_cons, List.length_nil, true_or, or_true, eq_self, b01_0, b01_1, b01_2, b01_3, b01_4, Nat.zero_le, Nat.reduceAdd, Nat.reduceLeDiff, ↓reduceIte, not_true_eq_false, not_false_eq_true, Bool.false_eq_true]
    · intro t H v su tr U tu tl ki go wa ol hs so sr rs ce cp fa pa hrm hr1
      obtain ⟨v', e⟩ := r_oneN (X := mc_X0 L xs) hrm hp hr1 (nI t) n (by omega) (fun m hm' => of_decide_eq_false (h4 m (by omega) hm')) v
      obtain ⟨H', tu', z1, z2, z3, z4⟩ := g3 (t + 1) (H.set 91 (.inl (0, 12, upd tu n (1 - tu n)))) (.int (stA R C ws ks (pN1 R C (fl (nN R C) T n) OB LB ks))) su tr U _ tl ki go wa ol hs so sr rs ce cp fa pa (rm_s91 hrm _) (rel1_turn hp.1 hr1 hn)
      rw [show t + 1 + s = t + (s + 1) by omega] at z1
      refine ⟨H', tu', ?_, fun k hk => (z2 k hk).trans (gs_ne (Ne.symm hk)), z3, z4⟩
      rw [e, r_oneS hrm hp hr1 hn (nI t) v', if_pos hm, nI_1]
      exact z1
end RUN
section ROWS
variable {L : Nat} {xs : Nat → Int32}
set_option maxHeartbeats 1000000 in
theorem R8 : lw_R8 L xs Inv := by
  intro G hG
  refine inv_elim hG ?_
  intro R C rim fi se lo hi TB OB LB ks ws stale lw SZ HD HP sts nx sz kq hT hO hL hK hW sq sv rv le nu di ch tr su U tu tl ki go wa ol hs so sr rs ce cp fa pa hpl hpv hld hhs hsp htp hpr hrm hr1 hr2 hr3 hr4
  have hb1 := sh_b hpv.1
  have hU : U ≤ 20 := by rw [hr3.1]; exact hhs.2.2.2.2.2
  obtain ⟨G1, q1, q2, q4⟩ := c_keep (X := mc_X0 L xs) hhs hpl
  have p1 := pl_ag hpl (G' := G1) (fun k a b => q2 k (by omega))
  have t1 := tp_ag htp (q2 0 (by omega))
  have l1 := ld_ag hld (G' := G1) (fun k a b => q2 k (by omega))
  have hbt := bel_top (ws := ws) (ks := ks) (pN1_lt hpv)
  have hpn := pN hpv.1
  obtain ⟨s, T', g1, g2, g3⟩ := one_run (L := L) (xs := xs) _ TB hpv rfl
  have c1 := g2 0 G1 .null tr su (by omega) t1 p1
  rw [Nat.zero_add] at c1
  have hrm2 := rm_ag hrm (G' := G1.set 7 (sc T' OB LB 8 9)) (fun k a b => (gs_ne (by omega)).trans (q2 k (by omega)))
  obtain ⟨G3, f, k1, k2, k3, k4, k5, k6⟩ := r_keeps (X := mc_X0 L xs) hrm2 hU
  obtain ⟨H', tu', z1, z2, z3, z4⟩ := g3 0 G3 .null su tr _ _ tl ki go wa _ hs so sr rs ce cp fa pa k3 hr1
  rw [Nat.zero_add] at z1
  have hx : mc_ev (mc_X0 L xs) 69 0 [.ref 0, .null, .null] [] G = some (some (.int (nI s)), G1.set 7 (sc T' OB LB 8 9)) := by
    simp only [e_69, tp_f htp, pl_f hpl, hy_f hhs, q1, Option.bind_some, Option.toList_some, Option.toList_none, List.cons_append, List.nil_append, List.append_nil, List.length_cons, List.length_nil, true_or, or_true, eq_self, b01_0, b01_1, b01_2, b01_3, b01_4, Nat.zero_le, Nat.reduceAdd, Nat.reduceLeDiff, ↓reduceIte, not_true_eq_false, not_false_eq_true, Bool.false_eq_true]
    exact c1
  have hm : mc_ev (mc_X0 L xs) 141 0 [.ref 90, .null, .null, .null, .null] [] (G1.set 7 (sc T' OB LB 8 9)) = some (some (.int (nI s)), H') := by
    simp only [e_141, rm_f hrm2, rm_t hrm2, k1, rm_f k3, r_nowS k3 hpv hr1, Option.bind_some, Option.toList_some, Option.toList_none, List.cons_append, List.nil_append, List.append_nil, List.length_cons, List.length_nil, true_or, or_true, eq_self, b01_0, b01_1, b01_2, b01_3, b01_4, Nat.zero_le, Nat.reduceAdd, Nat.reduceLeDiff, ↓reduceIte, not_true_eq_false, not_false_eq_true, Bool.false_eq_true]
    exact z1
  refine ⟨nI s, _, H', hx, (rm_f hrm2).1, hm, ?_⟩
  exact inv_kr (pl_s7 p1 T' OB LB) g1 l1 q4 hsp htp hpr (fun j hj => q2 j (by omega)) (fun j a b c => gs_ne (by omega)) z3 (fun k a => (z2 k (by omega)).trans (k2 k (by omega) (by omega))) z4 hr2 (rel3_keep hpv hr1 hr3 hhs.2.2.2.2.1 hhs.2.2.2.2.2 k4 k5 k6) hr4
end ROWS
