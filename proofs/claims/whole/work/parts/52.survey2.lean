/-! the class: survey, surveyed -/
section CLS
variable {L : Nat} {xs : Nat → Int32} {G : mc_H} {R C rim TB OB LB : Nat} {fi se lo hi ks ws : Nat → Int32} {stale lw : Int32} {SZ HD HP : Nat} {sts : Nat → Int32}
theorem sm1 (x : Int32) : x + -1 = x - 1 := by grind
set_option maxHeartbeats 2000000 in
theorem c_survey (h : pl G R C rim fi se lo hi TB OB LB ks ws) (hp : pv R C rim fi se lo hi TB OB LB ks ws) (hl : ld G stale SZ HD HP lw sts) : ∃ (G' : mc_H) (F : Nat → Int32) (l' : Int32), mc_ev (mc_X0 L xs) 11 0 [.ref 72, .ref 1, .null] [] G = some (none, G') ∧ (∀ k, k ≠ 72 → k ≠ 73 → G'[k]? = G[k]?) ∧ ld G' 0 (2 ^ nN R C) (hH R C LB ks) (OB &&& hH R C LB ks) l' F ∧ (∀ a, a < 2 ^ nN R C → F a = stA R C ws ks a) ∧ l' = (if nxI (mbB (hH R C LB ks) (OB &&& hH R C LB ks)) F (-1) (2 ^ nN R C) = 10000000 then -9 else nxI (mbB (hH R C LB ks) (OB &&& hH R C LB ks)) F (-1) (2 ^ nN R C)) := by
  have hb1 := sh_b hp.1
  have hpn := pN hp.1
  have hlt := hH_lt (R := R) (C := C) (LB := LB) (ks := ks)
  generalize hHe : hH R C LB ks = HH at *
  have l1 := ld_set hl stale (2 ^ nN R C) HD HP lw
  have p1 : pl (G.set 72 (ldc stale (2 ^ nN R C) HD HP lw)) R C rim fi se lo hi TB OB LB ks ws := pl_ag h (fun k a b => gs_ne (by omega))
  generalize hG1 : G.set 72 (ldc stale (2 ^ nN R C) HD HP lw) = G1 at *
  have l2 := ld_set l1 stale (2 ^ nN R C) HH HP lw
  have p2 : pl (G1.set 72 (ldc stale (2 ^ nN R C) HH HP lw)) R C rim fi se lo hi TB OB LB ks ws := pl_ag p1 (fun k a b => gs_ne (by omega))
  generalize hG2 : G1.set 72 (ldc stale (2 ^ nN R C) HH HP lw) = G2 at *
  have l3 := ld_set l2 stale (2 ^ nN R C) HH (OB &&& HH) lw
  have p3 : pl (G2.set 72 (ldc stale (2 ^ nN R C) HH (OB &&& HH) lw)) R C rim fi se lo hi TB OB LB ks ws := pl_ag p2 (fun k a b => gs_ne (by omega))
  generalize hG3 : G2.set 72 (ldc stale (2 ^ nN R C) HH (OB &&& HH) lw) = G3 at *
  have l4 := ld_arr l3 (upd sts 0 (stA R C ws ks 0))
  have p4 : pl (G3.set 73 (.inl (0, 4096, upd sts 0 (stA R C ws ks 0)))) R C rim fi se lo hi TB OB LB ks ws := pl_ag p3 (fun k a b => gs_ne (by omega))
  have w1 := ld_w2 hl (2 ^ nN R C)
  have w2 := ld_w3 l1 HH
  have w3 := ld_w4 l2 (OB &&& HH)
  rw [hG1] at w1
  rw [hG2] at w2
  rw [hG3] at w3
  have s0 := c_strainOf (L := L) (xs := xs) p3 hp (A := 0) (by decide)
  rw [show nI 0 = (0 : Int32) from rfl] at s0
  have a0 := sa_n (G := G3) (t := 0) (k := 73) l3.2 (by decide) 0 (stA R C ws ks 0) (by decide)
  rw [show nI 0 = (0 : Int32) from rfl] at a0
  have hh1 := c_heldBits (L := L) (xs := xs) p1 hp
  rw [hHe] at hh1
  generalize hG4 : G3.set 73 (.inl (0, 4096, upd sts 0 (stA R C ws ks 0))) = G4 at *
  have h0 : mc_ev (mc_X0 L xs) 11 0 [.ref 72, .ref 1, .null] [] G = mc_ev (mc_X0 L xs) 11 53 [.ref 72, .ref 1, .int (nI (nN R C) - 1)] [] G4 := by
    simp only [e_11, pl_f h, pl_f p1, pl_f p2, pl_f p3, pl_f p4, c_arrangements h hp.1, w1, w2, w3, hh1, ld_f (X := mc_X0 L xs) l1, ld_f (X := mc_X0 L xs) l2, ld_f (X := mc_X0 L xs) l3, nx_and, s0, a0, Option.bind_some, Option.toList_some, Option.toList_none, List.cons_append, List.nil_append, List.append_nil, List.length_cons, List.length_nil, true_or, or_true, eq_self, b01_0, b01_1, b01_2, b01_3, b01_4, Nat.zero_le, Nat.reduceAdd, Nat.reduceLeDiff, ↓reduceIte, not_true_eq_false, not_false_eq_true, Bool.false_eq_true]
  obtain ⟨ls', G5, ⟨hls, hag, F, hF, hFa⟩, he⟩ := ev_inv (X := mc_X0 L xs) (k := 11) (pc := 53) (fun i ls G' => ls = [.ref 72, .ref 1, .int (nI (nN R C - i) - 1)] ∧ (∀ k, k ≠ 73 → G'[k]? = G4[k]?) ∧ ∃ F, G'[73]? = some (.inl (0, 4096, F)) ∧ ∀ a, a < 2 ^ i → F a = stA R C ws ks a) (nN R C) (by
    rintro i hii ls G' ⟨rfl, hag, F, hF, hFa⟩
    have lg : ld G' stale (2 ^ nN R C) HH (OB &&& HH) lw F := ⟨(hag 72 (by decide)).trans l4.1, hF⟩
    have pg : pl G' R C rim fi se lo hi TB OB LB ks ws := pl_ag p4 (fun k a b => hag k (by omega))
    have en : nI (nN R C - i) - 1 = nI (nN R C - 1 - i) := by rw [nI_m1 (by omega)]; congr 1; omega
    obtain ⟨F2, q1, q2, q3⟩ := c_addNeedle (L := L) (xs := xs) pg hp lg (n := nN R C - 1 - i) (by omega)
    have eb : nN R C - 1 - (nN R C - 1 - i) = i := by omega
    rw [eb] at q2 q3
    have hz : ¬ nI (nN R C - 1 - i) < 0 := nI_pos (by omega)
    refine ⟨[.ref 72, .ref 1, .int (nI (nN R C - (i + 1)) - 1)], G'.set 73 (.inl (0, 4096, F2)), ⟨rfl, fun k hk => (gs_ne (Ne.symm hk)).trans (hag k hk), F2, gs_self hF, ?_⟩, ?_⟩
    · intro a ha
      by_cases c : a < 2 ^ i
      · rw [q2 a c, hFa a c]
      · have ha2 : a - 2 ^ i < 2 ^ i := by rw [Nat.pow_succ] at ha; omega
        have e1 : a = 2 ^ i + (a - 2 ^ i) := by omega
        have e2 := q3 (a - 2 ^ i) ha2
        rw [← e1] at e2
        rw [e2, (fd_ok hp.1 (n := nN R C - 1 - i) (by omega) (a - 2 ^ i) (F (a - 2 ^ i)) (nJ R C) (Nat.le_refl _)).1, hFa _ ha2]
        have e3 := stA_dA (ws := ws) (ks := ks) hp.1 (n := nN R C - 1 - i) (a := a - 2 ^ i) (by omega) (by rw [eb]; exact ha2)
        rw [eb, ← e1] at e3
        exact e3.symm
    · rw [en, h_11_53]
      have en2 : nI (nN R C - 1 - i) - 1 = nI (nN R C - (i + 1)) - 1 := by rw [show nN R C - 1 - i = nN R C - (i + 1) by omega]
      simp only [e_11, ld_f (X := mc_X0 L xs) lg, hz, q1, sm1, en2, Option.bind_some, Option.toList_some, Option.toList_none, List.cons_append, List.nil_append, List.append_nil, List.length_cons, List.length_nil, true_or, or_true, eq_self, b01_0, b01_1, b01_2, b01_3, b01_4, Nat.zero_le, Nat.reduceAdd, Nat.reduceLeDiff, ↓reduceIte, not_true_eq_false, not_false_eq_true, Bool.false_eq_true]) _ _ ⟨rfl, fun _ _ => rfl, _, l4.2, fun a ha => by
      have : a = 0 := by simpa using ha
      subst this
      simp [upd]⟩
  subst hls
  have l5 : ld G5 stale (2 ^ nN R C) HH (OB &&& HH) lw F := ⟨(hag 72 (by decide)).trans l4.1, hF⟩
  have hP : OB &&& HH < 4096 := Nat.lt_of_le_of_lt Nat.and_le_left (Nat.lt_of_lt_of_le hp.2.2.1 hpn)
  have na := c_nextAfter (X := mc_X0 L xs) l5 hpn hP (-1)
  generalize hlw : (if nxI (mbB HH (OB &&& HH)) F (-1) (2 ^ nN R C) = 10000000 then -9 else nxI (mbB HH (OB &&& HH)) F (-1) (2 ^ nN R C)) = l' at *
  have l6 := ld_set l5 stale (2 ^ nN R C) HH (OB &&& HH) l'
  have l7 := ld_set l6 0 (2 ^ nN R C) HH (OB &&& HH) l'
  refine ⟨_, F, l', ?_, ?_, l7, hFa, hlw.symm⟩
  · rw [h0]
    refine Eq.trans he ?_
    have hz : nI (nN R C - nN R C) - 1 < 0 := by rw [Nat.sub_self]; decide
    rw [h_11_53]
    simp only [e_11, hz, ld_f (X := mc_X0 L xs) l5, na, ld_w5 l5, ld_w1 l6 0 (Or.inl rfl), ld_f (X := mc_X0 L xs) l6, Option.bind_some, Option.toList_some, Option.toList_none, List.cons_append, List.nil_append, List.append_nil, List.length_cons, List.length_nil, true_or, or_true, eq_self, b01_0, b01_1, b01_2, b01_3, b01_4, Nat.zero_le, Nat.reduceAdd, Nat.reduceLeDiff, ↓reduceIte, not_true_eq_false, not_false_eq_true, Bool.false_eq_true]
  · intro k h1 h2
    rw [gs_ne (Ne.symm h1), gs_ne (Ne.symm h1), hag k h2, ← hG4, gs_ne (Ne.symm h2), ← hG3, gs_ne (Ne.symm h1), ← hG2, gs_ne (Ne.symm h1), ← hG1, gs_ne (Ne.symm h1)]
end CLS
