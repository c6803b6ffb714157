/-! the start: both constructors run; then all together -/
theorem mc_run_sh {X : mc_X} : ∀ (n mi pc : Nat) (ls st : List Value) (G : mc_H) (v : Option Value) (G' : mc_H), okM mi = true → mc_run X n mi pc ls st G = some (v, G') → shE G G'
  | 0, _, _, _, _, _, _, _, _, h => by cases h
  | n + 1, mi, pc, ls, st, G, v, G', hm, h => by
    have h' : mc_F X (mc_run X n) mi pc ls st G = some (v, G') := h
    unfold mc_F at h'
    cases hs : mc_st X mi pc ls st G with
    | none => rw [hs] at h'; cases h'
    | some r =>
      rw [hs] at h'
      unfold mc_st at hs
      cases hc : mc_code mi pc with
      | none => rw [hc] at hs; cases hs
      | some E =>
        rw [hc] at hs
        have hx := mc_ex_sh (ok_at hm hc) hs
        match r, h', hx with
        | .inl (pc', ls', st', G1), h', hx => exact shE.tr hx (mc_run_sh n _ _ _ _ _ _ _ hm h')
        | .inr (.inl (cm, cl, rest)), h', hx =>
          cases h1 : mc_run X n cm 0 cl [] G with
          | none => dsimp only at h'; rw [h1] at h'; cases h'
          | some q =>
            dsimp only at h'
            rw [h1] at h'
            exact shE.tr (mc_run_sh n _ _ _ _ _ q.1 q.2 hx h1) (mc_run_sh n _ _ _ _ _ _ _ hm h')
        | .inr (.inr w), h', hx => cases h'; exact ⟨rfl, rfl⟩
theorem mc_ev_sh {X : mc_X} {mi pc : Nat} {ls st : List Value} {G : mc_H} {v : Option Value} {G' : mc_H} (hm : okM mi = true) (h : mc_ev X mi pc ls st G = some (v, G')) : shE G G' := by
  obtain ⟨n, hn⟩ := mc_ev_iff.mp h
  exact mc_run_sh n _ _ _ _ _ _ _ hm hn
section RR
variable {L : Nat} {xs : Nat → Int32} {G0 : mc_H}

theorem rr_0 (h : lw_R0 L xs Inv) : lw_R0 L xs (fun G => Inv G ∧ shE G0 G) := by
  intro a0 a1 G hG 
  obtain ⟨v, G1, G2, a, b, c, d⟩ := h a0 a1 G hG.1 
  exact ⟨v, G1, G2, a, b, c, d, hG.2.tr ((mc_ev_sh rfl a).tr (mc_ev_sh rfl c))⟩
theorem rr_1 (h : lw_R1 L xs Inv) : lw_R1 L xs (fun G => Inv G ∧ shE G0 G) := by
  intro a0 a1 G hG 
  obtain ⟨v, G1, G2, a, b, c, d⟩ := h a0 a1 G hG.1 
  exact ⟨v, G1, G2, a, b, c, d, hG.2.tr ((mc_ev_sh rfl a).tr (mc_ev_sh rfl c))⟩
theorem rr_2 (h : lw_R2 L xs Inv) : lw_R2 L xs (fun G => Inv G ∧ shE G0 G) := by
  intro a0 a1 G hG 
  obtain ⟨v, G1, G2, a, b, c, d⟩ := h a0 a1 G hG.1 
  exact ⟨v, G1, G2, a, b, c, d, hG.2.tr ((mc_ev_sh rfl a).tr (mc_ev_sh rfl c))⟩
theorem rr_3 (h : lw_R3 L xs Inv) : lw_R3 L xs (fun G => Inv G ∧ shE G0 G) := by
  intro a0 a1 G hG hx
  obtain ⟨v, G1, G2, a, b, c, d⟩ := h a0 a1 G hG.1 hx
  exact ⟨v, G1, G2, a, b, c, d, hG.2.tr ((mc_ev_sh rfl a).tr (mc_ev_sh rfl c))⟩
theorem rr_4 (h : lw_R4 L xs Inv) : lw_R4 L xs (fun G => Inv G ∧ shE G0 G) := by
  intro a0 G hG 
  obtain ⟨v, G1, G2, a, b, c, d⟩ := h a0 G hG.1 
  exact ⟨v, G1, G2, a, b, c, d, hG.2.tr ((mc_ev_sh rfl a).tr (mc_ev_sh rfl c))⟩
theorem rr_5 (h : lw_R5 L xs Inv) : lw_R5 L xs (fun G => Inv G ∧ shE G0 G) := by
  intro a0 G hG 
  obtain ⟨v, G1, G2, a, b, c, d⟩ := h a0 G hG.1 
  exact ⟨v, G1, G2, a, b, c, d, hG.2.tr ((mc_ev_sh rfl a).tr (mc_ev_sh rfl c))⟩
theorem rr_6 (h : lw_R6 L xs Inv) : lw_R6 L xs (fun G => Inv G ∧ shE G0 G) := by
  intro a0 a1 G hG 
  obtain ⟨v, G1, G2, a, b, c, d⟩ := h a0 a1 G hG.1 
  exact ⟨v, G1, G2, a, b, c, d, hG.2.tr ((mc_ev_sh rfl a).tr (mc_ev_sh rfl c))⟩
theorem rr_7 (h : lw_R7 L xs Inv) : lw_R7 L xs (fun G => Inv G ∧ shE G0 G) := by
  intro a0 G hG 
  obtain ⟨v, G1, G2, a, b, c, d⟩ := h a0 G hG.1 
  exact ⟨v, G1, G2, a, b, c, d, hG.2.tr ((mc_ev_sh rfl a).tr (mc_ev_sh rfl c))⟩
theorem rr_8 (h : lw_R8 L xs Inv) : lw_R8 L xs (fun G => Inv G ∧ shE G0 G) := by
  intro  G hG 
  obtain ⟨v, G1, G2, a, b, c, d⟩ := h  G hG.1 
  exact ⟨v, G1, G2, a, b, c, d, hG.2.tr ((mc_ev_sh rfl a).tr (mc_ev_sh rfl c))⟩
theorem rr_9 (h : lw_R9 L xs Inv) : lw_R9 L xs (fun G => Inv G ∧ shE G0 G) := by
  intro  G hG 
  obtain ⟨v, G1, G2, a, b, c, d⟩ := h  G hG.1 
  exact ⟨v, G1, G2, a, b, c, d, hG.2.tr ((mc_ev_sh rfl a).tr (mc_ev_sh rfl c))⟩
theorem rr_10 (h : lw_R10 L xs Inv) : lw_R10 L xs (fun G => Inv G ∧ shE G0 G) := by
  intro a0 G hG 
  obtain ⟨v, G1, G2, a, b, c, d⟩ := h a0 G hG.1 
  exact ⟨v, G1, G2, a, b, c, d, hG.2.tr ((mc_ev_sh rfl a).tr (mc_ev_sh rfl c))⟩
theorem rr_11 (h : lw_R11 L xs Inv) : lw_R11 L xs (fun G => Inv G ∧ shE G0 G) := by
  intro a0 G hG 
  obtain ⟨v, G1, G2, a, b, c, d⟩ := h a0 G hG.1 
  exact ⟨v, G1, G2, a, b, c, d, hG.2.tr ((mc_ev_sh rfl a).tr (mc_ev_sh rfl c))⟩
theorem rr_12 (h : lw_R12 L xs Inv) : lw_R12 L xs (fun G => Inv G ∧ shE G0 G) := by
  intro a0 a1 G hG 
  obtain ⟨v, G1, G2, a, b, c, d⟩ := h a0 a1 G hG.1 
  exact ⟨v, G1, G2, a, b, c, d, hG.2.tr ((mc_ev_sh rfl a).tr (mc_ev_sh rfl c))⟩
theorem rr_13 (h : lw_R13 L xs Inv) : lw_R13 L xs (fun G => Inv G ∧ shE G0 G) := by
  intro a0 a1 G hG 
  obtain ⟨v, G1, G2, a, b, c, d⟩ := h a0 a1 G hG.1 
  exact ⟨v, G1, G2, a, b, c, d, hG.2.tr ((mc_ev_sh rfl a).tr (mc_ev_sh rfl c))⟩
theorem rr_14 (h : lw_R14 L xs Inv) : lw_R14 L xs (fun G => Inv G ∧ shE G0 G) := by
  intro  G hG 
  obtain ⟨v, G1, G2, a, b, c, d⟩ := h  G hG.1 
  exact ⟨v, G1, G2, a, b, c, d, hG.2.tr ((mc_ev_sh rfl a).tr (mc_ev_sh rfl c))⟩
theorem rr_15 (h : lw_R15 L xs Inv) : lw_R15 L xs (fun G => Inv G ∧ shE G0 G) := by
  intro a0 G hG 
  obtain ⟨v, G1, G2, a, b, c, d⟩ := h a0 G hG.1 
  exact ⟨v, G1, G2, a, b, c, d, hG.2.tr ((mc_ev_sh rfl a).tr (mc_ev_sh rfl c))⟩
theorem rr_16 (h : lw_R16 L xs Inv) : lw_R16 L xs (fun G => Inv G ∧ shE G0 G) := by
  intro a0 a1 G hG 
  obtain ⟨v, G1, G2, a, b, c, d⟩ := h a0 a1 G hG.1 
  exact ⟨v, G1, G2, a, b, c, d, hG.2.tr ((mc_ev_sh rfl a).tr (mc_ev_sh rfl c))⟩
theorem rr_17 (h : lw_R17 L xs Inv) : lw_R17 L xs (fun G => Inv G ∧ shE G0 G) := by
  intro  G hG 
  obtain ⟨v, G1, G2, a, b, c, d⟩ := h  G hG.1 
  exact ⟨v, G1, G2, a, b, c, d, hG.2.tr ((mc_ev_sh rfl a).tr (mc_ev_sh rfl c))⟩
theorem rr_18 (h : lw_R18 L xs Inv) : lw_R18 L xs (fun G => Inv G ∧ shE G0 G) := by
  intro a0 G hG 
  obtain ⟨v, G1, G2, a, b, c, d⟩ := h a0 G hG.1 
  exact ⟨v, G1, G2, a, b, c, d, hG.2.tr ((mc_ev_sh rfl a).tr (mc_ev_sh rfl c))⟩
theorem rr_19 (h : lw_R19 L xs Inv) : lw_R19 L xs (fun G => Inv G ∧ shE G0 G) := by
  intro  G hG 
  obtain ⟨v, G1, G2, a, b, c, d⟩ := h  G hG.1 
  exact ⟨v, G1, G2, a, b, c, d, hG.2.tr ((mc_ev_sh rfl a).tr (mc_ev_sh rfl c))⟩
theorem rr_20 (h : lw_R20 L xs Inv) : lw_R20 L xs (fun G => Inv G ∧ shE G0 G) := by
  intro  G hG 
  obtain ⟨v, G1, G2, a, b, c, d⟩ := h  G hG.1 
  exact ⟨v, G1, G2, a, b, c, d, hG.2.tr ((mc_ev_sh rfl a).tr (mc_ev_sh rfl c))⟩
theorem rr_21 (h : lw_R21 L xs Inv) : lw_R21 L xs (fun G => Inv G ∧ shE G0 G) := by
  intro a0 G hG 
  obtain ⟨v, G1, G2, a, b, c, d⟩ := h a0 G hG.1 
  exact ⟨v, G1, G2, a, b, c, d, hG.2.tr ((mc_ev_sh rfl a).tr (mc_ev_sh rfl c))⟩
theorem rr_22 (h : lw_R22 L xs Inv) : lw_R22 L xs (fun G => Inv G ∧ shE G0 G) := by
  intro a0 G hG 
  obtain ⟨v, G1, G2, a, b, c, d⟩ := h a0 G hG.1 
  exact ⟨v, G1, G2, a, b, c, d, hG.2.tr ((mc_ev_sh rfl a).tr (mc_ev_sh rfl c))⟩
theorem rr_23 (h : lw_R23 L xs Inv) : lw_R23 L xs (fun G => Inv G ∧ shE G0 G) := by
  intro a0 G hG 
  obtain ⟨v, G1, G2, a, b, c, d⟩ := h a0 G hG.1 
  exact ⟨v, G1, G2, a, b, c, d, hG.2.tr ((mc_ev_sh rfl a).tr (mc_ev_sh rfl c))⟩
theorem rr_24 (h : lw_R24 L xs Inv) : lw_R24 L xs (fun G => Inv G ∧ shE G0 G) := by
  intro a0 a1 G hG 
  obtain ⟨v, G1, G2, a, b, c, d⟩ := h a0 a1 G hG.1 
  exact ⟨v, G1, G2, a, b, c, d, hG.2.tr ((mc_ev_sh rfl a).tr (mc_ev_sh rfl c))⟩
theorem rr_25 (h : lw_R25 L xs Inv) : lw_R25 L xs (fun G => Inv G ∧ shE G0 G) := by
  intro a0 G hG 
  obtain ⟨v, G1, G2, a, b, c, d⟩ := h a0 G hG.1 
  exact ⟨v, G1, G2, a, b, c, d, hG.2.tr ((mc_ev_sh rfl a).tr (mc_ev_sh rfl c))⟩
theorem rr_26 (h : lw_R26 L xs Inv) : lw_R26 L xs (fun G => Inv G ∧ shE G0 G) := by
  intro a0 a1 a2 G hG 
  obtain ⟨v, G1, G2, a, b, c, d⟩ := h a0 a1 a2 G hG.1 
  exact ⟨v, G1, G2, a, b, c, d, hG.2.tr ((mc_ev_sh rfl a).tr (mc_ev_sh rfl c))⟩
theorem rr_27 (h : lw_R27 L xs Inv) : lw_R27 L xs (fun G => Inv G ∧ shE G0 G) := by
  intro a0 a1 a2 G hG 
  obtain ⟨v, G1, G2, a, b, c, d⟩ := h a0 a1 a2 G hG.1 
  exact ⟨v, G1, G2, a, b, c, d, hG.2.tr ((mc_ev_sh rfl a).tr (mc_ev_sh rfl c))⟩
theorem rr_28 (h : lw_R28 L xs Inv) : lw_R28 L xs (fun G => Inv G ∧ shE G0 G) := by
  intro a0 a1 a2 a3 a4 G hG 
  obtain ⟨v, G1, G2, a, b, c, d⟩ := h a0 a1 a2 a3 a4 G hG.1 
  exact ⟨v, G1, G2, a, b, c, d, hG.2.tr ((mc_ev_sh rfl a).tr (mc_ev_sh rfl c))⟩
theorem rr_29 (h : lw_R29 L xs Inv) : lw_R29 L xs (fun G => Inv G ∧ shE G0 G) := by
  intro a0 a1 a2 a3 G hG 
  obtain ⟨v, G1, G2, a, b, c, d⟩ := h a0 a1 a2 a3 G hG.1 
  exact ⟨v, G1, G2, a, b, c, d, hG.2.tr ((mc_ev_sh rfl a).tr (mc_ev_sh rfl c))⟩
theorem rr_30 (h : lw_R30 L xs Inv) : lw_R30 L xs (fun G => Inv G ∧ shE G0 G) := by
  intro a0 a1 a2 a3 a4 a5 a6 G hG 
  obtain ⟨v, G1, G2, a, b, c, d⟩ := h a0 a1 a2 a3 a4 a5 a6 G hG.1 
  exact ⟨v, G1, G2, a, b, c, d, hG.2.tr ((mc_ev_sh rfl a).tr (mc_ev_sh rfl c))⟩
theorem rr_31 (h : lw_R31 L xs Inv) : lw_R31 L xs (fun G => Inv G ∧ shE G0 G) := by
  intro a0 a1 a2 a3 G hG 
  obtain ⟨v, G1, G2, a, b, c, d⟩ := h a0 a1 a2 a3 G hG.1 
  exact ⟨v, G1, G2, a, b, c, d, hG.2.tr ((mc_ev_sh rfl a).tr (mc_ev_sh rfl c))⟩
theorem rr_32 (h : lw_R32 L xs Inv) : lw_R32 L xs (fun G => Inv G ∧ shE G0 G) := by
  intro a0 G hG 
  obtain ⟨v, G1, G2, a, b, c, d⟩ := h a0 G hG.1 
  exact ⟨v, G1, G2, a, b, c, d, hG.2.tr ((mc_ev_sh rfl a).tr (mc_ev_sh rfl c))⟩
theorem rr_33 (h : lw_R33 L xs Inv) : lw_R33 L xs (fun G => Inv G ∧ shE G0 G) := by
  intro  G hG 
  obtain ⟨v, G1, G2, a, b, c, d⟩ := h  G hG.1 
  exact ⟨v, G1, G2, a, b, c, d, hG.2.tr ((mc_ev_sh rfl a).tr (mc_ev_sh rfl c))⟩
theorem rr_34 (h : lw_R34 L xs Inv) : lw_R34 L xs (fun G => Inv G ∧ shE G0 G) := by
  intro  G hG 
  obtain ⟨v, G1, G2, a, b, c, d⟩ := h  G hG.1 
  exact ⟨v, G1, G2, a, b, c, d, hG.2.tr ((mc_ev_sh rfl a).tr (mc_ev_sh rfl c))⟩
end RR
theorem all_rows {L0 : Nat} {xs : Nat → Int32} {G0 : mc_H} (hL : L0 ≤ 4096) : ∀ (r i : Nat) (G : mc_H), i ≤ 4096 → L0 ≤ i + 8 * r → (Inv G ∧ shE G0 G) → ∃ Gf, mc_ev (mc_X0 L0 xs) 180 18 (lw_fr i) [] G = some (some (.int 1), Gf) ∧ (Inv Gf ∧ shE G0 Gf) :=
  lw_loop (fun G => Inv G ∧ shE G0 G) hL (fun G h => inv_7 G h.1) (rr_0 R0) (rr_1 R1) (rr_2 R2) (rr_3 R3) (rr_4 R4) (rr_5 R5) (rr_6 R6) (rr_7 R7) (rr_8 R8) (rr_9 R9) (rr_10 R10) (rr_11 R11) (rr_12 R12) (rr_13 R13) (rr_14 R14) (rr_15 R15) (rr_16 R16) (rr_17 R17) (rr_18 R18) (rr_19 R19) (rr_20 R20) (rr_21 R21) (rr_22 R22) (rr_23 R23) (rr_24 R24) (rr_25 R25) (rr_26 R26) (rr_27 R27) (rr_28 R28) (rr_29 R29) (rr_30 R30) (rr_31 R31) (rr_32 R32) (rr_33 R33) (rr_34 R34)
/-! a run that looks into no table -/
def mc_X1 : mc_X := fun _ => (0, fun _ => 0)
def mc_fl (I : Instr) (st : List Value) : Bool := match I with
  | .iaload => (match st with
    | _ :: .float _ :: _ => true
    | _ => false)
  | .baload => (match st with
    | _ :: .float _ :: _ => true
    | _ => false)
  | .arraylength => (match st with
    | .float _ :: _ => true
    | _ => false)
  | _ => false
def mc_st1 (mi pc : Nat) (ls st : List Value) (G : mc_H) : Option mc_S := match mc_code mi pc with
  | some E => if mc_fl E.1 st then none else mc_ex mc_X1 mi pc E ls st G
  | none => none
def mc_F1 (kk : mc_K) : mc_K := fun mi pc ls st G => match mc_st1 mi pc ls st G with
  | some (.inl (pc', ls', st', G')) => kk mi pc' ls' st' G'
  | some (.inr (.inl (cm, cl, rest))) => match kk cm 0 cl [] G with
    | some (v, G') => kk mi (pc + 3) ls (v.toList ++ rest) G'
    | none => none
  | some (.inr (.inr v)) => some (v, G)
  | none => none
def mc_run1 : Nat → mc_K
  | 0 => fun _ _ _ _ _ => none
  | n + 1 => mc_F1 (mc_run1 n)
theorem ga_X {X X' : mc_X} {G : mc_H} {t : Nat} {r : Value} {i : Int32} (h : ∀ x, r ≠ .float x) : mc_getA X G t r i = mc_getA X' G t r i := by
  cases r <;> first | rfl | exact absurd rfl (h _)
theorem ln_X {X X' : mc_X} {G : mc_H} {r : Value} (h : ∀ x, r ≠ .float x) : mc_len X G r = mc_len X' G r := by
  cases r <;> first | rfl | exact absurd rfl (h _)
set_option maxHeartbeats 4000000 in
theorem mc_ex_X {X X' : mc_X} {mi pc : Nat} {E : mc_E} {ls st : List Value} {G : mc_H} {r : mc_S} (hf : mc_fl E.1 st = false) (h : mc_ex X mi pc E ls st G = some r) : mc_ex X' mi pc E ls st G = some r := by
  obtain ⟨I, E2⟩ := E
  cases I
  case iaload =>
    match st, hf, h with
    | .int i :: w :: st, hf, h =>
      have hw : ∀ x, w ≠ .float x := by intro x q; subst q; cases hf
      have h' : (match mc_getA X G 0 w i with | some x => some (.inl (pc + 1, ls, .int x :: st, G)) | none => none) = some r := h
      rw [ga_X (X' := X') hw] at h'
      exact h'
  case baload =>
    match st, hf, h with
    | .int i :: w :: st, hf, h =>
      have hw : ∀ x, w ≠ .float x := by intro x q; subst q; cases hf
      have h' : (match mc_getA X G 1 w i with | some x => some (.inl (pc + 1, ls, .int x :: st, G)) | none => none) = some r := h
      rw [ga_X (X' := X') hw] at h'
      exact h'
  case arraylength =>
    match st, hf, h with
    | w :: st, hf, h =>
      have hw : ∀ x, w ≠ .float x := by intro x q; subst q; cases hf
      have h' : (match mc_len X G w with | some n => some (.inl (pc + 1, ls, .int n :: st, G)) | none => none) = some r := h
      rw [ln_X (X' := X') hw] at h'
      exact h'
  all_goals exact h
theorem mc_run1_X {X : mc_X} : ∀ (n mi pc : Nat) (ls st : List Value) (G : mc_H) (r : Option Value × mc_H), mc_run1 n mi pc ls st G = some r → mc_run X n mi pc ls st G = some r
  | 0, _, _, _, _, _, _, h => by cases h
  | n + 1, mi, pc, ls, st, G, r, h => by
    have h' : mc_F1 (mc_run1 n) mi pc ls st G = some r := h
    show mc_F X (mc_run X n) mi pc ls st G = some r
    unfold mc_F1 at h'
    unfold mc_F
    cases hs : mc_st1 mi pc ls st G with
    | none => rw [hs] at h'; cases h'
    | some q =>
      rw [hs] at h'
      have hs2 : mc_st X mi pc ls st G = some q := by
        unfold mc_st1 at hs
        unfold mc_st
        cases hc : mc_code mi pc with
        | none => rw [hc] at hs; cases hs
        | some E =>
          rw [hc] at hs
          dsimp only at hs ⊢
          by_cases hf : mc_fl E.1 st = true
          · rw [if_pos hf] at hs; cases hs
          · rw [if_neg hf] at hs
            exact mc_ex_X (by simpa using hf) hs
      rw [hs2]
      match q, h' with
      | .inl (pc', ls', st', G1), h' => exact mc_run1_X n _ _ _ _ _ _ h'
      | .inr (.inl (cm, cl, rest)), h' =>
        dsimp only at h' ⊢
        cases h1 : mc_run1 n cm 0 cl [] G with
        | none => rw [h1] at h'; cases h'
        | some w =>
          rw [h1] at h'
          rw [mc_run1_X n _ _ _ _ _ _ h1]
          exact mc_run1_X n _ _ _ _ _ _ h'
      | .inr (.inr w), h' => exact h'

