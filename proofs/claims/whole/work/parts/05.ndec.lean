theorem mc_dec {mi pc : Nat} {E : mc_E} (h : mc_code mi pc = some E) : decode (mc_by mi) pc = .ok (E.1, E.2.1) ∧ mc_lk (mc_own mi) mi pc E = true ∧ mc_lnb E = true := by
  unfold mc_code at h
  cases hl : mc_ct[mi]? with
  | none =>
    have e : mc_ct.getD mi [] = [] := by rw [List.getD_eq_getElem?_getD, hl]; rfl
    rw [e] at h
    simp at h
  | some l =>
    have e : mc_ct.getD mi [] = l := by rw [List.getD_eq_getElem?_getD, hl]; rfl
    rw [e] at h
    have hp : l[pc]? = some (some E) := by
      rw [List.getD_eq_getElem?_getD] at h
      cases hq : l[pc]? with
      | none => rw [hq] at h; simp at h
      | some o => rw [hq] at h; simp at h; rw [h]
    have h1 := mc_ckA_at mc_ct 0 mi l ck_all hl
    rw [Nat.zero_add] at h1
    have h2 := List.all_eq_true.mp h1 (some E, pc) (List.mem_of_getElem? (i := pc) (by rw [List.getElem?_zipIdx, hp]; simp))
    have h3 : (decide (decode (mc_by mi) pc = .ok (E.1, E.2.1)) && mc_lk (mc_own mi) mi pc E) = true := h2
    simp only [Bool.and_eq_true, decide_eq_true_eq] at h3
    have h4 := List.all_eq_true.mp (List.all_eq_true.mp ln_all l (List.mem_of_getElem? hl)) (some E) (List.mem_of_getElem? hp)
    exact ⟨h3.1, h3.2, h4⟩
