/-! no call makes a cell: how many there are, and how large, stays -/
def okM (mi : Nat) : Bool := !([0, 6, 10, 18, 26, 45, 48, 60, 111, 180].contains mi)
def okI (E : mc_E) : Bool := match E.1 with
  | .new _ => false
  | .newarray _ => false
  | .anewarray _ => false
  | .invokespecial _ => decide (E.2.2.1 = 999) || okM E.2.2.1
  | .invokevirtual _ => okM E.2.2.1
  | .invokestatic _ => okM E.2.2.1
  | _ => true
def okO (o : Option mc_E) : Bool := match o with
  | some E => okI E
  | none => true
theorem ok_all : (mc_ct.zipIdx.all (fun q => !okM q.2 || q.1.all okO)) = true := by decide +kernel
theorem ok_at {mi pc : Nat} {E : mc_E} (hm : okM mi = true) (h : mc_code mi pc = some E) : okI E = true := by
  unfold mc_code at h
  cases hl : mc_ct[mi]? with
  | none =>
    have e : mc_ct.getD mi [] = [] := by rw [List.getD_eq_getElem?_getD, hl]; rfl
    rw [e] at h
    simp at h
  | some l =>
    have e : mc_ct.getD mi [] = l := by rw [List.getD_eq_getElem?_getD, hl]; rfl
    rw [e] at h
    have hp : l[pc]? = some (some E) := by
      rw [List.getD_eq_getElem?_getD] at h
      cases hq : l[pc]? with
      | none => rw [hq] at h; simp at h
      | some o => rw [hq] at h; simp at h; rw [h]
    have h1 := List.all_eq_true.mp ok_all (l, mi) (List.mem_of_getElem? (i := mi) (by rw [List.getElem?_zipIdx, hl]; simp))
    have h2 : (!okM mi || l.all okO) = true := h1
    rw [hm] at h2
    have h3 : l.all okO = true := by simpa using h2
    exact List.all_eq_true.mp h3 (some E) (List.mem_of_getElem? hp)
def shE (G G' : mc_H) : Prop := G'.length = G.length ∧ mc_sl G' = mc_sl G
theorem shE.tr {G1 G2 G3 : mc_H} (h1 : shE G1 G2) (h2 : shE G2 G3) : shE G1 G3 := ⟨h2.1.trans h1.1, h2.2.trans h1.2⟩
def shR (G : mc_H) : mc_S → Prop
  | .inl (_, _, _, G') => shE G G'
  | .inr (.inl (cm, _, _)) => okM cm = true
  | .inr (.inr _) => True
theorem sh_setf {G G' : mc_H} {k ci j : Nat} {v : Value} (h : mc_setf G k ci j v = some G') : shE G G' := by
  unfold mc_setf at h
  split at h
  · rename_i c fs hg
    split at h
    · cases h
      exact ⟨List.length_set, mc_sl_set hg (by simp [mc_sz])⟩
    · cases h
  · cases h
theorem sh_setA {G G' : mc_H} {t k : Nat} {i x : Int32} (h : mc_setA G t k i x = some G') : shE G G' := by
  unfold mc_setA at h
  split at h
  · rename_i t' n f hg
    split at h
    · cases h
      exact ⟨List.length_set, mc_sl_set hg rfl⟩
    · cases h
  · cases h
theorem sh_setQ {G G' : mc_H} {k v : Nat} {i : Int32} (h : mc_setQ G k i v = some G') : shE G G' := by
  unfold mc_setQ at h
  split at h
  · rename_i t' n f hg
    split at h
    · cases h
      exact ⟨List.length_set, mc_sl_set hg rfl⟩
    · cases h
  · cases h
theorem sh_cpy {G G' : mc_H} {a0 a : Nat} {sp dp n : Int32} (h : mc_cpy G a0 a sp dp n = some G') : shE G G' := by
  unfold mc_cpy at h
  split at h
  · rename_i t0 n0 f t1 n1 g hg0 hg
    split at h
    · cases h
      exact ⟨List.length_set, mc_sl_set hg rfl⟩
    · cases h
  · cases h
set_option maxHeartbeats 4000000 in
theorem mc_ex_sh {X : mc_X} {mi pc : Nat} {E : mc_E} {ls st : List Value} {G : mc_H} {r : mc_S} (hok : okI E = true) (h : mc_ex X mi pc E ls st G = some r) : shR G r := by
  unfold mc_ex at h
  split at h
  all_goals (try (repeat' split at h))
  all_goals (try (cases h; done))
  all_goals (try (cases h; exact ⟨rfl, rfl⟩))
  all_goals (try (cases h; exact True.intro))
  all_goals (try (rename_i hs; cases h; first | exact sh_setf hs | exact sh_setA hs | exact sh_setQ hs | exact sh_cpy hs))
  all_goals (try (exfalso; simp [okI, *] at hok; done))
  all_goals (try (cases h; simp_all [okI, shR]; done))
