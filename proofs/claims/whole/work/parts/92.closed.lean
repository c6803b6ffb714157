/-! the heap after both constructors, looked at by the kernel -/
def arr (G : mc_H) (k : Nat) : Nat → Int32 := match G[k]? with
  | some (.inl (_, _, f)) => f
  | _ => fun _ => 0
def qar (G : mc_H) (k : Nat) : Nat → Option Nat := match G[k]? with
  | some (.inr (.inl (_, _, f))) => f
  | _ => fun _ => none
def ckA (G : mc_H) (k t n m : Nat) (p : Nat → Int32) : Bool := match G[k]? with
  | some (.inl (t', n', f)) => decide (t' = t) && decide (n' = n) && (List.range m).all (fun j => decide (f j = p j))
  | _ => false
def ckQ (G : mc_H) (k t n : Nat) (p : Nat → Option Nat) : Bool := match G[k]? with
  | some (.inr (.inl (t', n', f))) => decide (t' = t) && decide (n' = n) && (List.range n).all (fun j => decide (f j = p j))
  | _ => false
def ckO (G : mc_H) (k c : Nat) (fs : List Value) : Bool := match G[k]? with
  | some (.inr (.inr (c', fs'))) => decide (c' = c) && decide (fs' = fs)
  | _ => false
theorem ckA_o {G : mc_H} {k t n m : Nat} {p : Nat → Int32} (h : ckA G k t n m p = true) : G[k]? = some (.inl (t, n, arr G k)) ∧ ∀ j, j < m → arr G k j = p j := by
  unfold ckA at h
  unfold arr
  split at h
  · rename_i t' n' f hg
    rw [Bool.and_eq_true, Bool.and_eq_true] at h
    have h1 := of_decide_eq_true h.1.1
    have h2 := of_decide_eq_true h.1.2
    subst h1
    subst h2
    rw [hg]
    exact ⟨rfl, fun j hj => of_decide_eq_true (List.all_eq_true.mp h.2 j (List.mem_range.mpr hj))⟩
  · cases h
theorem ckQ_o {G : mc_H} {k t n : Nat} {p : Nat → Option Nat} (h : ckQ G k t n p = true) : G[k]? = some (.inr (.inl (t, n, qar G k))) ∧ ∀ j, j < n → qar G k j = p j := by
  unfold ckQ at h
  unfold qar
  split at h
  · rename_i t' n' f hg
    rw [Bool.and_eq_true, Bool.and_eq_true] at h
    have h1 := of_decide_eq_true h.1.1
    have h2 := of_decide_eq_true h.1.2
    subst h1
    subst h2
    rw [hg]
    exact ⟨rfl, fun j hj => of_decide_eq_true (List.all_eq_true.mp h.2 j (List.mem_range.mpr hj))⟩
  · cases h
theorem ckO_o {G : mc_H} {k c : Nat} {fs : List Value} (h : ckO G k c fs = true) : G[k]? = some (.inr (.inr (c, fs))) := by
  unfold ckO at h
  split at h
  · rename_i c' fs' hg
    rw [Bool.and_eq_true] at h
    rw [hg, of_decide_eq_true h.1, of_decide_eq_true h.2]
  · cases h
def z32 : Nat → Int32 := fun _ => 0
def ck1 (G : mc_H) : Bool := ckO G 0 7 [.ref 1, .ref 10, .ref 72, .ref 74, .ref 77, .long 0, .int 0] && (ckO G 1 4 [.ref 2, .ref 7] && (ckO G 2 0 [.int 3, .int 3, .int 9, .int 12, .int 5, .int 495, .ref 3, .ref 4, .ref 5, .ref 6] && (ckA G 3 0 17 12 (fun j => nI (fs 3 3 j)) && (ckA G 4 0 17 12 (fun j => nI (sn 3 3 j)) && (ckA G 5 0 17 12 (fun j => nI (min (s1 3 3 j) (s2 3 3 j))) && (ckA G 6 0 17 12 (fun j => nI (max (s1 3 3 j) (s2 3 3 j))) && (ckO G 7 5 [.int 0, .int 0, .int 0, .ref 8, .ref 9] && (ckA G 8 0 12 12 z32 && ckA G 9 0 17 17 z32))))))))
def ck2 (G : mc_H) : Bool := ckO G 10 1 [.ref 11, .int 0, .int 0] && (ckQ G 11 2 20 (fun i => some (12 + 3 * i)) && (List.range 20).all (fun i => ckO G (12 + 3 * i) 5 [.int 0, .int 0, .int 0, .ref (13 + 3 * i), .ref (14 + 3 * i)] && (ckA G (13 + 3 * i) 0 12 12 z32 && ckA G (14 + 3 * i) 0 17 17 z32)))
def ck3 (G : mc_H) : Bool := ckO G 72 2 [.ref 73, .int 1, .int 0, .int 0, .int 0, .int 0] && (ckA G 73 0 4096 0 z32 && (ckO G 74 3 [.ref 75, .ref 76] && (ckA G 75 0 49 0 z32 && (ckA G 76 0 128 0 z32 && (ckQ G 77 3 4 (fun i => some (78 + 3 * i)) && (List.range 4).all (fun i => ckO G (78 + 3 * i) 6 [.int 0, .int (-1), .ref (79 + 3 * i), .ref (80 + 3 * i)] && (ckA G (79 + 3 * i) 0 4 0 z32 && ckA G (80 + 3 * i) 0 48 0 z32)))))))
def ck4 (G : mc_H) : Bool := ckO G 90 8 [.int 0, .int 0, .long 0, .int 3, .int 3, .ref 91, .ref 92, .ref 93, .ref 94, .ref 95, .ref 96, .int 0, .ref 97, .ref 98, .ref 99, .ref 100, .ref 101, .ref 102, .ref 103, .ref 104] && (ckA G 91 0 12 12 z32 && (ckA G 92 0 12 12 z32 && (ckA G 93 0 12 12 z32 && (ckA G 94 1 12 12 z32 && (ckA G 95 0 24 24 z32 && (ckA G 96 0 1440 0 z32 && (ckA G 97 1 4 4 z32 && (ckA G 98 0 4 0 z32 && (ckA G 99 0 4 0 z32 && (ckA G 100 0 16 0 z32 && (ckA G 101 0 192 0 z32 && (ckA G 102 0 12 0 z32 && (ckA G 103 0 64 0 z32 && ckA G 104 0 4096 0 z32)))))))))))))
def ckS (G : mc_H) : Bool := decide (G.length = 105) && decide (mc_sl G ≤ 20000)
def rA1 : Option (Option Value × mc_H) := mc_run1 3000 60 0 [.ref 0, .null] [] [.inr (.inr (7, mc_df 7))]
def rB1 (G : mc_H) : Option (Option Value × mc_H) := mc_run1 1000 111 0 [.ref 90] [] (G ++ [.inr (.inr (8, mc_df 8))])
def stK (p : mc_H → Bool) : Bool := match rA1 with
  | some (none, Ga) => decide (Ga.length = 90) && (match rB1 Ga with
    | some (none, Gb) => p Gb
    | _ => false)
  | _ => false
set_option maxRecDepth 100000 in
theorem st_S : stK (fun G => ckS G && (ck1 G && (ck2 G && (ck3 G && ck4 G)))) = true := by decide +kernel
