/-! small rows: numbers, loops, cells -/
theorem b01_0 {c : Prop} [Decidable c] : ((if c then (1 : Int32) else 0) = 0) = ¬ c := by by_cases h : c <;> simp [h]
theorem b01_1 {c : Prop} [Decidable c] : ((if c then (1 : Int32) else 0) = 0 ∨ (if c then (1 : Int32) else 0) = 1) = True := by by_cases h : c <;> simp [h]
theorem b01_2 : ((1 : Int32) = 0) = False := by decide
theorem b01_3 {c : Prop} [Decidable c] : ((if c then (1 : Int32) else 0) = 1) = c := by by_cases h : c <;> simp [h]
theorem b01_4 {c : Prop} : (¬ c ∨ c) = True := by by_cases h : c <;> simp [h]
theorem b01_5 : ((2 : Int32) = 0) = False := by decide
theorem nI_m1 {n : Nat} (h : 1 ≤ n) : nI n - 1 = nI (n - 1) := by
  obtain ⟨k, rfl⟩ : ∃ k, n = k + 1 := ⟨n - 1, by omega⟩
  rw [nI_pred]; rfl
theorem nI_1' : (1 : Int32) = nI 1 := rfl
theorem nI_dbl (a : Nat) : 2 * nI a = nI (2 * a) := pk_mul 2 a
theorem nI_le1 {i n : Nat} (hn : n < 2 ^ 31) (hi : i < n) : nI i ≤ nI n - 1 := by rw [nI_m1 (by omega)]; exact nI_le (by omega) (by omega)
section LOOP
variable {X : mc_X} {k pc : Nat}
theorem ev_loop (ls : Nat → List Value) (Gs : Nat → mc_H) (e : Nat) (hs : ∀ i, i < e → mc_ev X k pc (ls i) [] (Gs i) = mc_ev X k pc (ls (i + 1)) [] (Gs (i + 1))) : mc_ev X k pc (ls 0) [] (Gs 0) = mc_ev X k pc (ls e) [] (Gs e) := by
  have key : ∀ n, n ≤ e → mc_ev X k pc (ls 0) [] (Gs 0) = mc_ev X k pc (ls n) [] (Gs n) := by
    intro n
    induction n with
    | zero => intro _; rfl
    | succ n ih => intro hn; rw [ih (by omega), hs n (by omega)]
  exact key e (Nat.le_refl e)
end LOOP
section LOOP2
variable {X : mc_X} {k pc : Nat}
theorem ev_inv (I : Nat → List Value → mc_H → Prop) (e : Nat) (hs : ∀ i, i < e → ∀ ls G, I i ls G → ∃ ls' G', I (i + 1) ls' G' ∧ mc_ev X k pc ls [] G = mc_ev X k pc ls' [] G') : ∀ ls G, I 0 ls G → ∃ ls' G', I e ls' G' ∧ mc_ev X k pc ls [] G = mc_ev X k pc ls' [] G' := by
  intro ls G h0
  have key : ∀ n, n ≤ e → ∃ ls' G', I n ls' G' ∧ mc_ev X k pc ls [] G = mc_ev X k pc ls' [] G' := by
    intro n
    induction n with
    | zero => intro _; exact ⟨ls, G, h0, rfl⟩
    | succ n ih =>
      intro hn
      obtain ⟨ls1, G1, h1, e1⟩ := ih (by omega)
      obtain ⟨ls2, G2, h2, e2⟩ := hs n (by omega) ls1 G1 h1
      exact ⟨ls2, G2, h2, e1.trans e2⟩
  exact key e (Nat.le_refl e)
end LOOP2
theorem md_n {j d : Nat} (h : j < 2 ^ 31) : nI j - nI (j / d * d) = nI (j % d) := by
  rw [pk_sub (Nat.div_mul_le_self j d)]
  congr 1
  have := Nat.div_add_mod j d
  rw [Nat.mul_comm] at this
  omega
theorem sh31 : ∀ n, n < 32 → ((nI n &&& 31).toBitVec.smod 32).toNat = n := by decide +kernel
/-- a bit of a number -/
theorem bit_n {A d : Nat} (hA : A < 2 ^ 31) (hd : d < 32) : (nI A >>> (nI d &&& 31)) &&& 1 = nI (A / 2 ^ d % 2) := by
  rw [pk_shrN hA _ d (sh31 d hd), pk_andN (n := A / 2 ^ d) (Nat.lt_of_le_of_lt (Nat.div_le_self _ _) (by omega)) 1 rfl]
section CELLS
variable {X : mc_X} {G : mc_H}
theorem ga_n {t k n : Nat} {f : Nat → Int32} (h : G[k]? = some (.inl (t, n, f))) (hn : n < 2 ^ 31) : ∀ j, j < n → mc_getA X G t (.ref k) (nI j) = some (f j) := by
  intro j hj
  unfold mc_getA
  dsimp only
  rw [h]
  dsimp only
  rw [if_pos ⟨rfl, nI_in hj hn⟩, nI_clamp (by omega)]
theorem sa_n {t k n : Nat} {f : Nat → Int32} (h : G[k]? = some (.inl (t, n, f))) (hn : n < 2 ^ 31) : ∀ j x, j < n → mc_setA G t k (nI j) x = some (G.set k (.inl (t, n, upd f j x))) := by
  intro j x hj
  unfold mc_setA
  rw [h]
  dsimp only
  rw [if_pos ⟨rfl, nI_in hj hn⟩, nI_clamp (by omega)]
theorem gf_n {k c : Nat} {fs : List Value} (h : G[k]? = some (.inr (.inr (c, fs)))) (j : Nat) : mc_getf G k c j = fs[j]? := by
  unfold mc_getf
  rw [h]
  dsimp only
  rw [if_pos rfl]
theorem cl_n {k c : Nat} {fs : List Value} (h : G[k]? = some (.inr (.inr (c, fs)))) : mc_cls G k = some c := by
  unfold mc_cls
  rw [h]
end CELLS
/-- the shapes -/
def sh (R C : Nat) : Prop := 1 ≤ R ∧ R ≤ 6 ∧ 1 ≤ C ∧ C ≤ 6 ∧ R * C ≤ 12
def nN (R C : Nat) : Nat := R * C
def nA (R C : Nat) : Nat := R * (C - 1)
def nJ (R C : Nat) : Nat := R * (C - 1) + (R - 1) * C
def nF (R C : Nat) : Nat := (R - 1) * (C - 1) + 1
def shb (R C : Nat) : Bool := Nat.ble 1 R && Nat.ble R 6 && Nat.ble 1 C && Nat.ble C 6 && Nat.ble (R * C) 12
theorem sh_all {p : Nat → Nat → Bool} (h : ((List.range 7).all fun R => (List.range 7).all fun C => !(shb R C) || p R C) = true) {R C : Nat} (hs : sh R C) : p R C = true := by
  obtain ⟨h1, h2, h3, h4, h5⟩ := hs
  have a := List.all_eq_true.mp (List.all_eq_true.mp h R (List.mem_range.mpr (by omega))) C (List.mem_range.mpr (by omega))
  have b : shb R C = true := by simp [shb, Nat.ble_eq, h1, h2, h3, h4, h5]
  rw [b] at a
  simpa using a
theorem sh_b {R C : Nat} (h : sh R C) : 1 ≤ nN R C ∧ nN R C ≤ 12 ∧ nA R C ≤ nJ R C ∧ nJ R C ≤ 17 ∧ 1 ≤ nF R C ∧ nF R C ≤ 7 := of_decide_eq_true (sh_all (p := fun R C => decide (1 ≤ nN R C ∧ nN R C ≤ 12 ∧ nA R C ≤ nJ R C ∧ nJ R C ≤ 17 ∧ 1 ≤ nF R C ∧ nF R C ≤ 7)) (by decide +kernel) h)
/-- a row over all joints of all shapes, by the kernel -/
theorem sh_j {p : Nat → Nat → Nat → Bool} (h : ((List.range 7).all fun R => (List.range 7).all fun C => !(shb R C) || (List.range (nJ R C)).all (p R C)) = true) {R C : Nat} (hs : sh R C) {j : Nat} (hj : j < nJ R C) : p R C j = true :=
  List.all_eq_true.mp (sh_all (p := fun R C => (List.range (nJ R C)).all (p R C)) h hs) j (List.mem_range.mpr hj)
/-- the needles of a joint -/
def fs (R C j : Nat) : Nat := if j < nA R C then j / (C - 1) * C + j % (C - 1) else j - nA R C
def sn (R C j : Nat) : Nat := if j < nA R C then j / (C - 1) * C + j % (C - 1) + 1 else j - nA R C + C
/-- the field between four needles, rows and columns from 1 on; else the one outside -/
def fld (R C r c : Nat) : Nat := if r = 0 ∨ c = 0 ∨ R ≤ r ∨ C ≤ c then nF R C - 1 else (r - 1) * (C - 1) + (c - 1)
def s1 (R C j : Nat) : Nat := if j < nA R C then fld R C (j / (C - 1)) (j % (C - 1) + 1) else fld R C ((j - nA R C) / C + 1) ((j - nA R C) % C)
def s2 (R C j : Nat) : Nat := if j < nA R C then fld R C (j / (C - 1) + 1) (j % (C - 1) + 1) else fld R C ((j - nA R C) / C + 1) ((j - nA R C) % C + 1)
theorem fs_b {R C : Nat} (h : sh R C) {j : Nat} (hj : j < nJ R C) : fs R C j < sn R C j ∧ sn R C j < nN R C ∧ s1 R C j < nF R C ∧ s2 R C j < nF R C := of_decide_eq_true (sh_j (p := fun R C j => decide (fs R C j < sn R C j ∧ sn R C j < nN R C ∧ s1 R C j < nF R C ∧ s2 R C j < nF R C)) (by decide +kernel) h hj)
def wo (k : Int32) : Int32 := if k = 2 then 2 else if k = 3 then 0 else 1
/-- what a joint counts -/
def ct (R C : Nat) (wa ki : Nat → Int32) (j : Nat) : Int32 := wa j * wo (ki (fs R C j)) * wo (ki (sn R C j))
def hb (ki go : Nat → Int32) (i : Nat) : Bool := decide (ki i = 1 ∨ (ki i = 4 ∧ go i = 0))
/-- how needle i points in arrangement A of N needles -/
def bt (N A i : Nat) : Nat := A / 2 ^ (N - 1 - i) % 2
/-- what a joint adds to the strain -/
def tm (c : Int32) (al : Prop) [Decidable al] : Int32 := if 0 < c ∧ ¬ al then c else if c < 0 ∧ al then -c else 0
def nsum (f : Nat → Nat) : Nat → Nat
  | 0 => 0
  | n + 1 => nsum f n + f n
/-- the arrangement that needles that point as f are -/
def nwI (f : Nat → Int32) : Nat → Int32
  | 0 => 0
  | n + 1 => 2 * nwI f n + f n
/-- all of the first n -/
def allB (ok : Nat → Bool) : Nat → Bool
  | 0 => true
  | n + 1 => allB ok n && ok n
/-- the strain of arrangement A -/
def stA (R C : Nat) (wa ki : Nat → Int32) (A : Nat) : Int32 := bx_sum (fun j => tm (ct R C wa ki j) (bt (nN R C) A (fs R C j) = bt (nN R C) A (sn R C j))) (nJ R C)
/-- which arrangements may be -/
def mayB (N : Nat) (ki go tl : Nat → Int32) (A : Nat) : Bool := allB (fun n => !hb ki go n || decide (nI (bt N A n) = tl n)) N
/-- the i-th that is ok among a, a + 1 .. (r of them), n before it; or how many -/
def scan (ok : Nat → Bool) (i : Int32) : Nat → Nat → Nat → Option Nat × Nat
  | 0, _, n => (none, n)
  | r + 1, a, n => if ok a then (if nI n = i then (some a, n) else scan ok i r (a + 1) (n + 1)) else scan ok i r (a + 1) n
/-- how often field f stands at joints that count less than 0 -/
def trq (R C : Nat) (wa ki : Nat → Int32) (f j : Nat) : Nat := if ct R C wa ki j < 0 then (if s1 R C j = f then 1 else 0) + (if s2 R C j = f then 1 else 0) else 0
def trB (R C : Nat) (wa ki : Nat → Int32) (f : Nat) : Bool := decide (nsum (trq R C wa ki f) (nJ R C) % 2 = 1)
def lsI (may : Nat → Bool) (st : Nat → Int32) : Nat → Int32
  | 0 => 2147483647
  | a + 1 => if may a then (if st a < lsI may st a then st a else lsI may st a) else lsI may st a
def abI (may : Nat → Bool) (st : Nat → Int32) (v : Int32) : Nat → Int32
  | 0 => -9
  | a + 1 => if may a then (if v < st a ∧ (abI may st v a = -9 ∨ st a < abI may st v a) then st a else abI may st v a) else abI may st v a
theorem bt_lt (N A i : Nat) : bt N A i < 2 := Nat.mod_lt _ (by decide)
theorem nsum_le {f : Nat → Nat} {b : Nat} (h : ∀ j, f j ≤ b) : ∀ n, nsum f n ≤ b * n
  | 0 => Nat.le_refl 0
  | n + 1 => by
    have h1 := nsum_le h n
    have h2 := h n
    show nsum f n + f n ≤ b * (n + 1)
    rw [Nat.mul_succ]
    omega
theorem dv2 {n : Nat} (h : n < 2 ^ 31) : nI n / 2 = nI (n / 2) := pk_div (d := 2) h (by decide) (by decide)
theorem ml2 (n : Nat) : nI n * 2 = nI (n * 2) := pk_mul n 2
theorem nI_is1 {n : Nat} (h : n < 2 ^ 31) : (nI n = 1) = (n = 1) := propext (nI_eq (b := 1) h (by decide))
theorem nI_is0 {n : Nat} (h : n < 2 ^ 31) : (nI n = 0) = (n = 0) := propext (nI_eq (b := 0) h (by decide))
def fdR (i : Int32) (q : Option Nat × Nat) : Int32 := match q.1 with
  | some b => nI b
  | none => if i < 0 then nI q.2 else -9
theorem trq_le (R C : Nat) (wa ki : Nat → Int32) (f j : Nat) : trq R C wa ki f j ≤ 2 := by
  unfold trq
  split
  · split <;> split <;> decide
  · decide
