/-! what holds between calls -/
def hy (G : mc_H) (nx sz : Nat) (kq : Nat → Option Nat) (hT hO hL : Nat → Nat) (hK hW : Nat → Nat → Int32) : Prop :=
  G[10]? = some (.inr (.inr (1, [.ref 11, .int (nI nx), .int (nI sz)]))) ∧ G[11]? = some (.inr (.inl (2, 20, kq))) ∧ (∀ i, i < 20 → kq i = some (12 + 3 * i)) ∧
  (∀ i, i < 20 → G[12 + 3 * i]? = some (.inr (.inr (5, [.int (nI (hT i)), .int (nI (hO i)), .int (nI (hL i)), .ref (13 + 3 * i), .ref (14 + 3 * i)]))) ∧ G[13 + 3 * i]? = some (.inl (0, 12, hK i)) ∧ G[14 + 3 * i]? = some (.inl (0, 17, hW i))) ∧ nx < 20 ∧ sz ≤ 20
def sp (G : mc_H) (sq : Nat → Option Nat) (sv rv : Nat → Int32) (le nu : Nat → Nat → Int32) : Prop :=
  G[77]? = some (.inr (.inl (3, 4, sq))) ∧ (∀ i, i < 4 → sq i = some (78 + 3 * i)) ∧
  (∀ i, i < 4 → G[78 + 3 * i]? = some (.inr (.inr (6, [.int (sv i), .int (rv i), .ref (79 + 3 * i), .ref (80 + 3 * i)]))) ∧ G[79 + 3 * i]? = some (.inl (0, 4, le i)) ∧ G[80 + 3 * i]? = some (.inl (0, 48, nu i)))
def tp (G : mc_H) (tr : Int64) (su : Int32) : Prop := G[0]? = some (.inr (.inr (7, [.ref 1, .ref 10, .ref 72, .ref 74, .ref 77, .long tr, .int su])))
def pr (G : mc_H) (di ch : Nat → Int32) : Prop := G[74]? = some (.inr (.inr (3, [.ref 75, .ref 76]))) ∧ G[75]? = some (.inl (0, 49, di)) ∧ G[76]? = some (.inl (0, 128, ch))
/-- plate and reference: the same needles and wants -/
def rel1 (R C TB OB LB : Nat) (ks ws tu tl ki go wa : Nat → Int32) : Prop :=
  (∀ i, i < nN R C → tu i = gB (nN R C) TB i ∧ tl i = gB (nN R C) OB i ∧ go i = gB (nN R C) LB i ∧ ki i = ks i) ∧ ∀ j, j < nJ R C → wa j = ws j
/-- the landscape, where it isn't stale -/
def rel2 (R C OB LB : Nat) (ks ws : Nat → Int32) (stale lw : Int32) (SZ HD HP : Nat) (sts : Nat → Int32) : Prop :=
  (stale = 1 ∨ (stale = 0 ∧ SZ = 2 ^ nN R C ∧ HD = hH R C LB ks ∧ HP = OB &&& HD ∧ (∀ a, a < 2 ^ nN R C → sts a = stA R C ws ks a) ∧ lw = (if nxI (mbB HD HP) sts (-1) SZ = 10000000 then -9 else nxI (mbB HD HP) sts (-1) SZ))) ∧ SZ ≤ 4096 ∧ HP < 4096
/-- the settings that are kept -/
def rel3 (R C nx sz U : Nat) (hT hO hL : Nat → Nat) (hK hW : Nat → Nat → Int32) (ol : Nat → Int32) : Prop :=
  U = sz ∧ (∀ p, p < 20 → (∀ i, i < 12 → ∃ m, m < 5 ∧ hK p i = nI m) ∧ (∀ j, j < 17 → -1000 ≤ hW p j ∧ hW p j ≤ 1000)) ∧
  ∀ k, k < sz → hT ((nx + 20 - sz + k) % 20) < 2 ^ nN R C ∧ hO ((nx + 20 - sz + k) % 20) < 2 ^ nN R C ∧ hL ((nx + 20 - sz + k) % 20) < 2 ^ nN R C ∧ (∀ i, i < nN R C → bt (nN R C) (hL ((nx + 20 - sz + k) % 20)) i = 1 → hK ((nx + 20 - sz + k) % 20) i = 4) ∧
    (∀ i, i < nN R C → ol (72 * k + 4 * i) = gB (nN R C) (hT ((nx + 20 - sz + k) % 20)) i ∧ ol (72 * k + 4 * i + 1) = gB (nN R C) (hO ((nx + 20 - sz + k) % 20)) i ∧ ol (72 * k + 4 * i + 2) = hK ((nx + 20 - sz + k) % 20) i ∧ ol (72 * k + 4 * i + 3) = gB (nN R C) (hL ((nx + 20 - sz + k) % 20)) i) ∧
    ∀ j, j < nJ R C → ol (72 * k + 48 + j) = hW ((nx + 20 - sz + k) % 20) j
/-- the strips -/
def rel4 (sv rv : Nat → Int32) (le nu : Nat → Nat → Int32) (hs so sr rs ce : Nat → Int32) : Prop := ∀ i, i < 4 →
  (rv i = -1 ∧ hs i = 0) ∨ (hs i = 1 ∧ ∃ n, n ≤ 4 ∧ rv i = nI n ∧ sr i = nI n ∧ (∃ m, m < 3 ∧ sv i = nI m ∧ so i = nI m) ∧ ∀ r, r < n → (le i r = -1 ∧ rs (4 * i + r) = -9) ∨ ∃ q, q ≤ 12 ∧ le i r = nI q ∧ rs (4 * i + r) = nI q ∧ ∀ k, k < q → nu i (12 * r + k) = ce (48 * i + 12 * r + k))
def Inv (G : mc_H) : Prop := ∃ (R C rim : Nat) (fi se lo hi : Nat → Int32) (TB OB LB : Nat) (ks ws : Nat → Int32) (stale lw : Int32) (SZ HD HP : Nat) (sts : Nat → Int32) (nx sz : Nat) (kq : Nat → Option Nat) (hT hO hL : Nat → Nat) (hK hW : Nat → Nat → Int32) (sq : Nat → Option Nat) (sv rv : Nat → Int32) (le nu : Nat → Nat → Int32) (di ch : Nat → Int32) (tr : Int64) (su : Int32) (U : Nat) (tu tl ki go wa ol hs so sr rs ce cp fa pa : Nat → Int32),
  pl G R C rim fi se lo hi TB OB LB ks ws ∧ pv R C rim fi se lo hi TB OB LB ks ws ∧ ld G stale SZ HD HP lw sts ∧ hy G nx sz kq hT hO hL hK hW ∧ sp G sq sv rv le nu ∧ tp G tr su ∧ pr G di ch ∧ rm G su tr R C U tu tl ki go wa ol hs so sr rs ce cp fa pa ∧ rel1 R C TB OB LB ks ws tu tl ki go wa ∧ rel2 R C OB LB ks ws stale lw SZ HD HP sts ∧ rel3 R C nx sz U hT hO hL hK hW ol ∧ rel4 sv rv le nu hs so sr rs ce
theorem inv_elim {G : mc_H} {P : Prop} (hG : Inv G) (kk : ∀ (R C rim : Nat) (fi se lo hi : Nat → Int32) (TB OB LB : Nat) (ks ws : Nat → Int32) (stale lw : Int32) (SZ HD HP : Nat) (sts : Nat → Int32) (nx sz : Nat) (kq : Nat → Option Nat) (hT hO hL : Nat → Nat) (hK hW : Nat → Nat → Int32) (sq : Nat → Option Nat) (sv rv : Nat → Int32) (le nu : Nat → Nat → Int32) (di ch : Nat → Int32) (tr : Int64) (su : Int32) (U : Nat) (tu tl ki go wa ol hs so sr rs ce cp fa pa : Nat → Int32), pl G R C rim fi se lo hi TB OB LB ks ws → pv R C rim fi se lo hi TB OB LB ks ws → ld G stale SZ HD HP lw sts → hy G nx sz kq hT hO hL hK hW → sp G sq sv rv le nu → tp G tr su → pr G di ch → rm G su tr R C U tu tl ki go wa ol hs so sr rs ce cp fa pa → rel1 R C TB OB LB ks ws tu tl ki go wa → rel2 R C OB LB ks ws stale lw SZ HD HP sts → rel3 R C nx sz U hT hO hL hK hW ol → rel4 sv rv le nu hs so sr rs ce → P) : P := by
  obtain ⟨R, C, rim, fi, se, lo, hi, TB, OB, LB, ks, ws, stale, lw, SZ, HD, HP, sts, nx, sz, kq, hT, hO, hL, hK, hW, sq, sv, rv, le, nu, di, ch, tr, su, U, tu, tl, ki, go, wa, ol, hs, so, sr, rs, ce, cp, fa, pa, hpl, hpv, hld, hhs, hsp, htp, hpr, hrm, hr1, hr2, hr3, hr4⟩ := hG
  exact kk _ _ _ _ _ _ _ _ _ _ _ _ _ _ _ _ _ _ _ _ _ _ _ _ _ _ _ _ _ _ _ _ _ _ _ _ _ _ _ _ _ _ _ _ _ _ _ _ _ _ hpl hpv hld hhs hsp htp hpr hrm hr1 hr2 hr3 hr4
theorem inv_7 (G : mc_H) (h : Inv G) : mc_cls G 0 = some 7 := by
  refine inv_elim h ?_
  intro R C rim fi se lo hi TB OB LB ks ws stale lw SZ HD HP sts nx sz kq hT hO hL hK hW sq sv rv le nu di ch tr su U tu tl ki go wa ol hs so sr rs ce cp fa pa hpl hpv hld hhs hsp htp hpr hrm hr1 hr2 hr3 hr4
  exact cl_n htp
section AG
variable {G G' : mc_H}
theorem pl_ag {R C rim TB OB LB : Nat} {fi se lo hi ks ws : Nat → Int32} (h : pl G R C rim fi se lo hi TB OB LB ks ws) (ha : ∀ k, 1 ≤ k → k ≤ 9 → G'[k]? = G[k]?) : pl G' R C rim fi se lo hi TB OB LB ks ws := by
  obtain ⟨h1, h2, h3, h4, h5, h6, h7, h8, h9⟩ := h
  exact ⟨(ha 1 (by decide) (by decide)).trans h1, (ha 2 (by decide) (by decide)).trans h2, (ha 3 (by decide) (by decide)).trans h3, (ha 4 (by decide) (by decide)).trans h4, (ha 5 (by decide) (by decide)).trans h5, (ha 6 (by decide) (by decide)).trans h6, (ha 7 (by decide) (by decide)).trans h7, (ha 8 (by decide) (by decide)).trans h8, (ha 9 (by decide) (by decide)).trans h9⟩
theorem ld_ag {stale lw : Int32} {SZ HD HP : Nat} {sts : Nat → Int32} (h : ld G stale SZ HD HP lw sts) (ha : ∀ k, 72 ≤ k → k ≤ 73 → G'[k]? = G[k]?) : ld G' stale SZ HD HP lw sts := ⟨(ha 72 (by decide) (by decide)).trans h.1, (ha 73 (by decide) (by decide)).trans h.2⟩
theorem hy_ag {nx sz : Nat} {kq : Nat → Option Nat} {hT hO hL : Nat → Nat} {hK hW : Nat → Nat → Int32} (h : hy G nx sz kq hT hO hL hK hW) (ha : ∀ k, 10 ≤ k → k ≤ 71 → G'[k]? = G[k]?) : hy G' nx sz kq hT hO hL hK hW := by
  obtain ⟨h1, h2, h3, h4, h5⟩ := h
  refine ⟨(ha 10 (by decide) (by decide)).trans h1, (ha 11 (by decide) (by decide)).trans h2, h3, fun i hi => ?_, h5⟩
  obtain ⟨a, b, c⟩ := h4 i hi
  exact ⟨(ha _ (by omega) (by omega)).trans a, (ha _ (by omega) (by omega)).trans b, (ha _ (by omega) (by omega)).trans c⟩
theorem sp_ag {sq : Nat → Option Nat} {sv rv : Nat → Int32} {le nu : Nat → Nat → Int32} (h : sp G sq sv rv le nu) (ha : ∀ k, 77 ≤ k → k ≤ 89 → G'[k]? = G[k]?) : sp G' sq sv rv le nu := by
  obtain ⟨h1, h2, h3⟩ := h
  refine ⟨(ha 77 (by decide) (by decide)).trans h1, h2, fun i hi => ?_⟩
  obtain ⟨a, b, c⟩ := h3 i hi
  exact ⟨(ha _ (by omega) (by omega)).trans a, (ha _ (by omega) (by omega)).trans b, (ha _ (by omega) (by omega)).trans c⟩
theorem tp_ag {tr : Int64} {su : Int32} (h : tp G tr su) (ha : G'[0]? = G[0]?) : tp G' tr su := ha.trans h
theorem pr_ag {di ch : Nat → Int32} (h : pr G di ch) (ha : ∀ k, 74 ≤ k → k ≤ 76 → G'[k]? = G[k]?) : pr G' di ch := ⟨(ha 74 (by decide) (by decide)).trans h.1, (ha 75 (by decide) (by decide)).trans h.2.1, (ha 76 (by decide) (by decide)).trans h.2.2⟩
theorem rm_ag {su : Int32} {tr : Int64} {R C U : Nat} {tu tl ki go wa ol hs so sr rs ce cp fa pa : Nat → Int32} (h : rm G su tr R C U tu tl ki go wa ol hs so sr rs ce cp fa pa) (ha : ∀ k, 90 ≤ k → k ≤ 104 → G'[k]? = G[k]?) : rm G' su tr R C U tu tl ki go wa ol hs so sr rs ce cp fa pa := by
  obtain ⟨h1, h2, h3, h4, h5, h6, h7, h8, h9, h10, h11, h12, h13, h14, h15⟩ := h
  exact ⟨(ha 90 (by decide) (by decide)).trans h1, (ha 91 (by decide) (by decide)).trans h2, (ha 92 (by decide) (by decide)).trans h3, (ha 93 (by decide) (by decide)).trans h4, (ha 94 (by decide) (by decide)).trans h5, (ha 95 (by decide) (by decide)).trans h6, (ha 96 (by decide) (by decide)).trans h7, (ha 97 (by decide) (by decide)).trans h8, (ha 98 (by decide) (by decide)).trans h9, (ha 99 (by decide) (by decide)).trans h10, (ha 100 (by decide) (by decide)).trans h11, (ha 101 (by decide) (by decide)).trans h12, (ha 102 (by decide) (by decide)).trans h13, (ha 103 (by decide) (by decide)).trans h14, (ha 104 (by decide) (by decide)).trans h15⟩
end AG
/-- strains, held ones and so on depend on what is there alone -/
theorem ct_cg {R C : Nat} {wa ki ws ks : Nat → Int32} (hs : sh R C) (hk : ∀ i, i < nN R C → ki i = ks i) (hw : ∀ j, j < nJ R C → wa j = ws j) {j : Nat} (hj : j < nJ R C) : ct R C wa ki j = ct R C ws ks j := by
  have hf := fs_b hs hj
  unfold ct
  rw [hw j hj, hk _ (by omega), hk _ hf.2.1]
theorem sum_cg {f g : Nat → Int32} : ∀ n, (∀ j, j < n → f j = g j) → bx_sum f n = bx_sum g n
  | 0, _ => rfl
  | n + 1, h => by
    show bx_sum f n + f n = bx_sum g n + g n
    rw [sum_cg n (fun j hj => h j (by omega)), h n (by omega)]
theorem stA_cg {R C : Nat} {wa ki ws ks : Nat → Int32} (hs : sh R C) (hk : ∀ i, i < nN R C → ki i = ks i) (hw : ∀ j, j < nJ R C → wa j = ws j) (A : Nat) : stA R C wa ki A = stA R C ws ks A := by
  unfold stA
  apply sum_cg
  intro j hj
  rw [ct_cg hs hk hw hj]
theorem hb_cg {ki go ks gs : Nat → Int32} {i : Nat} (h1 : ki i = ks i) (h2 : go i = gs i) : hb ki go i = hb ks gs i := by
  unfold hb; rw [h1, h2]
section RS
variable {R C TB OB LB rim : Nat} {ks ws tu tl ki go wa fi se lo hi : Nat → Int32}
/-- the reference's arrangement now is the class's -/
theorem now_eq (hp : pv R C rim fi se lo hi TB OB LB ks ws) (h1 : rel1 R C TB OB LB ks ws tu tl ki go wa) : nwI (fun i => if hb ki go i then tl i else tu i) (nN R C) = nI (pN1 R C TB OB LB ks) := by
  let b : Nat → Nat := fun i => if bt (nN R C) (hH R C LB ks) i = 1 then bt (nN R C) OB i else bt (nN R C) TB i
  have hb2 : ∀ i, b i < 2 := by
    intro i
    show (if bt (nN R C) (hH R C LB ks) i = 1 then bt (nN R C) OB i else bt (nN R C) TB i) < 2
    split <;> exact bt_lt _ _ _
  rw [nwI_N (b := b) (N := nN R C) (by
    intro i hi
    obtain ⟨e1, e2, e3, e4⟩ := h1.1 i hi
    show (if hb ki go i then tl i else tu i) = nI (if bt (nN R C) (hH R C LB ks) i = 1 then bt (nN R C) OB i else bt (nN R C) TB i)
    rw [hb_cg e4 e3, hH_bt hp.1 hi, e1, e2]
    cases hb ks (gB (nN R C) LB) i <;> simp [gB]) _ (Nat.le_refl _)]
  rw [now_mx (sh_b hp.1).2.1 hp.2.1 hp.2.2.1 hb2 (H := hH R C LB ks) (fun i _ => rfl)]
  rfl
end RS
